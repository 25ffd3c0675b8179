/-! THE SECOND CHECKER: ints and longs are sums of symbols, each symbol has an interval; objects are known; loops by templates and measures; calls by contracts, or gone into -/
abbrev ag_f : Type := List (Nat × Int) × Int
abbrev ag_v : Type := ag_f ⊕ (ag_f ⊕ Nat)
abbrev ag_e : Type := List (Int × Int)
abbrev ag_l : Type := List (Nat × ag_v)
/-- what is known of the heap: ints, longs, references; sums that are not below 0; facts (which, at which number) -/
abbrev ag_H : Type := List (Nat × Nat × ag_f) × List (Nat × Nat × ag_f) × List (Nat × Nat × Nat) × List ag_f × List (Nat × ag_f)
/-- sums -/
def ag_ts (ρ : Nat → Int) : List (Nat × Int) → Int
  | [] => 0
  | q :: r => q.2 * ρ q.1 + ag_ts ρ r
def ag_ev (ρ : Nat → Int) (f : ag_f) : Int := ag_ts ρ f.1 + f.2
def ag_ins (i : Nat) (c : Int) : List (Nat × Int) → List (Nat × Int)
  | [] => [(i, c)]
  | q :: r => bif Nat.beq q.1 i then (bif decide (q.2 + c = 0) then r else (i, q.2 + c) :: r) else bif Nat.blt i q.1 then (i, c) :: q :: r else q :: ag_ins i c r
def ag_addt : List (Nat × Int) → List (Nat × Int) → List (Nat × Int)
  | [], g => g
  | q :: r, g => ag_ins q.1 q.2 (ag_addt r g)
def ag_add (f g : ag_f) : ag_f := (ag_addt f.1 g.1, f.2 + g.2)
def ag_scl (c : Int) (f : ag_f) : ag_f := bif decide (c = 0) then ([], 0) else (f.1.map (fun q => (q.1, c * q.2)), c * f.2)
def ag_sub (f g : ag_f) : ag_f := ag_add f (ag_scl (-1) g)
def ag_k (c : Int) : ag_f := ([], c)
def ag_y (i : Nat) : ag_f := ([(i, 1)], 0)
/-- the interval of a sum -/
def ag_ivt (env : ag_e) : List (Nat × Int) → Option (Int × Int)
  | [] => some (0, 0)
  | q :: r => match env[q.1]? with
    | some w => (match ag_ivt env r with
      | some z => some (bif decide (0 ≤ q.2) then (q.2 * w.1 + z.1, q.2 * w.2 + z.2) else (q.2 * w.2 + z.1, q.2 * w.1 + z.2))
      | none => none)
    | none => none
def ag_iv (env : ag_e) (f : ag_f) : Option (Int × Int) := match ag_ivt env f.1 with
  | some z => some (z.1 + f.2, z.2 + f.2)
  | none => none
/-- symbols cut by g ≥ 0; a way that can't be is gone through -/
def ag_rf1 (hg : Int) (env : ag_e) (q : Nat × Int) : ag_e := match env[q.1]? with
  | some w => bif decide (q.2 = 1) then env.set q.1 (max w.1 (w.2 - hg), w.2) else bif decide (q.2 = -1) then env.set q.1 (w.1, min w.2 (w.1 + hg)) else env
  | none => env
def ag_ge (env : ag_e) (g : ag_f) (k : ag_e → Bool) : Bool := match ag_iv env g with
  | some w => bif decide (w.2 < 0) then true else bif decide (0 ≤ w.1) then k env else k (g.1.foldl (ag_rf1 w.2) env)
  | none => false
def ag_eq (env : ag_e) (g : ag_f) (k : ag_e → Bool) : Bool := ag_ge env g (fun e => ag_ge e (ag_scl (-1) g) k)
def ag_ne (env : ag_e) (g : ag_f) (k : ag_e → Bool) : Bool := match ag_iv env g with
  | some w => bif decide (w.1 = 0) then ag_ge env (ag_sub g (ag_k 1)) k else bif decide (w.2 = 0) then ag_ge env (ag_sub (ag_scl (-1) g) (ag_k 1)) k else k env
  | none => false
def ag_cmp (env : ag_e) (q : Jvm.ClassFile.Cond) (x y : ag_f) (k : ag_e → Bool → Bool) : Bool := match q with
  | .lt => ag_ge env (ag_sub (ag_sub y x) (ag_k 1)) (fun e => k e true) && ag_ge env (ag_sub x y) (fun e => k e false)
  | .ge => ag_ge env (ag_sub x y) (fun e => k e true) && ag_ge env (ag_sub (ag_sub y x) (ag_k 1)) (fun e => k e false)
  | .gt => ag_ge env (ag_sub (ag_sub x y) (ag_k 1)) (fun e => k e true) && ag_ge env (ag_sub y x) (fun e => k e false)
  | .le => ag_ge env (ag_sub y x) (fun e => k e true) && ag_ge env (ag_sub (ag_sub x y) (ag_k 1)) (fun e => k e false)
  | .eq => ag_eq env (ag_sub x y) (fun e => k e true) && ag_ne env (ag_sub x y) (fun e => k e false)
  | .ne => ag_ne env (ag_sub x y) (fun e => k e true) && ag_eq env (ag_sub x y) (fun e => k e false)
/-- a new symbol -/
def ag_nw (env : ag_e) (lo hi : Int) (k : ag_e → ag_f → Bool) : Bool := bif decide (lo = hi) then k env (ag_k lo) else k (env ++ [(lo, hi)]) (ag_y env.length)
def ag_nI (env : ag_e) (k : ag_e → ag_f → Bool) : Bool := k (env ++ [(-2147483648, 2147483647)]) (ag_y env.length)
def ag_nL (env : ag_e) (k : ag_e → ag_f → Bool) : Bool := k (env ++ [(-9223372036854775808, 9223372036854775807)]) (ag_y env.length)
/-- a sum that is its int, its long -/
def ag_mI (env : ag_e) (f : ag_f) (k : ag_e → ag_f → Int → Int → Bool) : Bool := match ag_iv env f with
  | some w => bif decide (-2147483648 ≤ w.1) && decide (w.2 ≤ 2147483647) then k env f w.1 w.2 else ag_nI env (fun env f => k env f (-2147483648) 2147483647)
  | none => false
def ag_mL (env : ag_e) (f : ag_f) (k : ag_e → ag_f → Int → Int → Bool) : Bool := match ag_iv env f with
  | some w => bif decide (-9223372036854775808 ≤ w.1) && decide (w.2 ≤ 9223372036854775807) then k env f w.1 w.2 else ag_nL env (fun env f => k env f (-9223372036854775808) 9223372036854775807)
  | none => false
def ag_oI (env : ag_e) (w : Option (Int × Int)) (k : ag_e → ag_f → Bool) : Bool := match w with
  | some w => ag_nw env w.1 w.2 k
  | none => ag_nI env k
def ag_oL (env : ag_e) (w : Option (Int × Int)) (k : ag_e → ag_f → Bool) : Bool := match w with
  | some w => ag_nw env w.1 w.2 k
  | none => ag_nL env k
def ag_cat : ag_v → Nat
  | .inr (.inl _) => 2
  | _ => 1
def ag_lv : ag_l → Nat → Option ag_v
  | [], _ => none
  | q :: r, i => bif Nat.beq q.1 i then some q.2 else ag_lv r i
def ag_s1 (lv : ag_l) (i : Nat) (v : ag_v) : ag_l := (i, v) :: lv.filter (fun q => !(Nat.beq q.1 i) && !(Nat.beq (q.1 + 1) i && Nat.beq (ag_cat q.2) 2))
def ag_s2 (lv : ag_l) (i : Nat) (v : ag_v) : ag_l := (i, v) :: lv.filter (fun q => !(Nat.beq q.1 i) && (!(Nat.beq q.1 (i + 1)) && !(Nat.beq (q.1 + 1) i && Nat.beq (ag_cat q.2) 2)))
def ag_pI (st : List ag_v) (k : ag_f → List ag_v → Bool) : Bool := match st with
  | .inl f :: r => k f r
  | _ => false
def ag_pL (st : List ag_v) (k : ag_f → List ag_v → Bool) : Bool := match st with
  | .inr (.inl f) :: r => k f r
  | _ => false
def ag_pR (st : List ag_v) (k : Nat → List ag_v → Bool) : Bool := match st with
  | .inr (.inr o) :: r => k o r
  | _ => false
def ag_pV (st : List ag_v) (k : ag_v → List ag_v → Bool) : Bool := match st with
  | a :: r => k a r
  | [] => false
def ag_li (lv : ag_l) (i : Nat) (k : ag_f → Bool) : Bool := match ag_lv lv i with
  | some (.inl f) => k f
  | _ => false
def ag_ll (lv : ag_l) (i : Nat) (k : ag_f → Bool) : Bool := match ag_lv lv i with
  | some (.inr (.inl f)) => k f
  | _ => false
def ag_la (lv : ag_l) (i : Nat) (k : Nat → Bool) : Bool := match ag_lv lv i with
  | some (.inr (.inr o)) => k o
  | _ => false
def ag_pop : Nat → List ag_v → List ag_v → Option (List ag_v × List ag_v)
  | 0, acc, st => some (acc, st)
  | n + 1, acc, v :: st => ag_pop n (v :: acc) st
  | _ + 1, _, [] => none
/-- what every int keeps: places (from, to, step, rest) and the interval -/
abbrev ag_S : Type := Nat × Nat × Nat × Nat × Int × Int
/-- the rest of a place by a step, where it is known -/
def ag_rs (st : Nat) (f : ag_f) (lo hi : Int) : Option Nat := bif Nat.beq st 1 then some 0 else bif decide (lo = hi) then some (lo.toNat % st) else bif f.1.all (fun q => decide (q.2 % (st : Int) = 0)) then some (f.2 % (st : Int)).toNat else none
def ag_hit (j : ag_f) (lo hi : Int) (s : ag_S) : Bool := decide ((s.1 : Int) ≤ lo) && (decide (hi ≤ (s.2.1 : Int)) && (match ag_rs s.2.2.1 j lo hi with
  | some r => Nat.beq r s.2.2.2.1
  | none => false))
def ag_Dr (sg : List ag_S) (j : ag_f) (lo hi : Int) : Int × Int := match sg.find? (ag_hit j lo hi) with
  | some s => (s.2.2.2.2.1, s.2.2.2.2.2)
  | none => (-2147483648, 2147483647)
def ag_wok (sg : List ag_S) (j : ag_f) (lo hi a b : Int) : Bool := sg.all fun s => (decide (hi < (s.1 : Int)) || decide ((s.2.1 : Int) < lo)) || ((match ag_rs s.2.2.1 j lo hi with
  | some r => !(Nat.beq r s.2.2.2.1)
  | none => false) || (decide (s.2.2.2.2.1 ≤ a) && decide (b ≤ s.2.2.2.2.2)))
/-- places that may be written -/
abbrev ag_M : Type := List (Nat × Nat × Nat)
def ag_inM (M : ag_M) (o : Nat) (lo hi : Int) : Bool := M.any (fun q => Nat.beq q.1 o && (decide ((q.2.1 : Int) ≤ lo) && decide (hi ≤ (q.2.2 : Int))))
def ag_atM (M : ag_M) (o k : Nat) : Bool := M.any (fun q => Nat.beq q.1 o && (Nat.ble q.2.1 k && Nat.ble k q.2.2))
def ag_lk {α : Type} : List (Nat × Nat × α) → Nat → Nat → Option α
  | [], _, _ => none
  | q :: r, o, k => bif Nat.beq q.2.1 k && Nat.beq q.1 o then some q.2.2 else ag_lk r o k
def ag_out {α : Type} (l : List (Nat × Nat × α)) (o : Nat) (lo hi : Int) : List (Nat × Nat × α) := l.filter (fun q => !(Nat.beq q.1 o && (decide (lo ≤ (q.2.1 : Int)) && decide ((q.2.1 : Int) ≤ hi))))
/-- the tables: what the ints keep, what a long keeps, the references that stay, the objects -/
abbrev ag_D : Type := (Nat → List ag_S) × (Nat → Nat → Int × Int) × List (Nat × Nat × Nat) × List (Nat × Nat)
def ag_so (T : ag_D) (o : Nat) : Option (Nat × Nat) := T.2.2.2[o]?
def ag_ob (e : Option (Nat × Nat)) (b : Nat) : Bool := match e with
  | some (t, n) => Nat.beq t b && Nat.beq n 0
  | none => false
def ag_ar (e : Option (Nat × Nat)) (b : Nat) (lo hi : Int) : Bool := match e with
  | some (t, n) => Nat.beq t b && (decide (0 ≤ lo) && decide (hi < (n : Int)))
  | none => false
def ag_rr (T : ag_D) (R : List (Nat × Nat × Nat)) (o k : Nat) : Option Nat := match ag_lk R o k with
  | some r => some r
  | none => ag_lk T.2.2.1 o k
def ag_rd (T : ag_D) (env : ag_e) (H : ag_H) (o k : Nat) (K : ag_e → ag_H → ag_f → Bool) : Bool := match ag_lk H.1 o k with
  | some f => K env H f
  | none => (match ag_Dr (T.1 o) (ag_k k) k k with
    | (lo, hi) => ag_nw env lo hi (fun env f => K env ((o, k, f) :: H.1, H.2) f))
def ag_rL (T : ag_D) (env : ag_e) (H : ag_H) (o k : Nat) (K : ag_e → ag_H → ag_f → Bool) : Bool := match ag_lk H.2.1 o k with
  | some f => K env H f
  | none => (match T.2.1 o k with
    | (lo, hi) => ag_nw env lo hi (fun env f => K env (H.1, (o, k, f) :: H.2.1, H.2.2) f))
def ag_nn (env : ag_e) (C : List ag_f) (g : ag_f) : Bool := (match ag_iv env g with
  | some w => decide (0 ≤ w.1)
  | none => false) || C.any (fun c => match ag_iv env (ag_sub g c) with
    | some w => decide (0 ≤ w.1)
    | none => false)
/-- an array's int: at a known place, at others; object 156 (the kinds of the tokens) has a 0 at place N, symbol 0 -/
def ag_rA (T : ag_D) (env : ag_e) (H : ag_H) (o : Nat) (j : ag_f) (lo hi : Int) (K : ag_e → ag_H → ag_f → Bool) : Bool := bif decide (lo = hi) then ag_rd T env H o lo.toNat K else (match ag_Dr (T.1 o) j lo hi with
  | (a, b) => ag_nw env a b (fun env f => K env H f))
def ag_rS (T : ag_D) (env : ag_e) (H : ag_H) (o : Nat) (j : ag_f) (lo hi : Int) (K : ag_e → ag_H → ag_f → Bool) : Bool := bif Nat.beq o 156 && ag_nn env H.2.2.2.1 (ag_sub (ag_y 0) j) then ag_eq env (ag_sub (ag_y 0) j) (fun env => K env H (ag_k 0)) && ag_ge env (ag_sub (ag_sub (ag_y 0) j) (ag_k 1)) (fun env => ag_rA T env (H.1, H.2.1, H.2.2.1, ag_sub (ag_sub (ag_y 0) j) (ag_k 1) :: H.2.2.2.1, H.2.2.2.2) o j lo hi K) else ag_rA T env H o j lo hi K
/-- what each fact rests on: the codes that are being laid; the same and the place of the law -/
def ag_sup (id : Nat) : ag_M := bif Nat.beq id 0 then [(161, 1100, 2199), (162, 1100, 2199), (154, 13, 13)] else [(161, 1100, 2199), (162, 1100, 2199), (154, 13, 13), (160, 43, 43)]
def ag_gk (o : Nat) (lo hi : Int) (G : List (Nat × ag_f)) : List (Nat × ag_f) := G.filter (fun q => (ag_sup q.1).all (fun s => !(Nat.beq s.1 o && (decide (lo ≤ (s.2.2 : Int)) && decide ((s.2.1 : Int) ≤ hi)))))
def ag_gm (M : ag_M) (G : List (Nat × ag_f)) : List (Nat × ag_f) := G.filter (fun q => (ag_sup q.1).all (fun s => M.all (fun r => !(Nat.beq s.1 r.1 && (Nat.ble r.2.1 s.2.2 && Nat.ble s.2.1 r.2.2)))))
def ag_wI (T : ag_D) (M : ag_M) (H : ag_H) (o : Nat) (j : ag_f) (lo hi : Int) (v : ag_f) (a b : Int) (K : ag_H → Bool) : Bool := ag_inM M o lo hi && (ag_wok (T.1 o) j lo hi a b && K (bif decide (lo = hi) then (o, lo.toNat, v) :: ag_out H.1 o lo hi else ag_out H.1 o lo hi, H.2.1, H.2.2.1, H.2.2.2.1, ag_gk o lo hi H.2.2.2.2))
def ag_wL (T : ag_D) (M : ag_M) (H : ag_H) (o : Nat) (lo hi : Int) (v : ag_f) (a b : Int) (K : ag_H → Bool) : Bool := ag_inM M o lo hi && ((bif decide (lo = hi) then (match T.2.1 o lo.toNat with
  | (x, y) => decide (x ≤ a) && decide (b ≤ y)) else !(Nat.beq o 154)) && K (H.1, (bif decide (lo = hi) then (o, lo.toNat, v) :: ag_out H.2.1 o lo hi else ag_out H.2.1 o lo hi), H.2.2))
def ag_ty (ty : FieldType) (a b : Int) : Bool := match ty with
  | .int => true
  | .boolean => decide (0 ≤ a) && decide (b ≤ 1)
  | .char => decide (0 ≤ a) && decide (b ≤ 65535)
  | .byte => decide (-128 ≤ a) && decide (b ≤ 127)
  | _ => false
def ag_c2 (f : Int32 → Int32 → Int32) (n m : Int) : ag_f := ag_k (f (Int32.ofInt n) (Int32.ofInt m)).toInt
/-- ints by two: known ones; else an interval -/
def ag_b2 (env : ag_e) (st : List ag_v) (g : Int → Int → Int → Int → Option (Int × Int)) (f : Int32 → Int32 → Int32) (K : ag_e → ag_f → List ag_v → Bool) : Bool := ag_pI st fun y r => ag_pI r fun x r => ag_mI env y fun env _ c d => ag_mI env x fun env _ a b => bif decide (a = b) && decide (c = d) then K env (ag_c2 f a c) r else ag_oI env (g a b c d) (fun env z => K env z r)
def ag_andG (a b c d : Int) : Option (Int × Int) := bif decide (0 ≤ c) && decide (c = d) then some (0, c) else bif decide (0 ≤ a) && decide (a = b) then some (0, a) else none
def ag_shlG (a b c d : Int) : Option (Int × Int) := bif decide (a = 1) && (decide (b = 1) && (decide (0 ≤ c) && decide (d ≤ 30))) then some (1, 2 ^ d.toNat) else none
def ag_noG (_ _ _ _ : Int) : Option (Int × Int) := none
def ag_divG (a b c d : Int) : Option (Int × Int) := bif decide (0 ≤ a) && (decide (0 < c) && decide (c = d)) then some (a / c, b / c) else none
def ag_remG (a b c d : Int) : Option (Int × Int) := bif decide (0 < c) then (bif decide (a = b ∧ c = d) then some (a.tmod c, a.tmod c) else bif decide (0 ≤ a) then some (0, d - 1) else some (1 - d, d - 1)) else none
def ag_ldivG (a b c d : Int) : Option (Int × Int) := bif decide (0 ≤ a) && (decide (0 < c) && decide (c = d)) then some (a / c, b / c) else none
/-- longs by two -/
def ag_l2 (env : ag_e) (st : List ag_v) (g : Int → Int → Int → Int → Option (Int × Int)) (K : ag_e → ag_f → List ag_v → Bool) : Bool := ag_pL st fun y r => ag_pL r fun x r => ag_mL env y fun env _ c d => ag_mL env x fun env _ a b => decide (0 < c) && ag_oL env (g a b c d) (fun env z => K env z r)
def ag_cst (f : ag_f) : Option Int := match f.1 with
  | [] => some f.2
  | _ => none
def ag_tgt (pc : Nat) (o : Int) : Nat := ((pc : Int) + o).toNat
def ag_step (T : ag_D) (M : ag_M) (i : Instr) : Nat → Nat → Nat → Nat → Nat → ag_e → ag_H → Nat → Option FieldType → Nat → ag_l → List ag_v → (ag_e → Nat → ag_l → List ag_v → ag_H → Bool) → (Nat → List ag_v → List ag_v → Bool) → (ag_e → Option ag_v → Bool) → Bool := match i with
  | .iconst n => fun nx a b c d env H nL rt pc lv st K C Rt => K env nx lv (.inl (ag_k n) :: st) H
  | .bipush n => fun nx a b c d env H nL rt pc lv st K C Rt => K env nx lv (.inl (ag_k (Int8.ofInt n).toInt32.toInt) :: st) H
  | .sipush n => fun nx a b c d env H nL rt pc lv st K C Rt => K env nx lv (.inl (ag_k (Int16.ofInt n).toInt32.toInt) :: st) H
  | .ldc_w _ => fun nx a b c d env H nL rt pc lv st K C Rt => bif Nat.beq b 1 then K env nx lv (.inr (.inr (4000000 + c)) :: st) H else K env nx lv (.inl (ag_k (am_ki c).toInt) :: st) H
  | .ldc _ => fun nx a b c d env H nL rt pc lv st K C Rt => bif Nat.beq b 1 then K env nx lv (.inr (.inr (4000000 + c)) :: st) H else K env nx lv (.inl (ag_k (am_ki c).toInt) :: st) H
  | .getstatic _ => fun nx a b c d env H nL rt pc lv st K C Rt => bif Nat.beq b 1 then K env nx lv (.inr (.inr 6000000) :: st) H else K env nx lv (.inl (ag_k 1) :: st) H
  | .lconst n => fun nx a b c d env H nL rt pc lv st K C Rt => K env nx lv (.inr (.inl (ag_k (Int64.ofNat n).toInt)) :: st) H
  | .ldc2_w _ => fun nx a b c d env H nL rt pc lv st K C Rt => K env nx lv (.inr (.inl (ag_k (am_kl c).toInt)) :: st) H
  | .iload_n k => fun nx a b c d env H nL rt pc lv st K C Rt => ag_li lv k.val fun x => K env nx lv (.inl x :: st) H
  | .iload k => fun nx a b c d env H nL rt pc lv st K C Rt => ag_li lv k fun x => K env nx lv (.inl x :: st) H
  | .lload_n k => fun nx a b c d env H nL rt pc lv st K C Rt => ag_ll lv k.val fun x => K env nx lv (.inr (.inl x) :: st) H
  | .lload k => fun nx a b c d env H nL rt pc lv st K C Rt => ag_ll lv k fun x => K env nx lv (.inr (.inl x) :: st) H
  | .aload_n k => fun nx a b c d env H nL rt pc lv st K C Rt => ag_la lv k.val fun x => K env nx lv (.inr (.inr x) :: st) H
  | .aload k => fun nx a b c d env H nL rt pc lv st K C Rt => ag_la lv k fun x => K env nx lv (.inr (.inr x) :: st) H
  | .istore_n k => fun nx a b c d env H nL rt pc lv st K C Rt => ag_pI st fun x r => Nat.blt k.val nL && K env nx (ag_s1 lv k.val (.inl x)) r H
  | .istore k => fun nx a b c d env H nL rt pc lv st K C Rt => ag_pI st fun x r => Nat.blt k nL && K env nx (ag_s1 lv k (.inl x)) r H
  | .lstore_n k => fun nx a b c d env H nL rt pc lv st K C Rt => ag_pL st fun x r => Nat.blt (k.val + 1) nL && K env nx (ag_s2 lv k.val (.inr (.inl x))) r H
  | .lstore k => fun nx a b c d env H nL rt pc lv st K C Rt => ag_pL st fun x r => Nat.blt (k + 1) nL && K env nx (ag_s2 lv k (.inr (.inl x))) r H
  | .astore_n k => fun nx a b c d env H nL rt pc lv st K C Rt => ag_pR st fun x r => Nat.blt k.val nL && K env nx (ag_s1 lv k.val (.inr (.inr x))) r H
  | .astore k => fun nx a b c d env H nL rt pc lv st K C Rt => ag_pR st fun x r => Nat.blt k nL && K env nx (ag_s1 lv k (.inr (.inr x))) r H
  | .iinc k n => fun nx a b c d env H nL rt pc lv st K C Rt => ag_li lv k fun x => Nat.blt k nL && K env nx (ag_s1 lv k (.inl (ag_add x (ag_k n)))) st H
  | .iadd => fun nx a b c d env H nL rt pc lv st K C Rt => ag_pI st fun y r => ag_pI r fun x r => K env nx lv (.inl (ag_add x y) :: r) H
  | .isub => fun nx a b c d env H nL rt pc lv st K C Rt => ag_pI st fun y r => ag_pI r fun x r => K env nx lv (.inl (ag_sub x y) :: r) H
  | .imul => fun nx a b c d env H nL rt pc lv st K C Rt => ag_pI st fun y r => ag_pI r fun x r => (match ag_cst x with
    | some z => K env nx lv (.inl (ag_scl z y) :: r) H
    | none => (match ag_cst y with
      | some z => K env nx lv (.inl (ag_scl z x) :: r) H
      | none => ag_nI env (fun env z => K env nx lv (.inl z :: r) H)))
  | .ineg => fun nx a b c d env H nL rt pc lv st K C Rt => ag_pI st fun x r => K env nx lv (.inl (ag_scl (-1) x) :: r) H
  | .iand => fun nx a b c d env H nL rt pc lv st K C Rt => ag_b2 env st ag_andG (· &&& ·) fun env z r => K env nx lv (.inl z :: r) H
  | .ior => fun nx a b c d env H nL rt pc lv st K C Rt => ag_b2 env st ag_noG (· ||| ·) fun env z r => K env nx lv (.inl z :: r) H
  | .ixor => fun nx a b c d env H nL rt pc lv st K C Rt => ag_b2 env st ag_noG (· ^^^ ·) fun env z r => K env nx lv (.inl z :: r) H
  | .ishl => fun nx a b c d env H nL rt pc lv st K C Rt => ag_b2 env st ag_shlG (fun x y => x <<< (y &&& 31)) fun env z r => K env nx lv (.inl z :: r) H
  | .ishr => fun nx a b c d env H nL rt pc lv st K C Rt => ag_b2 env st ag_noG (fun x y => x >>> (y &&& 31)) fun env z r => K env nx lv (.inl z :: r) H
  | .iushr => fun nx a b c d env H nL rt pc lv st K C Rt => ag_b2 env st ag_noG (fun x y => (x.toUInt32 >>> (y.toUInt32 &&& Int32.toUInt32 31)).toInt32) fun env z r => K env nx lv (.inl z :: r) H
  | .idiv => fun nx a b c d env H nL rt pc lv st K C Rt => ag_pI st fun y r => ag_pI r fun x r => ag_mI env y fun env _ u w => ag_mI env x fun env _ s t => decide (0 < u) && ag_oI env (ag_divG s t u w) (fun env z => K env nx lv (.inl z :: r) H)
  | .irem => fun nx a b c d env H nL rt pc lv st K C Rt => ag_pI st fun y r => ag_pI r fun x r => ag_mI env y fun env _ u w => ag_mI env x fun env _ s t => decide (0 < u) && ag_oI env (ag_remG s t u w) (fun env z => K env nx lv (.inl z :: r) H)
  | .ladd => fun nx a b c d env H nL rt pc lv st K C Rt => ag_pL st fun y r => ag_pL r fun x r => K env nx lv (.inr (.inl (ag_add x y)) :: r) H
  | .lsub => fun nx a b c d env H nL rt pc lv st K C Rt => ag_pL st fun y r => ag_pL r fun x r => K env nx lv (.inr (.inl (ag_sub x y)) :: r) H
  | .lmul => fun nx a b c d env H nL rt pc lv st K C Rt => ag_pL st fun y r => ag_pL r fun x r => (match ag_cst x with
    | some z => K env nx lv (.inr (.inl (ag_scl z y)) :: r) H
    | none => (match ag_cst y with
      | some z => K env nx lv (.inr (.inl (ag_scl z x)) :: r) H
      | none => ag_nL env (fun env z => K env nx lv (.inr (.inl z) :: r) H)))
  | .ldiv => fun nx a b c d env H nL rt pc lv st K C Rt => ag_l2 env st ag_ldivG fun env z r => K env nx lv (.inr (.inl z) :: r) H
  | .lrem => fun nx a b c d env H nL rt pc lv st K C Rt => ag_l2 env st ag_remG fun env z r => K env nx lv (.inr (.inl z) :: r) H
  | .land => fun nx a b c d env H nL rt pc lv st K C Rt => ag_pL st fun _ r => ag_pL r fun _ r => ag_nL env (fun env z => K env nx lv (.inr (.inl z) :: r) H)
  | .lor => fun nx a b c d env H nL rt pc lv st K C Rt => ag_pL st fun _ r => ag_pL r fun _ r => ag_nL env (fun env z => K env nx lv (.inr (.inl z) :: r) H)
  | .lshl => fun nx a b c d env H nL rt pc lv st K C Rt => ag_pI st fun _ r => ag_pL r fun _ r => ag_nL env (fun env z => K env nx lv (.inr (.inl z) :: r) H)
  | .lshr => fun nx a b c d env H nL rt pc lv st K C Rt => ag_pI st fun _ r => ag_pL r fun _ r => ag_nL env (fun env z => K env nx lv (.inr (.inl z) :: r) H)
  | .lushr => fun nx a b c d env H nL rt pc lv st K C Rt => ag_pI st fun _ r => ag_pL r fun _ r => ag_nL env (fun env z => K env nx lv (.inr (.inl z) :: r) H)
  | .lcmp => fun nx a b c d env H nL rt pc lv st K C Rt => ag_pL st fun _ r => ag_pL r fun _ r => ag_nw env (-1) 1 (fun env z => K env nx lv (.inl z :: r) H)
  | .i2l => fun nx a b c d env H nL rt pc lv st K C Rt => ag_pI st fun x r => ag_mI env x fun env x _ _ => K env nx lv (.inr (.inl x) :: r) H
  | .l2i => fun nx a b c d env H nL rt pc lv st K C Rt => ag_pL st fun x r => K env nx lv (.inl x :: r) H
  | .i2c => fun nx a b c d env H nL rt pc lv st K C Rt => ag_pI st fun x r => ag_mI env x fun env x s t => bif decide (0 ≤ s) && decide (t ≤ 65535) then K env nx lv (.inl x :: r) H else ag_nw env 0 65535 (fun env z => K env nx lv (.inl z :: r) H)
  | .i2b => fun nx a b c d env H nL rt pc lv st K C Rt => ag_pI st fun x r => ag_mI env x fun env x s t => bif decide (-128 ≤ s) && decide (t ≤ 127) then K env nx lv (.inl x :: r) H else ag_nw env (-128) 127 (fun env z => K env nx lv (.inl z :: r) H)
  | .dup => fun nx a b c d env H nL rt pc lv st K C Rt => ag_pV st fun v r => Nat.beq (ag_cat v) 1 && K env nx lv (v :: v :: r) H
  | .dup2 => fun nx a b c d env H nL rt pc lv st K C Rt => ag_pV st fun v r => ag_pV r fun w r => Nat.beq (ag_cat v) 1 && (Nat.beq (ag_cat w) 1 && K env nx lv (v :: w :: v :: w :: r) H)
  | .pop => fun nx a b c d env H nL rt pc lv st K C Rt => ag_pV st fun v r => Nat.beq (ag_cat v) 1 && K env nx lv r H
  | .goto _ => fun nx a b c d env H nL rt pc lv st K C Rt => K env a lv st H
  | .if_icmp q _ => fun nx a b c d env H nL rt pc lv st K C Rt => ag_pI st fun y r => ag_pI r fun x r => ag_mI env y fun env y _ _ => ag_mI env x fun env x _ _ => ag_cmp env q x y fun env t => K env (bif t then a else nx) lv r H
  | .ifCond q _ => fun nx a b c d env H nL rt pc lv st K C Rt => ag_pI st fun x r => ag_mI env x fun env x _ _ => ag_cmp env q x (ag_k 0) fun env t => K env (bif t then a else nx) lv r H
  | .tableswitch df lo hi os => fun nx a b c d env H nL rt pc lv st K C Rt => ag_pI st fun x r => ag_mI env x fun env x _ _ => ag_ge env (ag_sub (ag_k (lo - 1)) x) (fun env => K env (ag_tgt pc df) lv r H) && (ag_ge env (ag_sub x (ag_k (hi + 1))) (fun env => K env (ag_tgt pc df) lv r H) && (List.range (hi - lo + 1).toNat).all (fun j => ag_eq env (ag_sub x (ag_k (lo + j))) (fun env => K env (ag_tgt pc ((os[j]?).getD 0)) lv r H)))
  | .lookupswitch df ps => fun nx a b c d env H nL rt pc lv st K C Rt => ag_pI st fun x r => ag_mI env x fun env x _ _ => K env (ag_tgt pc df) lv r H && ps.toList.all (fun q => K env (ag_tgt pc q.2) lv r H)
  | .getfield _ => fun nx a b c d env H nL rt pc lv st K C Rt => bif Nat.beq b 20 then ag_pR st fun o r => (Nat.ble 4000000 o && Nat.blt o 4000026) && (bif Nat.beq a 0 then K env nx lv (.inr (.inr (o + 1000000)) :: r) H else K env nx lv (.inl (ag_k 0) :: r) H) else ag_pR st fun o r => ag_ob (ag_so T o) b && (match am_kd b a with
    | 0 => ag_rd T env H o a fun env H f => K env nx lv (.inl f :: r) H
    | 1 => ag_rL T env H o a fun env H f => K env nx lv (.inr (.inl f) :: r) H
    | _ => (match ag_rr T H.2.2.1 o a with
      | some x => K env nx lv (.inr (.inr x) :: r) H
      | none => false))
  | .putfield _ => fun nx a b c d env H nL rt pc lv st K C Rt => (match am_kd b a with
    | 0 => ag_pI st fun x r => ag_pR r fun o r => ag_mI env x fun env x s t => ag_ob (ag_so T o) b && (ag_ty (am_fty b a) s t && ag_wI T M H o (ag_k a) a a x s t fun H => K env nx lv r H)
    | 1 => ag_pL st fun x r => ag_pR r fun o r => ag_mL env x fun env x s t => ag_ob (ag_so T o) b && ag_wL T M H o a a x s t fun H => K env nx lv r H
    | _ => ag_pR st fun x r => ag_pR r fun o r => ag_ob (ag_so T o) b && (ag_inM M o a a && ((ag_lk T.2.2.1 o a).isNone && K env nx lv r (H.1, H.2.1, (o, a, x) :: ag_out H.2.2.1 o a a, H.2.2.2))))
  | .iaload => fun nx a b c d env H nL rt pc lv st K C Rt => ag_pI st fun j r => ag_pR r fun o r => ag_mI env j fun env j s t => ag_ar (ag_so T o) 13 s t && ag_rS T env H o j s t fun env H f => K env nx lv (.inl f :: r) H
  | .caload => fun nx a b c d env H nL rt pc lv st K C Rt => ag_pI st fun j r => ag_pR r fun o r => ag_mI env j fun env j s t => ag_ar (ag_so T o) 12 s t && ag_rA T env H o j s t fun env H f => K env nx lv (.inl f :: r) H
  | .arraylength => fun nx a b c d env H nL rt pc lv st K C Rt => ag_pR st fun o r => (Nat.ble 5000000 o && Nat.blt o 5000026) && K env nx lv (.inl (ag_k (am_sln.getD (o - 5000000) 0)) :: r) H
  | .baload => fun nx a b c d env H nL rt pc lv st K C Rt => ag_pI st fun j r => ag_pR r fun o r => ag_mI env j fun env j s t => bif Nat.ble 5000000 o && Nat.blt o 5000026 then decide (0 ≤ s) && (decide (t < (am_sln.getD (o - 5000000) 0 : Nat)) && (bif decide (s = t) then K env nx lv (.inl (ag_k ((am_sby.getD (o - 5000000) []).getD s.toNat 0).toInt) :: r) H else ag_nw env 0 127 (fun env z => K env nx lv (.inl z :: r) H))) else ag_ar (ag_so T o) 15 s t && ag_rA T env H o j s t fun env H f => K env nx lv (.inl f :: r) H
  | .laload => fun nx a b c d env H nL rt pc lv st K C Rt => ag_pI st fun j r => ag_pR r fun o r => ag_mI env j fun env j s t => ag_ar (ag_so T o) 14 s t && ag_nL env (fun env f => K env nx lv (.inr (.inl f) :: r) H)
  | .aaload => fun nx a b c d env H nL rt pc lv st K C Rt => ag_pI st fun j r => ag_pR r fun o r => ag_mI env j fun env j s t => (ag_ar (ag_so T o) 16 s t || ag_ar (ag_so T o) 17 s t) && (List.range (t - s + 1).toNat).all (fun q => ag_eq env (ag_sub j (ag_k (s + q))) (fun env => match ag_rr T H.2.2.1 o (s + q).toNat with
    | some x => K env nx lv (.inr (.inr x) :: r) H
    | none => false))
  | .iastore => fun nx a b c d env H nL rt pc lv st K C Rt => ag_pI st fun x r => ag_pI r fun j r => ag_pR r fun o r => ag_mI env x fun env x u w => ag_mI env j fun env j s t => ag_ar (ag_so T o) 13 s t && ag_wI T M H o j s t x u w fun H => K env nx lv r H
  | .castore => fun nx a b c d env H nL rt pc lv st K C Rt => ag_pI st fun x r => ag_pI r fun j r => ag_pR r fun o r => ag_mI env x fun env x u w => ag_mI env j fun env j s t => ag_ar (ag_so T o) 12 s t && (ag_ty .char u w && ag_wI T M H o j s t x u w fun H => K env nx lv r H)
  | .bastore => fun nx a b c d env H nL rt pc lv st K C Rt => ag_pI st fun x r => ag_pI r fun j r => ag_pR r fun o r => ag_mI env x fun env x u w => ag_mI env j fun env j s t => ag_ar (ag_so T o) 15 s t && (ag_ty .boolean u w && ag_wI T M H o j s t x u w fun H => K env nx lv r H)
  | .lastore => fun nx a b c d env H nL rt pc lv st K C Rt => ag_pL st fun x r => ag_pI r fun j r => ag_pR r fun o r => ag_mL env x fun env x u w => ag_mI env j fun env j s t => ag_ar (ag_so T o) 14 s t && (!(Nat.beq o 154) && ag_wL T M H o s t x u w fun H => K env nx lv r H)
  | .invokevirtual _ => fun nx a b c d env H nL rt pc lv st K C Rt => (match ag_pop b [] st with
    | some (As, .inr (.inr o) :: r) => (bif Nat.beq d 20 then Nat.ble 4000000 o && Nat.blt o 4000026 else ag_ob (ag_so T o) d) && (Nat.ble ((r.map ag_cat).sum) 8 && (Nat.beq (am_al a) 0 && C a (.inr (.inr o) :: As) r))
    | _ => false)
  | .invokestatic _ => fun nx a b c d env H nL rt pc lv st K C Rt => (match ag_pop b [] st with
    | some (As, r) => Nat.ble ((r.map ag_cat).sum) 8 && (Nat.beq (am_al a) 0 && C a As r)
    | _ => false)
  | .ireturn => fun nx a b c d env H nL rt pc lv st K C Rt => (match st with
    | [.inl x] => ag_mI env x fun env x s t => (match rt with
      | some ty => ag_ty ty s t && Rt env (some (.inl x))
      | none => false)
    | _ => false)
  | .lreturn => fun nx a b c d env H nL rt pc lv st K C Rt => (match st with
    | [.inr (.inl x)] => decide (rt = some .long) && Rt env (some (.inr (.inl x)))
    | _ => false)
  | .return_ => fun nx a b c d env H nL rt pc lv st K C Rt => (match st with
    | [] => (match rt with
      | none => Rt env none
      | _ => false)
    | _ => false)
  | _ => fun nx a b c d env H nL rt pc lv st K C Rt => false
/-- a template: intervals (symbols 0, 1, 2 stay through a method: N, the slack, the depth), where each symbol from 3 on stands (0 a local, 1 an int of the heap, 2 a long of the heap), locals, heap -/
abbrev ag_T : Type := ag_e × List (Nat × Nat × Nat) × ag_l × ag_H
def ag_loc (lv : ag_l) (H : ag_H) (q : Nat × Nat × Nat) : Option ag_f := match q.1 with
  | 0 => (match ag_lv lv q.2.1 with
    | some (.inl f) => some f
    | some (.inr (.inl f)) => some f
    | _ => none)
  | 1 => ag_lk H.1 q.2.1 q.2.2
  | _ => ag_lk H.2.1 q.2.1 q.2.2
def ag_sig (lv : ag_l) (H : ag_H) : List (Nat × Nat × Nat) → Option (List ag_f)
  | [] => some []
  | q :: r => match ag_loc lv H q with
    | some f => (match ag_sig lv H r with
      | some l => some (f :: l)
      | none => none)
    | none => none
/-- a sum over a template's symbols as one over those that are -/
def ag_sbt (σ : List ag_f) : List (Nat × Int) → ag_f
  | [] => ([], 0)
  | q :: r => ag_add (ag_scl q.2 (σ.getD q.1 ([], 0))) (ag_sbt σ r)
def ag_sb (σ : List ag_f) (f : ag_f) : ag_f := ag_add (ag_sbt σ f.1) (ag_k f.2)
def ag_inI (env : ag_e) (f : ag_f) (w : Int × Int) : Bool := match ag_iv env f with
  | some z => decide (w.1 ≤ z.1) && decide (z.2 ≤ w.2)
  | none => false
def ag_vf (σ : List ag_f) (v : Option ag_v) (g : ag_v) : Bool := match v, g with
  | some (.inl f), .inl g => decide (f = ag_sb σ g)
  | some (.inr (.inl f)), .inr (.inl g) => decide (f = ag_sb σ g)
  | some (.inr (.inr o)), .inr (.inr p) => Nat.beq o p
  | _, _ => false
def ag_ff (σ : List ag_f) (v : Option ag_f) (g : ag_f) : Bool := match v with
  | some f => decide (f = ag_sb σ g)
  | none => false
def ag_rok (v : Option Nat) (r : Nat) : Bool := match v with
  | some x => Nat.beq x r
  | none => false
/-- in an interval, also by what is kept -/
def ag_inC (env : ag_e) (C : List ag_f) (f : ag_f) (w : Int × Int) : Bool := ag_inI env f w || (ag_nn env C (ag_sub f (ag_k w.1)) && ag_nn env C (ag_sub (ag_k w.2) f))
/-- the symbols' sums, if the state is one of the template's -/
def ag_fitB (D : ag_D) (env : ag_e) (lv : ag_l) (H : ag_H) (T : ag_T) (σ : List ag_f) : Bool := Nat.beq T.1.length σ.length && ((σ.zip T.1).all (fun q => ag_inC env H.2.2.2.1 q.1 q.2) && (T.2.2.1.all (fun q => ag_vf σ (ag_lv lv q.1) q.2) && (T.2.2.2.1.all (fun q => ag_ff σ (ag_lk H.1 q.1 q.2.1) q.2.2) && (T.2.2.2.2.1.all (fun q => ag_ff σ (ag_lk H.2.1 q.1 q.2.1) q.2.2) && (T.2.2.2.2.2.1.all (fun q => ag_rok (ag_rr D H.2.2.1 q.1 q.2.1) q.2.2) && (T.2.2.2.2.2.2.1.all (fun g => ag_nn env H.2.2.2.1 (ag_sb σ g)) && T.2.2.2.2.2.2.2.all (fun g => H.2.2.2.2.any (fun q => Nat.beq q.1 g.1 && decide (q.2 = ag_sb σ g.2)))))))))
def ag_P0 : List ag_f := [ag_y 0, ag_y 1, ag_y 2]
def ag_fit (D : ag_D) (env : ag_e) (lv : ag_l) (H : ag_H) (pre : List ag_f) (T : ag_T) : Option (List ag_f) := match ag_sig lv H T.2.1 with
  | some σ => bif ag_fitB D env lv H T (pre ++ σ) then some (pre ++ σ) else none
  | none => none
/-- places that a template speaks of are looked at first -/
def ag_mat (D : ag_D) : List (Nat × Nat × ag_f) → ag_e → ag_H → (ag_e → ag_H → Bool) → Bool
  | [], env, H, K => K env H
  | q :: r, env, H, K => ag_rd D env H q.1 q.2.1 (fun env H _ => ag_mat D r env H K)
def ag_matL (D : ag_D) : List (Nat × Nat × ag_f) → ag_e → ag_H → (ag_e → ag_H → Bool) → Bool
  | [], env, H, K => K env H
  | q :: r, env, H, K => ag_rL D env H q.1 q.2.1 (fun env H _ => ag_matL D r env H K)
def ag_m2 (D : ag_D) (T : ag_T) (env : ag_e) (H : ag_H) (K : ag_e → ag_H → Bool) : Bool := ag_mat D T.2.2.2.1 env H (fun env H => ag_matL D T.2.2.2.2.1 env H K)
/-- locals whose sums are not their ints, their longs, get symbols of their own -/
def ag_nl1 (env : ag_e) (lv : ag_l) (k : Nat) (K : ag_e → ag_l → Bool) : Bool := match ag_lv lv k with
  | some (.inl f) => (match ag_iv env f with
    | some w => bif decide (-2147483648 ≤ w.1) && decide (w.2 ≤ 2147483647) then K env lv else ag_nI env (fun env z => K env ((k, .inl z) :: lv))
    | none => false)
  | some (.inr (.inl f)) => (match ag_iv env f with
    | some w => bif decide (-9223372036854775808 ≤ w.1) && decide (w.2 ≤ 9223372036854775807) then K env lv else ag_nL env (fun env z => K env ((k, .inr (.inl z)) :: lv))
    | none => false)
  | _ => K env lv
def ag_nlv : ag_l → ag_e → ag_l → (ag_e → ag_l → Bool) → Bool
  | [], env, lv, K => K env lv
  | q :: r, env, lv, K => ag_nl1 env lv q.1 (fun env lv => ag_nlv r env lv K)
def ag_m3 (D : ag_D) (T : ag_T) (env : ag_e) (lv : ag_l) (H : ag_H) (K : ag_e → ag_l → ag_H → Bool) : Bool := ag_nlv T.2.2.1 env lv (fun env lv => ag_m2 D T env H (fun env H => K env lv H))
/-- a contract: the method, the depth of its calls, the starts, the ends (an answer is local 1000), what may be written -/
abbrev ag_C : Type := Nat × Nat × List ag_T × List ag_T × ag_M
def ag_ys (m : Nat) : Nat → List ag_f
  | 0 => []
  | n + 1 => ag_y m :: ag_ys (m + 1) n
def ag_rn (σ : List ag_f) (v : ag_v) : ag_v := match v with
  | .inl f => .inl (ag_sb σ f)
  | .inr (.inl f) => .inr (.inl (ag_sb σ f))
  | .inr (.inr o) => .inr (.inr o)
/-- what the symbols that stay are in a callee: N as it is; the slack, or one more; the depth at hand -/
def ag_kap (H : ag_H) : ag_f := match H.2.2.2.2.find? (fun q => Nat.beq q.1 0) with
  | some q => q.2
  | none => ag_k 0
def ag_pres (H : ag_H) : List (List ag_f) := [[ag_y 0, ag_add (ag_y 1) (ag_k 1), ag_kap H], [ag_y 0, ag_y 1, ag_kap H]]
def ag_aft (M : ag_M) (env : ag_e) (H : ag_H) (pre : List ag_f) (P : ag_T) (K : ag_e → ag_H → Option ag_v → Bool) : Bool := match pre ++ ag_ys env.length (P.1.length - 3) with
  | σ => K (env ++ P.1.drop 3) (P.2.2.2.1.map (fun q => (q.1, q.2.1, ag_sb σ q.2.2)) ++ H.1.filter (fun q => !(ag_atM M q.1 q.2.1)), P.2.2.2.2.1.map (fun q => (q.1, q.2.1, ag_sb σ q.2.2)) ++ H.2.1.filter (fun q => !(ag_atM M q.1 q.2.1)), P.2.2.2.2.2.1 ++ H.2.2.1.filter (fun q => !(ag_atM M q.1 q.2.1)), P.2.2.2.2.2.2.1.map (ag_sb σ) ++ H.2.2.2.1, P.2.2.2.2.2.2.2.map (fun q => (q.1, ag_sb σ q.2)) ++ ag_gm M H.2.2.2.2) ((ag_lv P.2.2.1 1000).map (ag_rn σ))
def ag_Msb (M' M : ag_M) : Bool := M'.all (fun q => ag_inM M q.1 q.2.1 q.2.2)
def ag_args : Nat → List ag_v → ag_l
  | _, [] => []
  | i, v :: vs => (i, v) :: ag_args (bif Nat.beq (ag_cat v) 2 then i + 2 else i + 1) vs
/-- the run; ex, fin: exits; spl: at which place which local, or int of the heap, is gone through value by value -/
abbrev ag_X : Type := (Nat → Bool) × (ag_e → Nat → ag_l → ag_H → Bool) × List (Nat × Nat × Nat × Nat)
def ag_noX : ag_X := (fun _ => false, fun _ _ _ _ => false, [])
def ag_spl (env : ag_e) (lv : ag_l) (H : ag_H) (X : ag_X) (pc : Nat) : Option (ag_f × Int × Int) := match X.2.2.find? (fun q => Nat.beq q.1 pc) with
  | some q => (match ag_loc lv H q.2 with
    | some f => (match ag_iv env f with
      | some w => bif decide (w.1 < w.2) then some (f, w.1, w.2) else none
      | none => none)
    | none => none)
  | none => none
def ag_go (D : ag_D) (M : ag_M) (tab : List ag_C) : Nat → Bool → ag_X → ag_e → Nat → ag_H → List (Nat × am_R) → Nat → Option FieldType → Nat → ag_l → List ag_v → (ag_e → ag_H → Option ag_v → Bool) → Bool
  | 0, _, _, _, _, _, _, _, _, _, _, _, _ => false
  | f + 1, fst, X, env, d, H, rows, nL, rt, pc, lv, st, Rt => bif !fst && X.1 pc then st.isEmpty && X.2.1 env pc lv H else (match ag_spl env lv H X pc with
    | some (g, lo, hi) => (List.range (hi - lo + 1).toNat).all (fun j => ag_eq env (ag_sub g (ag_k (lo + j))) (fun env => ag_go D M tab f fst X env d H rows nL rt pc lv st Rt))
    | none => (match am_find rows pc with
      | none => false
      | some r => ag_step D M r.1 r.2.1 r.2.2.1 r.2.2.2.1 r.2.2.2.2.1 r.2.2.2.2.2 env H nL rt pc lv st (fun env pc lv st H => ag_go D M tab f false X env d H rows nL rt pc lv st Rt)
        (fun a As rest => match am_inf[a]? with
          | some q => Nat.ble ((As.map ag_cat).sum) q.2.1 && (bif tab.any (fun I => Nat.beq I.1 a) then tab.any (fun I => Nat.beq I.1 a && (Nat.ble I.2.1 d && (ag_Msb I.2.2.2.2 M && I.2.2.1.any (fun T => Nat.beq As.length T.2.2.1.length && ag_m3 D T env (ag_args 0 As) H (fun env lvA H => (ag_pres H).any (fun pre => (ag_fit D env lvA H pre T).isSome && ((pre.all (fun g => (ag_iv env g).isSome)) && I.2.2.2.1.all (fun P => ag_aft I.2.2.2.2 env H pre P (fun env H v => ag_go D M tab f false X env d H rows nL rt r.2.1 lv (v.toList ++ rest) Rt)))))))))
            else (match d with
              | 0 => false
              | d' + 1 => ag_go D M tab f false ag_noX env d' H q.1 q.2.1 q.2.2 0 (ag_args 0 As) [] (fun env H v => ag_go D M tab f false X env d H rows nL rt r.2.1 lv (v.toList ++ rest) Rt)))
          | none => false)
        (fun env v => Rt env H v)))
def ag_wft (m : Nat) (t : List (Nat × Int)) : Bool := t.all (fun q => Nat.blt q.1 m)
def ag_wfv (m : Nat) (v : ag_v) : Bool := match v with
  | .inl f => ag_wft m f.1
  | .inr (.inl f) => ag_wft m f.1
  | .inr (.inr _) => true
def ag_wfT (T : ag_T) : Bool := Nat.ble 3 T.1.length && (T.2.2.1.all (fun q => ag_wfv T.1.length q.2) && (T.2.2.2.1.all (fun q => ag_wft T.1.length q.2.2.1) && (T.2.2.2.2.1.all (fun q => ag_wft T.1.length q.2.2.1) && (T.2.2.2.2.2.2.1.all (fun g => ag_wft T.1.length g.1) && T.2.2.2.2.2.2.2.all (fun g => ag_wft T.1.length g.2.1)))))
/-- what no checked method writes: the kinds of the tokens, the law that is told -/
def ag_Mok (M : ag_M) : Bool := M.all (fun q => !(Nat.beq q.1 156) && ((!(Nat.beq q.1 161) || Nat.ble 1100 q.2.1) && ((!(Nat.beq q.1 162) || Nat.ble 1100 q.2.1) && !(Nat.beq q.1 160 && (Nat.ble q.2.1 3 && Nat.ble 3 q.2.2)))))
/-- an instance: a contract, cuts (place, template, measure), what is gone through value by value, the fuel -/
abbrev ag_I : Type := ag_C × List (Nat × ag_T × ag_f) × List (Nat × Nat × Nat × Nat) × Nat
def ag_cutX (D : ag_D) (I : ag_I) (src : Option ag_f) : ag_X := (fun pc => I.2.1.any (fun c => Nat.beq c.1 pc), fun env pc lv H => I.2.1.any (fun c => Nat.beq c.1 pc && ag_m3 D c.2.1 env lv H (fun env lv H => match ag_fit D env lv H ag_P0 c.2.1 with
  | some σ => ag_inI env (ag_sb σ c.2.2) (0, 1267650600228229401496703205376) && (match src with
    | some m => (match ag_iv env (ag_sub m (ag_sb σ c.2.2)) with
      | some w => decide (1 ≤ w.1)
      | none => false)
    | none => true)
  | none => false)), I.2.2.1)
def ag_rl (v : Option ag_v) : ag_l := match v with
  | some x => [(1000, x)]
  | none => []
def ag_ret (D : ag_D) (I : ag_I) (env : ag_e) (H : ag_H) (v : Option ag_v) : Bool := I.1.2.2.2.1.any (fun P => ag_m3 D P env (ag_rl v) H (fun env lv H => (ag_fit D env lv H ag_P0 P).isSome && decide (v.isSome = (ag_lv P.2.2.1 1000).isSome)))
/-- the method is one of those that have rows; each start and each cut is run -/
def ag_chk (D : ag_D) (tab : List ag_C) (I : ag_I) : Bool := match am_inf[I.1.1]? with
  | some q => (match I.1.2.1 with
    | 0 => false
    | d + 1 => Nat.beq (am_al I.1.1) 0 && (ag_Mok I.1.2.2.2.2 && (I.1.2.2.1.all (fun T => ag_wfT T && ag_go D I.1.2.2.2.2 tab I.2.2.2 true (ag_cutX D I none) T.1 d T.2.2.2 q.1 q.2.1 q.2.2 0 T.2.2.1 [] (ag_ret D I)) && I.2.1.all (fun c => ag_wfT c.2.1 && ag_wft c.2.1.1.length c.2.2.1 && ag_go D I.1.2.2.2.2 tab I.2.2.2 true (ag_cutX D I (some c.2.2)) c.2.1.1 d c.2.1.2.2.2 q.1 q.2.1 q.2.2 c.1 c.2.1.2.2.1 [] (ag_ret D I)))))
  | none => false
