section
/-! THE ROWS ARE RIGHT -/
theorem am_find_mem : ∀ {l : List (Nat × am_R)} {pc : Nat} {r : am_R}, am_find l pc = some r → (pc, r) ∈ l
  | q :: l, pc, r, h => by
    unfold am_find at h
    cases hq : Nat.beq q.1 pc with
    | true =>
      rw [hq] at h
      have e1 : q.1 = pc := Nat.eq_of_beq_eq_true hq
      have e2 : q.2 = r := Option.some.inj h
      rw [← e1, ← e2]
      exact List.mem_cons_self
    | false =>
      rw [hq] at h
      exact List.mem_cons_of_mem _ (am_find_mem h)
theorem am_inf_len : am_inf.length = am_mi.length := by decide +kernel
theorem am_zip_app {α β : Type} {p : α × β → Bool} {a1 a2 : List α} {b1 b2 : List β} (hl : a1.length = b1.length) (h1 : (a1.zip b1).all p = true) (h2 : (a2.zip b2).all p = true) : ((a1 ++ a2).zip (b1 ++ b2)).all p = true := by
  rw [List.zip_append hl, List.all_append, h1, h2]
  rfl
theorem am_inf_ok : (am_mi.zip am_inf).all am_chk = true :=
  am_zip_app rfl am_ck_0 (am_zip_app rfl am_ck_1 (am_zip_app rfl am_ck_2 (am_zip_app rfl am_ck_3 (am_zip_app rfl am_ck_4 (am_zip_app rfl am_ck_5 (am_zip_app rfl am_ck_6 am_ck_7))))))
theorem am_inf_at {n : Nat} {q : List (Nat × am_R) × Nat × Option FieldType} (h : am_inf[n]? = some q) : q.2.1 = am_nL n ∧ q.2.2 = am_rt n ∧ (∀ pc r, am_find q.1 pc = some r → plainFor (am_y n) = true ∧ ((am_y n = am_47 ∧ pc = 2) ∨ am_okB (decide ((am_y n).name = "<init>")) (am_y n).cls (am_by n) pc r = true)) := by
  have hn : n < am_mi.length := by rw [← am_inf_len]; exact (List.getElem?_eq_some_iff.mp h).1
  have h1 : am_mi[n]? = some am_mi[n] := List.getElem?_eq_getElem hn
  have hz : (am_mi.zip am_inf)[n]? = some (am_mi[n], q) := by
    rw [List.getElem?_zip_eq_some]
    exact ⟨h1, h⟩
  have h2 := List.all_eq_true.mp am_inf_ok _ (List.mem_of_getElem? hz)
  unfold am_chk at h2
  rw [Bool.and_eq_true, Bool.and_eq_true, Bool.and_eq_true, Bool.or_eq_true, decide_eq_true_eq, decide_eq_true_eq] at h2
  obtain ⟨e1, e2, e3, e4⟩ := h2
  unfold am_nL am_rt am_y am_by
  rw [h1]
  refine ⟨e1.symm, e2.symm, fun pc r hr => ?_⟩
  have hm := am_find_mem hr
  refine ⟨e3.resolve_left (fun q' => ?_), ?_⟩
  rotate_left
  · have e5 := List.all_eq_true.mp e4 _ hm
    rw [Bool.or_eq_true, Bool.and_eq_true, decide_eq_true_eq] at e5
    exact e5.imp (fun z => ⟨z.1, Nat.eq_of_beq_eq_true z.2⟩) (fun z => z)
  rw [List.isEmpty_iff] at q'
  rw [q'] at hm
  cases hm
theorem am_cod_ok : am_Rok am_cod := by
  intro n pc r h
  unfold am_cod at h
  split at h
  · rename_i q hq
    exact (am_inf_at hq).2.2 pc r h
  · cases h
theorem am_law_ok : ∀ pc r, am_find am_rL pc = some r → am_okB false "MistCantonLaw" code pc r = true := fun _ _ h => List.all_eq_true.mp am_rL_ok _ (am_find_mem h)
def am_infC : List (List (List (Nat × am_R) × Nat × Option FieldType)) := [am_inf_0, am_inf_1, am_inf_2, am_inf_3, am_inf_4, am_inf_5, am_inf_6, am_inf_7]
theorem am_infC_ok : ag_cks 40 am_infC = true := by decide +kernel
theorem am_infC_eq : am_infC.flatten = am_inf := by
  unfold am_infC am_inf
  simp only [List.flatten_cons, List.flatten_nil, List.append_nil]
def am_infF (n : Nat) : Option (List (Nat × am_R) × Nat × Option FieldType) := ag_ix 40 am_infC n
theorem am_infF_eq (n : Nat) : am_infF n = am_inf[n]? := by
  unfold am_infF
  rw [ag_ix_eq (by decide) _ _ am_infC_ok, am_infC_eq]
end
section
/-! THE CHECKER: runs the abstract machine on known ints, on symbols with intervals, and on references; every branch that is open is gone through -/
abbrev ae_v : Type := Int ⊕ (Nat ⊕ (Nat ⊕ (Int ⊕ Nat)))
abbrev ae_e : Type := List (Int × Int)
/-- what is known of the heap: ints, references (all others 0 and null); how many objects; the first that is known -/
abbrev ae_H : Type := List (Nat × Nat × (Int ⊕ Nat)) × List (Nat × Nat × Option Nat) × Nat × Nat
abbrev ae_l : Type := List (Nat × ae_v)
abbrev ae_F : Type := List (Nat × am_R) × Nat × Option FieldType × Nat × Nat × ae_l × List ae_v
def ae_ci (ρ : Nat → Int32) : Int ⊕ Nat → Int32
  | .inl n => Int32.ofInt n
  | .inr i => ρ i
/-- longs made of symbols: one widened, one moved up by 32, one without its sign, two in one -/
def ae_sh (ρ : Nat → Int32) (i : Nat) : Int64 := (ρ i).toInt64 <<< ((Int32.ofInt 32).toInt64 &&& 63)
def ae_mk (ρ : Nat → Int32) (i : Nat) : Int64 := (ρ i).toInt64 &&& Int64.ofInt 4294967295
def ae_lc (ρ : Nat → Int32) (c : Nat) : Int64 := bif Nat.blt c 100 then (ρ c).toInt64 else bif Nat.blt c 200 then ae_sh ρ (c - 100) else bif Nat.blt c 300 then ae_mk ρ (c - 200) else ae_sh ρ ((c - 1000) / 10) ||| ae_mk ρ ((c - 1000) % 10)
def ae_c (ρ : Nat → Int32) : ae_v → Value
  | .inl n => .int (Int32.ofInt n)
  | .inr (.inl i) => .int (ρ i)
  | .inr (.inr (.inl o)) => .ref o
  | .inr (.inr (.inr (.inl n))) => .long (Int64.ofInt n)
  | .inr (.inr (.inr (.inr i))) => .long (ae_lc ρ i)
def ae_iv : Int ⊕ Nat → ae_v
  | .inl n => .inl n
  | .inr i => .inr (.inl i)
def ae_cat : ae_v → Nat
  | .inl _ => 1
  | .inr (.inl _) => 1
  | .inr (.inr (.inl _)) => 1
  | .inr (.inr (.inr _)) => 2
def ae_lk {α : Type} : List (Nat × Nat × α) → Nat → Nat → α → α
  | [], _, _, d => d
  | q :: r, o, k, d => bif Nat.beq q.2.1 k && Nat.beq q.1 o then q.2.2 else ae_lk r o k d
def ae_up {α : Type} : List (Nat × Nat × α) → Nat → Nat → α → List (Nat × Nat × α)
  | [], o, k, v => [(o, k, v)]
  | q :: r, o, k, v => bif Nat.beq q.2.1 k && Nat.beq q.1 o then (o, k, v) :: r else q :: ae_up r o k v
def ae_n (env : ae_e) (a : ae_v) : ae_v := match a with
  | .inr (.inl i) => (match env[i]? with
    | some q => bif decide (q.1 = q.2) then .inl q.1 else a
    | none => a)
  | a => a
def ae_lv : ae_l → Nat → Option ae_v
  | [], _ => none
  | q :: r, i => bif Nat.beq q.1 i then some q.2 else ae_lv r i
def ae_s1 (lv : ae_l) (i : Nat) (v : ae_v) : ae_l := (i, v) :: lv.filter (fun q => !(Nat.beq q.1 i) && !(Nat.beq (q.1 + 1) i && Nat.beq (ae_cat q.2) 2))
def ae_s2 (lv : ae_l) (i : Nat) (v : ae_v) : ae_l := (i, v) :: lv.filter (fun q => !(Nat.beq q.1 i) && (!(Nat.beq q.1 (i + 1)) && !(Nat.beq (q.1 + 1) i && Nat.beq (ae_cat q.2) 2)))
/-- the stack: a known int, a reference, a long, an int (known or not), anything -/
def ae_pI (env : ae_e) (st : List ae_v) (k : Int → List ae_v → Bool) : Bool := match st with
  | a :: r => (match ae_n env a with
    | .inl n => k n r
    | _ => false)
  | [] => false
def ae_pR (st : List ae_v) (k : Nat → List ae_v → Bool) : Bool := match st with
  | .inr (.inr (.inl o)) :: r => k o r
  | _ => false
def ae_pL (st : List ae_v) (k : ae_v → List ae_v → Bool) : Bool := match st with
  | .inr (.inr (.inr x)) :: r => k (.inr (.inr (.inr x))) r
  | _ => false
def ae_pS (env : ae_e) (st : List ae_v) (k : Int ⊕ Nat → List ae_v → Bool) : Bool := match st with
  | a :: r => (match ae_n env a with
    | .inl n => k (.inl n) r
    | .inr (.inl i) => k (.inr i) r
    | _ => false)
  | [] => false
def ae_pV (st : List ae_v) (k : ae_v → List ae_v → Bool) : Bool := match st with
  | a :: r => k a r
  | [] => false
def ae_li (lv : ae_l) (i : Nat) (k : ae_v → Bool) : Bool := match ae_lv lv i with
  | some (.inl n) => k (.inl n)
  | some (.inr (.inl s)) => k (.inr (.inl s))
  | _ => false
def ae_ll (lv : ae_l) (i : Nat) (k : ae_v → Bool) : Bool := match ae_lv lv i with
  | some (.inr (.inr (.inr x))) => k (.inr (.inr (.inr x)))
  | _ => false
def ae_la (lv : ae_l) (i : Nat) (k : ae_v → Bool) : Bool := match ae_lv lv i with
  | some (.inr (.inr (.inl o))) => k (.inr (.inr (.inl o)))
  | _ => false
def ae_pop : Nat → List ae_v → List ae_v → Option (List ae_v × List ae_v)
  | 0, acc, st => some (acc, st)
  | n + 1, acc, v :: st => ae_pop n (v :: acc) st
  | _ + 1, _, [] => none
def ae_i2 (f : Int32 → Int32 → Int32) (n m : Int) : ae_v := .inl (f (Int32.ofInt n) (Int32.ofInt m)).toInt
/-- a comparison of known ints -/
def ae_cc (q : Jvm.ClassFile.Cond) (n m : Int) : Bool := match q with
  | .eq => decide (Int32.ofInt n = Int32.ofInt m)
  | .ne => !decide (Int32.ofInt n = Int32.ofInt m)
  | .lt => decide (Int32.ofInt n < Int32.ofInt m)
  | .ge => decide (Int32.ofInt m ≤ Int32.ofInt n)
  | .gt => decide (Int32.ofInt m < Int32.ofInt n)
  | .le => decide (Int32.ofInt n ≤ Int32.ofInt m)
def ae_flip : Jvm.ClassFile.Cond → Jvm.ClassFile.Cond
  | .eq => .eq
  | .ne => .ne
  | .lt => .gt
  | .ge => .le
  | .gt => .lt
  | .le => .ge
/-- an interval cut by a comparison with m -/
def ae_cut (q : Jvm.ClassFile.Cond) (lo hi m : Int) : List (Int × Int × Bool) := match q with
  | .lt => [(lo, min hi (m - 1), true), (max lo m, hi, false)]
  | .ge => [(lo, min hi (m - 1), false), (max lo m, hi, true)]
  | .le => [(lo, min hi m, true), (max lo (m + 1), hi, false)]
  | .gt => [(lo, min hi m, false), (max lo (m + 1), hi, true)]
  | .eq => [(max lo m, min hi m, true), (lo, min hi (m - 1), false), (max lo (m + 1), hi, false)]
  | .ne => [(max lo m, min hi m, false), (lo, min hi (m - 1), true), (max lo (m + 1), hi, true)]
/-- a branch -/
def ae_br (env : ae_e) (q : Jvm.ClassFile.Cond) (x y : Int ⊕ Nat) (k : ae_e → Bool → Bool) : Bool := match x, y with
  | .inl n, .inl m => k env (ae_cc q n m)
  | .inr i, .inl m => (match env[i]? with
    | some w => (ae_cut q w.1 w.2 (Int32.ofInt m).toInt).all (fun c => bif decide (c.1 ≤ c.2.1) then k (env.set i (c.1, c.2.1)) c.2.2 else true)
    | none => false)
  | .inl m, .inr i => (match env[i]? with
    | some w => (ae_cut (ae_flip q) w.1 w.2 (Int32.ofInt m).toInt).all (fun c => bif decide (c.1 ≤ c.2.1) then k (env.set i (c.1, c.2.1)) c.2.2 else true)
    | none => false)
  | .inr i, .inr j => Nat.beq i j && k env (match q with
    | .eq | .le | .ge => true
    | _ => false)
/-- a symbol gone through value by value -/
def ae_all (env : ae_e) (i : Nat) (k : ae_e → Bool) : Bool := match env[i]? with
  | some w => decide (w.2 - w.1 ≤ 130) && (List.range (w.2 - w.1 + 1).toNat).all (fun j => k (env.set i (w.1 + j, w.1 + j)))
  | none => false
def ae_shl : List (Nat × Nat) := [(10, 0), (7, 0), (12, 1000), (1, 0), (4, 0), (9, 0), (0, 0), (14, 6), (13, 6), (13, 6), (14, 5), (13, 5), (13, 5), (13, 5), (3, 0), (13, 1000), (13, 32), (0, 0), (14, 6), (13, 6), (13, 6), (14, 5), (13, 5), (13, 5), (13, 5), (3, 0), (13, 1000), (13, 32), (8, 0), (13, 40), (13, 40), (13, 40), (8, 0), (13, 40), (13, 40), (13, 40), (6, 0), (13, 6), (13, 6), (13, 5), (13, 5), (6, 0), (13, 6), (13, 6), (13, 5), (13, 5), (13, 6), (2, 0), (17, 16), (6, 0), (13, 6), (13, 6), (13, 5), (13, 5), (6, 0), (13, 6), (13, 6), (13, 5), (13, 5), (6, 0), (13, 6), (13, 6), (13, 5), (13, 5), (6, 0), (13, 6), (13, 6), (13, 5), (13, 5), (6, 0), (13, 6), (13, 6), (13, 5), (13, 5), (6, 0), (13, 6), (13, 6), (13, 5), (13, 5), (6, 0), (13, 6), (13, 6), (13, 5), (13, 5), (6, 0), (13, 6), (13, 6), (13, 5), (13, 5), (6, 0), (13, 6), (13, 6), (13, 5), (13, 5), (6, 0), (13, 6), (13, 6), (13, 5), (13, 5), (6, 0), (13, 6), (13, 6), (13, 5), (13, 5), (6, 0), (13, 6), (13, 6), (13, 5), (13, 5), (6, 0), (13, 6), (13, 6), (13, 5), (13, 5), (6, 0), (13, 6), (13, 6), (13, 5), (13, 5), (6, 0), (13, 6), (13, 6), (13, 5), (13, 5), (6, 0), (13, 6), (13, 6), (13, 5), (13, 5), (16, 4), (5, 0), (6, 0), (13, 6), (13, 6), (13, 5), (13, 5), (5, 0), (6, 0), (13, 6), (13, 6), (13, 5), (13, 5), (5, 0), (6, 0), (13, 6), (13, 6), (13, 5), (13, 5), (5, 0), (6, 0), (13, 6), (13, 6), (13, 5), (13, 5), (11, 0), (13, 1000), (13, 1002), (13, 1002), (14, 1002), (14, 21), (13, 80), (13, 2200), (13, 2200), (14, 11), (14, 11), (13, 11), (13, 11), (13, 250), (13, 4), (13, 1100), (13, 1127), (15, 4), (13, 5), (13, 6), (14, 1)]
def ae_so (H : ae_H) (o : Nat) : Option (Nat × Nat) := bif Nat.blt o H.2.2.1 && Nat.ble H.2.2.2 o then ae_shl[o]? else none
def ae_ob (e : Option (Nat × Nat)) (b : Nat) : Bool := match e with
  | some (t, n) => Nat.beq t b && Nat.beq n 0
  | none => false
def ae_ar (e : Option (Nat × Nat)) (b : Nat) (j : Int) (k : Nat → Bool) : Bool := match e with
  | some (t, n) => Nat.beq t b && (match j with
    | .ofNat j => Nat.blt j n && k j
    | _ => false)
  | none => false
def ae_wI (H : ae_H) (o k : Nat) (v : Int ⊕ Nat) : ae_H := (ae_up H.1 o k v, H.2.1, H.2.2)
def ae_wR (H : ae_H) (o k : Nat) (v : Option Nat) : ae_H := (H.1, ae_up H.2.1 o k v, H.2.2)
def ae_nx (H : ae_H) : ae_H := (H.1, H.2.1, H.2.2.1 + 1, H.2.2.2)
def ae_new (H : ae_H) (lim b : Nat) (n : Int) : Bool := match ae_shl[H.2.2.1]? with
  | some (t, m) => Nat.beq t b && (decide (n = m) && Nat.ble (H.2.2.1 + 1) lim)
  | none => false
/-- may a field, an answer of this type hold it -/
def ae_fit (ty : FieldType) (x : Int ⊕ Nat) : Bool := match x with
  | .inl n => decide (narrow ty (.int (Int32.ofInt n)) = .int (Int32.ofInt n)) && fits ty (.int (Int32.ofInt n))
  | .inr _ => decide (ty = .int)
def ae_tgt (pc : Nat) (o : Int) : Nat := ((pc : Int) + o).toNat
def ae_ts (pc : Nat) (df lo hi : Int) (os : Array Int) (z : Int) : Nat := bif decide (z < lo) || decide (hi < z) then ae_tgt pc df else ae_tgt pc ((os[(z - lo).toNat]?).getD 0)
/-- a step: first the instruction, then all else -/
def ae_stp (i : Instr) : Nat → Nat → Nat → Nat → Nat → Nat → ae_e → ae_H → Nat → Nat → Option FieldType → Nat → ae_l → List ae_v → (ae_e → Nat → ae_l → List ae_v → ae_H → Bool) → (Nat → List ae_v → Nat → List ae_v → Bool) → (Option ae_v → Bool) → Bool := match i with
  | .iconst n => fun nx a b c d LL env H nL lim rt pc lv st K C Rt => K env nx lv (.inl n :: st) H
  | .bipush n => fun nx a b c d LL env H nL lim rt pc lv st K C Rt => K env nx lv (.inl (Int8.ofInt n).toInt32.toInt :: st) H
  | .sipush n => fun nx a b c d LL env H nL lim rt pc lv st K C Rt => K env nx lv (.inl (Int16.ofInt n).toInt32.toInt :: st) H
  | .lconst n => fun nx a b c d LL env H nL lim rt pc lv st K C Rt => K env nx lv (.inr (.inr (.inr (.inl (Int64.ofNat n).toInt))) :: st) H
  | .ldc2_w _ => fun nx a b c d LL env H nL lim rt pc lv st K C Rt => K env nx lv (.inr (.inr (.inr (.inl (am_kl c).toInt))) :: st) H
  | .ldc_w _ => fun nx a b c d LL env H nL lim rt pc lv st K C Rt => !(Nat.beq b 1) && K env nx lv (.inl (am_ki c).toInt :: st) H
  | .ldc _ => fun nx a b c d LL env H nL lim rt pc lv st K C Rt => !(Nat.beq b 1) && K env nx lv (.inl (am_ki c).toInt :: st) H
  | .iload_n k => fun nx a b c d LL env H nL lim rt pc lv st K C Rt => ae_li lv k.val fun x => K env nx lv (x :: st) H
  | .iload k => fun nx a b c d LL env H nL lim rt pc lv st K C Rt => ae_li lv k fun x => K env nx lv (x :: st) H
  | .lload_n k => fun nx a b c d LL env H nL lim rt pc lv st K C Rt => ae_ll lv k.val fun x => K env nx lv (x :: st) H
  | .lload k => fun nx a b c d LL env H nL lim rt pc lv st K C Rt => ae_ll lv k fun x => K env nx lv (x :: st) H
  | .aload_n k => fun nx a b c d LL env H nL lim rt pc lv st K C Rt => ae_la lv k.val fun x => K env nx lv (x :: st) H
  | .aload k => fun nx a b c d LL env H nL lim rt pc lv st K C Rt => ae_la lv k fun x => K env nx lv (x :: st) H
  | .istore_n k => fun nx a b c d LL env H nL lim rt pc lv st K C Rt => ae_pS env st fun x r => Nat.blt k.val nL && K env nx (ae_s1 lv k.val (ae_iv x)) r H
  | .istore k => fun nx a b c d LL env H nL lim rt pc lv st K C Rt => ae_pS env st fun x r => Nat.blt k nL && K env nx (ae_s1 lv k (ae_iv x)) r H
  | .lstore_n k => fun nx a b c d LL env H nL lim rt pc lv st K C Rt => ae_pL st fun x r => Nat.blt (k.val + 1) nL && K env nx (ae_s2 lv k.val x) r H
  | .lstore k => fun nx a b c d LL env H nL lim rt pc lv st K C Rt => ae_pL st fun x r => Nat.blt (k + 1) nL && K env nx (ae_s2 lv k x) r H
  | .astore_n k => fun nx a b c d LL env H nL lim rt pc lv st K C Rt => ae_pR st fun x r => Nat.blt k.val nL && K env nx (ae_s1 lv k.val (.inr (.inr (.inl x)))) r H
  | .astore k => fun nx a b c d LL env H nL lim rt pc lv st K C Rt => ae_pR st fun x r => Nat.blt k nL && K env nx (ae_s1 lv k (.inr (.inr (.inl x)))) r H
  | .iinc k n => fun nx a b c d LL env H nL lim rt pc lv st K C Rt => ae_li lv k fun x => ae_pI env [x] fun x _ => Nat.blt k nL && K env nx (ae_s1 lv k (ae_i2 (· + ·) x n)) st H
  | .iadd => fun nx a b c d LL env H nL lim rt pc lv st K C Rt => ae_pI env st fun y r => ae_pI env r fun x r => K env nx lv (ae_i2 (· + ·) x y :: r) H
  | .isub => fun nx a b c d LL env H nL lim rt pc lv st K C Rt => ae_pI env st fun y r => ae_pI env r fun x r => K env nx lv (ae_i2 (· - ·) x y :: r) H
  | .imul => fun nx a b c d LL env H nL lim rt pc lv st K C Rt => ae_pI env st fun y r => ae_pI env r fun x r => K env nx lv (ae_i2 (· * ·) x y :: r) H
  | .iand => fun nx a b c d LL env H nL lim rt pc lv st K C Rt => ae_pI env st fun y r => ae_pS env r fun x r => (match x with
    | .inl x => K env nx lv (ae_i2 (· &&& ·) x y :: r) H
    | .inr i => Nat.beq i 0 && (decide (y = 63) && K env nx lv (.inr (.inl 7) :: r) H))
  | .ior => fun nx a b c d LL env H nL lim rt pc lv st K C Rt => ae_pI env st fun y r => ae_pI env r fun x r => K env nx lv (ae_i2 (· ||| ·) x y :: r) H
  | .ixor => fun nx a b c d LL env H nL lim rt pc lv st K C Rt => ae_pI env st fun y r => ae_pI env r fun x r => K env nx lv (ae_i2 (· ^^^ ·) x y :: r) H
  | .idiv => fun nx a b c d LL env H nL lim rt pc lv st K C Rt => ae_pI env st fun y r => ae_pI env r fun x r => !decide (Int32.ofInt y = 0) && K env nx lv (ae_i2 (· / ·) x y :: r) H
  | .irem => fun nx a b c d LL env H nL lim rt pc lv st K C Rt => ae_pI env st fun y r => ae_pI env r fun x r => !decide (Int32.ofInt y = 0) && K env nx lv (ae_i2 (fun x y => x - x / y * y) x y :: r) H
  | .ineg => fun nx a b c d LL env H nL lim rt pc lv st K C Rt => ae_pI env st fun x r => K env nx lv (.inl (-(Int32.ofInt x)).toInt :: r) H
  | .ishl => fun nx a b c d LL env H nL lim rt pc lv st K C Rt => ae_pI env st fun y r => ae_pI env r fun x r => K env nx lv (ae_i2 (fun x y => x <<< (y &&& 31)) x y :: r) H
  | .ishr => fun nx a b c d LL env H nL lim rt pc lv st K C Rt => ae_pI env st fun y r => ae_pI env r fun x r => K env nx lv (ae_i2 (fun x y => x >>> (y &&& 31)) x y :: r) H
  | .iushr => fun nx a b c d LL env H nL lim rt pc lv st K C Rt => ae_pI env st fun y r => ae_pI env r fun x r => K env nx lv (ae_i2 (fun x y => (x.toUInt32 >>> (y.toUInt32 &&& Int32.toUInt32 31)).toInt32) x y :: r) H
  | .i2l => fun nx a b c d LL env H nL lim rt pc lv st K C Rt => ae_pS env st fun x r => (match x with
    | .inl n => K env nx lv (.inr (.inr (.inr (.inl (Int32.ofInt n).toInt64.toInt))) :: r) H
    | .inr i => Nat.blt i 10 && K env nx lv (.inr (.inr (.inr (.inr i))) :: r) H)
  | .lshl => fun nx a b c d LL env H nL lim rt pc lv st K C Rt => ae_pI env st fun y r => ae_pL r fun x r => (match x with
    | .inr (.inr (.inr (.inr i))) => decide (y = 32) && (Nat.blt i 10 && K env nx lv (.inr (.inr (.inr (.inr (100 + i)))) :: r) H)
    | _ => false)
  | .land => fun nx a b c d LL env H nL lim rt pc lv st K C Rt => ae_pL st fun y r => ae_pL r fun x r => (match x, y with
    | .inr (.inr (.inr (.inr i))), .inr (.inr (.inr (.inl m))) => decide (m = 4294967295) && (Nat.blt i 10 && K env nx lv (.inr (.inr (.inr (.inr (200 + i)))) :: r) H)
    | _, _ => false)
  | .lor => fun nx a b c d LL env H nL lim rt pc lv st K C Rt => ae_pL st fun y r => ae_pL r fun x r => (match x, y with
    | .inr (.inr (.inr (.inr i))), .inr (.inr (.inr (.inr j))) => (Nat.ble 100 i && Nat.blt i 110) && ((Nat.ble 200 j && Nat.blt j 210) && K env nx lv (.inr (.inr (.inr (.inr (1000 + (10 * (i - 100) + (j - 200)))))) :: r) H)
    | _, _ => false)
  | .dup => fun nx a b c d LL env H nL lim rt pc lv st K C Rt => ae_pV st fun v r => Nat.beq (ae_cat v) 1 && K env nx lv (v :: v :: r) H
  | .dup2 => fun nx a b c d LL env H nL lim rt pc lv st K C Rt => ae_pV st fun v r => ae_pV r fun w r => Nat.beq (ae_cat v) 1 && (Nat.beq (ae_cat w) 1 && K env nx lv (v :: w :: v :: w :: r) H)
  | .pop => fun nx a b c d LL env H nL lim rt pc lv st K C Rt => ae_pV st fun v r => Nat.beq (ae_cat v) 1 && K env nx lv r H
  | .goto _ => fun nx a b c d LL env H nL lim rt pc lv st K C Rt => K env a lv st H
  | .if_icmp q _ => fun nx a b c d LL env H nL lim rt pc lv st K C Rt => ae_pS env st fun y r => ae_pS env r fun x r => ae_br env q x y fun env t => K env (bif t then a else nx) lv r H
  | .ifCond q _ => fun nx a b c d LL env H nL lim rt pc lv st K C Rt => ae_pS env st fun x r => ae_br env q x (.inl 0) fun env t => K env (bif t then a else nx) lv r H
  | .tableswitch df lo hi os => fun nx a b c d LL env H nL lim rt pc lv st K C Rt => ae_pS env st fun x r => (match x with
    | .inl n => K env (ae_ts pc df lo hi os (Int32.ofInt n).toInt) lv r H
    | .inr i => (match env[i]? with
      | some w => (bif decide (w.1 ≤ min w.2 (lo - 1)) then K (env.set i (w.1, min w.2 (lo - 1))) (ae_tgt pc df) lv r H else true) && ((bif decide (max w.1 (hi + 1) ≤ w.2) then K (env.set i (max w.1 (hi + 1), w.2)) (ae_tgt pc df) lv r H else true) && (List.range (hi - lo + 1).toNat).all (fun j => bif decide (w.1 ≤ lo + j) && decide (lo + j ≤ w.2) then K (env.set i (lo + j, lo + j)) (ae_tgt pc ((os[j]?).getD 0)) lv r H else true))
      | none => false))
  | .getfield _ => fun nx a b c d LL env H nL lim rt pc lv st K C Rt => !(Nat.beq b 20) && ae_pR st fun o r => ae_ob (ae_so H o) b && (match am_kd b a with
    | 0 => K env nx lv (ae_iv (ae_lk H.1 o a (.inl 0)) :: r) H
    | 1 => false
    | _ => (match ae_lk H.2.1 o a none with
      | some x => K env nx lv (.inr (.inr (.inl x)) :: r) H
      | none => false))
  | .putfield _ => fun nx a b c d LL env H nL lim rt pc lv st K C Rt => (match am_kd b a with
    | 0 => ae_pS env st fun x r => ae_pR r fun o r => ae_ob (ae_so H o) b && (ae_fit (am_fty b a) x && K env nx lv r (ae_wI H o a x))
    | 1 => ae_pL st fun _ r => ae_pR r fun o r => ae_ob (ae_so H o) b && K env nx lv r H
    | _ => ae_pR st fun x r => ae_pR r fun o r => ae_ob (ae_so H o) b && K env nx lv r (ae_wR H o a (some x)))
  | .iaload => fun nx a b c d LL env H nL lim rt pc lv st K C Rt => ae_pI env st fun j r => ae_pR r fun o r => bif Nat.beq o 3000000 then (match j with
      | .ofNat j => Nat.blt j LL && K env nx lv (.inr (.inl j) :: r) H
      | _ => false) else ae_ar (ae_so H o) 13 j fun j => K env nx lv (ae_iv (ae_lk H.1 o j (.inl 0)) :: r) H
  | .baload => fun nx a b c d LL env H nL lim rt pc lv st K C Rt => ae_pI env st fun j r => ae_pR r fun o r => bif Nat.beq o 3000000 then false else ae_ar (ae_so H o) 15 j fun j => K env nx lv (ae_iv (ae_lk H.1 o j (.inl 0)) :: r) H
  | .aaload => fun nx a b c d LL env H nL lim rt pc lv st K C Rt => ae_pI env st fun j r => ae_pR r fun o r => bif Nat.beq o 3000000 then false else (ae_ar (ae_so H o) 16 j (fun _ => true) || ae_ar (ae_so H o) 17 j (fun _ => true)) && (match ae_lk H.2.1 o j.toNat none with
      | some x => K env nx lv (.inr (.inr (.inl x)) :: r) H
      | none => false)
  | .iastore => fun nx a b c d LL env H nL lim rt pc lv st K C Rt => ae_pS env st fun x r => ae_pI env r fun j r => ae_pR r fun o r => ae_ar (ae_so H o) 13 j fun j => K env nx lv r (ae_wI H o j x)
  | .bastore => fun nx a b c d LL env H nL lim rt pc lv st K C Rt => ae_pI env st fun x r => ae_pI env r fun j r => ae_pR r fun o r => ae_ar (ae_so H o) 15 j fun j => K env nx lv r (ae_wI H o j (.inl (vp_nar .boolean (Int32.ofInt x)).toInt))
  | .lastore => fun nx a b c d LL env H nL lim rt pc lv st K C Rt => ae_pL st fun _ r => ae_pI env r fun j r => ae_pR r fun o r => ae_ar (ae_so H o) 14 j fun _ => K env nx lv r H
  | .aastore => fun nx a b c d LL env H nL lim rt pc lv st K C Rt => ae_pR st fun x r => ae_pI env r fun j r => ae_pR r fun o r => (ae_ar (ae_so H o) 16 j (fun _ => ae_ob (ae_so H x) 5) || ae_ar (ae_so H o) 17 j (fun _ => ae_ob (ae_so H x) 6)) && K env nx lv r (ae_wR H o j.toNat (some x))
  | .new _ => fun nx a b c d LL env H nL lim rt pc lv st K C Rt => ae_new H lim b 0 && K env nx lv (.inr (.inr (.inl H.2.2.1)) :: st) (ae_nx H)
  | .newarray _ => fun nx a b c d LL env H nL lim rt pc lv st K C Rt => ae_pI env st fun n r => ae_new H lim b n && K env nx lv (.inr (.inr (.inl H.2.2.1)) :: r) (ae_nx H)
  | .anewarray _ => fun nx a b c d LL env H nL lim rt pc lv st K C Rt => ae_pI env st fun n r => ae_new H lim b n && K env nx lv (.inr (.inr (.inl H.2.2.1)) :: r) (ae_nx H)
  | .arraylength => fun nx a b c d LL env H nL lim rt pc lv st K C Rt => ae_pR st fun o r => bif Nat.beq o 3000000 then Nat.blt 0 LL && K env nx lv (.inl LL :: r) H else false
  | .invokevirtual _ => fun nx a b c d LL env H nL lim rt pc lv st K C Rt => (match ae_pop b [] st with
    | some (As, .inr (.inr (.inl o)) :: r) => ae_ob (ae_so H o) d && (!(Nat.beq d 20) && Nat.ble ((r.map ae_cat).sum) 8 && (Nat.ble (H.2.2.1 + am_al a) lim && C a (.inr (.inr (.inl o)) :: As) nx r))
    | _ => false)
  | .invokespecial _ => fun nx a b c d LL env H nL lim rt pc lv st K C Rt => (match ae_pop b [] st with
    | some (As, .inr (.inr (.inl o)) :: r) => Nat.ble ((r.map ae_cat).sum) 8 && (bif Nat.beq a 1 then (match As with
      | [] => K env nx lv r H
      | _ => false) else Nat.ble (H.2.2.1 + am_al a) lim && C a (.inr (.inr (.inl o)) :: As) nx r)
    | _ => false)
  | .invokestatic _ => fun nx a b c d LL env H nL lim rt pc lv st K C Rt => (match ae_pop b [] st with
    | some (As, r) => Nat.ble ((r.map ae_cat).sum) 8 && (Nat.ble (H.2.2.1 + am_al a) lim && C a As nx r)
    | _ => false)
  | .ireturn => fun nx a b c d LL env H nL lim rt pc lv st K C Rt => (match st with
    | [x] => ae_pS env [x] fun x _ => (match rt with
      | some ty => ae_fit ty x && Rt (some (ae_iv x))
      | none => false)
    | _ => false)
  | .return_ => fun nx a b c d LL env H nL lim rt pc lv st K C Rt => (match st with
    | [] => (match rt with
      | none => Rt none
      | _ => false)
    | _ => false)
  | _ => fun nx a b c d LL env H nL lim rt pc lv st K C Rt => false
/-- which symbol must be gone through before an instruction -/
def ae_sy (env : ae_e) (st : List ae_v) (k : Nat) : Option Nat := match st[k]? with
  | some a => (match ae_n env a with
    | .inr (.inl i) => some i
    | _ => none)
  | none => none
def ae_nd (i : Instr) : List Nat := match i with
  | .iadd | .isub | .imul | .ior | .ixor | .idiv | .irem | .ishl | .ishr | .iushr => [0, 1]
  | .ineg | .iaload | .baload | .aaload => [0]
  | .iastore | .bastore | .lastore | .aastore => [1]
  | _ => []
def ae_args : Nat → List ae_v → ae_l
  | _, [] => []
  | i, v :: vs => (i, v) :: ae_args (bif Nat.beq (ae_cat v) 2 then i + 2 else i + 1) vs
/-- the run: calls that are known (asm: the answer's symbol, the first object that stays known); exits ex, what holds there fin; the last answer fr -/
def ae_go (LL : Nat) (asm : Nat → List ae_v → ae_H → Option (Nat × Nat)) (ex : Nat → Bool) (fin : ae_e → Nat → ae_l → List ae_v → ae_H → Bool) (fr : ae_e → Option ae_v → ae_H → Bool) : Nat → ae_e → Nat → ae_H → ae_F → List ae_F → Bool
  | 0, _, _, _, _, _ => false
  | f + 1, env, d, H, (rows, nL, rt, lim, pc, lv, st), fs => bif fs.isEmpty && ex pc then fin env pc lv st H else (match am_find rows pc with
    | none => false
    | some r => (match (ae_nd r.1).findSome? (ae_sy env st) with
      | some i => ae_all env i (fun env => ae_go LL asm ex fin fr f env d H (rows, nL, rt, lim, pc, lv, st) fs)
      | none => ae_stp r.1 r.2.1 r.2.2.1 r.2.2.2.1 r.2.2.2.2.1 r.2.2.2.2.2 LL env H nL lim rt pc lv st (fun env pc lv st H => ae_go LL asm ex fin fr f env d H (rows, nL, rt, lim, pc, lv, st) fs)
        (fun a As nx rest => match asm a As H with
          | some w => Nat.ble 10 d && (Nat.ble H.2.2.2 w.2 && (Nat.beq (am_al a) 0 && ae_go LL asm ex fin fr f env d (H.1, H.2.1, H.2.2.1, w.2) (rows, nL, rt, lim, nx, lv, .inr (.inl w.1) :: rest) fs))
          | none => match d with
          | 0 => false
          | d + 1 => (match am_inf[a]? with
            | some q => Nat.ble ((As.map ae_cat).sum) q.2.1 && ae_go LL asm ex fin fr f env d H (q.1, q.2.1, q.2.2, H.2.2.1 + am_al a, 0, ae_args 0 As, []) ((rows, nL, rt, lim, nx, lv, rest) :: fs)
            | none => false))
        (fun v => match fs with
          | [] => fr env v H
          | (rows', nL', rt', lim', pc', lv', st') :: fs' => Nat.beq H.2.2.1 lim && ae_go LL asm ex fin fr f env (d + 1) H (rows', nL', rt', lim', pc', lv', v.toList ++ st') fs')))
end
section
/-! THE CHECKER IS SOUND -/
variable {ρ : Nat → Int32} {env : ae_e} {H : ae_H} {h : am_H} {LL : Nat}
/-- the symbols lie in their intervals; symbol 7 is the call's number -/
def ae_in (ρ : Nat → Int32) (env : ae_e) : Prop := (∀ (i : Nat) (q : Int × Int), env[i]? = some q → q.1 ≤ (ρ i).toInt ∧ (ρ i).toInt ≤ q.2) ∧ ρ 7 = ρ 0 &&& 63
def ae_cl (ρ : Nat → Int32) (lv : ae_l) : am_V := lv.map (fun q => (q.1, ae_c ρ q.2))
def ae_R (ρ : Nat → Int32) (LL : Nat) (H : ae_H) (h : am_H) : Prop := h.2.2.2.2 = H.2.2.1 ∧ (0 < LL → h.2.2.2.1 = LL) ∧ H.2.2.1 ≤ 175 ∧ (∀ o k, H.2.2.2 ≤ o ∧ o < H.2.2.1 → h.1 o k = ae_ci ρ (ae_lk H.1 o k (.inl 0))) ∧ (∀ o k, H.2.2.2 ≤ o ∧ o < H.2.2.1 → h.2.2.1 o k = ae_lk H.2.1 o k none) ∧ (∀ j, j < LL → h.1 3000000 j = ρ j) ∧ (∀ o k, H.2.2.1 ≤ o → ae_lk H.1 o k (.inl 0) = .inl 0) ∧ (∀ o k, H.2.2.1 ≤ o → ae_lk H.2.1 o k none = none)
theorem ae_beq (a b : Nat) : Nat.beq a b = decide (a = b) := by
  cases hq : Nat.beq a b with
  | true => rw [decide_eq_true (Nat.eq_of_beq_eq_true hq)]
  | false => rw [decide_eq_false (Nat.ne_of_beq_eq_false hq)]
theorem ae_b2 (a b c d : Nat) : (Nat.beq a b && Nat.beq c d) = decide (c = d ∧ a = b) := by
  rw [ae_beq, ae_beq]
  by_cases h1 : a = b <;> by_cases h2 : c = d <;> simp [h1, h2]
theorem ae_cond {α : Type} {c : Prop} [Decidable c] (x y : α) : (bif decide c then x else y) = if c then x else y := by
  by_cases h : c <;> simp [h]
theorem ae_lk_up {α : Type} (l : List (Nat × Nat × α)) (o k o' k' : Nat) (v d : α) : ae_lk (ae_up l o k v) o' k' d = if o' = o ∧ k' = k then v else ae_lk l o' k' d := by
  induction l with
  | nil =>
    simp only [ae_up, ae_lk, ae_b2, ae_cond]
    by_cases hh : o = o' ∧ k = k'
    · rw [if_pos hh, if_pos ⟨hh.1.symm, hh.2.symm⟩]
    · rw [if_neg hh, if_neg (fun q => hh ⟨q.1.symm, q.2.symm⟩)]
  | cons q r ih =>
    simp only [ae_up, ae_b2, ae_cond]
    by_cases h1 : q.1 = o ∧ q.2.1 = k
    · rw [if_pos h1]
      simp only [ae_lk, ae_b2, ae_cond]
      by_cases hh : o = o' ∧ k = k'
      · rw [if_pos hh, if_pos ⟨hh.1.symm, hh.2.symm⟩]
      · rw [if_neg hh, if_neg (fun q => hh ⟨q.1.symm, q.2.symm⟩), if_neg (fun z => hh ⟨by rw [← h1.1]; exact z.1, by rw [← h1.2]; exact z.2⟩)]
    · rw [if_neg h1]
      simp only [ae_lk, ae_b2, ae_cond, ih]
      by_cases h2 : q.1 = o' ∧ q.2.1 = k'
      · rw [if_pos h2, if_pos h2, if_neg (fun z => h1 ⟨by rw [h2.1, z.1], by rw [h2.2, z.2]⟩)]
      · rw [if_neg h2, if_neg h2]
theorem ae_n_c (hin : ae_in ρ env) (a : ae_v) : ae_c ρ (ae_n env a) = ae_c ρ a := by
  unfold ae_n
  split
  · rename_i i
    split
    · rename_i q hq
      by_cases hh : q.1 = q.2
      · rw [decide_eq_true hh]
        have h1 := hin.1 i q hq
        have h2 : (ρ i).toInt = q.1 := by omega
        show Value.int (Int32.ofInt q.1) = Value.int (ρ i)
        rw [← h2, Int32.ofInt_toInt]
      · rw [decide_eq_false hh]
        rfl
    · rfl
  · rfl
theorem ae_cat_c (a : ae_v) : (ae_c ρ a).category = ae_cat a := by
  rcases a with n | i | o | n | i <;> rfl
theorem ae_iv_c (x : Int ⊕ Nat) : ae_c ρ (ae_iv x) = .int (ae_ci ρ x) := by cases x <;> rfl
theorem ae_pI_inv (hin : ae_in ρ env) {st : List ae_v} {k : Int → List ae_v → Bool} (hs : ae_pI env st k = true) : ∃ n r, st.map (ae_c ρ) = .int (Int32.ofInt n) :: r.map (ae_c ρ) ∧ k n r = true := by
  unfold ae_pI at hs
  split at hs
  · rename_i a r
    split at hs
    · rename_i n hn
      refine ⟨n, r, ?_, hs⟩
      rw [List.map_cons, ← ae_n_c hin a, hn]
      rfl
    · cases hs
  · cases hs
theorem ae_pS_inv (hin : ae_in ρ env) {st : List ae_v} {k : Int ⊕ Nat → List ae_v → Bool} (hs : ae_pS env st k = true) : ∃ x r, st.map (ae_c ρ) = .int (ae_ci ρ x) :: r.map (ae_c ρ) ∧ k x r = true := by
  unfold ae_pS at hs
  split at hs
  · rename_i a r
    split at hs
    · rename_i n hn
      refine ⟨.inl n, r, ?_, hs⟩
      rw [List.map_cons, ← ae_n_c hin a, hn]
      rfl
    · rename_i n hn
      refine ⟨.inr n, r, ?_, hs⟩
      rw [List.map_cons, ← ae_n_c hin a, hn]
      rfl
    · cases hs
  · cases hs
theorem ae_pR_inv {st : List ae_v} {k : Nat → List ae_v → Bool} (hs : ae_pR st k = true) : ∃ o r, st.map (ae_c ρ) = .ref o :: r.map (ae_c ρ) ∧ k o r = true := by
  unfold ae_pR at hs
  split at hs
  · exact ⟨_, _, rfl, hs⟩
  · cases hs
theorem ae_pL_inv {st : List ae_v} {k : ae_v → List ae_v → Bool} (hs : ae_pL st k = true) : ∃ a x r, ae_c ρ a = .long x ∧ st.map (ae_c ρ) = .long x :: r.map (ae_c ρ) ∧ k a r = true := by
  unfold ae_pL at hs
  split at hs
  · rename_i x r
    rcases x with n | i
    · exact ⟨_, Int64.ofInt n, r, rfl, rfl, hs⟩
    · exact ⟨_, ae_lc ρ i, r, rfl, rfl, hs⟩
  · cases hs
theorem ae_pL_inv2 {st : List ae_v} {k : ae_v → List ae_v → Bool} (hs : ae_pL st k = true) : ∃ x r, st.map (ae_c ρ) = ae_c ρ (.inr (.inr (.inr x))) :: r.map (ae_c ρ) ∧ k (.inr (.inr (.inr x))) r = true := by
  unfold ae_pL at hs
  split at hs
  · exact ⟨_, _, rfl, hs⟩
  · cases hs
theorem ae_pV_inv {st : List ae_v} {k : ae_v → List ae_v → Bool} (hs : ae_pV st k = true) : ∃ a r, st.map (ae_c ρ) = ae_c ρ a :: r.map (ae_c ρ) ∧ k a r = true := by
  unfold ae_pV at hs
  split at hs
  · exact ⟨_, _, rfl, hs⟩
  · cases hs
theorem ae_lv_c (lv : ae_l) (i : Nat) : am_lk (ae_cl ρ lv) i = (ae_lv lv i).map (ae_c ρ) := by
  induction lv with
  | nil => rfl
  | cons q r ih =>
    show (bif Nat.beq q.1 i then some (ae_c ρ q.2) else am_lk (ae_cl ρ r) i) = (bif Nat.beq q.1 i then some q.2 else ae_lv r i).map (ae_c ρ)
    rw [ih]
    cases Nat.beq q.1 i <;> rfl
theorem ae_li_inv {lv : ae_l} {i : Nat} {k : ae_v → Bool} (hs : ae_li lv i k = true) : ∃ a x, am_lk (ae_cl ρ lv) i = some (.int x) ∧ ae_c ρ a = .int x ∧ k a = true := by
  unfold ae_li at hs
  split at hs
  · rename_i n hn
    exact ⟨_, _, by rw [ae_lv_c, hn]; rfl, rfl, hs⟩
  · rename_i n hn
    exact ⟨_, _, by rw [ae_lv_c, hn]; rfl, rfl, hs⟩
  · cases hs
theorem ae_ll_inv {lv : ae_l} {i : Nat} {k : ae_v → Bool} (hs : ae_ll lv i k = true) : ∃ a x, am_lk (ae_cl ρ lv) i = some (.long x) ∧ ae_c ρ a = .long x ∧ k a = true := by
  unfold ae_ll at hs
  split at hs
  · rename_i x hn
    rcases x with n | j
    · exact ⟨_, Int64.ofInt n, by rw [ae_lv_c, hn]; rfl, rfl, hs⟩
    · exact ⟨_, ae_lc ρ j, by rw [ae_lv_c, hn]; rfl, rfl, hs⟩
  · cases hs
theorem ae_la_inv {lv : ae_l} {i : Nat} {k : ae_v → Bool} (hs : ae_la lv i k = true) : ∃ a x, am_lk (ae_cl ρ lv) i = some (.ref x) ∧ ae_c ρ a = .ref x ∧ k a = true := by
  unfold ae_la at hs
  split at hs
  · rename_i n hn
    exact ⟨_, _, by rw [ae_lv_c, hn]; rfl, rfl, hs⟩
  · cases hs
theorem ae_s1_c (lv : ae_l) (i : Nat) (v : ae_v) : ae_cl ρ (ae_s1 lv i v) = am_s1 (ae_cl ρ lv) i (ae_c ρ v) := by
  simp only [ae_cl, ae_s1, am_s1, List.map_cons, List.filter_map]
  congr 2
  apply List.filter_congr
  intro q _
  simp only [ae_beq, Function.comp, ae_cat_c]
  rfl
theorem ae_s2_c (lv : ae_l) (i : Nat) (v : ae_v) : ae_cl ρ (ae_s2 lv i v) = am_s2 (ae_cl ρ lv) i (ae_c ρ v) := by
  simp only [ae_cl, ae_s2, am_s2, List.map_cons, List.filter_map]
  congr 2
  apply List.filter_congr
  intro q _
  simp only [ae_beq, Function.comp, ae_cat_c]
  rfl
theorem ae_i2_c (f : Int32 → Int32 → Int32) (n m : Int) : ae_c ρ (ae_i2 f n m) = .int (f (Int32.ofInt n) (Int32.ofInt m)) := by
  show Value.int (Int32.ofInt (f (Int32.ofInt n) (Int32.ofInt m)).toInt) = _
  rw [Int32.ofInt_toInt]
theorem ae_ofI (x : Int32) : ae_c ρ (.inl x.toInt) = .int x := by
  show Value.int (Int32.ofInt x.toInt) = _
  rw [Int32.ofInt_toInt]
theorem ae_ofL (x : Int64) : ae_c ρ (.inr (.inr (.inr (.inl x.toInt)))) = .long x := by
  show Value.long (Int64.ofInt x.toInt) = _
  rw [Int64.ofInt_toInt]
theorem ae_bltd (a b : Nat) : Nat.blt a b = decide (a < b) := by
  cases hq : Nat.blt a b with
  | true => rw [decide_eq_true (show a < b from Nat.le_of_ble_eq_true hq)]
  | false =>
    rw [decide_eq_false]
    intro hlt
    have : Nat.blt a b = true := Nat.ble_eq_true_of_le hlt
    rw [hq] at this
    cases this
theorem ae_lc_0 {i : Nat} (h : i < 10) : ae_lc ρ i = (ρ i).toInt64 := by
  unfold ae_lc
  rw [ae_bltd, decide_eq_true (by omega : i < 100)]
  rfl
theorem ae_lc_1 {i : Nat} (h : i < 10) : ae_lc ρ (100 + i) = ae_sh ρ i := by
  unfold ae_lc
  rw [ae_bltd, ae_bltd, decide_eq_false (by omega : ¬ 100 + i < 100), decide_eq_true (by omega : 100 + i < 200), show 100 + i - 100 = i by omega]
  rfl
theorem ae_lc_2 {i : Nat} (h : i < 10) : ae_lc ρ (200 + i) = ae_mk ρ i := by
  unfold ae_lc
  rw [ae_bltd, ae_bltd, ae_bltd, decide_eq_false (by omega : ¬ 200 + i < 100), decide_eq_false (by omega : ¬ 200 + i < 200), decide_eq_true (by omega : 200 + i < 300), show 200 + i - 200 = i by omega]
  rfl
theorem ae_lc_3 {i j : Nat} (h : i < 10) (hj : j < 10) : ae_lc ρ (1000 + (10 * i + j)) = ae_sh ρ i ||| ae_mk ρ j := by
  unfold ae_lc
  rw [ae_bltd, ae_bltd, ae_bltd, decide_eq_false (by omega : ¬ 1000 + (10 * i + j) < 100), decide_eq_false (by omega : ¬ 1000 + (10 * i + j) < 200), decide_eq_false (by omega : ¬ 1000 + (10 * i + j) < 300), show (1000 + (10 * i + j) - 1000) / 10 = i by omega, show (1000 + (10 * i + j) - 1000) % 10 = j by omega]
  rfl
theorem ae_nI (n : Nat) : Int32.ofInt (n : Int) = nI n := by
  unfold nI
  first
    | rfl
    | exact Int32.ofInt_eq_ofNat
    | simp
theorem ae_in_set {i : Nat} {q : Int × Int} (hin : ae_in ρ env) (h1 : q.1 ≤ (ρ i).toInt) (h2 : (ρ i).toInt ≤ q.2) : ae_in ρ (env.set i q) := by
  refine ⟨fun j w hw => ?_, hin.2⟩
  by_cases hj : j = i
  · subst hj
    have hl : j < env.length := by
      have := (List.getElem?_eq_some_iff.mp hw).1
      simpa using this
    rw [List.getElem?_set_self hl] at hw
    cases hw
    exact ⟨h1, h2⟩
  · rw [List.getElem?_set_ne (fun z => hj z.symm)] at hw
    exact hin.1 j w hw
/-- a comparison of whole numbers -/
def ae_ti (q : Jvm.ClassFile.Cond) (x y : Int) : Prop := match q with
  | .eq => x = y
  | .ne => ¬ x = y
  | .lt => x < y
  | .ge => y ≤ x
  | .gt => y < x
  | .le => x ≤ y
theorem ae_ti_c (q : Jvm.ClassFile.Cond) (x y : Int32) : am_c q x y ↔ ae_ti q x.toInt y.toInt := by
  cases q
  · exact Int32.toInt_inj.symm
  · exact not_congr Int32.toInt_inj.symm
  · exact Int32.lt_iff_toInt_lt
  · exact Int32.le_iff_toInt_le
  · exact Int32.lt_iff_toInt_lt
  · exact Int32.le_iff_toInt_le
theorem ae_flip_ti (q : Jvm.ClassFile.Cond) (x y : Int) : ae_ti (ae_flip q) x y ↔ ae_ti q y x := by
  cases q
  · exact eq_comm
  · exact not_congr eq_comm
  all_goals exact Iff.rfl
theorem ae_cut_ok (q : Jvm.ClassFile.Cond) {lo hi m z : Int} (h1 : lo ≤ z) (h2 : z ≤ hi) : ∃ c ∈ ae_cut q lo hi m, (c.1 ≤ z ∧ z ≤ c.2.1) ∧ (ae_ti q z m ↔ c.2.2 = true) := by
  cases q
  case lt =>
    by_cases h : z < m
    · exact ⟨_, List.mem_cons_self, ⟨h1, by show z ≤ min hi (m - 1); omega⟩, by simp [ae_ti, h]⟩
    · exact ⟨_, List.mem_cons_of_mem _ List.mem_cons_self, ⟨by show max lo m ≤ z; omega, h2⟩, by simp [ae_ti, h]⟩
  case ge =>
    by_cases h : z < m
    · exact ⟨_, List.mem_cons_self, ⟨h1, by show z ≤ min hi (m - 1); omega⟩, by simp [ae_ti]; omega⟩
    · exact ⟨_, List.mem_cons_of_mem _ List.mem_cons_self, ⟨by show max lo m ≤ z; omega, h2⟩, by simp [ae_ti]; omega⟩
  case le =>
    by_cases h : z ≤ m
    · exact ⟨_, List.mem_cons_self, ⟨h1, by show z ≤ min hi m; omega⟩, by simp [ae_ti, h]⟩
    · exact ⟨_, List.mem_cons_of_mem _ List.mem_cons_self, ⟨by show max lo (m + 1) ≤ z; omega, h2⟩, by simp [ae_ti, h]⟩
  case gt =>
    by_cases h : z ≤ m
    · exact ⟨_, List.mem_cons_self, ⟨h1, by show z ≤ min hi m; omega⟩, by simp [ae_ti]; omega⟩
    · exact ⟨_, List.mem_cons_of_mem _ List.mem_cons_self, ⟨by show max lo (m + 1) ≤ z; omega, h2⟩, by simp [ae_ti]; omega⟩
  case eq =>
    by_cases h : z = m
    · exact ⟨_, List.mem_cons_self, ⟨by show max lo m ≤ z; omega, by show z ≤ min hi m; omega⟩, by simp [ae_ti, h]⟩
    · by_cases h3 : z < m
      · exact ⟨_, List.mem_cons_of_mem _ List.mem_cons_self, ⟨h1, by show z ≤ min hi (m - 1); omega⟩, by simp [ae_ti, h]⟩
      · exact ⟨_, List.mem_cons_of_mem _ (List.mem_cons_of_mem _ List.mem_cons_self), ⟨by show max lo (m + 1) ≤ z; omega, h2⟩, by simp [ae_ti, h]⟩
  case ne =>
    by_cases h : z = m
    · exact ⟨_, List.mem_cons_self, ⟨by show max lo m ≤ z; omega, by show z ≤ min hi m; omega⟩, by simp [ae_ti, h]⟩
    · by_cases h3 : z < m
      · exact ⟨_, List.mem_cons_of_mem _ List.mem_cons_self, ⟨h1, by show z ≤ min hi (m - 1); omega⟩, by simp [ae_ti, h]⟩
      · exact ⟨_, List.mem_cons_of_mem _ (List.mem_cons_of_mem _ List.mem_cons_self), ⟨by show max lo (m + 1) ≤ z; omega, h2⟩, by simp [ae_ti, h]⟩
theorem ae_br_inv (hin : ae_in ρ env) {q : Jvm.ClassFile.Cond} {x y : Int ⊕ Nat} {k : ae_e → Bool → Bool} (hs : ae_br env q x y k = true) : ∃ env' t, ae_in ρ env' ∧ k env' t = true ∧ (am_c q (ae_ci ρ x) (ae_ci ρ y) ↔ t = true) := by
  have pick : ∀ (q : Jvm.ClassFile.Cond) (i : Nat) (w : Int × Int) (m : Int), env[i]? = some w → (ae_cut q w.1 w.2 m).all (fun c => bif decide (c.1 ≤ c.2.1) then k (env.set i (c.1, c.2.1)) c.2.2 else true) = true → ∃ env' t, ae_in ρ env' ∧ k env' t = true ∧ (ae_ti q (ρ i).toInt m ↔ t = true) := by
    intro q i w m hw ha
    have hb := hin.1 i w hw
    obtain ⟨c, hc, ⟨c1, c2⟩, c3⟩ := ae_cut_ok q (m := m) hb.1 hb.2
    have h1 := List.all_eq_true.mp ha c hc
    rw [decide_eq_true (by omega : c.1 ≤ c.2.1)] at h1
    exact ⟨_, _, ae_in_set hin c1 c2, h1, c3⟩
  unfold ae_br at hs
  split at hs
  · rename_i n m
    refine ⟨env, _, hin, hs, ?_⟩
    cases q <;> simp [am_c, ae_cc, ae_ci]
  · rename_i i m
    split at hs
    · rename_i w hw
      obtain ⟨env', t, e1, e2, e3⟩ := pick q i w _ hw hs
      exact ⟨env', t, e1, e2, (ae_ti_c _ _ _).trans e3⟩
    · cases hs
  · rename_i m i
    split at hs
    · rename_i w hw
      obtain ⟨env', t, e1, e2, e3⟩ := pick (ae_flip q) i w _ hw hs
      exact ⟨env', t, e1, e2, (ae_ti_c _ _ _).trans ((ae_flip_ti q _ _).symm.trans e3)⟩
    · cases hs
  · rename_i i j
    rw [Bool.and_eq_true] at hs
    have e1 : i = j := Nat.eq_of_beq_eq_true hs.1
    subst e1
    refine ⟨env, _, hin, hs.2, ?_⟩
    rw [ae_ti_c]
    cases q <;> simp [ae_ti]
theorem ae_all_inv (hin : ae_in ρ env) {i : Nat} {k : ae_e → Bool} (hs : ae_all env i k = true) : ∃ env', ae_in ρ env' ∧ k env' = true := by
  unfold ae_all at hs
  split at hs
  · rename_i w hw
    rw [Bool.and_eq_true] at hs
    have hb := hin.1 i w hw
    have h1 := List.all_eq_true.mp hs.2 ((ρ i).toInt - w.1).toNat (List.mem_range.mpr (by omega))
    refine ⟨_, ae_in_set hin ?_ ?_, h1⟩
    · show w.1 + (((ρ i).toInt - w.1).toNat : Int) ≤ (ρ i).toInt
      omega
    · show (ρ i).toInt ≤ w.1 + (((ρ i).toInt - w.1).toNat : Int)
      omega
  · cases hs
theorem ae_shl_eq : ae_shl = am_shl := by decide +kernel
theorem ae_so_ok (hR : ae_R ρ LL H h) {o : Nat} {e : Nat × Nat} (hs : ae_so H o = some e) : am_so h o = some e := by
  unfold ae_so at hs
  unfold am_so
  rw [hR.1, ← ae_shl_eq]
  cases hq : Nat.blt o H.2.2.1 with
  | true =>
    rw [hq] at hs
    cases hz : Nat.ble H.2.2.2 o with
    | true =>
      rw [hz] at hs
      exact hs
    | false =>
      rw [hz] at hs
      cases hs
  | false =>
    rw [hq] at hs
    cases hs
theorem ae_so_lt (hR : ae_R ρ LL H h) {o : Nat} {e : Nat × Nat} (hs : ae_so H o = some e) : H.2.2.2 ≤ o ∧ o < H.2.2.1 := by
  have := (am_so_lt (ae_so_ok hR hs)).1
  rw [hR.1] at this
  refine ⟨?_, this⟩
  unfold ae_so at hs
  cases hz : Nat.ble H.2.2.2 o with
  | true => exact Nat.le_of_ble_eq_true hz
  | false =>
    rw [hz, Bool.and_false] at hs
    cases hs
theorem ae_sh_ok (hR : ae_R ρ LL H h) {o : Nat} {e : Nat × Nat} (hs : ae_so H o = some e) : am_sh h o = some e := by
  unfold am_sh
  have h1 := ae_so_lt hR hs
  have h2 := hR.2.2.1
  have : Nat.beq o 3000000 = false := by
    rw [ae_beq]
    exact decide_eq_false (by omega)
  rw [this]
  exact ae_so_ok hR hs
theorem ae_ob_inv {e : Option (Nat × Nat)} {b : Nat} (hs : ae_ob e b = true) : e = some (b, 0) := by
  unfold ae_ob at hs
  split at hs
  · rw [Bool.and_eq_true] at hs
    rw [Nat.eq_of_beq_eq_true hs.1, Nat.eq_of_beq_eq_true hs.2]
  · cases hs
theorem ae_ar_inv {e : Option (Nat × Nat)} {b : Nat} {j : Int} {k : Nat → Bool} (hs : ae_ar e b j k = true) : ∃ n i : Nat, e = some (b, n) ∧ j = (i : Int) ∧ i < n ∧ k i = true := by
  unfold ae_ar at hs
  split at hs
  · rename_i t n
    rw [Bool.and_eq_true] at hs
    obtain ⟨h1, h2⟩ := hs
    split at h2
    · rename_i i
      rw [Bool.and_eq_true] at h2
      exact ⟨n, i, by rw [Nat.eq_of_beq_eq_true h1], rfl, Nat.le_of_ble_eq_true h2.1, h2.2⟩
    · cases h2
  · cases hs
theorem ae_R_wI (hR : ae_R ρ LL H h) {o k : Nat} (ho : H.2.2.2 ≤ o ∧ o < H.2.2.1) (v : Int ⊕ Nat) : ae_R ρ LL (ae_wI H o k v) (am_wI h o k (ae_ci ρ v)) := by
  obtain ⟨r1, r2, r3, r4, r5, r6, r7, r8⟩ := hR
  refine ⟨r1, r2, r3, fun a b ha => ?_, r5, fun j hj => ?_, fun a b ha => ?_, r8⟩
  · show (if a = o ∧ b = k then ae_ci ρ v else h.1 a b) = ae_ci ρ (ae_lk (ae_up H.1 o k v) a b (.inl 0))
    rw [ae_lk_up]
    by_cases hh : a = o ∧ b = k
    · rw [if_pos hh, if_pos hh]
    · rw [if_neg hh, if_neg hh]
      exact r4 a b ha
  · show (if 3000000 = o ∧ j = k then ae_ci ρ v else h.1 3000000 j) = ρ j
    rw [if_neg (fun q => by omega)]
    exact r6 j hj
  · show ae_lk (ae_up H.1 o k v) a b (.inl 0) = .inl 0
    have ha : H.2.2.1 ≤ a := ha
    rw [ae_lk_up, if_neg (fun q => by omega)]
    exact r7 a b ha
theorem ae_R_wR (hR : ae_R ρ LL H h) {o k : Nat} (ho : H.2.2.2 ≤ o ∧ o < H.2.2.1) (v : Option Nat) : ae_R ρ LL (ae_wR H o k v) (am_wR h o k v) := by
  obtain ⟨r1, r2, r3, r4, r5, r6, r7, r8⟩ := hR
  refine ⟨r1, r2, r3, r4, fun a b ha => ?_, r6, r7, fun a b ha => ?_⟩
  · show (if a = o ∧ b = k then v else h.2.2.1 a b) = ae_lk (ae_up H.2.1 o k v) a b none
    rw [ae_lk_up]
    by_cases hh : a = o ∧ b = k
    · rw [if_pos hh, if_pos hh]
    · rw [if_neg hh, if_neg hh]
      exact r5 a b ha
  · show ae_lk (ae_up H.2.1 o k v) a b none = none
    have ha : H.2.2.1 ≤ a := ha
    rw [ae_lk_up, if_neg (fun q => by omega)]
    exact r8 a b ha
theorem ae_R_nx (hR : ae_R ρ LL H h) (hl : H.2.2.1 < 175) : ae_R ρ LL (ae_nx H) (am_nx h) := by
  obtain ⟨r1, r2, r3, r4, r5, r6, r7, r8⟩ := hR
  refine ⟨by show h.2.2.2.2 + 1 = H.2.2.1 + 1; rw [r1], r2, hl, fun a b ha => ?_, fun a b ha => ?_, fun j hj => ?_, fun a b ha => r7 a b (Nat.le_of_succ_le ha), fun a b ha => r8 a b (Nat.le_of_succ_le ha)⟩
  · show (if a = h.2.2.2.2 then 0 else h.1 a b) = _
    rw [r1]
    by_cases hh : a = H.2.2.1
    · rw [if_pos hh]
      show _ = ae_ci ρ (ae_lk H.1 a b (.inl 0))
      rw [r7 a b (by omega)]
      rfl
    · rw [if_neg hh]
      exact r4 a b (by have : H.2.2.2 ≤ a ∧ a < H.2.2.1 + 1 := ha; omega)
  · show (if a = h.2.2.2.2 then none else h.2.2.1 a b) = _
    rw [r1]
    by_cases hh : a = H.2.2.1
    · rw [if_pos hh]
      show _ = ae_lk H.2.1 a b none
      rw [r8 a b (by omega)]
    · rw [if_neg hh]
      exact r5 a b (by have : H.2.2.2 ≤ a ∧ a < H.2.2.1 + 1 := ha; omega)
  · show (if 3000000 = h.2.2.2.2 then 0 else h.1 3000000 j) = ρ j
    rw [if_neg (by rw [r1]; omega)]
    exact r6 j hj
theorem ae_new_inv (hR : ae_R ρ LL H h) {lim b : Nat} {n : Int} (hs : ae_new H lim b n = true) : ∃ m : Nat, n = (m : Int) ∧ am_shl[h.2.2.2.2]? = some (b, m) ∧ h.2.2.2.2 + 1 ≤ lim ∧ H.2.2.1 < 175 := by
  unfold ae_new at hs
  split at hs
  · rename_i t m hm
    rw [Bool.and_eq_true, Bool.and_eq_true] at hs
    rw [ae_shl_eq] at hm
    exact ⟨m, of_decide_eq_true hs.2.1, by rw [hR.1, hm, Nat.eq_of_beq_eq_true hs.1], by rw [hR.1]; exact Nat.le_of_ble_eq_true hs.2.2, am_sh_lt hm⟩
  · cases hs
theorem ae_fit_inv {ty : FieldType} {x : Int ⊕ Nat} (hs : ae_fit ty x = true) : narrow ty (.int (ae_ci ρ x)) = .int (ae_ci ρ x) ∧ fits ty (.int (ae_ci ρ x)) = true := by
  unfold ae_fit at hs
  split at hs
  · rw [Bool.and_eq_true] at hs
    exact ⟨of_decide_eq_true hs.1, hs.2⟩
  · rw [of_decide_eq_true hs]
    exact ⟨rfl, rfl⟩
theorem ae_pop_c : ∀ (n : Nat) (acc st : List ae_v), am_pop n (acc.map (ae_c ρ)) (st.map (ae_c ρ)) = (ae_pop n acc st).map (fun q => (q.1.map (ae_c ρ), q.2.map (ae_c ρ)))
  | 0, acc, st => rfl
  | n + 1, acc, v :: st => ae_pop_c n (v :: acc) st
  | n + 1, acc, [] => rfl
theorem ae_sum_c (r : List ae_v) : ((r.map (ae_c ρ)).map fun v => v.category).sum = (r.map ae_cat).sum := by
  rw [List.map_map]
  congr 1
  exact List.map_congr_left (fun a _ => ae_cat_c a)
end
section
/-! A STEP OF THE CHECKER -/
variable {ρ : Nat → Int32} {env : ae_e} {H : ae_H} {h : am_H} {LL : Nat}
theorem ae_kd3 (n : Nat) : n = 0 ∨ n = 1 ∨ ∃ m, n = m + 2 := by
  match n with
  | 0 => exact Or.inl rfl
  | 1 => exact Or.inr (Or.inl rfl)
  | m + 2 => exact Or.inr (Or.inr ⟨m, rfl⟩)
theorem ae_blt {a b : Nat} (h : Nat.blt a b = true) : a < b := Nat.le_of_ble_eq_true h
set_option maxHeartbeats 4000000 in
set_option maxRecDepth 20000 in
theorem ae_stp_ok {nL lim : Nat} {rt : Option FieldType} {pc nx a b c d : Nat} {i : Instr} {lv : ae_l} {st : List ae_v} {K : ae_e → Nat → ae_l → List ae_v → ae_H → Bool} {C : Nat → List ae_v → Nat → List ae_v → Bool} {Rt : Option ae_v → Bool} {cp : am_P} {S : Nat → am_V → List Value → am_H → Prop} {Qr : am_Q} (hin : ae_in ρ env) (hR : ae_R ρ LL H h)
    (hK : ∀ env' pc' lv' st' H', K env' pc' lv' st' H' = true → ae_in ρ env' → ∀ h', ae_R ρ LL H' h' → S pc' (ae_cl ρ lv') (st'.map (ae_c ρ)) h')
    (hC : ∀ a As nx rest, C a As nx rest = true → cp a (As.map (ae_c ρ)) h (fun v h' => S nx (ae_cl ρ lv) (v.toList ++ rest.map (ae_c ρ)) h'))
    (hRt : ∀ v, Rt v = true → Qr (v.map (ae_c ρ)) h)
    (hs : ae_stp i nx a b c d LL env H nL lim rt pc lv st K C Rt = true) : am_stp cp nL lim rt pc (i, nx, a, b, c, d) (ae_cl ρ lv) (st.map (ae_c ρ)) h S Qr := by
  have go : ∀ {env' : ae_e} {pc' : Nat} {lv' : ae_l} {st' : List ae_v} {H' : ae_H}, K env' pc' lv' st' H' = true → ae_in ρ env' → ∀ {h'}, ae_R ρ LL H' h' → S pc' (ae_cl ρ lv') (st'.map (ae_c ρ)) h' := fun k i _ r => hK _ _ _ _ _ k i _ r
  cases i
  case iconst n =>
    unfold ae_stp at hs
    dsimp only at hs
    exact go hs hin hR
  case bipush n =>
    unfold ae_stp at hs
    dsimp only at hs
    have q := go hs hin hR
    rw [List.map_cons, ae_ofI] at q
    exact q
  case sipush n =>
    unfold ae_stp at hs
    dsimp only at hs
    have q := go hs hin hR
    rw [List.map_cons, ae_ofI] at q
    exact q
  case ldc_w n =>
    unfold ae_stp at hs
    dsimp only at hs
    rw [Bool.and_eq_true] at hs
    have hb1 : Nat.beq b 1 = false := by
      cases hz : Nat.beq b 1 with
      | false => rfl
      | true => rw [hz] at hs; exact absurd hs.1 (by decide)
    have q := go hs.2 hin hR
    rw [List.map_cons, ae_ofI] at q
    show (bif Nat.beq b 1 then _ else _)
    rw [hb1]
    exact q
  case ldc n =>
    unfold ae_stp at hs
    dsimp only at hs
    rw [Bool.and_eq_true] at hs
    have hb1 : Nat.beq b 1 = false := by
      cases hz : Nat.beq b 1 with
      | false => rfl
      | true => rw [hz] at hs; exact absurd hs.1 (by decide)
    have q := go hs.2 hin hR
    rw [List.map_cons, ae_ofI] at q
    show (bif Nat.beq b 1 then _ else _)
    rw [hb1]
    exact q
  case lconst n =>
    unfold ae_stp at hs
    dsimp only at hs
    have q := go hs hin hR
    rw [List.map_cons, ae_ofL] at q
    exact q
  case ldc2_w n =>
    unfold ae_stp at hs
    dsimp only at hs
    have q := go hs hin hR
    rw [List.map_cons, ae_ofL] at q
    exact q
  case iload_n k =>
    unfold ae_stp at hs
    dsimp only at hs
    obtain ⟨x, y, e1, e2, hs1⟩ := ae_li_inv (ρ := ρ) hs
    have q := go hs1 hin hR
    rw [List.map_cons, e2] at q
    show am_li _ _ _
    unfold am_li
    rw [e1]
    exact q
  case iload k =>
    unfold ae_stp at hs
    dsimp only at hs
    obtain ⟨x, y, e1, e2, hs1⟩ := ae_li_inv (ρ := ρ) hs
    have q := go hs1 hin hR
    rw [List.map_cons, e2] at q
    show am_li _ _ _
    unfold am_li
    rw [e1]
    exact q
  case lload_n k =>
    unfold ae_stp at hs
    dsimp only at hs
    obtain ⟨x, y, e1, e2, hs1⟩ := ae_ll_inv (ρ := ρ) hs
    have q := go hs1 hin hR
    rw [List.map_cons, e2] at q
    show am_ll _ _ _
    unfold am_ll
    rw [e1]
    exact q
  case lload k =>
    unfold ae_stp at hs
    dsimp only at hs
    obtain ⟨x, y, e1, e2, hs1⟩ := ae_ll_inv (ρ := ρ) hs
    have q := go hs1 hin hR
    rw [List.map_cons, e2] at q
    show am_ll _ _ _
    unfold am_ll
    rw [e1]
    exact q
  case aload_n k =>
    unfold ae_stp at hs
    dsimp only at hs
    obtain ⟨x, y, e1, e2, hs1⟩ := ae_la_inv (ρ := ρ) hs
    have q := go hs1 hin hR
    rw [List.map_cons, e2] at q
    show am_la _ _ _
    unfold am_la
    rw [e1]
    exact q
  case aload k =>
    unfold ae_stp at hs
    dsimp only at hs
    obtain ⟨x, y, e1, e2, hs1⟩ := ae_la_inv (ρ := ρ) hs
    have q := go hs1 hin hR
    rw [List.map_cons, e2] at q
    show am_la _ _ _
    unfold am_la
    rw [e1]
    exact q
  case istore_n k =>
    unfold ae_stp at hs
    dsimp only at hs
    obtain ⟨x, r, e1, hs1⟩ := ae_pS_inv hin hs
    rw [Bool.and_eq_true] at hs1
    have q := go hs1.2 hin hR
    rw [ae_s1_c, ae_iv_c] at q
    rw [e1]
    exact ⟨ae_blt hs1.1, q⟩
  case lstore_n k =>
    unfold ae_stp at hs
    dsimp only at hs
    obtain ⟨x, y, r, e0, e1, hs1⟩ := ae_pL_inv (ρ := ρ) hs
    rw [Bool.and_eq_true] at hs1
    have q := go hs1.2 hin hR
    rw [ae_s2_c, e0] at q
    rw [e1]
    exact ⟨ae_blt hs1.1, q⟩
  case astore_n k =>
    unfold ae_stp at hs
    dsimp only at hs
    obtain ⟨x, r, e1, hs1⟩ := ae_pR_inv (ρ := ρ) hs
    rw [Bool.and_eq_true] at hs1
    have q := go hs1.2 hin hR
    rw [ae_s1_c] at q
    rw [e1]
    exact ⟨ae_blt hs1.1, q⟩
  case istore k =>
    unfold ae_stp at hs
    dsimp only at hs
    obtain ⟨x, r, e1, hs1⟩ := ae_pS_inv hin hs
    rw [Bool.and_eq_true] at hs1
    have q := go hs1.2 hin hR
    rw [ae_s1_c, ae_iv_c] at q
    rw [e1]
    exact ⟨ae_blt hs1.1, q⟩
  case lstore k =>
    unfold ae_stp at hs
    dsimp only at hs
    obtain ⟨x, y, r, e0, e1, hs1⟩ := ae_pL_inv (ρ := ρ) hs
    rw [Bool.and_eq_true] at hs1
    have q := go hs1.2 hin hR
    rw [ae_s2_c, e0] at q
    rw [e1]
    exact ⟨ae_blt hs1.1, q⟩
  case astore k =>
    unfold ae_stp at hs
    dsimp only at hs
    obtain ⟨x, r, e1, hs1⟩ := ae_pR_inv (ρ := ρ) hs
    rw [Bool.and_eq_true] at hs1
    have q := go hs1.2 hin hR
    rw [ae_s1_c] at q
    rw [e1]
    exact ⟨ae_blt hs1.1, q⟩
  case iinc k n =>
    unfold ae_stp at hs
    dsimp only at hs
    obtain ⟨x, y, e1, e2, hs1⟩ := ae_li_inv (ρ := ρ) hs
    obtain ⟨z, r, e3, hs2⟩ := ae_pI_inv hin hs1
    rw [Bool.and_eq_true] at hs2
    have q := go hs2.2 hin hR
    have e4 : y = Int32.ofInt z := by
      have w : [ae_c ρ x] = .int (Int32.ofInt z) :: r.map (ae_c ρ) := e3
      rw [e2] at w
      injection w with w1 w2
      injection w1
    rw [ae_s1_c, ae_i2_c, ← e4] at q
    show am_li _ _ _
    unfold am_li
    rw [e1]
    exact ⟨ae_blt hs2.1, q⟩
  case iadd =>
    unfold ae_stp at hs
    dsimp only at hs
    obtain ⟨y, r, e1, hs1⟩ := ae_pI_inv hin hs
    obtain ⟨x, r2, e2, hs2⟩ := ae_pI_inv hin hs1
    have q := go hs2 hin hR
    rw [List.map_cons, ae_i2_c] at q
    rw [e1, e2]
    exact q
  case isub =>
    unfold ae_stp at hs
    dsimp only at hs
    obtain ⟨y, r, e1, hs1⟩ := ae_pI_inv hin hs
    obtain ⟨x, r2, e2, hs2⟩ := ae_pI_inv hin hs1
    have q := go hs2 hin hR
    rw [List.map_cons, ae_i2_c] at q
    rw [e1, e2]
    exact q
  case imul =>
    unfold ae_stp at hs
    dsimp only at hs
    obtain ⟨y, r, e1, hs1⟩ := ae_pI_inv hin hs
    obtain ⟨x, r2, e2, hs2⟩ := ae_pI_inv hin hs1
    have q := go hs2 hin hR
    rw [List.map_cons, ae_i2_c] at q
    rw [e1, e2]
    exact q
  case ior =>
    unfold ae_stp at hs
    dsimp only at hs
    obtain ⟨y, r, e1, hs1⟩ := ae_pI_inv hin hs
    obtain ⟨x, r2, e2, hs2⟩ := ae_pI_inv hin hs1
    have q := go hs2 hin hR
    rw [List.map_cons, ae_i2_c] at q
    rw [e1, e2]
    exact q
  case ixor =>
    unfold ae_stp at hs
    dsimp only at hs
    obtain ⟨y, r, e1, hs1⟩ := ae_pI_inv hin hs
    obtain ⟨x, r2, e2, hs2⟩ := ae_pI_inv hin hs1
    have q := go hs2 hin hR
    rw [List.map_cons, ae_i2_c] at q
    rw [e1, e2]
    exact q
  case ishl =>
    unfold ae_stp at hs
    dsimp only at hs
    obtain ⟨y, r, e1, hs1⟩ := ae_pI_inv hin hs
    obtain ⟨x, r2, e2, hs2⟩ := ae_pI_inv hin hs1
    have q := go hs2 hin hR
    rw [List.map_cons, ae_i2_c] at q
    rw [e1, e2]
    exact q
  case ishr =>
    unfold ae_stp at hs
    dsimp only at hs
    obtain ⟨y, r, e1, hs1⟩ := ae_pI_inv hin hs
    obtain ⟨x, r2, e2, hs2⟩ := ae_pI_inv hin hs1
    have q := go hs2 hin hR
    rw [List.map_cons, ae_i2_c] at q
    rw [e1, e2]
    exact q
  case iushr =>
    unfold ae_stp at hs
    dsimp only at hs
    obtain ⟨y, r, e1, hs1⟩ := ae_pI_inv hin hs
    obtain ⟨x, r2, e2, hs2⟩ := ae_pI_inv hin hs1
    have q := go hs2 hin hR
    rw [List.map_cons, ae_i2_c] at q
    rw [e1, e2]
    exact q
  case iand =>
    unfold ae_stp at hs
    dsimp only at hs
    obtain ⟨y, r, e1, hs1⟩ := ae_pI_inv hin hs
    obtain ⟨x, r2, e2, hs2⟩ := ae_pS_inv hin hs1
    rcases x with x | x
    · have q := go hs2 hin hR
      rw [List.map_cons, ae_i2_c] at q
      rw [e1, e2]
      exact q
    · rw [Bool.and_eq_true, Bool.and_eq_true] at hs2
      have q := go hs2.2.2 hin hR
      have e3 : x = 0 := Nat.eq_of_beq_eq_true hs2.1
      have e4 : y = 63 := of_decide_eq_true hs2.2.1
      rw [e1, e2, e3, e4]
      have e5 : ae_c ρ (.inr (.inl 7)) = .int (ρ 0 &&& Int32.ofInt 63) := by
        show Value.int (ρ 7) = _
        rw [hin.2]
        rfl
      rw [List.map_cons, e5] at q
      exact q
  case idiv =>
    unfold ae_stp at hs
    dsimp only at hs
    obtain ⟨y, r, e1, hs1⟩ := ae_pI_inv hin hs
    obtain ⟨x, r2, e2, hs2⟩ := ae_pI_inv hin hs1
    rw [Bool.and_eq_true] at hs2
    have q := go hs2.2 hin hR
    rw [List.map_cons, ae_i2_c] at q
    rw [e1, e2]
    exact ⟨fun z => by simp [z] at hs2, q⟩
  case irem =>
    unfold ae_stp at hs
    dsimp only at hs
    obtain ⟨y, r, e1, hs1⟩ := ae_pI_inv hin hs
    obtain ⟨x, r2, e2, hs2⟩ := ae_pI_inv hin hs1
    rw [Bool.and_eq_true] at hs2
    have q := go hs2.2 hin hR
    rw [List.map_cons, ae_i2_c] at q
    rw [e1, e2]
    exact ⟨fun z => by simp [z] at hs2, q⟩
  case ineg =>
    unfold ae_stp at hs
    dsimp only at hs
    obtain ⟨y, r, e1, hs1⟩ := ae_pI_inv hin hs
    have q := go hs1 hin hR
    rw [List.map_cons, ae_ofI] at q
    rw [e1]
    exact q
  case i2l =>
    unfold ae_stp at hs
    dsimp only at hs
    obtain ⟨x, r, e1, hs1⟩ := ae_pS_inv hin hs
    rw [e1]
    rcases x with x | x
    · have q := go hs1 hin hR
      rw [List.map_cons, ae_ofL] at q
      exact q
    · have hs1 : (Nat.blt x 10 && K env nx lv (.inr (.inr (.inr (.inr x))) :: r) H) = true := hs1
      rw [Bool.and_eq_true] at hs1
      have q := go hs1.2 hin hR
      have e2 : ae_c ρ (.inr (.inr (.inr (.inr x)))) = .long (ρ x).toInt64 := by
        show Value.long (ae_lc ρ x) = _
        rw [ae_lc_0 (ae_blt hs1.1)]
      rw [List.map_cons, e2] at q
      exact q
  case lshl =>
    unfold ae_stp at hs
    dsimp only at hs
    obtain ⟨y, r, e1, hs1⟩ := ae_pI_inv hin hs
    obtain ⟨x, r2, e2, hs2⟩ := ae_pL_inv2 (ρ := ρ) hs1
    rw [e1, e2]
    rcases x with x | x
    · exact Bool.noConfusion hs2
    · have hs2 : (decide (y = 32) && (Nat.blt x 10 && K env nx lv (.inr (.inr (.inr (.inr (100 + x)))) :: r2) H)) = true := hs2
      rw [Bool.and_eq_true, Bool.and_eq_true] at hs2
      have q := go hs2.2.2 hin hR
      have hx := ae_blt hs2.2.1
      have e3 : ae_c ρ (.inr (.inr (.inr (.inr (100 + x))))) = .long ((ρ x).toInt64 <<< ((Int32.ofInt y).toInt64 &&& 63)) := by
        show Value.long (ae_lc ρ (100 + x)) = _
        rw [ae_lc_1 hx, of_decide_eq_true hs2.1]
        rfl
      have e4 : ae_c ρ (.inr (.inr (.inr (.inr x)))) = .long (ρ x).toInt64 := by
        show Value.long (ae_lc ρ x) = _
        rw [ae_lc_0 hx]
      rw [List.map_cons, e3] at q
      rw [e4]
      exact q
  case land =>
    unfold ae_stp at hs
    dsimp only at hs
    obtain ⟨y, r, e1, hs1⟩ := ae_pL_inv2 (ρ := ρ) hs
    obtain ⟨x, r2, e2, hs2⟩ := ae_pL_inv2 (ρ := ρ) hs1
    rw [e1, e2]
    rcases x with x | x
    · exact Bool.noConfusion hs2
    · rcases y with y | y
      · have hs2 : (decide (y = 4294967295) && (Nat.blt x 10 && K env nx lv (.inr (.inr (.inr (.inr (200 + x)))) :: r2) H)) = true := hs2
        rw [Bool.and_eq_true, Bool.and_eq_true] at hs2
        have q := go hs2.2.2 hin hR
        have hx := ae_blt hs2.2.1
        have e3 : ae_c ρ (.inr (.inr (.inr (.inr (200 + x))))) = .long ((ρ x).toInt64 &&& Int64.ofInt y) := by
          show Value.long (ae_lc ρ (200 + x)) = _
          rw [ae_lc_2 hx, of_decide_eq_true hs2.1]
          rfl
        have e4 : ae_c ρ (.inr (.inr (.inr (.inr x)))) = .long (ρ x).toInt64 := by
          show Value.long (ae_lc ρ x) = _
          rw [ae_lc_0 hx]
        rw [List.map_cons, e3] at q
        rw [e4]
        exact q
      · exact Bool.noConfusion hs2
  case lor =>
    unfold ae_stp at hs
    dsimp only at hs
    obtain ⟨y, r, e1, hs1⟩ := ae_pL_inv2 (ρ := ρ) hs
    obtain ⟨x, r2, e2, hs2⟩ := ae_pL_inv2 (ρ := ρ) hs1
    rw [e1, e2]
    rcases x with x | x
    · exact Bool.noConfusion hs2
    · rcases y with y | y
      · exact Bool.noConfusion hs2
      · have hs2 : ((Nat.ble 100 x && Nat.blt x 110) && ((Nat.ble 200 y && Nat.blt y 210) && K env nx lv (.inr (.inr (.inr (.inr (1000 + (10 * (x - 100) + (y - 200)))))) :: r2) H)) = true := hs2
        rw [Bool.and_eq_true, Bool.and_eq_true, Bool.and_eq_true, Bool.and_eq_true] at hs2
        obtain ⟨⟨g1, g2⟩, ⟨g3, g4⟩, g5⟩ := hs2
        have g1 := Nat.le_of_ble_eq_true g1
        have g2 := ae_blt g2
        have g3 := Nat.le_of_ble_eq_true g3
        have g4 := ae_blt g4
        have q := go g5 hin hR
        have e3 : ae_c ρ (.inr (.inr (.inr (.inr (1000 + (10 * (x - 100) + (y - 200))))))) = .long (ae_lc ρ x ||| ae_lc ρ y) := by
          show Value.long (ae_lc ρ _) = _
          rw [ae_lc_3 (by omega) (by omega), ← ae_lc_1 (ρ := ρ) (i := x - 100) (by omega), ← ae_lc_2 (ρ := ρ) (i := y - 200) (by omega), show 100 + (x - 100) = x by omega, show 200 + (y - 200) = y by omega]
        rw [List.map_cons, e3] at q
        exact q
  case dup =>
    unfold ae_stp at hs
    dsimp only at hs
    obtain ⟨v, r, e1, hs1⟩ := ae_pV_inv (ρ := ρ) hs
    rw [Bool.and_eq_true] at hs1
    rw [e1]
    exact ⟨by rw [ae_cat_c]; exact Nat.eq_of_beq_eq_true hs1.1, go hs1.2 hin hR⟩
  case pop =>
    unfold ae_stp at hs
    dsimp only at hs
    obtain ⟨v, r, e1, hs1⟩ := ae_pV_inv (ρ := ρ) hs
    rw [Bool.and_eq_true] at hs1
    rw [e1]
    exact ⟨by rw [ae_cat_c]; exact Nat.eq_of_beq_eq_true hs1.1, go hs1.2 hin hR⟩
  case dup2 =>
    unfold ae_stp at hs
    dsimp only at hs
    obtain ⟨v, r, e1, hs1⟩ := ae_pV_inv (ρ := ρ) hs
    obtain ⟨w, r2, e2, hs2⟩ := ae_pV_inv (ρ := ρ) hs1
    rw [Bool.and_eq_true, Bool.and_eq_true] at hs2
    rw [e1, e2]
    exact ⟨by rw [ae_cat_c]; exact Nat.eq_of_beq_eq_true hs2.1, by rw [ae_cat_c]; exact Nat.eq_of_beq_eq_true hs2.2.1, go hs2.2.2 hin hR⟩
  case goto o =>
    unfold ae_stp at hs
    dsimp only at hs
    exact go hs hin hR
  case if_icmp q o =>
    unfold ae_stp at hs
    dsimp only at hs
    obtain ⟨y, r, e1, hs1⟩ := ae_pS_inv hin hs
    obtain ⟨x, r2, e2, hs2⟩ := ae_pS_inv hin hs1
    obtain ⟨env', t, hin', hs3, hc⟩ := ae_br_inv hin hs2
    rw [e1, e2]
    have q := go hs3 hin' hR
    cases t
    · exact ⟨fun z => absurd (hc.mp z) (by decide), fun _ => q⟩
    · exact ⟨fun _ => q, fun z => absurd (hc.mpr rfl) z⟩
  case ifCond q o =>
    unfold ae_stp at hs
    dsimp only at hs
    obtain ⟨x, r, e1, hs1⟩ := ae_pS_inv hin hs
    obtain ⟨env', t, hin', hs3, hc⟩ := ae_br_inv hin hs1
    rw [e1]
    have q := go hs3 hin' hR
    cases t
    · exact ⟨fun z => absurd (hc.mp z) (by decide), fun _ => q⟩
    · exact ⟨fun _ => q, fun z => absurd (hc.mpr rfl) z⟩
  case tableswitch df lo hi os =>
    unfold ae_stp at hs
    dsimp only at hs
    obtain ⟨x, r, e1, hs1⟩ := ae_pS_inv hin hs
    rw [e1]
    rcases x with n | i
    · have q := go hs1 hin hR
      unfold ae_ts at q
      refine ⟨fun z => ?_, fun j hj hj2 => ?_⟩
      · have z : (Int32.ofInt n).toInt < lo ∨ hi < (Int32.ofInt n).toInt := z
        have e2 : (decide ((Int32.ofInt n).toInt < lo) || decide (hi < (Int32.ofInt n).toInt)) = true := by
          rw [Bool.or_eq_true, decide_eq_true_eq, decide_eq_true_eq]
          exact z
        rw [e2] at q
        exact q
      · have hj : (Int32.ofInt n).toInt = lo + j := hj
        have e2 : (decide ((Int32.ofInt n).toInt < lo) || decide (hi < (Int32.ofInt n).toInt)) = false := by
          rw [Bool.or_eq_false_iff]
          exact ⟨decide_eq_false (by omega), decide_eq_false (by omega)⟩
        rw [e2] at q
        have e3 : ((Int32.ofInt n).toInt - lo).toNat = j := by omega
        rw [e3] at q
        exact q
    · have hs1 : (match env[i]? with
        | some w => (bif decide (w.1 ≤ min w.2 (lo - 1)) then K (env.set i (w.1, min w.2 (lo - 1))) (ae_tgt pc df) lv r H else true) && ((bif decide (max w.1 (hi + 1) ≤ w.2) then K (env.set i (max w.1 (hi + 1), w.2)) (ae_tgt pc df) lv r H else true) && (List.range (hi - lo + 1).toNat).all (fun j => bif decide (w.1 ≤ lo + j) && decide (lo + j ≤ w.2) then K (env.set i (lo + j, lo + j)) (ae_tgt pc ((os[j]?).getD 0)) lv r H else true))
        | none => false) = true := hs1
      split at hs1
      · rename_i w hw
        rw [Bool.and_eq_true, Bool.and_eq_true] at hs1
        obtain ⟨k1, k2, k3⟩ := hs1
        have hb := hin.1 i w hw
        refine ⟨fun z => ?_, fun j hj hj2 => ?_⟩
        · have z : (ρ i).toInt < lo ∨ hi < (ρ i).toInt := z
          rcases z with z | z
          · rw [decide_eq_true (by omega : w.1 ≤ min w.2 (lo - 1))] at k1
            exact go k1 (ae_in_set hin hb.1 (by show (ρ i).toInt ≤ min w.2 (lo - 1); omega)) hR
          · rw [decide_eq_true (by omega : max w.1 (hi + 1) ≤ w.2)] at k2
            exact go k2 (ae_in_set hin (by show max w.1 (hi + 1) ≤ (ρ i).toInt; omega) hb.2) hR
        · have hj : (ρ i).toInt = lo + j := hj
          have k4 := List.all_eq_true.mp k3 j (List.mem_range.mpr (by omega))
          rw [decide_eq_true (by omega : w.1 ≤ lo + j), decide_eq_true (by omega : lo + j ≤ w.2)] at k4
          exact go k4 (ae_in_set hin (by show lo + (j : Int) ≤ (ρ i).toInt; omega) (by show (ρ i).toInt ≤ lo + (j : Int); omega)) hR
      · cases hs1
  case getfield k =>
    unfold ae_stp at hs
    dsimp only at hs
    rw [Bool.and_eq_true] at hs
    have hb1 : Nat.beq b 20 = false := by
      cases hz : Nat.beq b 20 with
      | false => rfl
      | true => rw [hz] at hs; exact absurd hs.1 (by decide)
    obtain ⟨o, r, e1, hs1⟩ := ae_pR_inv (ρ := ρ) hs.2
    show (bif Nat.beq b 20 then _ else _)
    rw [hb1]
    rw [Bool.and_eq_true] at hs1
    have ho := ae_ob_inv hs1.1
    have hlt := ae_so_lt hR ho
    have hs2 := hs1.2
    rw [e1]
    refine ⟨ae_sh_ok hR ho, ?_⟩
    unfold am_gv
    rcases ae_kd3 (am_kd b a) with hk | hk | ⟨m, hk⟩
    · rw [hk] at hs2 ⊢
      have q := go hs2 hin hR
      rw [List.map_cons, ae_iv_c, ← hR.2.2.2.1 o a hlt] at q
      exact q
    · rw [hk] at hs2
      cases hs2
    · rw [hk] at hs2 ⊢
      have hs2 : (match ae_lk H.2.1 o a none with
        | some x => K env nx lv (.inr (.inr (.inl x)) :: r) H
        | none => false) = true := hs2
      split at hs2
      · rename_i x hx
        have q := go hs2 hin hR
        show S nx (ae_cl ρ lv) (am_rf (h.2.2.1 o a) :: r.map (ae_c ρ)) h
        rw [hR.2.2.2.2.1 o a hlt, hx]
        exact q
      · cases hs2
  case putfield k =>
    unfold ae_stp at hs
    unfold am_stp
    dsimp only at hs ⊢
    rcases ae_kd3 (am_kd b a) with hk | hk | ⟨m, hk⟩
    · rw [hk] at hs ⊢
      obtain ⟨x, r, e1, hs1⟩ := ae_pS_inv hin hs
      obtain ⟨o, r2, e2, hs2⟩ := ae_pR_inv (ρ := ρ) hs1
      rw [Bool.and_eq_true, Bool.and_eq_true] at hs2
      have ho := ae_ob_inv hs2.1
      rw [e1, e2]
      exact ⟨ae_sh_ok hR ho, (ae_fit_inv hs2.2.1).1, (ae_fit_inv hs2.2.1).2, go hs2.2.2 hin (ae_R_wI hR (ae_so_lt hR ho) x)⟩
    · rw [hk] at hs ⊢
      obtain ⟨x, y, r, e0, e1, hs1⟩ := ae_pL_inv (ρ := ρ) hs
      obtain ⟨o, r2, e2, hs2⟩ := ae_pR_inv (ρ := ρ) hs1
      rw [Bool.and_eq_true] at hs2
      have ho := ae_ob_inv hs2.1
      rw [e1, e2]
      exact ⟨ae_sh_ok hR ho, go hs2.2 hin (h' := am_wL h o a y) hR⟩
    · rw [hk] at hs ⊢
      obtain ⟨x, r, e1, hs1⟩ := ae_pR_inv (ρ := ρ) hs
      obtain ⟨o, r2, e2, hs2⟩ := ae_pR_inv (ρ := ρ) hs1
      rw [Bool.and_eq_true] at hs2
      have ho := ae_ob_inv hs2.1
      rw [e1, e2]
      exact ⟨ae_sh_ok hR ho, go hs2.2 hin (ae_R_wR hR (ae_so_lt hR ho) (some x))⟩
  case iaload =>
    unfold ae_stp at hs
    dsimp only at hs
    obtain ⟨j, r, e1, hs1⟩ := ae_pI_inv hin hs
    obtain ⟨o, r2, e2, hs2⟩ := ae_pR_inv (ρ := ρ) hs1
    rw [e1, e2]
    cases hq : Nat.beq o 3000000 with
    | true =>
      rw [hq] at hs2
      have ho : o = 3000000 := Nat.eq_of_beq_eq_true hq
      subst ho
      cases j with
      | ofNat j =>
        have hs3 : (Nat.blt j LL && K env nx lv (.inr (.inl j) :: r2) H) = true := hs2
        rw [Bool.and_eq_true] at hs3
        have hj := ae_blt hs3.1
        have q := go hs3.2 hin hR
        refine ⟨j, LL, by show some (13, h.2.2.2.1) = _; rw [hR.2.1 (by omega)], hj, ae_nI j, ?_⟩
        rw [hR.2.2.2.2.2.1 j hj]
        exact q
      | negSucc j => exact absurd (show false = true from hs2) (by decide)
    | false =>
      rw [hq] at hs2
      obtain ⟨n, j', h1, h2, h3, h4⟩ := ae_ar_inv hs2
      subst h2
      have q := go h4 hin hR
      rw [List.map_cons, ae_iv_c, ← hR.2.2.2.1 o j' (ae_so_lt hR h1)] at q
      exact ⟨j', n, ae_sh_ok hR h1, h3, ae_nI j', q⟩
  case baload =>
    unfold ae_stp at hs
    dsimp only at hs
    obtain ⟨j, r, e1, hs1⟩ := ae_pI_inv hin hs
    obtain ⟨o, r2, e2, hs2⟩ := ae_pR_inv (ρ := ρ) hs1
    rw [e1, e2]
    cases hq : Nat.beq o 3000000 with
    | true =>
      rw [hq] at hs2
      cases hs2
    | false =>
      rw [hq] at hs2
      obtain ⟨n, j', h1, h2, h3, h4⟩ := ae_ar_inv hs2
      subst h2
      have q := go h4 hin hR
      rw [List.map_cons, ae_iv_c, ← hR.2.2.2.1 o j' (ae_so_lt hR h1)] at q
      exact Or.inl ⟨j', n, ae_sh_ok hR h1, h3, ae_nI j', q⟩
  case aaload =>
    unfold ae_stp at hs
    dsimp only at hs
    obtain ⟨j, r, e1, hs1⟩ := ae_pI_inv hin hs
    obtain ⟨o, r2, e2, hs2⟩ := ae_pR_inv (ρ := ρ) hs1
    rw [e1, e2]
    cases hq : Nat.beq o 3000000 with
    | true =>
      rw [hq] at hs2
      cases hs2
    | false =>
      rw [hq] at hs2
      have hs2 : ((ae_ar (ae_so H o) 16 j (fun _ => true) || ae_ar (ae_so H o) 17 j (fun _ => true)) && (match ae_lk H.2.1 o j.toNat none with
        | some x => K env nx lv (.inr (.inr (.inl x)) :: r2) H
        | none => false)) = true := hs2
      rw [Bool.and_eq_true, Bool.or_eq_true] at hs2
      obtain ⟨h0, hs3⟩ := hs2
      have h1 : ∃ t n j' : Nat, (t = 16 ∨ t = 17) ∧ ae_so H o = some (t, n) ∧ j = (j' : Int) ∧ j' < n := by
        rcases h0 with h0 | h0
        · obtain ⟨n, j', h1, h2, h3, -⟩ := ae_ar_inv h0
          exact ⟨16, n, j', Or.inl rfl, h1, h2, h3⟩
        · obtain ⟨n, j', h1, h2, h3, -⟩ := ae_ar_inv h0
          exact ⟨17, n, j', Or.inr rfl, h1, h2, h3⟩
      obtain ⟨t, n, j', ht, h1, h2, h3⟩ := h1
      subst h2
      split at hs3
      · rename_i x hx
        have q := go hs3 hin hR
        refine ⟨j', n, ?_, h3, ae_nI j', ?_⟩
        · have h5 := ae_sh_ok hR h1
          rcases ht with rfl | rfl
          · exact Or.inl h5
          · exact Or.inr h5
        · rw [hR.2.2.2.2.1 o j' (ae_so_lt hR h1)]
          have hx : ae_lk H.2.1 o j' none = some x := hx
          rw [hx]
          exact q
      · cases hs3
  case iastore =>
    unfold ae_stp at hs
    dsimp only at hs
    obtain ⟨x, r, e1, hs1⟩ := ae_pS_inv hin hs
    obtain ⟨j, r2, e2, hs2⟩ := ae_pI_inv hin hs1
    obtain ⟨o, r3, e3, hs3⟩ := ae_pR_inv (ρ := ρ) hs2
    obtain ⟨n, j', h1, h2, h3, h4⟩ := ae_ar_inv hs3
    subst h2
    rw [e1, e2, e3]
    exact ⟨j', n, ae_so_ok hR h1, h3, ae_nI j', go h4 hin (ae_R_wI hR (ae_so_lt hR h1) x)⟩
  case bastore =>
    unfold ae_stp at hs
    dsimp only at hs
    obtain ⟨x, r, e1, hs1⟩ := ae_pI_inv hin hs
    obtain ⟨j, r2, e2, hs2⟩ := ae_pI_inv hin hs1
    obtain ⟨o, r3, e3, hs3⟩ := ae_pR_inv (ρ := ρ) hs2
    obtain ⟨n, j', h1, h2, h3, h4⟩ := ae_ar_inv hs3
    subst h2
    rw [e1, e2, e3]
    have w := ae_R_wI (k := j') hR (ae_so_lt hR h1) (.inl (vp_nar .boolean (Int32.ofInt x)).toInt)
    have e5 : ae_ci ρ (.inl (vp_nar .boolean (Int32.ofInt x)).toInt) = vp_nar .boolean (Int32.ofInt x) := Int32.ofInt_toInt _
    rw [e5] at w
    exact ⟨j', n, ae_so_ok hR h1, h3, ae_nI j', go h4 hin w⟩
  case lastore =>
    unfold ae_stp at hs
    dsimp only at hs
    obtain ⟨x, y, r, e0, e1, hs1⟩ := ae_pL_inv (ρ := ρ) hs
    obtain ⟨j, r2, e2, hs2⟩ := ae_pI_inv hin hs1
    obtain ⟨o, r3, e3, hs3⟩ := ae_pR_inv (ρ := ρ) hs2
    obtain ⟨n, j', h1, h2, h3, h4⟩ := ae_ar_inv hs3
    subst h2
    rw [e1, e2, e3]
    exact ⟨j', n, ae_so_ok hR h1, h3, ae_nI j', go h4 hin (h' := am_wL h o j' y) hR⟩
  case aastore =>
    unfold ae_stp at hs
    dsimp only at hs
    obtain ⟨x, r, e1, hs1⟩ := ae_pR_inv (ρ := ρ) hs
    obtain ⟨j, r2, e2, hs2⟩ := ae_pI_inv hin hs1
    obtain ⟨o, r3, e3, hs3⟩ := ae_pR_inv (ρ := ρ) hs2
    rw [Bool.and_eq_true, Bool.or_eq_true] at hs3
    rw [e1, e2, e3]
    rcases hs3 with ⟨h0 | h0, hs4⟩
    · obtain ⟨n, j', h1, h2, h3, h4⟩ := ae_ar_inv h0
      subst h2
      exact ⟨j', n, Or.inl ⟨ae_so_ok hR h1, ae_so_ok hR (ae_ob_inv h4)⟩, h3, ae_nI j', go hs4 hin (ae_R_wR hR (ae_so_lt hR h1) (some x))⟩
    · obtain ⟨n, j', h1, h2, h3, h4⟩ := ae_ar_inv h0
      subst h2
      exact ⟨j', n, Or.inr ⟨ae_so_ok hR h1, ae_so_ok hR (ae_ob_inv h4)⟩, h3, ae_nI j', go hs4 hin (ae_R_wR hR (ae_so_lt hR h1) (some x))⟩
  case new k =>
    unfold ae_stp at hs
    dsimp only at hs
    have hs0 : (ae_new H lim b 0 && K env nx lv (.inr (.inr (.inl H.2.2.1)) :: st) (ae_nx H)) = true := hs
    rw [Bool.and_eq_true] at hs0
    obtain ⟨m, h1, h2, h3, h4⟩ := ae_new_inv hR hs0.1
    have h5 : m = 0 := by omega
    subst h5
    have q := go hs0.2 hin (ae_R_nx hR h4)
    have e5 : ae_c ρ (.inr (.inr (.inl H.2.2.1))) = .ref h.2.2.2.2 := by rw [hR.1]; rfl
    rw [List.map_cons, e5] at q
    exact ⟨h2, h3, q⟩
  case newarray t =>
    unfold ae_stp at hs
    dsimp only at hs
    obtain ⟨n, r, e1, hs1⟩ := ae_pI_inv hin hs
    rw [Bool.and_eq_true] at hs1
    obtain ⟨m, h1, h2, h3, h4⟩ := ae_new_inv hR hs1.1
    subst h1
    have q := go hs1.2 hin (ae_R_nx hR h4)
    have e5 : ae_c ρ (.inr (.inr (.inl H.2.2.1))) = .ref h.2.2.2.2 := by rw [hR.1]; rfl
    rw [List.map_cons, e5] at q
    rw [e1]
    exact ⟨m, h2, ae_nI m, h3, q⟩
  case anewarray k =>
    unfold ae_stp at hs
    dsimp only at hs
    obtain ⟨n, r, e1, hs1⟩ := ae_pI_inv hin hs
    rw [Bool.and_eq_true] at hs1
    obtain ⟨m, h1, h2, h3, h4⟩ := ae_new_inv hR hs1.1
    subst h1
    have q := go hs1.2 hin (ae_R_nx hR h4)
    have e5 : ae_c ρ (.inr (.inr (.inl H.2.2.1))) = .ref h.2.2.2.2 := by rw [hR.1]; rfl
    rw [List.map_cons, e5] at q
    rw [e1]
    exact ⟨m, h2, ae_nI m, h3, q⟩
  case arraylength =>
    unfold ae_stp at hs
    dsimp only at hs
    obtain ⟨o, r, e1, hs1⟩ := ae_pR_inv (ρ := ρ) hs
    rw [e1]
    cases hq : Nat.beq o 3000000 with
    | true =>
      rw [hq] at hs1
      have ho : o = 3000000 := Nat.eq_of_beq_eq_true hq
      subst ho
      have hs1 : (Nat.blt 0 LL && K env nx lv (.inl LL :: r) H) = true := hs1
      rw [Bool.and_eq_true] at hs1
      have q := go hs1.2 hin hR
      have e5 : ae_c ρ (.inl (LL : Int)) = .int (nI LL) := by
        show Value.int (Int32.ofInt (LL : Int)) = _
        rw [ae_nI]
      rw [List.map_cons, e5] at q
      exact Or.inl ⟨13, LL, by show some (13, h.2.2.2.1) = _; rw [hR.2.1 (ae_blt hs1.1)], by decide, q⟩
    | false =>
      rw [hq] at hs1
      cases hs1
  case invokevirtual k =>
    unfold ae_stp at hs
    unfold am_stp
    dsimp only at hs ⊢
    have hp := ae_pop_c (ρ := ρ) b [] st
    rw [List.map_nil] at hp
    rw [hp]
    split at hs
    · rename_i As o r hpop
      rw [hpop]
      rw [Bool.and_eq_true, Bool.and_eq_true, Bool.and_eq_true, Bool.and_eq_true] at hs
      obtain ⟨h1, ⟨hd, h2⟩, h3, h4⟩ := hs
      refine ⟨Or.inl ⟨fun z => by rw [z] at hd; exact absurd hd (by decide), ae_sh_ok hR (ae_ob_inv h1)⟩, ?_, by rw [hR.1]; exact Nat.le_of_ble_eq_true h3, hC _ _ _ _ h4⟩
      show ((r.map (ae_c ρ)).map fun v => v.category).sum ≤ 8
      rw [ae_sum_c]
      exact Nat.le_of_ble_eq_true h2
    · cases hs
  case invokespecial k =>
    unfold ae_stp at hs
    unfold am_stp
    dsimp only at hs ⊢
    have hp := ae_pop_c (ρ := ρ) b [] st
    rw [List.map_nil] at hp
    rw [hp]
    split at hs
    · rename_i As o r hpop
      rw [hpop]
      rw [Bool.and_eq_true] at hs
      obtain ⟨h2, h5⟩ := hs
      refine ⟨?_, ?_⟩
      · show ((r.map (ae_c ρ)).map fun v => v.category).sum ≤ 8
        rw [ae_sum_c]
        exact Nat.le_of_ble_eq_true h2
      · cases hq : Nat.beq a 1 with
        | true =>
          rw [hq] at h5
          cases As with
          | nil => exact ⟨rfl, go (show K env nx lv r H = true from h5) hin hR⟩
          | cons x y => exact absurd (show false = true from h5) (by decide)
        | false =>
          rw [hq] at h5
          have h5 : (Nat.ble (H.2.2.1 + am_al a) lim && C a (.inr (.inr (.inl o)) :: As) nx r) = true := h5
          rw [Bool.and_eq_true] at h5
          exact ⟨by rw [hR.1]; exact Nat.le_of_ble_eq_true h5.1, hC _ _ _ _ h5.2⟩
    · cases hs
  case invokestatic k =>
    unfold ae_stp at hs
    unfold am_stp
    dsimp only at hs ⊢
    have hp := ae_pop_c (ρ := ρ) b [] st
    rw [List.map_nil] at hp
    rw [hp]
    split at hs
    · rename_i As r hpop
      rw [hpop]
      rw [Bool.and_eq_true, Bool.and_eq_true] at hs
      obtain ⟨h2, h3, h4⟩ := hs
      refine ⟨?_, by rw [hR.1]; exact Nat.le_of_ble_eq_true h3, hC _ _ _ _ h4⟩
      show ((r.map (ae_c ρ)).map fun v => v.category).sum ≤ 8
      rw [ae_sum_c]
      exact Nat.le_of_ble_eq_true h2
    · cases hs
  case ireturn =>
    unfold ae_stp at hs
    dsimp only at hs
    split at hs
    · rename_i x
      obtain ⟨y, r, e1, hs1⟩ := ae_pS_inv hin hs
      have e2 : ae_c ρ x = .int (ae_ci ρ y) := by
        have w : [ae_c ρ x] = .int (ae_ci ρ y) :: r.map (ae_c ρ) := e1
        injection w
      split at hs1
      · rename_i ty
        rw [Bool.and_eq_true] at hs1
        have q := hRt _ hs1.2
        rw [Option.map_some, ae_iv_c] at q
        rw [List.map_cons, List.map_nil, e2]
        exact ⟨⟨ty, rfl, (ae_fit_inv hs1.1).1⟩, q⟩
      · cases hs1
    · cases hs
  case return_ =>
    unfold ae_stp at hs
    dsimp only at hs
    split at hs
    · split at hs
      · exact ⟨rfl, hRt _ hs⟩
      · cases hs
    · cases hs
  all_goals exact Bool.noConfusion hs
end
section
/-! A RUN OF THE CHECKER -/
variable {ρ : Nat → Int32} {LL : Nat}
def ae_ex (fs : List ae_F) (E : Nat → am_V → List Value → am_H → Prop) : Nat → am_V → List Value → am_H → Prop := match fs with
  | [] => E
  | _ :: _ => fun _ _ _ _ => False
def ae_qr (ρ : Nat → Int32) (E : Nat → am_V → List Value → am_H → Prop) (Q : am_Q) : List ae_F → Nat → Nat → am_Q
  | [], _, _ => Q
  | (rows, nL, rt, lim', pc, lv, st) :: fs, d, lim => fun v h => h.2.2.2.2 = lim ∧ am_X (am_call am_cod (d + 1)) nL lim' rt (am_find rows) (ae_ex fs E) (ae_qr ρ E Q fs (d + 1) lim') pc (ae_cl ρ lv) (v.toList ++ st.map (ae_c ρ)) h
def ae_sm (ρ : Nat → Int32) (E : Nat → am_V → List Value → am_H → Prop) (Q : am_Q) (fs : List ae_F) (d : Nat) (rows : List (Nat × am_R)) (nL : Nat) (rt : Option FieldType) (lim : Nat) : Nat → am_V → List Value → am_H → Prop :=
  am_X (am_call am_cod d) nL lim rt (am_find rows) (ae_ex fs E) (ae_qr ρ E Q fs d lim)
theorem ae_args_c : ∀ (As : List ae_v) (i : Nat), ae_cl ρ (ae_args i As) = lv_args i (As.map (ae_c ρ))
  | [], i => rfl
  | v :: vs, i => by
    show (i, ae_c ρ v) :: ae_cl ρ (ae_args (bif Nat.beq (ae_cat v) 2 then i + 2 else i + 1) vs) = (i, ae_c ρ v) :: lv_args (if (ae_c ρ v).category = 2 then i + 2 else i + 1) (vs.map (ae_c ρ))
    rw [ae_args_c vs, ae_beq, ae_cond, ae_cat_c]
theorem ae_sl_c : ∀ (As : List ae_v), (lg_sl (As.map (ae_c ρ))).length = (As.map ae_cat).sum
  | [] => rfl
  | v :: vs => by
    have ih := ae_sl_c vs
    unfold lg_sl at ih ⊢
    rw [List.map_cons, List.flatMap_cons, List.length_append, ih, List.map_cons, List.sum_cons, ae_cat_c]
    rcases v with n | i | o | n | i <;> rfl
set_option maxHeartbeats 4000000 in
theorem ae_go_ok {asm : Nat → List ae_v → ae_H → Option (Nat × Nat)} {ex : Nat → Bool} {fin : ae_e → Nat → ae_l → List ae_v → ae_H → Bool} {fr : ae_e → Option ae_v → ae_H → Bool} {E : Nat → am_V → List Value → am_H → Prop} {Q : am_Q}
    (hasm : ∀ a As H w, asm a As H = some w → ∀ h, ae_R ρ LL H h → am_call am_cod 10 a (As.map (ae_c ρ)) h (fun v h' => v = some (.int (ρ w.1)) ∧ ae_R ρ LL (H.1, H.2.1, H.2.2.1, w.2) h'))
    (hfin : ∀ env pc lv st H, ex pc = true → fin env pc lv st H = true → ae_in ρ env → ∀ h, ae_R ρ LL H h → E pc (ae_cl ρ lv) (st.map (ae_c ρ)) h) (hfr : ∀ env v H, fr env v H = true → ae_in ρ env → ∀ h, ae_R ρ LL H h → Q (v.map (ae_c ρ)) h) :
    ∀ f env d H rows nL rt lim pc lv st fs, ae_go LL asm ex fin fr f env d H (rows, nL, rt, lim, pc, lv, st) fs = true → ae_in ρ env → ∀ h, ae_R ρ LL H h → ae_sm ρ E Q fs d rows nL rt lim pc (ae_cl ρ lv) (st.map (ae_c ρ)) h := by
  intro f
  induction f with
  | zero => intro env d H rows nL rt lim pc lv st fs hs; cases hs
  | succ f ih =>
    intro env d H rows nL rt lim pc lv st fs hs hin h hR
    unfold ae_go at hs
    cases hx : (fs.isEmpty && ex pc) with
    | true =>
      rw [hx] at hs
      rw [Bool.and_eq_true] at hx
      have e1 : fs = [] := List.isEmpty_iff.mp hx.1
      subst e1
      exact am_xexit (hfin _ _ _ _ _ hx.2 hs hin h hR)
    | false =>
      rw [hx] at hs
      have hs : (match am_find rows pc with
        | none => false
        | some r => _) = true := hs
      split at hs
      · cases hs
      · rename_i r hr
        split at hs
        · rename_i i hi
          obtain ⟨env', h1, h2⟩ := ae_all_inv hin hs
          exact ih env' d H rows nL rt lim pc lv st fs h2 h1 h hR
        · obtain ⟨i, nx, a, b, c, dd⟩ := r
          refine am_xstep hr (ae_stp_ok hin hR (fun env' pc' lv' st' H' k i' h' r' => ih env' d H' rows nL rt lim pc' lv' st' fs k i' h' r') ?_ ?_ hs)
          · intro a As nx rest k
            cases hw : asm a As H with
            | some w =>
              rw [hw] at k
              have k : (Nat.ble 10 d && (Nat.ble H.2.2.2 w.2 && (Nat.beq (am_al a) 0 && ae_go LL asm ex fin fr f env d (H.1, H.2.1, H.2.2.1, w.2) (rows, nL, rt, lim, nx, lv, .inr (.inl w.1) :: rest) fs))) = true := k
              rw [Bool.and_eq_true, Bool.and_eq_true, Bool.and_eq_true] at k
              refine am_call.mono (fun v h' q => ?_) (am_call.up (hasm a As H w hw h hR) (Nat.le_of_ble_eq_true k.1))
              have z := ih env d (H.1, H.2.1, H.2.2.1, w.2) rows nL rt lim nx lv (.inr (.inl w.1) :: rest) fs k.2.2.2 hin h' q.2
              rw [q.1]
              exact z
            | none =>
            rw [hw] at k
            match d, k with
            | 0, k => exact Bool.noConfusion k
            | d + 1, k =>
              have k : (match am_inf[a]? with
                | some q => Nat.ble ((As.map ae_cat).sum) q.2.1 && ae_go LL asm ex fin fr f env d H (q.1, q.2.1, q.2.2, H.2.2.1 + am_al a, 0, ae_args 0 As, []) ((rows, nL, rt, lim, nx, lv, rest) :: fs)
                | none => false) = true := k
              split at k
              · rename_i q hq
                rw [Bool.and_eq_true] at k
                obtain ⟨e1, e2, -⟩ := am_inf_at hq
                have e3 : am_cod a = am_find q.1 := by
                  funext pc
                  unfold am_cod
                  rw [hq]
                have w := ih env d H q.1 q.2.1 q.2.2 (H.2.2.1 + am_al a) 0 (ae_args 0 As) [] ((rows, nL, rt, lim, nx, lv, rest) :: fs) k.2 hin h hR
                refine Or.inr ⟨by rw [ae_sl_c, ← e1]; exact Nat.le_of_ble_eq_true k.1, ?_⟩
                rw [e3, ← e1, ← e2, hR.1, ← ae_args_c]
                exact w
              · cases k
          · intro v k
            match fs, k with
            | [], k => exact hfr _ _ _ k hin h hR
            | (rows', nL', rt', lim', pc', lv', st') :: fs', k =>
              have k : (Nat.beq H.2.2.1 lim && ae_go LL asm ex fin fr f env (d + 1) H (rows', nL', rt', lim', pc', lv', v.toList ++ st') fs') = true := k
              rw [Bool.and_eq_true] at k
              have w := ih env (d + 1) H rows' nL' rt' lim' pc' lv' (v.toList ++ st') fs' k.2 hin h hR
              rw [List.map_append] at w
              refine ⟨by rw [hR.1]; exact Nat.eq_of_beq_eq_true k.1, ?_⟩
              cases v <;> exact w
/-- two heaps of the checker that say the same -/
def ae_same {α : Type} (eq : α → α → Bool) (l1 l2 : List (Nat × Nat × α)) (d : α) : Bool := l1.all (fun q => eq (ae_lk l2 q.1 q.2.1 d) q.2.2) && l2.all (fun q => eq (ae_lk l1 q.1 q.2.1 d) q.2.2)
theorem ae_lk_cases {α : Type} : ∀ (l : List (Nat × Nat × α)) (o k : Nat) (d : α), (∃ v, (o, k, v) ∈ l ∧ ae_lk l o k d = v) ∨ (ae_lk l o k d = d ∧ ∀ v, (o, k, v) ∉ l)
  | [], o, k, d => Or.inr ⟨rfl, fun v => List.not_mem_nil⟩
  | q :: r, o, k, d => by
    unfold ae_lk
    rw [ae_b2, ae_cond]
    by_cases hh : q.1 = o ∧ q.2.1 = k
    · rw [if_pos hh]
      exact Or.inl ⟨q.2.2, by rw [← hh.1, ← hh.2]; exact List.mem_cons_self, rfl⟩
    · rw [if_neg hh]
      rcases ae_lk_cases r o k d with ⟨v, h1, h2⟩ | ⟨h1, h2⟩
      · exact Or.inl ⟨v, List.mem_cons_of_mem _ h1, h2⟩
      · refine Or.inr ⟨h1, fun v hv => ?_⟩
        rcases List.mem_cons.mp hv with h3 | h3
        · exact hh ⟨by rw [← h3], by rw [← h3]⟩
        · exact h2 v h3
theorem ae_same_ok {α : Type} {eq : α → α → Bool} (heq : ∀ x y, eq x y = true → x = y) {l1 l2 : List (Nat × Nat × α)} {d : α} (hs : ae_same eq l1 l2 d = true) (o k : Nat) : ae_lk l1 o k d = ae_lk l2 o k d := by
  unfold ae_same at hs
  rw [Bool.and_eq_true] at hs
  rcases ae_lk_cases l1 o k d with ⟨v, h1, h2⟩ | ⟨h1, h2⟩
  · have h3 := heq _ _ (List.all_eq_true.mp hs.1 _ h1)
    rw [h2]
    exact h3.symm
  · rcases ae_lk_cases l2 o k d with ⟨v, h3, h4⟩ | ⟨h3, h4⟩
    · have h5 := heq _ _ (List.all_eq_true.mp hs.2 _ h3)
      rw [h4]
      exact h5
    · rw [h1, h3]
theorem ae_R_same {H H' : ae_H} {h : am_H} (hR : ae_R ρ LL H h) (h1 : ae_same (fun x y => decide (x = y)) H.1 H'.1 (.inl 0) = true) (h2 : ae_same (fun x y => decide (x = y)) H.2.1 H'.2.1 none = true) (h3 : H.2.2 = H'.2.2) : ae_R ρ LL H' h := by
  obtain ⟨r1, r2, r3, r4, r5, r6, r7, r8⟩ := hR
  have e1 := ae_same_ok (fun x y (q : decide (x = y) = true) => of_decide_eq_true q) h1
  have e2 := ae_same_ok (fun x y (q : decide (x = y) = true) => of_decide_eq_true q) h2
  have h4 := congrArg Prod.fst h3
  have h5 := congrArg Prod.snd h3
  refine ⟨r1.trans h4, r2, by rw [← h4]; exact r3, fun o k ho => ?_, fun o k ho => ?_, r6, fun o k ho => ?_, fun o k ho => ?_⟩
  · rw [← e1]
    exact r4 o k (by rw [h4, h5]; exact ho)
  · rw [← e2]
    exact r5 o k (by rw [h4, h5]; exact ho)
  · rw [← e1]
    exact r7 o k (by rw [h4]; exact ho)
  · rw [← e2]
    exact r8 o k (by rw [h4]; exact ho)
end
section
/-! THE START: what the constructors leave behind -/
def ae_H0 : ae_H := ([(0, 13, .inl (31)), (160, 3, .inl (-1))], [(0, 0, some 1), (0, 1, some 3), (0, 2, some 5), (0, 3, some 6), (0, 4, some 17), (0, 5, some 28), (0, 6, some 32), (0, 7, some 36), (0, 8, some 41), (0, 9, some 46), (0, 10, some 47), (0, 11, some 129), (1, 0, some 2), (3, 0, some 1), (3, 1, some 4), (4, 0, some 1), (5, 0, some 1), (6, 1, some 7), (6, 2, some 8), (6, 3, some 9), (6, 5, some 10), (6, 6, some 11), (6, 7, some 12), (6, 8, some 13), (6, 12, some 14), (14, 0, some 15), (14, 1, some 16), (17, 1, some 18), (17, 2, some 19), (17, 3, some 20), (17, 5, some 21), (17, 6, some 22), (17, 7, some 23), (17, 8, some 24), (17, 12, some 25), (25, 0, some 26), (25, 1, some 27), (28, 0, some 29), (28, 1, some 30), (28, 2, some 31), (32, 0, some 33), (32, 1, some 34), (32, 2, some 35), (36, 2, some 37), (36, 3, some 38), (36, 4, some 39), (36, 5, some 40), (41, 2, some 42), (41, 3, some 43), (41, 4, some 44), (41, 5, some 45), (47, 0, some 48), (48, 0, some 49), (49, 2, some 50), (49, 3, some 51), (49, 4, some 52), (49, 5, some 53), (48, 1, some 54), (54, 2, some 55), (54, 3, some 56), (54, 4, some 57), (54, 5, some 58), (48, 2, some 59), (59, 2, some 60), (59, 3, some 61), (59, 4, some 62), (59, 5, some 63), (48, 3, some 64), (64, 2, some 65), (64, 3, some 66), (64, 4, some 67), (64, 5, some 68), (48, 4, some 69), (69, 2, some 70), (69, 3, some 71), (69, 4, some 72), (69, 5, some 73), (48, 5, some 74), (74, 2, some 75), (74, 3, some 76), (74, 4, some 77), (74, 5, some 78), (48, 6, some 79), (79, 2, some 80), (79, 3, some 81), (79, 4, some 82), (79, 5, some 83), (48, 7, some 84), (84, 2, some 85), (84, 3, some 86), (84, 4, some 87), (84, 5, some 88), (48, 8, some 89), (89, 2, some 90), (89, 3, some 91), (89, 4, some 92), (89, 5, some 93), (48, 9, some 94), (94, 2, some 95), (94, 3, some 96), (94, 4, some 97), (94, 5, some 98), (48, 10, some 99), (99, 2, some 100), (99, 3, some 101), (99, 4, some 102), (99, 5, some 103), (48, 11, some 104), (104, 2, some 105), (104, 3, some 106), (104, 4, some 107), (104, 5, some 108), (48, 12, some 109), (109, 2, some 110), (109, 3, some 111), (109, 4, some 112), (109, 5, some 113), (48, 13, some 114), (114, 2, some 115), (114, 3, some 116), (114, 4, some 117), (114, 5, some 118), (48, 14, some 119), (119, 2, some 120), (119, 3, some 121), (119, 4, some 122), (119, 5, some 123), (48, 15, some 124), (124, 2, some 125), (124, 3, some 126), (124, 4, some 127), (124, 5, some 128), (129, 0, some 130), (130, 1, some 131), (131, 2, some 132), (131, 3, some 133), (131, 4, some 134), (131, 5, some 135), (129, 1, some 136), (136, 1, some 137), (137, 2, some 138), (137, 3, some 139), (137, 4, some 140), (137, 5, some 141), (129, 2, some 142), (142, 1, some 143), (143, 2, some 144), (143, 3, some 145), (143, 4, some 146), (143, 5, some 147), (129, 3, some 148), (148, 1, some 149), (149, 2, some 150), (149, 3, some 151), (149, 4, some 152), (149, 5, some 153), (154, 1, some 155), (154, 4, some 156), (154, 5, some 157), (154, 6, some 158), (154, 9, some 159), (154, 10, some 160), (154, 11, some 161), (154, 12, some 162), (154, 14, some 163), (154, 15, some 164), (154, 16, some 165), (154, 17, some 166), (154, 21, some 167), (154, 22, some 168), (154, 23, some 169), (154, 24, some 170), (154, 26, some 171), (154, 27, some 172), (154, 29, some 173)], 175, 0)
def ae_lv0 : ae_l := [(4, .inl 0), (3, .inr (.inr (.inl 174))), (2, .inr (.inr (.inl 154))), (1, .inr (.inr (.inl 0))), (0, .inr (.inr (.inl 3000000)))]
def ae_fin0 (_ : ae_e) (_ : Nat) (lv : ae_l) (st : List ae_v) (H : ae_H) : Bool := decide (lv = ae_lv0) && (st.isEmpty && (ae_same (fun x y => decide (x = y)) H.1 ae_H0.1 (.inl 0) && (ae_same (fun x y => decide (x = y)) H.2.1 ae_H0.2.1 none && decide (H.2.2 = (175, 0)))))
def ae_env0 : ae_e := [(-2147483648, 2147483647), (-2147483648, 2147483647), (-2147483648, 2147483647), (-2147483648, 2147483647), (-2147483648, 2147483647), (-2147483648, 2147483647), (-2147483648, 2147483647), (0, 63)]
theorem ae_run0 : ae_go 0 (fun _ _ _ => none) (fun pc => Nat.beq pc 23) ae_fin0 (fun _ _ _ => false) 9000 ae_env0 20 ([], [], 0, 0) (am_rL, 7, some .boolean, 175, 0, [(0, .inr (.inr (.inl 3000000)))], []) [] = true := by decide +kernel
end
section
/-! String.checkIndex: THE STATIC THAT IT TELLS ON, null or not, IS NOT LOOKED AT -/
variable {p : Program} {l : Launch} {e : Env} {R : Room} {s : State} {m : MethodId} {args : Array Value} {below : List Frame} {meth : Method} {c : Code} {Qw : State → Prop} {D : va_G} {cA : Nat → ClassId} {ad : Nat → Nat} {base b L nL : Nat} {xs : Nat → Int32} {own : String} {cc : ByteArray} {cp : am_P} {rt : Option FieldType} {c0 lim : Nat} {ini : Bool}
theorem am_X.inv1 {cod : Nat → Option am_R} {E : Nat → am_V → List Value → am_H → Prop} {Q : am_Q} {pc : Nat} {lv : am_V} {st : List Value} {h : am_H} {r : am_R} (hE : ¬ E pc lv st h) (hc : cod pc = some r) (k : am_X cp nL lim rt cod E Q pc lv st h) :
    ∃ (K0 : Nat → am_V → List Value → am_H → Prop) (Q0 : am_Q), am_stp cp nL lim rt pc r lv st h K0 Q0 ∧ (∀ pc lv st h, K0 pc lv st h → am_X cp nL lim rt cod E Q pc lv st h) ∧ (∀ v h, Q0 v h → Q v h) := by
  have key := k (fun pc lv st h => E pc lv st h ∨ ∃ (r : am_R) (K0 : Nat → am_V → List Value → am_H → Prop) (Q0 : am_Q), cod pc = some r ∧ am_stp cp nL lim rt pc r lv st h K0 Q0 ∧ (∀ pc lv st h, K0 pc lv st h → am_X cp nL lim rt cod E Q pc lv st h) ∧ (∀ v h, Q0 v h → Q v h)) (fun _ _ _ _ e => Or.inl e) (fun pc lv st h r K0 Q0 hc hs hk hq => Or.inr ⟨r, K0, Q0, hc, hs, fun pc lv st h q => by
    rcases hk pc lv st h q with z | ⟨r1, K1, Q1, hc1, hs1, hk1, hq1⟩
    · exact am_xexit z
    · exact fun P hE hP => hP _ _ _ _ r1 K1 Q1 hc1 hs1 (fun _ _ _ _ z => hk1 _ _ _ _ z P hE hP) hq1, hq⟩)
  rcases key with z | ⟨r', K0, Q0, hc', hs, hk, hq⟩
  · exact absurd z hE
  · cases hc.symm.trans hc'
    exact ⟨K0, Q0, hs, hk, hq⟩
theorem am_c47 : am_cod 47 = am_find am_r47 := by
  funext pc
  rfl
theorem am_c48 : am_cod 48 = am_find am_r48 := by
  funext pc
  rfl
theorem am_48_inv {d : Nat} {x y : Int32} {h : am_H} {Q : am_Q} (k : am_call am_cod d 48 [.int x, .int y, .int (Int32.ofInt 0)] h Q) : 1 ≤ d ∧ 0 ≤ x ∧ x < y ∧ Q (some (.int x)) h := by
  induction d with
  | zero => exact k.elim
  | succ d ih =>
    rcases k with k | ⟨-, k⟩
    · obtain ⟨a, q⟩ := ih k
      exact ⟨by omega, q⟩
    · refine ⟨by omega, ?_⟩
      unfold am_W at k
      rw [am_c48] at k
      have no9 : ∀ st, ¬ am_X (am_call am_cod d) (am_nL 48) (h.2.2.2.2 + am_al 48) (am_rt 48) (am_find am_r48) (fun _ _ _ _ => False) (fun v h' => h'.2.2.2.2 = h.2.2.2.2 + am_al 48 ∧ Q v h') 9 (lv_args 0 [.int x, .int y, .int (Int32.ofInt 0)]) st h := fun st k9 => by
        obtain ⟨K0, Q0, hs, -, -⟩ := am_X.inv1 (r := (.aload_n 2, 10, 0, 0, 0, 0)) (fun z => z) rfl k9
        have hs : am_la (lv_args 0 [.int x, .int y, .int (Int32.ofInt 0)]) 2 (fun o => K0 10 (lv_args 0 [.int x, .int y, .int (Int32.ofInt 0)]) (.ref o :: st) h) := hs
        obtain ⟨o, ho, -⟩ := am_la.inv hs
        cases ho
      obtain ⟨K0, Q0, hs, hk, -⟩ := am_X.inv1 (r := (.iload_n 0, 1, 0, 0, 0, 0)) (fun z => z) rfl k
      have k1 := hk _ _ _ _ (show K0 1 (lv_args 0 [.int x, .int y, .int (Int32.ofInt 0)]) [.int x] h from hs)
      obtain ⟨K1, Q1, hs, hk, -⟩ := am_X.inv1 (r := (.ifCond .lt 8, 4, 9, 0, 0, 0)) (fun z => z) rfl k1
      have hs : (x < 0 → K1 9 (lv_args 0 [.int x, .int y, .int (Int32.ofInt 0)]) [] h) ∧ (¬ x < 0 → K1 4 (lv_args 0 [.int x, .int y, .int (Int32.ofInt 0)]) [] h) := hs
      by_cases hx : x < 0
      · exact absurd (hk _ _ _ _ (hs.1 hx)) (no9 _)
      have k4 := hk _ _ _ _ (hs.2 hx)
      obtain ⟨K2, Q2, hs, hk, -⟩ := am_X.inv1 (r := (.iload_n 0, 5, 0, 0, 0, 0)) (fun z => z) rfl k4
      have k5 := hk _ _ _ _ (show K2 5 (lv_args 0 [.int x, .int y, .int (Int32.ofInt 0)]) [.int x] h from hs)
      obtain ⟨K3, Q3, hs, hk, -⟩ := am_X.inv1 (r := (.iload_n 1, 6, 0, 0, 0, 0)) (fun z => z) rfl k5
      have k6 := hk _ _ _ _ (show K3 6 (lv_args 0 [.int x, .int y, .int (Int32.ofInt 0)]) [.int y, .int x] h from hs)
      obtain ⟨K4, Q4, hs, hk, -⟩ := am_X.inv1 (r := (.if_icmp .lt 10, 9, 16, 0, 0, 0)) (fun z => z) rfl k6
      have hs : (x < y → K4 16 (lv_args 0 [.int x, .int y, .int (Int32.ofInt 0)]) [] h) ∧ (¬ x < y → K4 9 (lv_args 0 [.int x, .int y, .int (Int32.ofInt 0)]) [] h) := hs
      by_cases hy : x < y
      · have k16 := hk _ _ _ _ (hs.1 hy)
        obtain ⟨K5, Q5, hs, hk, -⟩ := am_X.inv1 (r := (.iload_n 0, 17, 0, 0, 0, 0)) (fun z => z) rfl k16
        have k17 := hk _ _ _ _ (show K5 17 (lv_args 0 [.int x, .int y, .int (Int32.ofInt 0)]) [.int x] h from hs)
        obtain ⟨K6, Q6, hs, -, hq⟩ := am_X.inv1 (r := (.ireturn, 18, 0, 0, 0, 0)) (fun z => z) rfl k17
        have hs : (∃ ty, am_rt 48 = some ty ∧ narrow ty (.int x) = .int x) ∧ Q6 (some (.int x)) h := hs
        exact ⟨Int32.not_lt.mp hx, hy, (hq _ _ hs.2).2⟩
      · exact absurd (hk _ _ _ _ (hs.2 hy)) (no9 _)
theorem am_sl_ge (vs : List Value) : vs.length ≤ (lg_sl vs).length := by
  induction vs with
  | nil => exact Nat.zero_le _
  | cons v r ih =>
    have e : (lg_sl (v :: r)).length = (if v.category = 2 then [Slot.val v, Slot.second] else [Slot.val v]).length + (lg_sl r).length := by
      unfold lg_sl
      rw [List.flatMap_cons, List.length_append]
    have e2 : 1 ≤ (if v.category = 2 then [Slot.val v, Slot.second] else [Slot.val v]).length := by
      split <;> simp
    rw [e, List.length_cons]
    omega
theorem am_47_inv {d : Nat} {As : List Value} {h : am_H} {Q : am_Q} (hlen : (lg_sl As).length ≤ 2) (k : am_X (am_call am_cod d) nL lim rt (am_find am_r47) (fun _ _ _ _ => False) Q 0 (lv_args 0 As) [] h) : ∃ x y : Int32, As = [.int x, .int y] ∧ 1 ≤ d ∧ 0 ≤ x ∧ x < y ∧ rt = none ∧ Q none h := by
  obtain ⟨K0, Q0, hs, hk, -⟩ := am_X.inv1 (r := (.iload_n 0, 1, 0, 0, 0, 0)) (fun z => z) rfl k
  have hs : am_li (lv_args 0 As) 0 (fun x => K0 1 (lv_args 0 As) [.int x] h) := hs
  obtain ⟨x, hx, hs⟩ := am_li.inv hs
  have k1 := hk _ _ _ _ hs
  obtain ⟨K1, Q1, hs, hk, -⟩ := am_X.inv1 (r := (.iload_n 1, 2, 0, 0, 0, 0)) (fun z => z) rfl k1
  have hs : am_li (lv_args 0 As) 1 (fun y => K1 2 (lv_args 0 As) [.int y, .int x] h) := hs
  obtain ⟨y, hy, hs⟩ := am_li.inv hs
  have k2 := hk _ _ _ _ hs
  have hA : As = [.int x, .int y] := by
    match As, hlen, hx, hy with
    | [], _, hx, _ => cases hx
    | [a], _, hx, hy =>
      cases hx
      cases hy
    | [a, b], _, hx, hy =>
      cases hx
      cases hy
      rfl
    | a :: b :: c :: r, hlen, _, _ =>
      have := am_sl_ge (a :: b :: c :: r)
      simp only [List.length_cons] at this
      omega
  subst hA
  obtain ⟨K2, Q2, hs, hk, -⟩ := am_X.inv1 (r := (.iconst 0, 5, 0, 0, 0, 0)) (fun z => z) rfl k2
  have k5 := hk _ _ _ _ (show K2 5 (lv_args 0 [.int x, .int y]) [.int (Int32.ofInt 0), .int y, .int x] h from hs)
  obtain ⟨K3, Q3, hs, hk, -⟩ := am_X.inv1 (r := (.invokestatic 1059, 8, 48, 3, 63, 0)) (fun z => z) rfl k5
  have hs : 0 ≤ 8 ∧ h.2.2.2.2 + am_al 48 ≤ lim ∧ am_call am_cod d 48 [.int x, .int y, .int (Int32.ofInt 0)] h (fun v h' => K3 8 (lv_args 0 [.int x, .int y]) (v.toList ++ []) h') := hs
  obtain ⟨h1, h2, h3, h4⟩ := am_48_inv hs.2.2
  have k8 := hk _ _ _ _ h4
  obtain ⟨K4, Q4, hs, hk, -⟩ := am_X.inv1 (r := (.pop, 9, 0, 0, 0, 0)) (fun z => z) rfl k8
  have hs : (Value.int x).category = 1 ∧ K4 9 (lv_args 0 [.int x, .int y]) [] h := hs
  have k9 := hk _ _ _ _ hs.2
  obtain ⟨K5, Q5, hs, -, hq⟩ := am_X.inv1 (r := (.return_, 10, 0, 0, 0, 0)) (fun z => z) rfl k9
  have hs : rt = none ∧ Q5 none h := hs
  exact ⟨x, y, rfl, h1, h2, h3, hs.1, hq _ _ hs.2⟩
theorem am_48_fwd {x y : Int32} {w : Value} {h : am_H} {Q : am_Q} (hw : w.category = 1) (hx : 0 ≤ x) (hy : x < y) (hQ : Q (some (.int x)) h) : am_call am_cod 1 48 [.int x, .int y, w] h Q := by
  refine Or.inr ⟨?_, ?_⟩
  · have e : (lg_sl [.int x, .int y, w]).length = 3 := by
      simp [lg_sl, hw]
      rfl
    rw [e]
    decide +kernel
  unfold am_W
  rw [am_c48]
  have e0 : am_al 48 = 0 := rfl
  rw [e0]
  refine am_xstep (r := (.iload_n 0, 1, 0, 0, 0, 0)) rfl (show am_X _ _ _ _ _ _ _ 1 (lv_args 0 [.int x, .int y, w]) [.int x] h from ?_)
  refine am_xstep (r := (.ifCond .lt 8, 4, 9, 0, 0, 0)) rfl (show (x < 0 → am_X _ _ _ _ _ _ _ 9 (lv_args 0 [.int x, .int y, w]) [] h) ∧ (¬ x < 0 → am_X _ _ _ _ _ _ _ 4 (lv_args 0 [.int x, .int y, w]) [] h) from ⟨fun z => absurd z (Int32.not_lt.mpr hx), fun _ => ?_⟩)
  refine am_xstep (r := (.iload_n 0, 5, 0, 0, 0, 0)) rfl (show am_X _ _ _ _ _ _ _ 5 (lv_args 0 [.int x, .int y, w]) [.int x] h from ?_)
  refine am_xstep (r := (.iload_n 1, 6, 0, 0, 0, 0)) rfl (show am_X _ _ _ _ _ _ _ 6 (lv_args 0 [.int x, .int y, w]) [.int y, .int x] h from ?_)
  refine am_xstep (r := (.if_icmp .lt 10, 9, 16, 0, 0, 0)) rfl (show (x < y → am_X _ _ _ _ _ _ _ 16 (lv_args 0 [.int x, .int y, w]) [] h) ∧ (¬ x < y → am_X _ _ _ _ _ _ _ 9 (lv_args 0 [.int x, .int y, w]) [] h) from ⟨fun _ => ?_, fun z => absurd hy z⟩)
  refine am_xstep (r := (.iload_n 0, 17, 0, 0, 0, 0)) rfl (show am_X _ _ _ _ _ _ _ 17 (lv_args 0 [.int x, .int y, w]) [.int x] h from ?_)
  exact am_xstep (r := (.ireturn, 18, 0, 0, 0, 0)) rfl (show (∃ ty, am_rt 48 = some ty ∧ narrow ty (.int x) = .int x) ∧ (h.2.2.2.2 = h.2.2.2.2 + 0 ∧ Q (some (.int x)) h) from ⟨⟨.int, by rfl, rfl⟩, rfl, hQ⟩)
def am_r47a : List (Nat × am_R) := [(0, (.iload_n 0, 1, 0, 0, 0, 0)), (1, (.iload_n 1, 2, 0, 0, 0, 0))]
def am_r47b : List (Nat × am_R) := [(5, (.invokestatic 1059, 8, 48, 3, 63, 0)), (8, (.pop, 9, 0, 0, 0, 0)), (9, (.return_, 10, 0, 0, 0, 0))]
theorem am_o47 : (am_r47a ++ am_r47b).all (fun q => am_okB false "java/lang/String" (am_by 47) q.1 q.2) = true := by decide +kernel
theorem am_n47 : (am_y 47 = am_47 ∧ am_nL 47 = 2 ∧ am_rt 47 = none ∧ am_al 47 = 0 ∧ plainFor am_47 = true) ∧ decode (am_by 47) 2 = .ok (.getstatic 1053, 3) ∧ am_fl[115]? = some ("java/lang/String", 1053, "jdk/internal/util/Preconditions", "SIOOBE_FORMATTER", "Ljava/util/function/BiFunction;") := by decide +kernel
theorem am_u47 : (List.range am_mi.length).all (fun n => decide (am_y n = am_47 → n = 47)) = true := by decide +kernel
theorem am_e47 {n : Nat} (h : am_y n = am_47) : n = 47 := by
  rcases Nat.lt_or_ge n am_mi.length with z | z
  · exact of_decide_eq_true (List.all_eq_true.mp am_u47 n (List.mem_range.mpr z)) h
  · unfold am_y at h
    rw [List.getElem?_eq_none z] at h
    exact absurd h (by decide)
set_option maxHeartbeats 4000000 in
theorem am_cix (hG : am_G ad base b L) (n : Nat) (hn : am_y n = am_47) (d : Nat) (ih : am_Mt l D cA ad base b L xs am_cod d) (As : List Value) (h : am_H) (Q : am_Q) (hlen : (lg_sl As).length ≤ am_nL n) (hW : am_W (am_call am_cod d) (am_nL n) (h.2.2.2.2 + am_al n) (am_rt n) (am_cod n) (fun v h' => h'.2.2.2.2 = h.2.2.2.2 + am_al n ∧ Q v h') 0 (lv_args 0 As) [] h) :
    Met l (am_y n) (am_ws n) (am_rm (d + 1) (am_al n) (am_ms n h)) (am_Pc D cA ad base b L xs As h) (am_Qc D cA ad base L xs (fun v h' => h'.2.2.2.2 = h.2.2.2.2 + am_al n ∧ Q v h')) (am_al n) (am_ms n h) (am_A base) := by
  have e47 := am_e47 hn
  subst e47
  obtain ⟨⟨t1, t2, t3, t4, t5⟩, t6, t7⟩ := am_n47
  have hlen2 : (lg_sl As).length ≤ 2 := by rw [← t2]; exact hlen
  unfold am_W at hW
  rw [am_c47] at hW
  obtain ⟨x, y, rfl, h1, h2, h3, -, hQ0⟩ := am_47_inv hlen2 hW
  have hal : am_al 47 = 0 := t4
  refine va_MetF (cc := am_by 47) (maxL := am_nL 47) (ret := am_rt 47) (by rw [t1]; exact t5) rfl ?_
  intro p e s m args below meth c s₁ B hml hv
  obtain ⟨rfl, hE, hbase, hP, hro, hwf⟩ := hv
  have hts := atoms_spec (ws := am_ws 47) B.pre
  have hgw : ∀ w ∈ am_gw, w.before (([.int x, .int y] : List Value).map (am_cv ad)).toArray s = true := fun w hw => hts w (List.mem_cons_of_mem _ hw)
  have hlen9 : h.2.2.2.2 ≤ 175 := by have := hwf.1; rw [am_shl_len] at this; exact this
  have hmod : h.2.2.2.2 % 1000 = h.2.2.2.2 := Nat.mod_eq_of_lt (by omega)
  have hdiv : h.2.2.2.2 / 1000 = 0 := Nat.div_eq_of_lt (by omega)
  have hown : s.vm.findClass "java/lang/String" = some m.cls := by
    have := findClass_of_methodNamed B.named
    rw [t1] at this
    exact this
  have F : am_Fx p s m (([.int x, .int y] : List Value).map (am_cv ad)).toArray c D cA ad base b L xs "java/lang/String" (am_by 47) 2 h.2.2.2.2 := ⟨B.exec, B.bytes, hml.trans t2, hown, hgw, hE, hbase, hG, by rw [hmod]; exact hwf.2⟩
  have hC : am_Cs l (am_rm (d + 1) (am_al 47) (am_ms 47 h)) D cA ad base b L xs (am_call am_cod d) := by
    intro n' As' h' Q' k'
    obtain ⟨d', z1, z2⟩ := ih n' As' h' Q' k'
    exact ⟨d', z2, by show d' + 1 ≤ d + 1; omega, by show 40 + 40 * d' ≤ 40 * (d + 1); omega⟩
  have hl := lv_entry (([.int x, .int y] : List Value).map (am_cv ad)) (n := am_nL 47) (by rw [am_sl_len]; exact hlen)
  rw [am_args_cl] at hl
  rw [lg_entry_eq]
  rw [t2] at hl ⊢
  have hcs : h.2.2.2.2 + am_al 47 - h.2.2.2.2 % 1000 + h.2.2.2.2 / 1000 ≤ am_al 47 ∧ am_ss (h.2.2.2.2 + am_al 47) - am_ss (h.2.2.2.2 % 1000) + 6 * (h.2.2.2.2 / 1000) ≤ am_ms 47 h := ⟨by rw [hmod, hdiv]; omega, by rw [hmod, hdiv]; exact Nat.le_refl _⟩
  have z1 : am_ce h.2.2.2.2 h = 0 := by unfold am_ce; omega
  have z2 : am_sc h.2.2.2.2 h = 0 := by unfold am_sc; rw [hmod, hdiv]; omega
  have key := am_X_sound (p := p) (e := e) (below := below) (meth := meth) (Qw := MQ below (am_Qc D cA ad base L xs (fun v h' => h'.2.2.2.2 = h.2.2.2.2 + am_al 47 ∧ Q v h')) (([.int x, .int y] : List Value).map (am_cv ad)).toArray s (am_al 47) (am_ms 47 h) (am_A base)) (R := am_rm (d + 1) (am_al 47) (am_ms 47 h)) (lim := h.2.2.2.2 + am_al 47) (rt := none) (ini := false) (cod := am_find am_r47a) (cp := am_call am_cod d) (E := fun pc lv st h' => pc = 2 ∧ lv = lv_args 0 [.int x, .int y] ∧ st = [.int y, .int x] ∧ h' = h) (Q := fun _ _ => False) F hC hcs ⟨by show 1 ≤ d + 1; omega, by show 20 ≤ 40 * (d + 1); omega⟩ (fun q => by cases q) (fun pc r hc => List.all_eq_true.mp am_o47 _ (List.mem_append_left _ (am_find_mem hc))) ?_ (fun _ _ _ _ _ _ _ q => q.elim) 0 (lv_args 0 [.int x, .int y]) [] h s.heap [] _ (am_xstep (r := (.iload_n 0, 1, 0, 0, 0, 0)) rfl (show am_X _ _ _ _ _ _ _ 1 (lv_args 0 [.int x, .int y]) [.int x] h from am_xstep (r := (.iload_n 1, 2, 0, 0, 0, 0)) rfl (show am_X _ _ _ _ _ _ _ 2 (lv_args 0 [.int x, .int y]) [.int y, .int x] h from am_xexit ⟨rfl, rfl, rfl, rfl⟩))) ⟨hP, va_S.rf, hro, hwf.1, by rw [hmod]; exact Nat.le_refl _, fun z => by omega⟩ hl
  · rw [z1, z2] at key
    exact key
  · intro pc lv st h' H locs ls hx0 hI hl'
    obtain ⟨rfl, rfl, rfl, rfl⟩ := hx0
    have fin : ∀ w : Value, w.category = 1 → W p l e (am_rm (d + 1) (am_al 47) (am_ms 47 h')) s m (([.int x, .int y] : List Value).map (am_cv ad)).toArray below meth c H locs (am_ce h'.2.2.2.2 h') (am_sc h'.2.2.2.2 h') (MQ below (am_Qc D cA ad base L xs (fun v h2 => h2.2.2.2.2 = h'.2.2.2.2 + am_al 47 ∧ Q v h2)) (([.int x, .int y] : List Value).map (am_cv ad)).toArray s (am_al 47) (am_ms 47 h') (am_A base)) (F0 m 5 ls (([w, .int y, .int x] : List Value).map (am_cv ad))) := fun w hw => by
      refine am_X_sound (p := p) (e := e) (below := below) (meth := meth) (R := am_rm (d + 1) (am_al 47) (am_ms 47 h')) (lim := h'.2.2.2.2 + am_al 47) (rt := none) (ini := false) (cod := am_find am_r47b) (cp := am_call am_cod d) (E := fun _ _ _ _ => False) (Q := fun v h2 => v = none ∧ h2 = h') F hC hcs ⟨by show 1 ≤ d + 1; omega, by show 20 ≤ 40 * (d + 1); omega⟩ (fun q => by cases q) (fun pc r hc => List.all_eq_true.mp am_o47 _ (List.mem_append_right _ (am_find_mem hc))) (fun _ _ _ _ _ _ _ q => q.elim) ?_ 5 (lv_args 0 [.int x, .int y]) [w, .int y, .int x] h' H locs ls ?_ hI hl'
      · intro v h2 H2 locs2 pc2 ls2 st2 hq hI2 hrk
        obtain ⟨rfl, rfl⟩ := hq
        have y1 : am_ce h2.2.2.2.2 h2 = am_al 47 := z1.trans hal.symm
        have y2 : am_sc h2.2.2.2.2 h2 = am_ms 47 h2 := by
          unfold am_ms
          rw [z2, hal]
          show 0 = am_ss (h2.2.2.2.2 + 0) - am_ss h2.2.2.2.2
          rw [Nat.add_zero, Nat.sub_self]
        rw [y1, y2]
        have hpost : ∀ t : State, t.heap = H2 → am_Qc D cA ad base L xs (fun v h' => h'.2.2.2.2 = h2.2.2.2.2 + am_al 47 ∧ Q v h') (([.int x, .int y] : List Value).map (am_cv ad)).toArray s (.returned none) t := fun t ht => ⟨⟨none, h2, rfl, hQ0, by rw [ht]; exact hI2.1, hI2.2.2.1, hI2.2.2.2.1⟩, hI2.2.1.F ht⟩
        rcases hrk with ⟨x', q1, -⟩ | ⟨x', q1, -⟩ | ⟨-, rfl, hd, -⟩
        · cases q1
        · cases q1
        · exact W.vret B.exec B.bytes (B.returns.trans t3) (fun t ht _ => hpost t ht) hI2.2.1.2.2 hd (hlocks := B.notSynchronized)
      · refine am_xstep (r := (.invokestatic 1059, 8, 48, 3, 63, 0)) rfl (show 0 ≤ 8 ∧ h'.2.2.2.2 + am_al 48 ≤ h'.2.2.2.2 + am_al 47 ∧ am_call am_cod d 48 [.int x, .int y, w] h' (fun v h2 => am_X _ _ _ _ _ _ _ 8 (lv_args 0 [.int x, .int y]) (v.toList ++ []) h2) from ⟨Nat.zero_le _, Nat.le_refl _, am_call.up (am_48_fwd hw h2 h3 ?_) h1⟩)
        refine am_xstep (r := (.pop, 9, 0, 0, 0, 0)) rfl (show (Value.int x).category = 1 ∧ am_X _ _ _ _ _ _ _ 9 (lv_args 0 [.int x, .int y]) [] h' from ⟨rfl, ?_⟩)
        exact am_xstep (r := (.return_, 10, 0, 0, 0, 0)) rfl (show (none : Option FieldType) = none ∧ (none : Option Value) = none ∧ h' = h' from ⟨rfl, rfl, rfl⟩)
    rcases hE.2.2.2.2.2.2.2.2 with hZ | hZ
    · exact va_gets B.exec B.bytes hZ hI.2.1 hown (hgw _ (am_gw_fl t7)) (fun x q => q) t6 (fin .null rfl)
    · exact va_gets B.exec B.bytes hZ hI.2.1 hown (hgw _ (am_gw_fl t7)) (fun x q => q) t6 (fin (.ref 6000000) rfl)
theorem am_Met (_ : am_Rok am_cod) (hG : am_G ad base b L) : ∀ d, am_Mt l D cA ad base b L xs am_cod d := am_Met7 am_cod_ok hG (am_cix hG)
end
section
/-! THE SECOND CHECKER: ints and longs are sums of symbols, each symbol has an interval; objects are known; loops by templates and measures; calls by contracts, or gone into -/
abbrev ag_f : Type := List (Nat × Int) × Int
abbrev ag_v : Type := ag_f ⊕ (ag_f ⊕ Nat)
abbrev ag_e : Type := List (Int × Int)
abbrev ag_l : Type := List (Nat × ag_v)
/-- what is known of the heap: ints, longs, references; sums that are not below 0; facts (which, at which number) -/
abbrev ag_H : Type := List (Nat × Nat × ag_f) × List (Nat × Nat × ag_f) × List (Nat × Nat × Nat) × List ag_f × List (Nat × ag_f)
/-- sums -/
def ag_ts (ρ : Nat → Int) : List (Nat × Int) → Int
  | [] => 0
  | q :: r => q.2 * ρ q.1 + ag_ts ρ r
def ag_ev (ρ : Nat → Int) (f : ag_f) : Int := ag_ts ρ f.1 + f.2
def ag_ins (i : Nat) (c : Int) : List (Nat × Int) → List (Nat × Int)
  | [] => [(i, c)]
  | q :: r => bif Nat.beq q.1 i then (bif decide (q.2 + c = 0) then r else (i, q.2 + c) :: r) else bif Nat.blt i q.1 then (i, c) :: q :: r else q :: ag_ins i c r
def ag_addt : List (Nat × Int) → List (Nat × Int) → List (Nat × Int)
  | [], g => g
  | q :: r, g => ag_ins q.1 q.2 (ag_addt r g)
def ag_add (f g : ag_f) : ag_f := (ag_addt f.1 g.1, f.2 + g.2)
def ag_scl (c : Int) (f : ag_f) : ag_f := bif decide (c = 0) then ([], 0) else (f.1.map (fun q => (q.1, c * q.2)), c * f.2)
def ag_sub (f g : ag_f) : ag_f := ag_add f (ag_scl (-1) g)
def ag_k (c : Int) : ag_f := ([], c)
def ag_y (i : Nat) : ag_f := ([(i, 1)], 0)
/-- the interval of a sum -/
def ag_ivt (env : ag_e) : List (Nat × Int) → Option (Int × Int)
  | [] => some (0, 0)
  | q :: r => match env[q.1]? with
    | some w => (match ag_ivt env r with
      | some z => some (bif decide (0 ≤ q.2) then (q.2 * w.1 + z.1, q.2 * w.2 + z.2) else (q.2 * w.2 + z.1, q.2 * w.1 + z.2))
      | none => none)
    | none => none
def ag_iv (env : ag_e) (f : ag_f) : Option (Int × Int) := match ag_ivt env f.1 with
  | some z => some (z.1 + f.2, z.2 + f.2)
  | none => none
/-- symbols cut by g ≥ 0; a way that can't be is gone through -/
def ag_rf1 (hg : Int) (env : ag_e) (q : Nat × Int) : ag_e := match env[q.1]? with
  | some w => bif decide (q.2 = 1) then env.set q.1 (max w.1 (w.2 - hg), w.2) else bif decide (q.2 = -1) then env.set q.1 (w.1, min w.2 (w.1 + hg)) else env
  | none => env
def ag_ge (env : ag_e) (g : ag_f) (k : ag_e → Bool) : Bool := match ag_iv env g with
  | some w => bif decide (w.2 < 0) then true else bif decide (0 ≤ w.1) then k env else k (g.1.foldl (ag_rf1 w.2) env)
  | none => false
def ag_eq (env : ag_e) (g : ag_f) (k : ag_e → Bool) : Bool := ag_ge env g (fun e => ag_ge e (ag_scl (-1) g) k)
def ag_ne (env : ag_e) (g : ag_f) (k : ag_e → Bool) : Bool := match ag_iv env g with
  | some w => bif decide (w.1 = 0) then ag_ge env (ag_sub g (ag_k 1)) k else bif decide (w.2 = 0) then ag_ge env (ag_sub (ag_scl (-1) g) (ag_k 1)) k else k env
  | none => false
def ag_cmp (env : ag_e) (q : Jvm.ClassFile.Cond) (x y : ag_f) (k : ag_e → Bool → Bool) : Bool := match q with
  | .lt => ag_ge env (ag_sub (ag_sub y x) (ag_k 1)) (fun e => k e true) && ag_ge env (ag_sub x y) (fun e => k e false)
  | .ge => ag_ge env (ag_sub x y) (fun e => k e true) && ag_ge env (ag_sub (ag_sub y x) (ag_k 1)) (fun e => k e false)
  | .gt => ag_ge env (ag_sub (ag_sub x y) (ag_k 1)) (fun e => k e true) && ag_ge env (ag_sub y x) (fun e => k e false)
  | .le => ag_ge env (ag_sub y x) (fun e => k e true) && ag_ge env (ag_sub (ag_sub x y) (ag_k 1)) (fun e => k e false)
  | .eq => ag_eq env (ag_sub x y) (fun e => k e true) && ag_ne env (ag_sub x y) (fun e => k e false)
  | .ne => ag_ne env (ag_sub x y) (fun e => k e true) && ag_eq env (ag_sub x y) (fun e => k e false)
/-- a new symbol -/
def ag_nw (env : ag_e) (lo hi : Int) (k : ag_e → ag_f → Bool) : Bool := bif decide (lo = hi) then k env (ag_k lo) else k (env ++ [(lo, hi)]) (ag_y env.length)
def ag_nI (env : ag_e) (k : ag_e → ag_f → Bool) : Bool := k (env ++ [(-2147483648, 2147483647)]) (ag_y env.length)
def ag_nL (env : ag_e) (k : ag_e → ag_f → Bool) : Bool := k (env ++ [(-9223372036854775808, 9223372036854775807)]) (ag_y env.length)
/-- a sum that is its int, its long -/
def ag_mI (env : ag_e) (f : ag_f) (k : ag_e → ag_f → Int → Int → Bool) : Bool := match ag_iv env f with
  | some w => bif decide (-2147483648 ≤ w.1) && decide (w.2 ≤ 2147483647) then k env f w.1 w.2 else ag_nI env (fun env f => k env f (-2147483648) 2147483647)
  | none => false
def ag_mL (env : ag_e) (f : ag_f) (k : ag_e → ag_f → Int → Int → Bool) : Bool := match ag_iv env f with
  | some w => bif decide (-9223372036854775808 ≤ w.1) && decide (w.2 ≤ 9223372036854775807) then k env f w.1 w.2 else ag_nL env (fun env f => k env f (-9223372036854775808) 9223372036854775807)
  | none => false
def ag_oI (env : ag_e) (w : Option (Int × Int)) (k : ag_e → ag_f → Bool) : Bool := match w with
  | some w => ag_nw env w.1 w.2 k
  | none => ag_nI env k
def ag_oL (env : ag_e) (w : Option (Int × Int)) (k : ag_e → ag_f → Bool) : Bool := match w with
  | some w => ag_nw env w.1 w.2 k
  | none => ag_nL env k
def ag_cat : ag_v → Nat
  | .inr (.inl _) => 2
  | _ => 1
def ag_lv : ag_l → Nat → Option ag_v
  | [], _ => none
  | q :: r, i => bif Nat.beq q.1 i then some q.2 else ag_lv r i
def ag_s1 (lv : ag_l) (i : Nat) (v : ag_v) : ag_l := (i, v) :: lv.filter (fun q => !(Nat.beq q.1 i) && !(Nat.beq (q.1 + 1) i && Nat.beq (ag_cat q.2) 2))
def ag_s2 (lv : ag_l) (i : Nat) (v : ag_v) : ag_l := (i, v) :: lv.filter (fun q => !(Nat.beq q.1 i) && (!(Nat.beq q.1 (i + 1)) && !(Nat.beq (q.1 + 1) i && Nat.beq (ag_cat q.2) 2)))
def ag_pI (st : List ag_v) (k : ag_f → List ag_v → Bool) : Bool := match st with
  | .inl f :: r => k f r
  | _ => false
def ag_pL (st : List ag_v) (k : ag_f → List ag_v → Bool) : Bool := match st with
  | .inr (.inl f) :: r => k f r
  | _ => false
def ag_pR (st : List ag_v) (k : Nat → List ag_v → Bool) : Bool := match st with
  | .inr (.inr o) :: r => k o r
  | _ => false
def ag_pV (st : List ag_v) (k : ag_v → List ag_v → Bool) : Bool := match st with
  | a :: r => k a r
  | [] => false
def ag_li (lv : ag_l) (i : Nat) (k : ag_f → Bool) : Bool := match ag_lv lv i with
  | some (.inl f) => k f
  | _ => false
def ag_ll (lv : ag_l) (i : Nat) (k : ag_f → Bool) : Bool := match ag_lv lv i with
  | some (.inr (.inl f)) => k f
  | _ => false
def ag_la (lv : ag_l) (i : Nat) (k : Nat → Bool) : Bool := match ag_lv lv i with
  | some (.inr (.inr o)) => k o
  | _ => false
def ag_pop : Nat → List ag_v → List ag_v → Option (List ag_v × List ag_v)
  | 0, acc, st => some (acc, st)
  | n + 1, acc, v :: st => ag_pop n (v :: acc) st
  | _ + 1, _, [] => none
/-- what every int keeps: places (from, to, step, rest) and the interval -/
abbrev ag_S : Type := Nat × Nat × Nat × Nat × Int × Int
/-- the rest of a place by a step, where it is known -/
def ag_rs (st : Nat) (f : ag_f) (lo hi : Int) : Option Nat := bif Nat.beq st 1 then some 0 else bif decide (lo = hi) then some (lo.toNat % st) else bif f.1.all (fun q => decide (q.2 % (st : Int) = 0)) then some (f.2 % (st : Int)).toNat else none
def ag_hit (j : ag_f) (lo hi : Int) (s : ag_S) : Bool := decide ((s.1 : Int) ≤ lo) && (decide (hi ≤ (s.2.1 : Int)) && (match ag_rs s.2.2.1 j lo hi with
  | some r => Nat.beq r s.2.2.2.1
  | none => false))
def ag_Dr (sg : List ag_S) (j : ag_f) (lo hi : Int) : Int × Int := match sg.find? (ag_hit j lo hi) with
  | some s => (s.2.2.2.2.1, s.2.2.2.2.2)
  | none => (-2147483648, 2147483647)
def ag_wok (sg : List ag_S) (j : ag_f) (lo hi a b : Int) : Bool := sg.all fun s => (decide (hi < (s.1 : Int)) || decide ((s.2.1 : Int) < lo)) || ((match ag_rs s.2.2.1 j lo hi with
  | some r => !(Nat.beq r s.2.2.2.1)
  | none => false) || (decide (s.2.2.2.2.1 ≤ a) && decide (b ≤ s.2.2.2.2.2)))
/-- places that may be written -/
abbrev ag_M : Type := List (Nat × Nat × Nat)
def ag_inM (M : ag_M) (o : Nat) (lo hi : Int) : Bool := M.any (fun q => Nat.beq q.1 o && (decide ((q.2.1 : Int) ≤ lo) && decide (hi ≤ (q.2.2 : Int))))
def ag_atM (M : ag_M) (o k : Nat) : Bool := M.any (fun q => Nat.beq q.1 o && (Nat.ble q.2.1 k && Nat.ble k q.2.2))
def ag_lk {α : Type} : List (Nat × Nat × α) → Nat → Nat → Option α
  | [], _, _ => none
  | q :: r, o, k => bif Nat.beq q.2.1 k && Nat.beq q.1 o then some q.2.2 else ag_lk r o k
def ag_out {α : Type} (l : List (Nat × Nat × α)) (o : Nat) (lo hi : Int) : List (Nat × Nat × α) := l.filter (fun q => !(Nat.beq q.1 o && (decide (lo ≤ (q.2.1 : Int)) && decide ((q.2.1 : Int) ≤ hi))))
/-- the tables: what the ints keep, what a long keeps, the references that stay, the objects -/
abbrev ag_D : Type := (Nat → List ag_S) × (Nat → Nat → Int × Int) × List (Nat × Nat × Nat) × List (Nat × Nat)
def ag_shC : List (List (Nat × Nat)) := [[(10, 0), (7, 0), (12, 1000), (1, 0), (4, 0), (9, 0), (0, 0), (14, 6), (13, 6), (13, 6), (14, 5), (13, 5), (13, 5), (13, 5), (3, 0), (13, 1000)], [(13, 32), (0, 0), (14, 6), (13, 6), (13, 6), (14, 5), (13, 5), (13, 5), (13, 5), (3, 0), (13, 1000), (13, 32), (8, 0), (13, 40), (13, 40), (13, 40)], [(8, 0), (13, 40), (13, 40), (13, 40), (6, 0), (13, 6), (13, 6), (13, 5), (13, 5), (6, 0), (13, 6), (13, 6), (13, 5), (13, 5), (13, 6), (2, 0)], [(17, 16), (6, 0), (13, 6), (13, 6), (13, 5), (13, 5), (6, 0), (13, 6), (13, 6), (13, 5), (13, 5), (6, 0), (13, 6), (13, 6), (13, 5), (13, 5)], [(6, 0), (13, 6), (13, 6), (13, 5), (13, 5), (6, 0), (13, 6), (13, 6), (13, 5), (13, 5), (6, 0), (13, 6), (13, 6), (13, 5), (13, 5), (6, 0)], [(13, 6), (13, 6), (13, 5), (13, 5), (6, 0), (13, 6), (13, 6), (13, 5), (13, 5), (6, 0), (13, 6), (13, 6), (13, 5), (13, 5), (6, 0), (13, 6)], [(13, 6), (13, 5), (13, 5), (6, 0), (13, 6), (13, 6), (13, 5), (13, 5), (6, 0), (13, 6), (13, 6), (13, 5), (13, 5), (6, 0), (13, 6), (13, 6)], [(13, 5), (13, 5), (6, 0), (13, 6), (13, 6), (13, 5), (13, 5), (6, 0), (13, 6), (13, 6), (13, 5), (13, 5), (6, 0), (13, 6), (13, 6), (13, 5)], [(13, 5), (16, 4), (5, 0), (6, 0), (13, 6), (13, 6), (13, 5), (13, 5), (5, 0), (6, 0), (13, 6), (13, 6), (13, 5), (13, 5), (5, 0), (6, 0)], [(13, 6), (13, 6), (13, 5), (13, 5), (5, 0), (6, 0), (13, 6), (13, 6), (13, 5), (13, 5), (11, 0), (13, 1000), (13, 1002), (13, 1002), (14, 1002), (14, 21)], [(13, 80), (13, 2200), (13, 2200), (14, 11), (14, 11), (13, 11), (13, 11), (13, 250), (13, 4), (13, 1100), (13, 1127), (15, 4), (13, 5), (13, 6), (14, 1)]]
theorem ag_shC_ok : ag_cks 16 ag_shC = true := by decide +kernel
theorem ag_shC_eq : ag_shC.flatten = ae_shl := by decide +kernel
def ag_so (_ : ag_D) (o : Nat) : Option (Nat × Nat) := ag_ix 16 ag_shC o
def ag_ob (e : Option (Nat × Nat)) (b : Nat) : Bool := match e with
  | some (t, n) => Nat.beq t b && Nat.beq n 0
  | none => false
def ag_ar (e : Option (Nat × Nat)) (b : Nat) (lo hi : Int) : Bool := match e with
  | some (t, n) => Nat.beq t b && (decide (0 ≤ lo) && decide (hi < (n : Int)))
  | none => false
def ag_rr (T : ag_D) (R : List (Nat × Nat × Nat)) (o k : Nat) : Option Nat := match ag_lk R o k with
  | some r => some r
  | none => ag_lk T.2.2.1 o k
def ag_rd (T : ag_D) (env : ag_e) (H : ag_H) (o k : Nat) (K : ag_e → ag_H → ag_f → Bool) : Bool := match ag_lk H.1 o k with
  | some f => K env H f
  | none => (match ag_Dr (T.1 o) (ag_k k) k k with
    | (lo, hi) => ag_nw env lo hi (fun env f => K env ((o, k, f) :: H.1, H.2) f))
def ag_rL (T : ag_D) (env : ag_e) (H : ag_H) (o k : Nat) (K : ag_e → ag_H → ag_f → Bool) : Bool := match ag_lk H.2.1 o k with
  | some f => K env H f
  | none => (match T.2.1 o k with
    | (lo, hi) => ag_nw env lo hi (fun env f => K env (H.1, (o, k, f) :: H.2.1, H.2.2) f))
def ag_nn (env : ag_e) (C : List ag_f) (g : ag_f) : Bool := (match ag_iv env g with
  | some w => decide (0 ≤ w.1)
  | none => false) || C.any (fun c => match ag_iv env (ag_sub g c) with
    | some w => decide (0 ≤ w.1)
    | none => false)
/-- an array's int: at a known place, at others; object 156 (the kinds of the tokens) has a 0 at place N, symbol 0 -/
def ag_rA (T : ag_D) (env : ag_e) (H : ag_H) (o : Nat) (j : ag_f) (lo hi : Int) (K : ag_e → ag_H → ag_f → Bool) : Bool := bif decide (lo = hi) then ag_rd T env H o lo.toNat K else (match ag_Dr (T.1 o) j lo hi with
  | (a, b) => ag_nw env a b (fun env f => K env H f))
def ag_rS (T : ag_D) (env : ag_e) (H : ag_H) (o : Nat) (j : ag_f) (lo hi : Int) (K : ag_e → ag_H → ag_f → Bool) : Bool := bif Nat.beq o 156 && ag_nn env H.2.2.2.1 (ag_sub (ag_y 0) j) then ag_eq env (ag_sub (ag_y 0) j) (fun env => K env H (ag_k 0)) && ag_ge env (ag_sub (ag_sub (ag_y 0) j) (ag_k 1)) (fun env => ag_rA T env (H.1, H.2.1, H.2.2.1, ag_sub (ag_sub (ag_y 0) j) (ag_k 1) :: H.2.2.2.1, H.2.2.2.2) o j lo hi K) else ag_rA T env H o j lo hi K
/-- what each fact rests on: the codes that are being laid; the same and the place of the law -/
def ag_sup (id : Nat) : ag_M := bif Nat.beq id 0 then [(161, 1100, 2199), (162, 1100, 2199), (154, 13, 13)] else [(161, 1100, 2199), (162, 1100, 2199), (154, 13, 13), (160, 43, 43)]
def ag_gk (o : Nat) (lo hi : Int) (G : List (Nat × ag_f)) : List (Nat × ag_f) := G.filter (fun q => (ag_sup q.1).all (fun s => !(Nat.beq s.1 o && (decide (lo ≤ (s.2.2 : Int)) && decide ((s.2.1 : Int) ≤ hi)))))
def ag_gm (M : ag_M) (G : List (Nat × ag_f)) : List (Nat × ag_f) := G.filter (fun q => (ag_sup q.1).all (fun s => M.all (fun r => !(Nat.beq s.1 r.1 && (Nat.ble r.2.1 s.2.2 && Nat.ble s.2.1 r.2.2)))))
def ag_wI (T : ag_D) (M : ag_M) (H : ag_H) (o : Nat) (j : ag_f) (lo hi : Int) (v : ag_f) (a b : Int) (K : ag_H → Bool) : Bool := ag_inM M o lo hi && (ag_wok (T.1 o) j lo hi a b && K (bif decide (lo = hi) then (o, lo.toNat, v) :: ag_out H.1 o lo hi else ag_out H.1 o lo hi, H.2.1, H.2.2.1, H.2.2.2.1, ag_gk o lo hi H.2.2.2.2))
def ag_wL (T : ag_D) (M : ag_M) (H : ag_H) (o : Nat) (lo hi : Int) (v : ag_f) (a b : Int) (K : ag_H → Bool) : Bool := ag_inM M o lo hi && ((bif decide (lo = hi) then (match T.2.1 o lo.toNat with
  | (x, y) => decide (x ≤ a) && decide (b ≤ y)) else !(Nat.beq o 154)) && K (H.1, (bif decide (lo = hi) then (o, lo.toNat, v) :: ag_out H.2.1 o lo hi else ag_out H.2.1 o lo hi), H.2.2))
def ag_ty (ty : FieldType) (a b : Int) : Bool := match ty with
  | .int => true
  | .boolean => decide (0 ≤ a) && decide (b ≤ 1)
  | .char => decide (0 ≤ a) && decide (b ≤ 65535)
  | .byte => decide (-128 ≤ a) && decide (b ≤ 127)
  | _ => false
def ag_c2 (f : Int32 → Int32 → Int32) (n m : Int) : ag_f := ag_k (f (Int32.ofInt n) (Int32.ofInt m)).toInt
/-- ints by two: known ones; else an interval -/
def ag_b2 (env : ag_e) (st : List ag_v) (g : Int → Int → Int → Int → Option (Int × Int)) (f : Int32 → Int32 → Int32) (K : ag_e → ag_f → List ag_v → Bool) : Bool := ag_pI st fun y r => ag_pI r fun x r => ag_mI env y fun env _ c d => ag_mI env x fun env _ a b => bif decide (a = b) && decide (c = d) then K env (ag_c2 f a c) r else ag_oI env (g a b c d) (fun env z => K env z r)
def ag_andG (a b c d : Int) : Option (Int × Int) := bif decide (0 ≤ c) && decide (c = d) then some (0, c) else bif decide (0 ≤ a) && decide (a = b) then some (0, a) else none
def ag_shlG (a b c d : Int) : Option (Int × Int) := bif decide (a = 1) && (decide (b = 1) && (decide (0 ≤ c) && decide (d ≤ 30))) then some (1, 2 ^ d.toNat) else none
def ag_noG (_ _ _ _ : Int) : Option (Int × Int) := none
def ag_divG (a b c d : Int) : Option (Int × Int) := bif decide (0 ≤ a) && (decide (0 < c) && decide (c = d)) then some (a / c, b / c) else none
def ag_remG (a b c d : Int) : Option (Int × Int) := bif decide (0 < c) then (bif decide (a = b ∧ c = d) then some (a.tmod c, a.tmod c) else bif decide (0 ≤ a) then some (0, d - 1) else some (1 - d, d - 1)) else none
def ag_ldivG (a b c d : Int) : Option (Int × Int) := bif decide (0 ≤ a) && (decide (0 < c) && decide (c = d)) then some (a / c, b / c) else none
/-- longs by two -/
def ag_l2 (env : ag_e) (st : List ag_v) (g : Int → Int → Int → Int → Option (Int × Int)) (K : ag_e → ag_f → List ag_v → Bool) : Bool := ag_pL st fun y r => ag_pL r fun x r => ag_mL env y fun env _ c d => ag_mL env x fun env _ a b => decide (0 < c) && ag_oL env (g a b c d) (fun env z => K env z r)
def ag_cst (f : ag_f) : Option Int := match f.1 with
  | [] => some f.2
  | _ => none
def ag_tgt (pc : Nat) (o : Int) : Nat := ((pc : Int) + o).toNat
def ag_step (T : ag_D) (M : ag_M) (i : Instr) : Nat → Nat → Nat → Nat → Nat → ag_e → ag_H → Nat → Option FieldType → Nat → ag_l → List ag_v → (ag_e → Nat → ag_l → List ag_v → ag_H → Bool) → (Nat → List ag_v → List ag_v → Bool) → (ag_e → Option ag_v → Bool) → Bool := match i with
  | .iconst n => fun nx a b c d env H nL rt pc lv st K C Rt => K env nx lv (.inl (ag_k n) :: st) H
  | .bipush n => fun nx a b c d env H nL rt pc lv st K C Rt => K env nx lv (.inl (ag_k (Int8.ofInt n).toInt32.toInt) :: st) H
  | .sipush n => fun nx a b c d env H nL rt pc lv st K C Rt => K env nx lv (.inl (ag_k (Int16.ofInt n).toInt32.toInt) :: st) H
  | .ldc_w _ => fun nx a b c d env H nL rt pc lv st K C Rt => bif Nat.beq b 1 then K env nx lv (.inr (.inr (4000000 + c)) :: st) H else K env nx lv (.inl (ag_k (am_ki c).toInt) :: st) H
  | .ldc _ => fun nx a b c d env H nL rt pc lv st K C Rt => bif Nat.beq b 1 then K env nx lv (.inr (.inr (4000000 + c)) :: st) H else K env nx lv (.inl (ag_k (am_ki c).toInt) :: st) H
  | .getstatic _ => fun nx a b c d env H nL rt pc lv st K C Rt => bif Nat.beq b 1 then K env nx lv (.inr (.inr 6000000) :: st) H else K env nx lv (.inl (ag_k 1) :: st) H
  | .lconst n => fun nx a b c d env H nL rt pc lv st K C Rt => K env nx lv (.inr (.inl (ag_k (Int64.ofNat n).toInt)) :: st) H
  | .ldc2_w _ => fun nx a b c d env H nL rt pc lv st K C Rt => K env nx lv (.inr (.inl (ag_k (am_kl c).toInt)) :: st) H
  | .iload_n k => fun nx a b c d env H nL rt pc lv st K C Rt => ag_li lv k.val fun x => K env nx lv (.inl x :: st) H
  | .iload k => fun nx a b c d env H nL rt pc lv st K C Rt => ag_li lv k fun x => K env nx lv (.inl x :: st) H
  | .lload_n k => fun nx a b c d env H nL rt pc lv st K C Rt => ag_ll lv k.val fun x => K env nx lv (.inr (.inl x) :: st) H
  | .lload k => fun nx a b c d env H nL rt pc lv st K C Rt => ag_ll lv k fun x => K env nx lv (.inr (.inl x) :: st) H
  | .aload_n k => fun nx a b c d env H nL rt pc lv st K C Rt => ag_la lv k.val fun x => K env nx lv (.inr (.inr x) :: st) H
  | .aload k => fun nx a b c d env H nL rt pc lv st K C Rt => ag_la lv k fun x => K env nx lv (.inr (.inr x) :: st) H
  | .istore_n k => fun nx a b c d env H nL rt pc lv st K C Rt => ag_pI st fun x r => Nat.blt k.val nL && K env nx (ag_s1 lv k.val (.inl x)) r H
  | .istore k => fun nx a b c d env H nL rt pc lv st K C Rt => ag_pI st fun x r => Nat.blt k nL && K env nx (ag_s1 lv k (.inl x)) r H
  | .lstore_n k => fun nx a b c d env H nL rt pc lv st K C Rt => ag_pL st fun x r => Nat.blt (k.val + 1) nL && K env nx (ag_s2 lv k.val (.inr (.inl x))) r H
  | .lstore k => fun nx a b c d env H nL rt pc lv st K C Rt => ag_pL st fun x r => Nat.blt (k + 1) nL && K env nx (ag_s2 lv k (.inr (.inl x))) r H
  | .astore_n k => fun nx a b c d env H nL rt pc lv st K C Rt => ag_pR st fun x r => Nat.blt k.val nL && K env nx (ag_s1 lv k.val (.inr (.inr x))) r H
  | .astore k => fun nx a b c d env H nL rt pc lv st K C Rt => ag_pR st fun x r => Nat.blt k nL && K env nx (ag_s1 lv k (.inr (.inr x))) r H
  | .iinc k n => fun nx a b c d env H nL rt pc lv st K C Rt => ag_li lv k fun x => Nat.blt k nL && K env nx (ag_s1 lv k (.inl (ag_add x (ag_k n)))) st H
  | .iadd => fun nx a b c d env H nL rt pc lv st K C Rt => ag_pI st fun y r => ag_pI r fun x r => K env nx lv (.inl (ag_add x y) :: r) H
  | .isub => fun nx a b c d env H nL rt pc lv st K C Rt => ag_pI st fun y r => ag_pI r fun x r => K env nx lv (.inl (ag_sub x y) :: r) H
  | .imul => fun nx a b c d env H nL rt pc lv st K C Rt => ag_pI st fun y r => ag_pI r fun x r => (match ag_cst x with
    | some z => K env nx lv (.inl (ag_scl z y) :: r) H
    | none => (match ag_cst y with
      | some z => K env nx lv (.inl (ag_scl z x) :: r) H
      | none => ag_nI env (fun env z => K env nx lv (.inl z :: r) H)))
  | .ineg => fun nx a b c d env H nL rt pc lv st K C Rt => ag_pI st fun x r => K env nx lv (.inl (ag_scl (-1) x) :: r) H
  | .iand => fun nx a b c d env H nL rt pc lv st K C Rt => ag_b2 env st ag_andG (· &&& ·) fun env z r => K env nx lv (.inl z :: r) H
  | .ior => fun nx a b c d env H nL rt pc lv st K C Rt => ag_b2 env st ag_noG (· ||| ·) fun env z r => K env nx lv (.inl z :: r) H
  | .ixor => fun nx a b c d env H nL rt pc lv st K C Rt => ag_b2 env st ag_noG (· ^^^ ·) fun env z r => K env nx lv (.inl z :: r) H
  | .ishl => fun nx a b c d env H nL rt pc lv st K C Rt => ag_b2 env st ag_shlG (fun x y => x <<< (y &&& 31)) fun env z r => K env nx lv (.inl z :: r) H
  | .ishr => fun nx a b c d env H nL rt pc lv st K C Rt => ag_b2 env st ag_noG (fun x y => x >>> (y &&& 31)) fun env z r => K env nx lv (.inl z :: r) H
  | .iushr => fun nx a b c d env H nL rt pc lv st K C Rt => ag_b2 env st ag_noG (fun x y => (x.toUInt32 >>> (y.toUInt32 &&& Int32.toUInt32 31)).toInt32) fun env z r => K env nx lv (.inl z :: r) H
  | .idiv => fun nx a b c d env H nL rt pc lv st K C Rt => ag_pI st fun y r => ag_pI r fun x r => ag_mI env y fun env _ u w => ag_mI env x fun env _ s t => decide (0 < u) && ag_oI env (ag_divG s t u w) (fun env z => K env nx lv (.inl z :: r) H)
  | .irem => fun nx a b c d env H nL rt pc lv st K C Rt => ag_pI st fun y r => ag_pI r fun x r => ag_mI env y fun env _ u w => ag_mI env x fun env _ s t => decide (0 < u) && ag_oI env (ag_remG s t u w) (fun env z => K env nx lv (.inl z :: r) H)
  | .ladd => fun nx a b c d env H nL rt pc lv st K C Rt => ag_pL st fun y r => ag_pL r fun x r => K env nx lv (.inr (.inl (ag_add x y)) :: r) H
  | .lsub => fun nx a b c d env H nL rt pc lv st K C Rt => ag_pL st fun y r => ag_pL r fun x r => K env nx lv (.inr (.inl (ag_sub x y)) :: r) H
  | .lmul => fun nx a b c d env H nL rt pc lv st K C Rt => ag_pL st fun y r => ag_pL r fun x r => (match ag_cst x with
    | some z => K env nx lv (.inr (.inl (ag_scl z y)) :: r) H
    | none => (match ag_cst y with
      | some z => K env nx lv (.inr (.inl (ag_scl z x)) :: r) H
      | none => ag_nL env (fun env z => K env nx lv (.inr (.inl z) :: r) H)))
  | .ldiv => fun nx a b c d env H nL rt pc lv st K C Rt => ag_l2 env st ag_ldivG fun env z r => K env nx lv (.inr (.inl z) :: r) H
  | .lrem => fun nx a b c d env H nL rt pc lv st K C Rt => ag_l2 env st ag_remG fun env z r => K env nx lv (.inr (.inl z) :: r) H
  | .land => fun nx a b c d env H nL rt pc lv st K C Rt => ag_pL st fun _ r => ag_pL r fun _ r => ag_nL env (fun env z => K env nx lv (.inr (.inl z) :: r) H)
  | .lor => fun nx a b c d env H nL rt pc lv st K C Rt => ag_pL st fun _ r => ag_pL r fun _ r => ag_nL env (fun env z => K env nx lv (.inr (.inl z) :: r) H)
  | .lshl => fun nx a b c d env H nL rt pc lv st K C Rt => ag_pI st fun _ r => ag_pL r fun _ r => ag_nL env (fun env z => K env nx lv (.inr (.inl z) :: r) H)
  | .lshr => fun nx a b c d env H nL rt pc lv st K C Rt => ag_pI st fun _ r => ag_pL r fun _ r => ag_nL env (fun env z => K env nx lv (.inr (.inl z) :: r) H)
  | .lushr => fun nx a b c d env H nL rt pc lv st K C Rt => ag_pI st fun _ r => ag_pL r fun _ r => ag_nL env (fun env z => K env nx lv (.inr (.inl z) :: r) H)
  | .lcmp => fun nx a b c d env H nL rt pc lv st K C Rt => ag_pL st fun _ r => ag_pL r fun _ r => ag_nw env (-1) 1 (fun env z => K env nx lv (.inl z :: r) H)
  | .i2l => fun nx a b c d env H nL rt pc lv st K C Rt => ag_pI st fun x r => ag_mI env x fun env x _ _ => K env nx lv (.inr (.inl x) :: r) H
  | .l2i => fun nx a b c d env H nL rt pc lv st K C Rt => ag_pL st fun x r => K env nx lv (.inl x :: r) H
  | .i2c => fun nx a b c d env H nL rt pc lv st K C Rt => ag_pI st fun x r => ag_mI env x fun env x s t => bif decide (0 ≤ s) && decide (t ≤ 65535) then K env nx lv (.inl x :: r) H else ag_nw env 0 65535 (fun env z => K env nx lv (.inl z :: r) H)
  | .i2b => fun nx a b c d env H nL rt pc lv st K C Rt => ag_pI st fun x r => ag_mI env x fun env x s t => bif decide (-128 ≤ s) && decide (t ≤ 127) then K env nx lv (.inl x :: r) H else ag_nw env (-128) 127 (fun env z => K env nx lv (.inl z :: r) H)
  | .dup => fun nx a b c d env H nL rt pc lv st K C Rt => ag_pV st fun v r => Nat.beq (ag_cat v) 1 && K env nx lv (v :: v :: r) H
  | .dup2 => fun nx a b c d env H nL rt pc lv st K C Rt => ag_pV st fun v r => ag_pV r fun w r => Nat.beq (ag_cat v) 1 && (Nat.beq (ag_cat w) 1 && K env nx lv (v :: w :: v :: w :: r) H)
  | .pop => fun nx a b c d env H nL rt pc lv st K C Rt => ag_pV st fun v r => Nat.beq (ag_cat v) 1 && K env nx lv r H
  | .goto _ => fun nx a b c d env H nL rt pc lv st K C Rt => K env a lv st H
  | .if_icmp q _ => fun nx a b c d env H nL rt pc lv st K C Rt => ag_pI st fun y r => ag_pI r fun x r => ag_mI env y fun env y _ _ => ag_mI env x fun env x _ _ => ag_cmp env q x y fun env t => K env (bif t then a else nx) lv r H
  | .ifCond q _ => fun nx a b c d env H nL rt pc lv st K C Rt => ag_pI st fun x r => ag_mI env x fun env x _ _ => ag_cmp env q x (ag_k 0) fun env t => K env (bif t then a else nx) lv r H
  | .tableswitch df lo hi os => fun nx a b c d env H nL rt pc lv st K C Rt => ag_pI st fun x r => ag_mI env x fun env x _ _ => ag_ge env (ag_sub (ag_k (lo - 1)) x) (fun env => K env (ag_tgt pc df) lv r H) && (ag_ge env (ag_sub x (ag_k (hi + 1))) (fun env => K env (ag_tgt pc df) lv r H) && (List.range (hi - lo + 1).toNat).all (fun j => ag_eq env (ag_sub x (ag_k (lo + j))) (fun env => K env (ag_tgt pc ((os[j]?).getD 0)) lv r H)))
  | .lookupswitch df ps => fun nx a b c d env H nL rt pc lv st K C Rt => ag_pI st fun x r => ag_mI env x fun env x _ _ => K env (ag_tgt pc df) lv r H && ps.toList.all (fun q => K env (ag_tgt pc q.2) lv r H)
  | .getfield _ => fun nx a b c d env H nL rt pc lv st K C Rt => bif Nat.beq b 20 then ag_pR st fun o r => (Nat.ble 4000000 o && Nat.blt o 4000026) && (bif Nat.beq a 0 then K env nx lv (.inr (.inr (o + 1000000)) :: r) H else K env nx lv (.inl (ag_k 0) :: r) H) else ag_pR st fun o r => ag_ob (ag_so T o) b && (match am_kd b a with
    | 0 => ag_rd T env H o a fun env H f => K env nx lv (.inl f :: r) H
    | 1 => ag_rL T env H o a fun env H f => K env nx lv (.inr (.inl f) :: r) H
    | _ => (match ag_rr T H.2.2.1 o a with
      | some x => K env nx lv (.inr (.inr x) :: r) H
      | none => false))
  | .putfield _ => fun nx a b c d env H nL rt pc lv st K C Rt => (match am_kd b a with
    | 0 => ag_pI st fun x r => ag_pR r fun o r => ag_mI env x fun env x s t => ag_ob (ag_so T o) b && (ag_ty (am_fty b a) s t && ag_wI T M H o (ag_k a) a a x s t fun H => K env nx lv r H)
    | 1 => ag_pL st fun x r => ag_pR r fun o r => ag_mL env x fun env x s t => ag_ob (ag_so T o) b && ag_wL T M H o a a x s t fun H => K env nx lv r H
    | _ => ag_pR st fun x r => ag_pR r fun o r => ag_ob (ag_so T o) b && (ag_inM M o a a && ((ag_lk T.2.2.1 o a).isNone && K env nx lv r (H.1, H.2.1, (o, a, x) :: ag_out H.2.2.1 o a a, H.2.2.2))))
  | .iaload => fun nx a b c d env H nL rt pc lv st K C Rt => ag_pI st fun j r => ag_pR r fun o r => ag_mI env j fun env j s t => ag_ar (ag_so T o) 13 s t && ag_rS T env H o j s t fun env H f => K env nx lv (.inl f :: r) H
  | .caload => fun nx a b c d env H nL rt pc lv st K C Rt => ag_pI st fun j r => ag_pR r fun o r => ag_mI env j fun env j s t => ag_ar (ag_so T o) 12 s t && ag_rA T env H o j s t fun env H f => K env nx lv (.inl f :: r) H
  | .arraylength => fun nx a b c d env H nL rt pc lv st K C Rt => ag_pR st fun o r => (Nat.ble 5000000 o && Nat.blt o 5000026) && K env nx lv (.inl (ag_k (am_sln.getD (o - 5000000) 0)) :: r) H
  | .baload => fun nx a b c d env H nL rt pc lv st K C Rt => ag_pI st fun j r => ag_pR r fun o r => ag_mI env j fun env j s t => bif Nat.ble 5000000 o && Nat.blt o 5000026 then decide (0 ≤ s) && (decide (t < (am_sln.getD (o - 5000000) 0 : Nat)) && (bif decide (s = t) then K env nx lv (.inl (ag_k ((am_sby.getD (o - 5000000) []).getD s.toNat 0).toInt) :: r) H else ag_nw env 0 127 (fun env z => K env nx lv (.inl z :: r) H))) else ag_ar (ag_so T o) 15 s t && ag_rA T env H o j s t fun env H f => K env nx lv (.inl f :: r) H
  | .laload => fun nx a b c d env H nL rt pc lv st K C Rt => ag_pI st fun j r => ag_pR r fun o r => ag_mI env j fun env j s t => ag_ar (ag_so T o) 14 s t && ag_nL env (fun env f => K env nx lv (.inr (.inl f) :: r) H)
  | .aaload => fun nx a b c d env H nL rt pc lv st K C Rt => ag_pI st fun j r => ag_pR r fun o r => ag_mI env j fun env j s t => (ag_ar (ag_so T o) 16 s t || ag_ar (ag_so T o) 17 s t) && (List.range (t - s + 1).toNat).all (fun q => ag_eq env (ag_sub j (ag_k (s + q))) (fun env => match ag_rr T H.2.2.1 o (s + q).toNat with
    | some x => K env nx lv (.inr (.inr x) :: r) H
    | none => false))
  | .iastore => fun nx a b c d env H nL rt pc lv st K C Rt => ag_pI st fun x r => ag_pI r fun j r => ag_pR r fun o r => ag_mI env x fun env x u w => ag_mI env j fun env j s t => ag_ar (ag_so T o) 13 s t && ag_wI T M H o j s t x u w fun H => K env nx lv r H
  | .castore => fun nx a b c d env H nL rt pc lv st K C Rt => ag_pI st fun x r => ag_pI r fun j r => ag_pR r fun o r => ag_mI env x fun env x u w => ag_mI env j fun env j s t => ag_ar (ag_so T o) 12 s t && (ag_ty .char u w && ag_wI T M H o j s t x u w fun H => K env nx lv r H)
  | .bastore => fun nx a b c d env H nL rt pc lv st K C Rt => ag_pI st fun x r => ag_pI r fun j r => ag_pR r fun o r => ag_mI env x fun env x u w => ag_mI env j fun env j s t => ag_ar (ag_so T o) 15 s t && (ag_ty .boolean u w && ag_wI T M H o j s t x u w fun H => K env nx lv r H)
  | .lastore => fun nx a b c d env H nL rt pc lv st K C Rt => ag_pL st fun x r => ag_pI r fun j r => ag_pR r fun o r => ag_mL env x fun env x u w => ag_mI env j fun env j s t => ag_ar (ag_so T o) 14 s t && (!(Nat.beq o 154) && ag_wL T M H o s t x u w fun H => K env nx lv r H)
  | .invokevirtual _ => fun nx a b c d env H nL rt pc lv st K C Rt => (match ag_pop b [] st with
    | some (As, .inr (.inr o) :: r) => (bif Nat.beq d 20 then Nat.ble 4000000 o && Nat.blt o 4000026 else ag_ob (ag_so T o) d) && (Nat.ble ((r.map ag_cat).sum) 8 && (Nat.beq (am_al a) 0 && C a (.inr (.inr o) :: As) r))
    | _ => false)
  | .invokestatic _ => fun nx a b c d env H nL rt pc lv st K C Rt => (match ag_pop b [] st with
    | some (As, r) => Nat.ble ((r.map ag_cat).sum) 8 && (Nat.beq (am_al a) 0 && C a As r)
    | _ => false)
  | .ireturn => fun nx a b c d env H nL rt pc lv st K C Rt => (match st with
    | [.inl x] => ag_mI env x fun env x s t => (match rt with
      | some ty => ag_ty ty s t && Rt env (some (.inl x))
      | none => false)
    | _ => false)
  | .lreturn => fun nx a b c d env H nL rt pc lv st K C Rt => (match st with
    | [.inr (.inl x)] => decide (rt = some .long) && Rt env (some (.inr (.inl x)))
    | _ => false)
  | .return_ => fun nx a b c d env H nL rt pc lv st K C Rt => (match st with
    | [] => (match rt with
      | none => Rt env none
      | _ => false)
    | _ => false)
  | _ => fun nx a b c d env H nL rt pc lv st K C Rt => false
/-- a template: intervals (symbols 0, 1, 2 stay through a method: N, the slack, the depth), where each symbol from 3 on stands (0 a local, 1 an int of the heap, 2 a long of the heap), locals, heap -/
abbrev ag_T : Type := ag_e × List (Nat × Nat × Nat) × ag_l × ag_H
def ag_loc (lv : ag_l) (H : ag_H) (q : Nat × Nat × Nat) : Option ag_f := match q.1 with
  | 0 => (match ag_lv lv q.2.1 with
    | some (.inl f) => some f
    | some (.inr (.inl f)) => some f
    | _ => none)
  | 1 => ag_lk H.1 q.2.1 q.2.2
  | _ => ag_lk H.2.1 q.2.1 q.2.2
def ag_sig (lv : ag_l) (H : ag_H) : List (Nat × Nat × Nat) → Option (List ag_f)
  | [] => some []
  | q :: r => match ag_loc lv H q with
    | some f => (match ag_sig lv H r with
      | some l => some (f :: l)
      | none => none)
    | none => none
/-- a sum over a template's symbols as one over those that are -/
def ag_sbt (σ : List ag_f) : List (Nat × Int) → ag_f
  | [] => ([], 0)
  | q :: r => ag_add (ag_scl q.2 (σ.getD q.1 ([], 0))) (ag_sbt σ r)
def ag_sb (σ : List ag_f) (f : ag_f) : ag_f := ag_add (ag_sbt σ f.1) (ag_k f.2)
def ag_inI (env : ag_e) (f : ag_f) (w : Int × Int) : Bool := match ag_iv env f with
  | some z => decide (w.1 ≤ z.1) && decide (z.2 ≤ w.2)
  | none => false
def ag_vf (σ : List ag_f) (v : Option ag_v) (g : ag_v) : Bool := match v, g with
  | some (.inl f), .inl g => decide (f = ag_sb σ g)
  | some (.inr (.inl f)), .inr (.inl g) => decide (f = ag_sb σ g)
  | some (.inr (.inr o)), .inr (.inr p) => Nat.beq o p
  | _, _ => false
def ag_ff (σ : List ag_f) (v : Option ag_f) (g : ag_f) : Bool := match v with
  | some f => decide (f = ag_sb σ g)
  | none => false
def ag_rok (v : Option Nat) (r : Nat) : Bool := match v with
  | some x => Nat.beq x r
  | none => false
/-- in an interval, also by what is kept -/
def ag_inC (env : ag_e) (C : List ag_f) (f : ag_f) (w : Int × Int) : Bool := ag_inI env f w || (ag_nn env C (ag_sub f (ag_k w.1)) && ag_nn env C (ag_sub (ag_k w.2) f))
/-- the symbols' sums, if the state is one of the template's -/
def ag_fitB (D : ag_D) (env : ag_e) (lv : ag_l) (H : ag_H) (T : ag_T) (σ : List ag_f) : Bool := Nat.beq T.1.length σ.length && ((σ.zip T.1).all (fun q => ag_inC env H.2.2.2.1 q.1 q.2) && (T.2.2.1.all (fun q => ag_vf σ (ag_lv lv q.1) q.2) && (T.2.2.2.1.all (fun q => ag_ff σ (ag_lk H.1 q.1 q.2.1) q.2.2) && (T.2.2.2.2.1.all (fun q => ag_ff σ (ag_lk H.2.1 q.1 q.2.1) q.2.2) && (T.2.2.2.2.2.1.all (fun q => ag_rok (ag_rr D H.2.2.1 q.1 q.2.1) q.2.2) && (T.2.2.2.2.2.2.1.all (fun g => ag_nn env H.2.2.2.1 (ag_sb σ g)) && T.2.2.2.2.2.2.2.all (fun g => H.2.2.2.2.any (fun q => Nat.beq q.1 g.1 && decide (q.2 = ag_sb σ g.2)))))))))
def ag_P0 : List ag_f := [ag_y 0, ag_y 1, ag_y 2]
def ag_fit (D : ag_D) (env : ag_e) (lv : ag_l) (H : ag_H) (pre : List ag_f) (T : ag_T) : Option (List ag_f) := match ag_sig lv H T.2.1 with
  | some σ => bif ag_fitB D env lv H T (pre ++ σ) then some (pre ++ σ) else none
  | none => none
/-- places that a template speaks of are looked at first -/
def ag_mat (D : ag_D) : List (Nat × Nat × ag_f) → ag_e → ag_H → (ag_e → ag_H → Bool) → Bool
  | [], env, H, K => K env H
  | q :: r, env, H, K => ag_rd D env H q.1 q.2.1 (fun env H _ => ag_mat D r env H K)
def ag_matL (D : ag_D) : List (Nat × Nat × ag_f) → ag_e → ag_H → (ag_e → ag_H → Bool) → Bool
  | [], env, H, K => K env H
  | q :: r, env, H, K => ag_rL D env H q.1 q.2.1 (fun env H _ => ag_matL D r env H K)
def ag_m2 (D : ag_D) (T : ag_T) (env : ag_e) (H : ag_H) (K : ag_e → ag_H → Bool) : Bool := ag_mat D T.2.2.2.1 env H (fun env H => ag_matL D T.2.2.2.2.1 env H K)
/-- locals whose sums are not their ints, their longs, get symbols of their own -/
def ag_nl1 (env : ag_e) (lv : ag_l) (k : Nat) (K : ag_e → ag_l → Bool) : Bool := match ag_lv lv k with
  | some (.inl f) => (match ag_iv env f with
    | some w => bif decide (-2147483648 ≤ w.1) && decide (w.2 ≤ 2147483647) then K env lv else ag_nI env (fun env z => K env ((k, .inl z) :: lv))
    | none => false)
  | some (.inr (.inl f)) => (match ag_iv env f with
    | some w => bif decide (-9223372036854775808 ≤ w.1) && decide (w.2 ≤ 9223372036854775807) then K env lv else ag_nL env (fun env z => K env ((k, .inr (.inl z)) :: lv))
    | none => false)
  | _ => K env lv
def ag_nlv : ag_l → ag_e → ag_l → (ag_e → ag_l → Bool) → Bool
  | [], env, lv, K => K env lv
  | q :: r, env, lv, K => ag_nl1 env lv q.1 (fun env lv => ag_nlv r env lv K)
def ag_m3 (D : ag_D) (T : ag_T) (env : ag_e) (lv : ag_l) (H : ag_H) (K : ag_e → ag_l → ag_H → Bool) : Bool := ag_nlv T.2.2.1 env lv (fun env lv => ag_m2 D T env H (fun env H => K env lv H))
/-- a contract: the method, the depth of its calls, the starts, the ends (an answer is local 1000), what may be written -/
abbrev ag_C : Type := Nat × Nat × List ag_T × List ag_T × ag_M
def ag_ys (m : Nat) : Nat → List ag_f
  | 0 => []
  | n + 1 => ag_y m :: ag_ys (m + 1) n
def ag_rn (σ : List ag_f) (v : ag_v) : ag_v := match v with
  | .inl f => .inl (ag_sb σ f)
  | .inr (.inl f) => .inr (.inl (ag_sb σ f))
  | .inr (.inr o) => .inr (.inr o)
/-- what the symbols that stay are in a callee: N as it is; the slack, or one more; the depth at hand -/
def ag_kap (H : ag_H) : ag_f := match H.2.2.2.2.find? (fun q => Nat.beq q.1 0) with
  | some q => q.2
  | none => ag_k 0
def ag_pres (H : ag_H) : List (List ag_f) := [[ag_y 0, ag_add (ag_y 1) (ag_k 1), ag_kap H], [ag_y 0, ag_y 1, ag_kap H]]
def ag_aft (M : ag_M) (env : ag_e) (H : ag_H) (pre : List ag_f) (P : ag_T) (K : ag_e → ag_H → Option ag_v → Bool) : Bool := match pre ++ ag_ys env.length (P.1.length - 3) with
  | σ => K (env ++ P.1.drop 3) (P.2.2.2.1.map (fun q => (q.1, q.2.1, ag_sb σ q.2.2)) ++ H.1.filter (fun q => !(ag_atM M q.1 q.2.1)), P.2.2.2.2.1.map (fun q => (q.1, q.2.1, ag_sb σ q.2.2)) ++ H.2.1.filter (fun q => !(ag_atM M q.1 q.2.1)), P.2.2.2.2.2.1 ++ H.2.2.1.filter (fun q => !(ag_atM M q.1 q.2.1)), P.2.2.2.2.2.2.1.map (ag_sb σ) ++ H.2.2.2.1, P.2.2.2.2.2.2.2.map (fun q => (q.1, ag_sb σ q.2)) ++ ag_gm M H.2.2.2.2) ((ag_lv P.2.2.1 1000).map (ag_rn σ))
def ag_Msb (M' M : ag_M) : Bool := M'.all (fun q => ag_inM M q.1 q.2.1 q.2.2)
def ag_args : Nat → List ag_v → ag_l
  | _, [] => []
  | i, v :: vs => (i, v) :: ag_args (bif Nat.beq (ag_cat v) 2 then i + 2 else i + 1) vs
/-- the run; ex, fin: exits; spl: at which place which local, or int of the heap, is gone through value by value -/
abbrev ag_X : Type := (Nat → Bool) × (ag_e → Nat → ag_l → ag_H → Bool) × List (Nat × Nat × Nat × Nat)
def ag_noX : ag_X := (fun _ => false, fun _ _ _ _ => false, [])
def ag_spl (env : ag_e) (lv : ag_l) (H : ag_H) (X : ag_X) (pc : Nat) : Option (ag_f × Int × Int) := match X.2.2.find? (fun q => Nat.beq q.1 pc) with
  | some q => (match ag_loc lv H q.2 with
    | some f => (match ag_iv env f with
      | some w => bif decide (w.1 < w.2) then some (f, w.1, w.2) else none
      | none => none)
    | none => none)
  | none => none
def ag_go (D : ag_D) (M : ag_M) (tab : List ag_C) : Nat → Bool → ag_X → ag_e → Nat → ag_H → List (Nat × am_R) → Nat → Option FieldType → Nat → ag_l → List ag_v → (ag_e → ag_H → Option ag_v → Bool) → Bool
  | 0, _, _, _, _, _, _, _, _, _, _, _, _ => false
  | f + 1, fst, X, env, d, H, rows, nL, rt, pc, lv, st, Rt => bif !fst && X.1 pc then st.isEmpty && X.2.1 env pc lv H else (match ag_spl env lv H X pc with
    | some (g, lo, hi) => (List.range (hi - lo + 1).toNat).all (fun j => ag_eq env (ag_sub g (ag_k (lo + j))) (fun env => ag_go D M tab f fst X env d H rows nL rt pc lv st Rt))
    | none => (match am_find rows pc with
      | none => false
      | some r => ag_step D M r.1 r.2.1 r.2.2.1 r.2.2.2.1 r.2.2.2.2.1 r.2.2.2.2.2 env H nL rt pc lv st (fun env pc lv st H => ag_go D M tab f false X env d H rows nL rt pc lv st Rt)
        (fun a As rest => match am_infF a with
          | some q => Nat.ble ((As.map ag_cat).sum) q.2.1 && (bif tab.any (fun I => Nat.beq I.1 a) then tab.any (fun I => Nat.beq I.1 a && (Nat.ble I.2.1 d && (ag_Msb I.2.2.2.2 M && I.2.2.1.any (fun T => Nat.beq As.length T.2.2.1.length && ag_m3 D T env (ag_args 0 As) H (fun env lvA H => (ag_pres H).any (fun pre => (ag_fit D env lvA H pre T).isSome && ((pre.all (fun g => (ag_iv env g).isSome)) && I.2.2.2.1.all (fun P => ag_aft I.2.2.2.2 env H pre P (fun env H v => ag_go D M tab f false X env d H rows nL rt r.2.1 lv (v.toList ++ rest) Rt)))))))))
            else (match d with
              | 0 => false
              | d' + 1 => ag_go D M tab f false ag_noX env d' H q.1 q.2.1 q.2.2 0 (ag_args 0 As) [] (fun env H v => ag_go D M tab f false X env d H rows nL rt r.2.1 lv (v.toList ++ rest) Rt)))
          | none => false)
        (fun env v => Rt env H v)))
def ag_wft (m : Nat) (t : List (Nat × Int)) : Bool := t.all (fun q => Nat.blt q.1 m)
def ag_wfv (m : Nat) (v : ag_v) : Bool := match v with
  | .inl f => ag_wft m f.1
  | .inr (.inl f) => ag_wft m f.1
  | .inr (.inr _) => true
def ag_wfT (T : ag_T) : Bool := Nat.ble 3 T.1.length && (T.2.2.1.all (fun q => ag_wfv T.1.length q.2) && (T.2.2.2.1.all (fun q => ag_wft T.1.length q.2.2.1) && (T.2.2.2.2.1.all (fun q => ag_wft T.1.length q.2.2.1) && (T.2.2.2.2.2.2.1.all (fun g => ag_wft T.1.length g.1) && T.2.2.2.2.2.2.2.all (fun g => ag_wft T.1.length g.2.1)))))
/-- what no checked method writes: the kinds of the tokens, the law that is told -/
def ag_Mok (M : ag_M) : Bool := M.all (fun q => !(Nat.beq q.1 156) && ((!(Nat.beq q.1 161) || Nat.ble 1100 q.2.1) && ((!(Nat.beq q.1 162) || Nat.ble 1100 q.2.1) && !(Nat.beq q.1 160 && (Nat.ble q.2.1 3 && Nat.ble 3 q.2.2)))))
/-- an instance: a contract, cuts (place, template, measure), what is gone through value by value, the fuel -/
abbrev ag_I : Type := ag_C × List (Nat × ag_T × ag_f) × List (Nat × Nat × Nat × Nat) × Nat
def ag_cutX (D : ag_D) (I : ag_I) (src : Option ag_f) : ag_X := (fun pc => I.2.1.any (fun c => Nat.beq c.1 pc), fun env pc lv H => I.2.1.any (fun c => Nat.beq c.1 pc && ag_m3 D c.2.1 env lv H (fun env lv H => match ag_fit D env lv H ag_P0 c.2.1 with
  | some σ => ag_inI env (ag_sb σ c.2.2) (0, 1267650600228229401496703205376) && (match src with
    | some m => (match ag_iv env (ag_sub m (ag_sb σ c.2.2)) with
      | some w => decide (1 ≤ w.1)
      | none => false)
    | none => true)
  | none => false)), I.2.2.1)
def ag_rl (v : Option ag_v) : ag_l := match v with
  | some x => [(1000, x)]
  | none => []
def ag_ret (D : ag_D) (I : ag_I) (env : ag_e) (H : ag_H) (v : Option ag_v) : Bool := I.1.2.2.2.1.any (fun P => ag_m3 D P env (ag_rl v) H (fun env lv H => (ag_fit D env lv H ag_P0 P).isSome && decide (v.isSome = (ag_lv P.2.2.1 1000).isSome)))
/-- the method is one of those that have rows; each start and each cut is run -/
def ag_chk (D : ag_D) (tab : List ag_C) (I : ag_I) : Bool := match am_inf[I.1.1]? with
  | some q => (match I.1.2.1 with
    | 0 => false
    | d + 1 => Nat.beq (am_al I.1.1) 0 && (ag_Mok I.1.2.2.2.2 && (I.1.2.2.1.all (fun T => ag_wfT T && ag_go D I.1.2.2.2.2 tab I.2.2.2 true (ag_cutX D I none) T.1 d T.2.2.2 q.1 q.2.1 q.2.2 0 T.2.2.1 [] (ag_ret D I)) && I.2.1.all (fun c => ag_wfT c.2.1 && ag_wft c.2.1.1.length c.2.2.1 && ag_go D I.1.2.2.2.2 tab I.2.2.2 true (ag_cutX D I (some c.2.2)) c.2.1.1 d c.2.1.2.2.2 q.1 q.2.1 q.2.2 c.1 c.2.1.2.2.1 [] (ag_ret D I)))))
  | none => false
end
section
/-! THE SECOND CHECKER IS SOUND: sums, intervals, new symbols -/
variable {ρ ρ' : Nat → Int} {env env' : ag_e}
def ag_in (ρ : Nat → Int) (env : ag_e) : Prop := ∀ (i : Nat) (q : Int × Int), env[i]? = some q → q.1 ≤ ρ i ∧ ρ i ≤ q.2
def ag_wt (m : Nat) (f : ag_f) : Prop := ∀ q ∈ f.1, q.1 < m
def ag_wv (m : Nat) (v : ag_v) : Prop := match v with
  | .inl f => ag_wt m f
  | .inr (.inl f) => ag_wt m f
  | .inr (.inr _) => True
def ag_c (ρ : Nat → Int) (v : ag_v) : Value := match v with
  | .inl f => .int (Int32.ofInt (ag_ev ρ f))
  | .inr (.inl f) => .long (Int64.ofInt (ag_ev ρ f))
  | .inr (.inr o) => .ref o
theorem ag_ts_ins (i : Nat) (c : Int) : ∀ t : List (Nat × Int), ag_ts ρ (ag_ins i c t) = c * ρ i + ag_ts ρ t
  | [] => rfl
  | q :: r => by
    unfold ag_ins
    rw [ae_beq, ae_cond]
    by_cases h : q.1 = i
    · rw [if_pos h, ae_cond]
      by_cases h2 : q.2 + c = 0
      · rw [if_pos h2]
        show ag_ts ρ r = c * ρ i + (q.2 * ρ q.1 + ag_ts ρ r)
        rw [h, ← Int.add_assoc, ← Int.add_mul, Int.add_comm c, h2, Int.zero_mul, Int.zero_add]
      · rw [if_neg h2]
        show (q.2 + c) * ρ i + ag_ts ρ r = c * ρ i + (q.2 * ρ q.1 + ag_ts ρ r)
        rw [h, ← Int.add_assoc, ← Int.add_mul, Int.add_comm c]
    · rw [if_neg h]
      cases Nat.blt i q.1 with
      | true => rfl
      | false =>
        show q.2 * ρ q.1 + ag_ts ρ (ag_ins i c r) = c * ρ i + (q.2 * ρ q.1 + ag_ts ρ r)
        rw [ag_ts_ins i c r]
        omega
theorem ag_ts_addt : ∀ t g : List (Nat × Int), ag_ts ρ (ag_addt t g) = ag_ts ρ t + ag_ts ρ g
  | [], g => by
    show ag_ts ρ g = 0 + ag_ts ρ g
    omega
  | q :: r, g => by
    show ag_ts ρ (ag_ins q.1 q.2 (ag_addt r g)) = q.2 * ρ q.1 + ag_ts ρ r + ag_ts ρ g
    rw [ag_ts_ins, ag_ts_addt r g]
    omega
theorem ag_ev_add (f g : ag_f) : ag_ev ρ (ag_add f g) = ag_ev ρ f + ag_ev ρ g := by
  show ag_ts ρ (ag_addt f.1 g.1) + (f.2 + g.2) = (ag_ts ρ f.1 + f.2) + (ag_ts ρ g.1 + g.2)
  rw [ag_ts_addt]
  omega
theorem ag_ts_scl (c : Int) : ∀ t : List (Nat × Int), ag_ts ρ (t.map (fun q => (q.1, c * q.2))) = c * ag_ts ρ t
  | [] => by
    show (0 : Int) = c * 0
    rw [Int.mul_zero]
  | q :: r => by
    show c * q.2 * ρ q.1 + ag_ts ρ (r.map (fun q => (q.1, c * q.2))) = c * (q.2 * ρ q.1 + ag_ts ρ r)
    rw [ag_ts_scl c r, Int.mul_add, Int.mul_assoc]
theorem ag_ev_scl (c : Int) (f : ag_f) : ag_ev ρ (ag_scl c f) = c * ag_ev ρ f := by
  unfold ag_scl
  rw [ae_cond]
  by_cases h : c = 0
  · rw [if_pos h, h, Int.zero_mul]
    rfl
  · rw [if_neg h]
    show ag_ts ρ (f.1.map (fun q => (q.1, c * q.2))) + c * f.2 = c * (ag_ts ρ f.1 + f.2)
    rw [ag_ts_scl, Int.mul_add]
theorem ag_ev_sub (f g : ag_f) : ag_ev ρ (ag_sub f g) = ag_ev ρ f - ag_ev ρ g := by
  unfold ag_sub
  rw [ag_ev_add, ag_ev_scl]
  omega
theorem ag_ev_k (c : Int) : ag_ev ρ (ag_k c) = c := by
  show 0 + c = c
  omega
theorem ag_ev_y (i : Nat) : ag_ev ρ (ag_y i) = ρ i := by
  show 1 * ρ i + 0 + 0 = ρ i
  omega
/-! which symbols -/
theorem ag_wt_ins {m i : Nat} {c : Int} (hi : i < m) : ∀ {t : List (Nat × Int)}, (∀ q ∈ t, q.1 < m) → ∀ q ∈ ag_ins i c t, q.1 < m
  | [], _, q, hq => by
    rcases List.mem_cons.mp hq with h | h
    · rw [h]; exact hi
    · exact absurd h List.not_mem_nil
  | p :: r, h, q, hq => by
    have hr : ∀ q ∈ r, q.1 < m := fun q hq => h q (List.mem_cons_of_mem _ hq)
    unfold ag_ins at hq
    cases h1 : Nat.beq p.1 i with
    | true =>
      rw [h1] at hq
      dsimp only [cond] at hq
      cases h2 : decide (p.2 + c = 0) with
      | true => rw [h2] at hq; exact hr q hq
      | false =>
        rw [h2] at hq
        rcases List.mem_cons.mp hq with h3 | h3
        · rw [h3]; exact hi
        · exact hr q h3
    | false =>
      rw [h1] at hq
      dsimp only [cond] at hq
      cases h2 : Nat.blt i p.1 with
      | true =>
        rw [h2] at hq
        rcases List.mem_cons.mp hq with h3 | h3
        · rw [h3]; exact hi
        · exact h q h3
      | false =>
        rw [h2] at hq
        rcases List.mem_cons.mp hq with h3 | h3
        · rw [h3]; exact h p List.mem_cons_self
        · exact ag_wt_ins hi hr q h3
theorem ag_wt_addt {m : Nat} : ∀ {t g : List (Nat × Int)}, (∀ q ∈ t, q.1 < m) → (∀ q ∈ g, q.1 < m) → ∀ q ∈ ag_addt t g, q.1 < m
  | [], _, _, hg => hg
  | p :: r, _, ht, hg => ag_wt_ins (ht p List.mem_cons_self) (ag_wt_addt (fun q hq => ht q (List.mem_cons_of_mem _ hq)) hg)
theorem ag_wt_add {m : Nat} {f g : ag_f} (hf : ag_wt m f) (hg : ag_wt m g) : ag_wt m (ag_add f g) := ag_wt_addt hf hg
theorem ag_wt_scl {m : Nat} {c : Int} {f : ag_f} (hf : ag_wt m f) : ag_wt m (ag_scl c f) := by
  unfold ag_scl
  cases decide (c = 0) with
  | true => exact fun q hq => absurd hq List.not_mem_nil
  | false =>
    intro q hq
    obtain ⟨p, hp, e⟩ := List.mem_map.mp (show q ∈ f.1.map (fun q => (q.1, c * q.2)) from hq)
    rw [← e]
    exact hf p hp
theorem ag_wt_sub {m : Nat} {f g : ag_f} (hf : ag_wt m f) (hg : ag_wt m g) : ag_wt m (ag_sub f g) := ag_wt_add hf (ag_wt_scl hg)
theorem ag_wt_k {m : Nat} {c : Int} : ag_wt m (ag_k c) := fun _ hq => absurd hq List.not_mem_nil
theorem ag_wt_y {m i : Nat} (h : i < m) : ag_wt m (ag_y i) := by
  intro q hq
  rcases List.mem_cons.mp (show q ∈ [(i, (1 : Int))] from hq) with h3 | h3
  · rw [h3]; exact h
  · exact absurd h3 List.not_mem_nil
theorem ag_wt.up {m n : Nat} {f : ag_f} (h : ag_wt m f) (hn : m ≤ n) : ag_wt n f := fun q hq => Nat.lt_of_lt_of_le (h q hq) hn
theorem ag_wv.up {m n : Nat} {v : ag_v} (h : ag_wv m v) (hn : m ≤ n) : ag_wv n v := by
  rcases v with f | f | o
  · exact ag_wt.up h hn
  · exact ag_wt.up h hn
  · trivial
theorem ag_ts_same {m : Nat} (hs : ∀ i, i < m → ρ' i = ρ i) : ∀ {t : List (Nat × Int)}, (∀ q ∈ t, q.1 < m) → ag_ts ρ' t = ag_ts ρ t
  | [], _ => rfl
  | q :: r, h => by
    show q.2 * ρ' q.1 + ag_ts ρ' r = q.2 * ρ q.1 + ag_ts ρ r
    rw [hs q.1 (h q List.mem_cons_self), ag_ts_same hs (fun p hp => h p (List.mem_cons_of_mem _ hp))]
theorem ag_ev_same {m : Nat} (hs : ∀ i, i < m → ρ' i = ρ i) {f : ag_f} (h : ag_wt m f) : ag_ev ρ' f = ag_ev ρ f := by
  unfold ag_ev
  rw [ag_ts_same hs h]
theorem ag_c_same {m : Nat} (hs : ∀ i, i < m → ρ' i = ρ i) {v : ag_v} (h : ag_wv m v) : ag_c ρ' v = ag_c ρ v := by
  rcases v with f | f | o
  · show Value.int _ = Value.int _
    rw [ag_ev_same hs h]
  · show Value.long _ = Value.long _
    rw [ag_ev_same hs h]
  · rfl
/-! intervals -/
theorem ag_ivt_ok (hin : ag_in ρ env) : ∀ {t : List (Nat × Int)} {z : Int × Int}, ag_ivt env t = some z → z.1 ≤ ag_ts ρ t ∧ ag_ts ρ t ≤ z.2
  | [], z, h => by
    cases h
    exact ⟨Int.le_refl _, Int.le_refl _⟩
  | q :: r, z, h => by
    unfold ag_ivt at h
    split at h
    · rename_i w hw
      split at h
      · rename_i y hy
        have h1 := hin q.1 w hw
        have h2 := ag_ivt_ok hin hy
        have e := Option.some.inj h
        rw [ae_cond] at e
        show z.1 ≤ q.2 * ρ q.1 + ag_ts ρ r ∧ q.2 * ρ q.1 + ag_ts ρ r ≤ z.2
        by_cases h3 : 0 ≤ q.2
        · rw [if_pos h3] at e
          rw [← e]
          have a1 := Int.mul_le_mul_of_nonneg_left h1.1 h3
          have a2 := Int.mul_le_mul_of_nonneg_left h1.2 h3
          exact ⟨by show q.2 * w.1 + y.1 ≤ _; omega, by show _ ≤ q.2 * w.2 + y.2; omega⟩
        · rw [if_neg h3] at e
          rw [← e]
          have a1 := Int.mul_le_mul_of_nonpos_left (show q.2 ≤ 0 by omega) h1.1
          have a2 := Int.mul_le_mul_of_nonpos_left (show q.2 ≤ 0 by omega) h1.2
          exact ⟨by show q.2 * w.2 + y.1 ≤ _; omega, by show _ ≤ q.2 * w.1 + y.2; omega⟩
      · cases h
    · cases h
theorem ag_iv_ok (hin : ag_in ρ env) {f : ag_f} {z : Int × Int} (h : ag_iv env f = some z) : z.1 ≤ ag_ev ρ f ∧ ag_ev ρ f ≤ z.2 := by
  unfold ag_iv at h
  split at h
  · rename_i y hy
    have h1 := ag_ivt_ok hin hy
    cases h
    unfold ag_ev
    exact ⟨by show y.1 + f.2 ≤ _; omega, by show _ ≤ y.2 + f.2; omega⟩
  · cases h
/-- a term against the whole -/
theorem ag_ivt_term (hin : ag_in ρ env) : ∀ {t : List (Nat × Int)} {z : Int × Int} {i : Nat} {c : Int} {w : Int × Int}, ag_ivt env t = some z → (i, c) ∈ t → env[i]? = some w → (c = 1 → ag_ts ρ t ≤ ρ i + (z.2 - w.2)) ∧ (c = -1 → ag_ts ρ t ≤ z.2 + w.1 - ρ i)
  | [], _, _, _, _, _, hm, _ => absurd hm List.not_mem_nil
  | q :: r, z, i, c, w, h, hm, hw => by
    unfold ag_ivt at h
    split at h
    · rename_i w' hw'
      split at h
      · rename_i y hy
        have h1 := hin q.1 w' hw'
        have h2 := ag_ivt_ok hin hy
        have e := Option.some.inj h
        rw [ae_cond] at e
        have ht : ag_ts ρ (q :: r) = q.2 * ρ q.1 + ag_ts ρ r := rfl
        rw [ht]
        rcases List.mem_cons.mp hm with h3 | h3
        · subst h3
          rw [hw] at hw'
          cases hw'
          refine ⟨fun hc => ?_, fun hc => ?_⟩
          · subst hc
            rw [if_pos (show (0 : Int) ≤ 1 by decide)] at e
            rw [← e]
            show 1 * ρ i + ag_ts ρ r ≤ ρ i + (1 * w.2 + y.2 - w.2)
            omega
          · subst hc
            rw [if_neg (show ¬ (0 : Int) ≤ -1 by decide)] at e
            rw [← e]
            show -1 * ρ i + ag_ts ρ r ≤ -1 * w.1 + y.2 + w.1 - ρ i
            omega
        · have h4 := ag_ivt_term hin hy h3 hw
          have h5 : q.2 * ρ q.1 ≤ z.2 - y.2 := by
            by_cases h6 : 0 ≤ q.2
            · rw [if_pos h6] at e
              rw [← e]
              have a2 := Int.mul_le_mul_of_nonneg_left h1.2 h6
              show _ ≤ q.2 * w'.2 + y.2 - y.2
              omega
            · rw [if_neg h6] at e
              rw [← e]
              have a1 := Int.mul_le_mul_of_nonpos_left (show q.2 ≤ 0 by omega) h1.1
              show _ ≤ q.2 * w'.1 + y.2 - y.2
              omega
          refine ⟨fun hc => ?_, fun hc => ?_⟩
          · have := h4.1 hc
            omega
          · have := h4.2 hc
            omega
      · cases h
    · cases h
theorem ag_in_set {i : Nat} {q : Int × Int} (hin : ag_in ρ env) (h1 : q.1 ≤ ρ i) (h2 : ρ i ≤ q.2) : ag_in ρ (env.set i q) := by
  intro j w hw
  by_cases hj : j = i
  · subst hj
    rw [List.getElem?_set] at hw
    split at hw
    · split at hw
      · cases hw
        exact ⟨h1, h2⟩
      · cases hw
    · rename_i hne
      exact absurd rfl hne
  · rw [List.getElem?_set_ne (fun z => hj z.symm)] at hw
    exact hin j w hw
theorem ag_fold_ok {env0 : ag_e} (hin0 : ag_in ρ env0) {g : ag_f} {z : Int × Int} (hz : ag_ivt env0 g.1 = some z) (hg : 0 ≤ ag_ev ρ g) :
    ∀ (t : List (Nat × Int)) (env : ag_e), (∀ q ∈ t, q ∈ g.1) → ag_in ρ env → env.length = env0.length → (∀ (i : Nat) (w w0 : Int × Int), env[i]? = some w → env0[i]? = some w0 → w0.1 ≤ w.1 ∧ w.2 ≤ w0.2) → ag_in ρ (t.foldl (ag_rf1 (z.2 + g.2)) env) ∧ (t.foldl (ag_rf1 (z.2 + g.2)) env).length = env0.length
  | [], env, _, h, hl, _ => ⟨h, hl⟩
  | q :: r, env, ht, h, hl, hb => by
    have hr : ∀ p ∈ r, p ∈ g.1 := fun p hp => ht p (List.mem_cons_of_mem _ hp)
    have hev : ag_ev ρ g = ag_ts ρ g.1 + g.2 := rfl
    show ag_in ρ (r.foldl _ (ag_rf1 (z.2 + g.2) env q)) ∧ _
    have key : ag_in ρ (ag_rf1 (z.2 + g.2) env q) ∧ (ag_rf1 (z.2 + g.2) env q).length = env0.length ∧ (∀ (i : Nat) (w w0 : Int × Int), (ag_rf1 (z.2 + g.2) env q)[i]? = some w → env0[i]? = some w0 → w0.1 ≤ w.1 ∧ w.2 ≤ w0.2) := by
      unfold ag_rf1
      split
      · rename_i w hw
        have hlt : q.1 < env0.length := by rw [← hl]; exact (List.getElem?_eq_some_iff.mp hw).1
        have hw0 : env0[q.1]? = some env0[q.1] := List.getElem?_eq_getElem hlt
        have b := hb q.1 w _ hw hw0
        have i1 := h q.1 w hw
        have tm := ag_ivt_term hin0 (i := q.1) (c := q.2) hz (ht q List.mem_cons_self) hw0
        have upd : ∀ w' : Int × Int, w'.1 ≤ ρ q.1 → ρ q.1 ≤ w'.2 → (env0[q.1]).1 ≤ w'.1 → w'.2 ≤ (env0[q.1]).2 → ag_in ρ (env.set q.1 w') ∧ (env.set q.1 w').length = env0.length ∧ (∀ (i : Nat) (w w0 : Int × Int), (env.set q.1 w')[i]? = some w → env0[i]? = some w0 → w0.1 ≤ w.1 ∧ w.2 ≤ w0.2) := by
          intro w' a1 a2 a3 a4
          refine ⟨ag_in_set h a1 a2, by rw [List.length_set]; exact hl, fun i w w0 e1 e2 => ?_⟩
          by_cases hi : i = q.1
          · subst hi
            rw [List.getElem?_set_self (by rw [hl]; exact hlt)] at e1
            rw [hw0] at e2
            cases e1
            cases e2
            exact ⟨a3, a4⟩
          · rw [List.getElem?_set_ne (fun z => hi z.symm)] at e1
            exact hb i w w0 e1 e2
        rw [ae_cond, ae_cond]
        by_cases c1 : q.2 = 1
        · rw [if_pos c1]
          have := tm.1 c1
          exact upd _ (by show max w.1 (w.2 - (z.2 + g.2)) ≤ _; omega) i1.2 (by show _ ≤ max w.1 (w.2 - (z.2 + g.2)); omega) b.2
        · rw [if_neg c1]
          by_cases c2 : q.2 = -1
          · rw [if_pos c2]
            have := tm.2 c2
            exact upd _ i1.1 (by show _ ≤ min w.2 (w.1 + (z.2 + g.2)); omega) b.1 (by show min w.2 (w.1 + (z.2 + g.2)) ≤ _; omega)
          · rw [if_neg c2]
            exact ⟨h, hl, hb⟩
      · exact ⟨h, hl, hb⟩
    exact ag_fold_ok hin0 hz hg r _ hr key.1 key.2.1 key.2.2
theorem ag_ge_ok (hin : ag_in ρ env) {g : ag_f} {k : ag_e → Bool} (hg : 0 ≤ ag_ev ρ g) (hs : ag_ge env g k = true) : ∃ env', ag_in ρ env' ∧ env'.length = env.length ∧ k env' = true := by
  unfold ag_ge at hs
  split at hs
  · rename_i w hw
    have h1 := ag_iv_ok hin hw
    rw [ae_cond, if_neg (by omega), ae_cond] at hs
    by_cases h2 : 0 ≤ w.1
    · rw [if_pos h2] at hs
      exact ⟨env, hin, rfl, hs⟩
    · rw [if_neg h2] at hs
      unfold ag_iv at hw
      split at hw
      · rename_i z hz
        cases hw
        obtain ⟨a1, a2⟩ := ag_fold_ok hin hz hg g.1 env (fun _ h => h) hin rfl (fun i w w0 e1 e2 => by rw [e1] at e2; cases e2; exact ⟨Int.le_refl _, Int.le_refl _⟩)
        exact ⟨_, a1, a2, hs⟩
      · cases hw
  · cases hs
theorem ag_eq_ok (hin : ag_in ρ env) {g : ag_f} {k : ag_e → Bool} (hg : ag_ev ρ g = 0) (hs : ag_eq env g k = true) : ∃ env', ag_in ρ env' ∧ env'.length = env.length ∧ k env' = true := by
  obtain ⟨e1, i1, l1, h1⟩ := ag_ge_ok hin (by omega) hs
  obtain ⟨e2, i2, l2, h2⟩ := ag_ge_ok i1 (by rw [ag_ev_scl]; omega) h1
  exact ⟨e2, i2, l2.trans l1, h2⟩
theorem ag_ne_ok (hin : ag_in ρ env) {g : ag_f} {k : ag_e → Bool} (hg : ¬ ag_ev ρ g = 0) (hs : ag_ne env g k = true) : ∃ env', ag_in ρ env' ∧ env'.length = env.length ∧ k env' = true := by
  unfold ag_ne at hs
  split at hs
  · rename_i w hw
    have h1 := ag_iv_ok hin hw
    rw [ae_cond, ae_cond] at hs
    by_cases h2 : w.1 = 0
    · rw [if_pos h2] at hs
      exact ag_ge_ok hin (by rw [ag_ev_sub, ag_ev_k]; omega) hs
    · rw [if_neg h2] at hs
      by_cases h3 : w.2 = 0
      · rw [if_pos h3] at hs
        exact ag_ge_ok hin (by rw [ag_ev_sub, ag_ev_k, ag_ev_scl]; omega) hs
      · rw [if_neg h3] at hs
        exact ⟨env, hin, rfl, hs⟩
  · cases hs
theorem ag_cmp_ok (hin : ag_in ρ env) {q : Jvm.ClassFile.Cond} {x y : ag_f} {k : ag_e → Bool → Bool} (hs : ag_cmp env q x y k = true) : ∃ env' t, ag_in ρ env' ∧ env'.length = env.length ∧ (ae_ti q (ag_ev ρ x) (ag_ev ρ y) ↔ t = true) ∧ k env' t = true := by
  have gg : ∀ {g : ag_f} {t : Bool}, 0 ≤ ag_ev ρ g → ag_ge env g (fun e => k e t) = true → ∃ env', ag_in ρ env' ∧ env'.length = env.length ∧ k env' t = true := fun h1 h2 => ag_ge_ok hin h1 h2
  unfold ag_cmp at hs
  cases q <;> rw [Bool.and_eq_true] at hs <;> obtain ⟨s1, s2⟩ := hs
  case eq =>
    by_cases h : ag_ev ρ x = ag_ev ρ y
    · obtain ⟨e, a, b, c⟩ := ag_eq_ok hin (by rw [ag_ev_sub]; omega) s1
      exact ⟨e, true, a, b, ⟨fun _ => rfl, fun _ => h⟩, c⟩
    · obtain ⟨e, a, b, c⟩ := ag_ne_ok hin (by rw [ag_ev_sub]; omega) s2
      exact ⟨e, false, a, b, ⟨fun z => absurd z h, fun z => Bool.noConfusion z⟩, c⟩
  case ne =>
    by_cases h : ag_ev ρ x = ag_ev ρ y
    · obtain ⟨e, a, b, c⟩ := ag_eq_ok hin (by rw [ag_ev_sub]; omega) s2
      exact ⟨e, false, a, b, ⟨fun z => absurd h z, fun z => Bool.noConfusion z⟩, c⟩
    · obtain ⟨e, a, b, c⟩ := ag_ne_ok hin (by rw [ag_ev_sub]; omega) s1
      exact ⟨e, true, a, b, ⟨fun _ => rfl, fun _ => h⟩, c⟩
  case lt =>
    by_cases h : ag_ev ρ x < ag_ev ρ y
    · obtain ⟨e, a, b, c⟩ := gg (by rw [ag_ev_sub, ag_ev_sub, ag_ev_k]; omega) s1
      exact ⟨e, true, a, b, ⟨fun _ => rfl, fun _ => h⟩, c⟩
    · obtain ⟨e, a, b, c⟩ := gg (by rw [ag_ev_sub]; omega) s2
      exact ⟨e, false, a, b, ⟨fun z => absurd z h, fun z => Bool.noConfusion z⟩, c⟩
  case ge =>
    by_cases h : ag_ev ρ y ≤ ag_ev ρ x
    · obtain ⟨e, a, b, c⟩ := gg (by rw [ag_ev_sub]; omega) s1
      exact ⟨e, true, a, b, ⟨fun _ => rfl, fun _ => h⟩, c⟩
    · obtain ⟨e, a, b, c⟩ := gg (by rw [ag_ev_sub, ag_ev_sub, ag_ev_k]; omega) s2
      exact ⟨e, false, a, b, ⟨fun z => absurd z h, fun z => Bool.noConfusion z⟩, c⟩
  case gt =>
    by_cases h : ag_ev ρ y < ag_ev ρ x
    · obtain ⟨e, a, b, c⟩ := gg (by rw [ag_ev_sub, ag_ev_sub, ag_ev_k]; omega) s1
      exact ⟨e, true, a, b, ⟨fun _ => rfl, fun _ => h⟩, c⟩
    · obtain ⟨e, a, b, c⟩ := gg (by rw [ag_ev_sub]; omega) s2
      exact ⟨e, false, a, b, ⟨fun z => absurd z h, fun z => Bool.noConfusion z⟩, c⟩
  case le =>
    by_cases h : ag_ev ρ x ≤ ag_ev ρ y
    · obtain ⟨e, a, b, c⟩ := gg (by rw [ag_ev_sub]; omega) s1
      exact ⟨e, true, a, b, ⟨fun _ => rfl, fun _ => h⟩, c⟩
    · obtain ⟨e, a, b, c⟩ := gg (by rw [ag_ev_sub, ag_ev_sub, ag_ev_k]; omega) s2
      exact ⟨e, false, a, b, ⟨fun z => absurd z h, fun z => Bool.noConfusion z⟩, c⟩
end
section
/-! THE SECOND CHECKER IS SOUND: numbers, new symbols, the heap -/
variable {ρ ρ' : Nat → Int} {env env' : ag_e} {D : ag_D} {M : ag_M} {h0 h : am_H} {H : ag_H}
theorem ag_i32 {n : Int} (h1 : -2147483648 ≤ n) (h2 : n ≤ 2147483647) : (Int32.ofInt n).toInt = n := Int32.toInt_ofInt_of_le (by omega) (by omega)
theorem ag_i64 {n : Int} (h1 : -9223372036854775808 ≤ n) (h2 : n ≤ 9223372036854775807) : (Int64.ofInt n).toInt = n := Int64.toInt_ofInt_of_le (by omega) (by omega)
theorem ag_i32r (x : Int32) : -2147483648 ≤ x.toInt ∧ x.toInt ≤ 2147483647 := by
  have h1 := x.toInt_lt
  have h2 := x.le_toInt
  omega
theorem ag_i64r (x : Int64) : -9223372036854775808 ≤ x.toInt ∧ x.toInt ≤ 9223372036854775807 := by
  have h1 := x.toInt_lt
  have h2 := x.le_toInt
  omega
def ag_xt (ρ : Nat → Int) (env : ag_e) (ρ' : Nat → Int) (env' : ag_e) : Prop := env.length ≤ env'.length ∧ (∀ i, i < env.length → ρ' i = ρ i) ∧ ag_in ρ' env'
theorem ag_xt.refl (hin : ag_in ρ env) : ag_xt ρ env ρ env := ⟨Nat.le_refl _, fun _ _ => rfl, hin⟩
theorem ag_xt.trans {ρ'' : Nat → Int} {env'' : ag_e} (h1 : ag_xt ρ env ρ' env') (h2 : ag_xt ρ' env' ρ'' env'') : ag_xt ρ env ρ'' env'' := ⟨Nat.le_trans h1.1 h2.1, fun i hi => (h2.2.1 i (Nat.lt_of_lt_of_le hi h1.1)).trans (h1.2.1 i hi), h2.2.2⟩
theorem ag_xt.cut (hin : ag_in ρ env') (hl : env'.length = env.length) : ag_xt ρ env ρ env' := ⟨Nat.le_of_eq hl.symm, fun _ _ => rfl, hin⟩
theorem ag_new (hin : ag_in ρ env) {lo hi x : Int} (h1 : lo ≤ x) (h2 : x ≤ hi) : ag_xt ρ env (fun i => if i = env.length then x else ρ i) (env ++ [(lo, hi)]) := by
  refine ⟨by simp, fun i hi => if_neg (by omega), fun i q hq => ?_⟩
  by_cases hlt : i < env.length
  · rw [List.getElem?_append_left hlt] at hq
    show q.1 ≤ (if i = env.length then x else ρ i) ∧ (if i = env.length then x else ρ i) ≤ q.2
    rw [if_neg (by omega)]
    exact hin i q hq
  · rw [List.getElem?_append_right (by omega)] at hq
    have hl : i - env.length < 1 := (List.getElem?_eq_some_iff.mp hq).1
    have he : i = env.length := by omega
    subst he
    rw [Nat.sub_self] at hq
    cases hq
    show lo ≤ (if env.length = env.length then x else ρ env.length) ∧ (if env.length = env.length then x else ρ env.length) ≤ hi
    rw [if_pos rfl]
    exact ⟨h1, h2⟩
theorem ag_new_f (env : ag_e) (lo hi x : Int) : ag_wt (env ++ [(lo, hi)]).length (ag_y env.length) ∧ ag_ev (fun i => if i = env.length then x else ρ i) (ag_y env.length) = x := by
  refine ⟨ag_wt_y (by simp), ?_⟩
  rw [ag_ev_y, if_pos rfl]
theorem ag_nw_ok (hin : ag_in ρ env) {lo hi x : Int} (h1 : lo ≤ x) (h2 : x ≤ hi) {k : ag_e → ag_f → Bool} (hs : ag_nw env lo hi k = true) : ∃ ρ' env' f, ag_xt ρ env ρ' env' ∧ ag_wt env'.length f ∧ ag_ev ρ' f = x ∧ k env' f = true := by
  unfold ag_nw at hs
  rw [ae_cond] at hs
  by_cases h : lo = hi
  · rw [if_pos h] at hs
    exact ⟨ρ, env, ag_k lo, ag_xt.refl hin, ag_wt_k, by rw [ag_ev_k]; omega, hs⟩
  · rw [if_neg h] at hs
    exact ⟨_, _, _, ag_new hin h1 h2, (ag_new_f (ρ := ρ) env lo hi x).1, (ag_new_f env lo hi x).2, hs⟩
theorem ag_nI_ok (hin : ag_in ρ env) (x : Int32) {k : ag_e → ag_f → Bool} (hs : ag_nI env k = true) : ∃ ρ' env' f, ag_xt ρ env ρ' env' ∧ ag_wt env'.length f ∧ ag_ev ρ' f = x.toInt ∧ k env' f = true :=
  ⟨_, _, _, ag_new hin (ag_i32r x).1 (ag_i32r x).2, (ag_new_f (ρ := ρ) env (-2147483648) 2147483647 x.toInt).1, (ag_new_f env (-2147483648) 2147483647 x.toInt).2, hs⟩
theorem ag_nL_ok (hin : ag_in ρ env) (x : Int64) {k : ag_e → ag_f → Bool} (hs : ag_nL env k = true) : ∃ ρ' env' f, ag_xt ρ env ρ' env' ∧ ag_wt env'.length f ∧ ag_ev ρ' f = x.toInt ∧ k env' f = true :=
  ⟨_, _, _, ag_new hin (ag_i64r x).1 (ag_i64r x).2, (ag_new_f (ρ := ρ) env (-9223372036854775808) 9223372036854775807 x.toInt).1, (ag_new_f env (-9223372036854775808) 9223372036854775807 x.toInt).2, hs⟩
theorem ag_mI_ok (hin : ag_in ρ env) {f : ag_f} (hw : ag_wt env.length f) {k : ag_e → ag_f → Int → Int → Bool} (hs : ag_mI env f k = true) : ∃ ρ' env' f' lo hi, ag_xt ρ env ρ' env' ∧ ag_wt env'.length f' ∧ Int32.ofInt (ag_ev ρ f) = Int32.ofInt (ag_ev ρ' f') ∧ (Int32.ofInt (ag_ev ρ f)).toInt = ag_ev ρ' f' ∧ lo ≤ ag_ev ρ' f' ∧ ag_ev ρ' f' ≤ hi ∧ k env' f' lo hi = true := by
  unfold ag_mI at hs
  split at hs
  · rename_i w hiv
    have h1 := ag_iv_ok hin hiv
    cases hb : (decide (-2147483648 ≤ w.1) && decide (w.2 ≤ 2147483647)) with
    | true =>
      rw [hb] at hs
      simp only [Bool.and_eq_true, decide_eq_true_eq] at hb
      exact ⟨ρ, env, f, w.1, w.2, ag_xt.refl hin, hw, rfl, ag_i32 (by omega) (by omega), h1.1, h1.2, hs⟩
    | false =>
      rw [hb] at hs
      dsimp only [cond] at hs
      obtain ⟨ρ', env', f', a1, a2, a3, a4⟩ := ag_nI_ok hin (Int32.ofInt (ag_ev ρ f)) hs
      have r := ag_i32r (Int32.ofInt (ag_ev ρ f))
      exact ⟨ρ', env', f', _, _, a1, a2, by rw [a3, Int32.ofInt_toInt], a3.symm, by rw [a3]; exact r.1, by rw [a3]; exact r.2, a4⟩
  · cases hs
theorem ag_mL_ok (hin : ag_in ρ env) {f : ag_f} (hw : ag_wt env.length f) {k : ag_e → ag_f → Int → Int → Bool} (hs : ag_mL env f k = true) : ∃ ρ' env' f' lo hi, ag_xt ρ env ρ' env' ∧ ag_wt env'.length f' ∧ Int64.ofInt (ag_ev ρ f) = Int64.ofInt (ag_ev ρ' f') ∧ (Int64.ofInt (ag_ev ρ f)).toInt = ag_ev ρ' f' ∧ lo ≤ ag_ev ρ' f' ∧ ag_ev ρ' f' ≤ hi ∧ k env' f' lo hi = true := by
  unfold ag_mL at hs
  split at hs
  · rename_i w hiv
    have h1 := ag_iv_ok hin hiv
    cases hb : (decide (-9223372036854775808 ≤ w.1) && decide (w.2 ≤ 9223372036854775807)) with
    | true =>
      rw [hb] at hs
      simp only [Bool.and_eq_true, decide_eq_true_eq] at hb
      exact ⟨ρ, env, f, w.1, w.2, ag_xt.refl hin, hw, rfl, ag_i64 (by omega) (by omega), h1.1, h1.2, hs⟩
    | false =>
      rw [hb] at hs
      dsimp only [cond] at hs
      obtain ⟨ρ', env', f', a1, a2, a3, a4⟩ := ag_nL_ok hin (Int64.ofInt (ag_ev ρ f)) hs
      have r := ag_i64r (Int64.ofInt (ag_ev ρ f))
      exact ⟨ρ', env', f', _, _, a1, a2, by rw [a3, Int64.ofInt_toInt], a3.symm, by rw [a3]; exact r.1, by rw [a3]; exact r.2, a4⟩
  · cases hs
/-! the heap -/
/-- one code that is laid at a place: a number, a fact, not, one of two -/
def xf_st (h : am_H) (b : Nat) (dep : Nat → Nat) (i : Nat) : Prop :=
  (h.1 161 (b + i) = 1 ∧ dep (i + 1) = dep i + 1) ∨ (h.1 161 (b + i) = 2 ∧ (∃ a : Nat, a < 4 ∧ h.1 162 (b + i) = nI a) ∧ dep (i + 1) = dep i + 1) ∨ (h.1 161 (b + i) = 3 ∧ 1 ≤ dep i ∧ dep (i + 1) = dep i) ∨ ((∃ k : Nat, 4 ≤ k ∧ k ≤ 10 ∧ h.1 161 (b + i) = nI k) ∧ 2 ≤ dep i ∧ dep (i + 1) + 1 = dep i)
/-- facts: 0, the codes that are laid make so many; 1, they are a law, its end laid, and its place is told -/
def xf_P (id : Nat) (x : Int) (h : am_H) : Prop := bif Nat.beq id 0 then ∃ (c : Nat) (dep : Nat → Nat), h.1 154 13 = nI c ∧ c ≤ 1099 ∧ dep 0 = 0 ∧ (∀ i, i < c → xf_st h 1100 dep i) ∧ (dep c : Int) = x
  else ∃ (m : Nat) (dep : Nat → Nat), h.1 154 13 = nI (m + 1) ∧ m < 1099 ∧ h.1 160 43 = 0 ∧ h.1 161 (1100 + m) = 0 ∧ dep 0 = 0 ∧ ∀ i, i < m → xf_st h 1100 dep i
theorem xf_keep {id : Nat} {x : Int} {h h' : am_H} (hk : ∀ s ∈ ag_sup id, ∀ k, s.2.1 ≤ k → k ≤ s.2.2 → h'.1 s.1 k = h.1 s.1 k) (hp : xf_P id x h) : xf_P id x h' := by
  have st : ∀ {dep : Nat → Nat} {i : Nat}, i < 1100 → (h'.1 161 (1100 + i) = h.1 161 (1100 + i)) → (h'.1 162 (1100 + i) = h.1 162 (1100 + i)) → xf_st h 1100 dep i → xf_st h' 1100 dep i := by
    intro dep i _ e1 e2 hs
    unfold xf_st
    rw [e1, e2]
    exact hs
  unfold xf_P at hp ⊢
  unfold ag_sup at hk
  cases hb : Nat.beq id 0 with
  | true =>
    rw [hb] at hp hk
    obtain ⟨c, dep, h1, h2, h3, h4, h5⟩ := hp
    have k1 : ∀ i, i < 1100 → h'.1 161 (1100 + i) = h.1 161 (1100 + i) := fun i hi => hk (161, 1100, 2199) List.mem_cons_self (1100 + i) (Nat.le_add_right _ _) (show 1100 + i ≤ 2199 by omega)
    have k2 : ∀ i, i < 1100 → h'.1 162 (1100 + i) = h.1 162 (1100 + i) := fun i hi => hk (162, 1100, 2199) (List.mem_cons_of_mem _ List.mem_cons_self) (1100 + i) (Nat.le_add_right _ _) (show 1100 + i ≤ 2199 by omega)
    have k3 : h'.1 154 13 = h.1 154 13 := hk (154, 13, 13) (List.mem_cons_of_mem _ (List.mem_cons_of_mem _ List.mem_cons_self)) 13 (Nat.le_refl _) (Nat.le_refl _)
    exact ⟨c, dep, k3.trans h1, h2, h3, fun i hi => st (by omega) (k1 i (by omega)) (k2 i (by omega)) (h4 i hi), h5⟩
  | false =>
    rw [hb] at hp hk
    obtain ⟨m, dep, h1, h2, h6, h7, h3, h4⟩ := hp
    have k1 : ∀ i, i < 1100 → h'.1 161 (1100 + i) = h.1 161 (1100 + i) := fun i hi => hk (161, 1100, 2199) List.mem_cons_self (1100 + i) (Nat.le_add_right _ _) (show 1100 + i ≤ 2199 by omega)
    have k2 : ∀ i, i < 1100 → h'.1 162 (1100 + i) = h.1 162 (1100 + i) := fun i hi => hk (162, 1100, 2199) (List.mem_cons_of_mem _ List.mem_cons_self) (1100 + i) (Nat.le_add_right _ _) (show 1100 + i ≤ 2199 by omega)
    have k3 : h'.1 154 13 = h.1 154 13 := hk (154, 13, 13) (List.mem_cons_of_mem _ (List.mem_cons_of_mem _ List.mem_cons_self)) 13 (Nat.le_refl _) (Nat.le_refl _)
    have k4 : h'.1 160 43 = h.1 160 43 := hk (160, 43, 43) (List.mem_cons_of_mem _ (List.mem_cons_of_mem _ (List.mem_cons_of_mem _ List.mem_cons_self))) 43 (Nat.le_refl _) (Nat.le_refl _)
    exact ⟨m, dep, k3.trans h1, h2, k4.trans h6, (k1 m (by omega)).trans h7, h3, fun i hi => st (by omega) (k1 i (by omega)) (k2 i (by omega)) (h4 i hi)⟩
def ag_seg (s : ag_S) (k : Nat) (x : Int32) : Prop := s.1 ≤ k → k ≤ s.2.1 → k % s.2.2.1 = s.2.2.2.1 → s.2.2.2.2.1 ≤ x.toInt ∧ x.toInt ≤ s.2.2.2.2.2
def ag_G (D : ag_D) (h : am_H) : Prop := (∀ o, ∀ s ∈ D.1 o, ∀ k, ag_seg s k (h.1 o k)) ∧ (∀ o k, (D.2.1 o k).1 ≤ (h.2.1 o k).toInt ∧ (h.2.1 o k).toInt ≤ (D.2.1 o k).2) ∧ (∀ o k r, ag_lk D.2.2.1 o k = some r → h.2.2.1 o k = some r)
def ag_fr (M : ag_M) (h0 h : am_H) : Prop := h.2.2.2 = h0.2.2.2 ∧ ∀ o k, ag_atM M o k = false → h.1 o k = h0.1 o k ∧ h.2.1 o k = h0.2.1 o k ∧ h.2.2.1 o k = h0.2.2.1 o k
def ag_Hp (D : ag_D) (M : ag_M) (h0 : am_H) (ρ : Nat → Int) (m : Nat) (H : ag_H) (h : am_H) : Prop :=
  (h.2.2.2.2 = 175 ∧ 3 ≤ m) ∧ ag_G D h ∧ (∀ q ∈ H.1, ag_wt m q.2.2 ∧ h.1 q.1 q.2.1 = Int32.ofInt (ag_ev ρ q.2.2)) ∧ (∀ q ∈ H.2.1, ag_wt m q.2.2 ∧ h.2.1 q.1 q.2.1 = Int64.ofInt (ag_ev ρ q.2.2)) ∧
  (∀ q ∈ H.2.2.1, h.2.2.1 q.1 q.2.1 = some q.2.2) ∧ ((∀ g ∈ H.2.2.2.1, ag_wt m g ∧ 0 ≤ ag_ev ρ g) ∧ ∀ q ∈ H.2.2.2.2, ag_wt m q.2 ∧ xf_P q.1 (ag_ev ρ q.2) h) ∧ (0 ≤ ρ 0 ∧ h.1 156 (ρ 0).toNat = 0) ∧ ag_fr M h0 h
theorem ag_Hp.up (hp : ag_Hp D M h0 ρ env.length H h) (hx : ag_xt ρ env ρ' env') : ag_Hp D M h0 ρ' env'.length H h := by
  obtain ⟨⟨a1, a1'⟩, a2, a3, a4, a5, a6, a7, a8⟩ := hp
  have z : ρ' 0 = ρ 0 := hx.2.1 0 (by omega)
  refine ⟨⟨a1, Nat.le_trans a1' hx.1⟩, a2, fun q hq => ⟨(a3 q hq).1.up hx.1, ?_⟩, fun q hq => ⟨(a4 q hq).1.up hx.1, ?_⟩, a5, ⟨fun g hg => ⟨(a6.1 g hg).1.up hx.1, ?_⟩, fun q hq => ⟨(a6.2 q hq).1.up hx.1, ?_⟩⟩, ?_, a8⟩
  · rw [ag_ev_same hx.2.1 (a3 q hq).1]
    exact (a3 q hq).2
  · rw [ag_ev_same hx.2.1 (a4 q hq).1]
    exact (a4 q hq).2
  · rw [ag_ev_same hx.2.1 (a6.1 g hg).1]
    exact (a6.1 g hg).2
  · rw [ag_ev_same hx.2.1 (a6.2 q hq).1]
    exact (a6.2 q hq).2
  · rw [z]
    exact a7
theorem ag_lk_mem {α : Type} : ∀ {l : List (Nat × Nat × α)} {o k : Nat} {v : α}, ag_lk l o k = some v → (o, k, v) ∈ l
  | q :: r, o, k, v, h => by
    unfold ag_lk at h
    rw [ae_b2, ae_cond] at h
    by_cases hh : q.1 = o ∧ q.2.1 = k
    · rw [if_pos hh] at h
      cases h
      rw [← hh.1, ← hh.2]
      exact List.mem_cons_self
    · rw [if_neg hh] at h
      exact List.mem_cons_of_mem _ (ag_lk_mem h)
theorem ag_ts_dvd {s : Int} : ∀ {t : List (Nat × Int)}, (∀ q ∈ t, q.2 % s = 0) → s ∣ ag_ts ρ t
  | [], _ => ⟨0, by show (0 : Int) = s * 0; rw [Int.mul_zero]⟩
  | q :: r, h => by
    obtain ⟨a, ha⟩ := Int.dvd_of_emod_eq_zero (h q List.mem_cons_self)
    obtain ⟨b, hb⟩ := ag_ts_dvd (fun p hp => h p (List.mem_cons_of_mem _ hp))
    refine ⟨a * ρ q.1 + b, ?_⟩
    show q.2 * ρ q.1 + ag_ts ρ r = s * (a * ρ q.1 + b)
    rw [hb, Int.mul_add, ← Int.mul_assoc, ← ha]
theorem ag_rs_ok {st r n : Nat} {f : ag_f} {lo hi : Int} (h : ag_rs st f lo hi = some r) (hn : ag_ev ρ f = (n : Int)) (h1 : lo ≤ n) (h2 : (n : Int) ≤ hi) : n % st = r := by
  unfold ag_rs at h
  rw [ae_beq, ae_cond] at h
  by_cases e1 : st = 1
  · rw [if_pos e1] at h
    cases h
    rw [e1, Nat.mod_one]
  · rw [if_neg e1, ae_cond] at h
    by_cases e2 : lo = hi
    · rw [if_pos e2] at h
      cases h
      have : lo = (n : Int) := by omega
      rw [this]
      rfl
    · rw [if_neg e2] at h
      cases e3 : f.1.all (fun q => decide (q.2 % (st : Int) = 0)) with
      | true =>
        rw [e3] at h
        have h := Option.some.inj h
        have h3 : ∀ q ∈ f.1, q.2 % (st : Int) = 0 := fun q hq => of_decide_eq_true (List.all_eq_true.mp e3 q hq)
        obtain ⟨b, hb⟩ := ag_ts_dvd (ρ := ρ) h3
        have h4 : (n : Int) % (st : Int) = f.2 % (st : Int) := by
          rw [← hn]
          unfold ag_ev
          rw [hb, Int.add_comm, Int.add_mul_emod_self_left]
        rw [← h, ← h4]
        have h5 : ((n : Int) % (st : Int)) = ((n % st : Nat) : Int) := (Int.natCast_emod n st).symm
        rw [h5]
        rfl
      | false =>
        rw [e3] at h
        cases h
theorem ag_Dr_ok {o n : Nat} {j : ag_f} {lo hi : Int} (hG : ag_G D h) (hn : ag_ev ρ j = (n : Int)) (h1 : lo ≤ n) (h2 : (n : Int) ≤ hi) : (ag_Dr (D.1 o) j lo hi).1 ≤ (h.1 o n).toInt ∧ (h.1 o n).toInt ≤ (ag_Dr (D.1 o) j lo hi).2 := by
  unfold ag_Dr
  split
  · rename_i s hs
    have hm := List.mem_of_find?_eq_some hs
    have hh := List.find?_some hs
    unfold ag_hit at hh
    rw [Bool.and_eq_true, Bool.and_eq_true, decide_eq_true_eq, decide_eq_true_eq] at hh
    obtain ⟨a1, a2, a3⟩ := hh
    split at a3
    · rename_i r hr
      exact hG.1 o s hm n (by omega) (by omega) ((ag_rs_ok hr hn h1 h2).trans (Nat.eq_of_beq_eq_true a3))
    · cases a3
  · exact ag_i32r _
theorem ag_Hp.add1 {o k : Nat} {f : ag_f} {m : Nat} (hp : ag_Hp D M h0 ρ m H h) (hw : ag_wt m f) (he : h.1 o k = Int32.ofInt (ag_ev ρ f)) : ag_Hp D M h0 ρ m ((o, k, f) :: H.1, H.2) h := by
  obtain ⟨a1, a2, a3, a4, a5, a6, a7, a8⟩ := hp
  refine ⟨a1, a2, fun q hq => ?_, a4, a5, a6, a7, a8⟩
  rcases List.mem_cons.mp hq with e | e
  · rw [e]
    exact ⟨hw, he⟩
  · exact a3 q e
theorem ag_Hp.add2 {o k : Nat} {f : ag_f} {m : Nat} (hp : ag_Hp D M h0 ρ m H h) (hw : ag_wt m f) (he : h.2.1 o k = Int64.ofInt (ag_ev ρ f)) : ag_Hp D M h0 ρ m (H.1, (o, k, f) :: H.2.1, H.2.2) h := by
  obtain ⟨a1, a2, a3, a4, a5, a6, a7, a8⟩ := hp
  refine ⟨a1, a2, a3, fun q hq => ?_, a5, a6, a7, a8⟩
  rcases List.mem_cons.mp hq with e | e
  · rw [e]
    exact ⟨hw, he⟩
  · exact a4 q e
theorem ag_Hp.add4 {g : ag_f} {m : Nat} (hp : ag_Hp D M h0 ρ m H h) (hw : ag_wt m g) (he : 0 ≤ ag_ev ρ g) : ag_Hp D M h0 ρ m (H.1, H.2.1, H.2.2.1, g :: H.2.2.2.1, H.2.2.2.2) h := by
  obtain ⟨a1, a2, a3, a4, a5, a6, a7, a8⟩ := hp
  refine ⟨a1, a2, a3, a4, a5, ⟨fun q hq => ?_, a6.2⟩, a7, a8⟩
  rcases List.mem_cons.mp hq with e | e
  · rw [e]
    exact ⟨hw, he⟩
  · exact a6.1 q e
theorem ag_rd_ok (hin : ag_in ρ env) (hp : ag_Hp D M h0 ρ env.length H h) {o k : Nat} {K : ag_e → ag_H → ag_f → Bool} (hs : ag_rd D env H o k K = true) : ∃ ρ' env' H' f, ag_xt ρ env ρ' env' ∧ ag_Hp D M h0 ρ' env'.length H' h ∧ ag_wt env'.length f ∧ h.1 o k = Int32.ofInt (ag_ev ρ' f) ∧ K env' H' f = true := by
  unfold ag_rd at hs
  split at hs
  · rename_i f hf
    have := hp.2.2.1 _ (ag_lk_mem hf)
    exact ⟨ρ, env, H, f, ag_xt.refl hin, hp, this.1, this.2, hs⟩
  · have b := ag_Dr_ok (ρ := ρ) (o := o) (n := k) (j := ag_k k) (lo := k) (hi := k) hp.2.1 (ag_ev_k _) (Int.le_refl _) (Int.le_refl _)
    obtain ⟨ρ', env', f, x1, x2, x3, x4⟩ := ag_nw_ok hin b.1 b.2 hs
    have e : h.1 o k = Int32.ofInt (ag_ev ρ' f) := by rw [x3, Int32.ofInt_toInt]
    exact ⟨ρ', env', _, f, x1, (hp.up x1).add1 x2 e, x2, e, x4⟩
theorem ag_rL_ok (hin : ag_in ρ env) (hp : ag_Hp D M h0 ρ env.length H h) {o k : Nat} {K : ag_e → ag_H → ag_f → Bool} (hs : ag_rL D env H o k K = true) : ∃ ρ' env' H' f, ag_xt ρ env ρ' env' ∧ ag_Hp D M h0 ρ' env'.length H' h ∧ ag_wt env'.length f ∧ h.2.1 o k = Int64.ofInt (ag_ev ρ' f) ∧ K env' H' f = true := by
  unfold ag_rL at hs
  split at hs
  · rename_i f hf
    have := hp.2.2.2.1 _ (ag_lk_mem hf)
    exact ⟨ρ, env, H, f, ag_xt.refl hin, hp, this.1, this.2, hs⟩
  · have b := hp.2.1.2.1 o k
    obtain ⟨ρ', env', f, x1, x2, x3, x4⟩ := ag_nw_ok hin b.1 b.2 hs
    have e : h.2.1 o k = Int64.ofInt (ag_ev ρ' f) := by rw [x3, Int64.ofInt_toInt]
    exact ⟨ρ', env', _, f, x1, (hp.up x1).add2 x2 e, x2, e, x4⟩
theorem ag_rA_ok (hin : ag_in ρ env) (hp : ag_Hp D M h0 ρ env.length H h) {o n : Nat} {j : ag_f} {lo hi : Int} (hn : ag_ev ρ j = (n : Int)) (h1 : lo ≤ n) (h2 : (n : Int) ≤ hi) {K : ag_e → ag_H → ag_f → Bool} (hs : ag_rA D env H o j lo hi K = true) : ∃ ρ' env' H' f, ag_xt ρ env ρ' env' ∧ ag_Hp D M h0 ρ' env'.length H' h ∧ ag_wt env'.length f ∧ h.1 o n = Int32.ofInt (ag_ev ρ' f) ∧ K env' H' f = true := by
  unfold ag_rA at hs
  rw [ae_cond] at hs
  by_cases e1 : lo = hi
  · rw [if_pos e1] at hs
    have : lo.toNat = n := by omega
    rw [this] at hs
    exact ag_rd_ok hin hp hs
  · rw [if_neg e1] at hs
    have b := ag_Dr_ok (o := o) hp.2.1 hn h1 h2
    obtain ⟨ρ', env', f, x1, x2, x3, x4⟩ := ag_nw_ok hin b.1 b.2 hs
    exact ⟨ρ', env', H, f, x1, hp.up x1, x2, by rw [x3, Int32.ofInt_toInt], x4⟩
theorem ag_nn_ok (hin : ag_in ρ env) {C : List ag_f} (hC : ∀ g ∈ C, 0 ≤ ag_ev ρ g) {g : ag_f} (hs : ag_nn env C g = true) : 0 ≤ ag_ev ρ g := by
  unfold ag_nn at hs
  rcases Bool.or_eq_true_iff.mp hs with hs | hs
  · split at hs
    · rename_i w hw
      have := ag_iv_ok hin hw
      have := of_decide_eq_true hs
      omega
    · cases hs
  · obtain ⟨c, hc, h1⟩ := List.any_eq_true.mp hs
    split at h1
    · rename_i w hw
      have a := ag_iv_ok hin hw
      have b := of_decide_eq_true h1
      have d := hC c hc
      rw [ag_ev_sub] at a
      omega
    · cases h1
theorem ag_rS_ok (hin : ag_in ρ env) (hp : ag_Hp D M h0 ρ env.length H h) {o n : Nat} {j : ag_f} {lo hi : Int} (hj : ag_wt env.length j) (hn : ag_ev ρ j = (n : Int)) (h1 : lo ≤ n) (h2 : (n : Int) ≤ hi) {K : ag_e → ag_H → ag_f → Bool} (hs : ag_rS D env H o j lo hi K = true) : ∃ ρ' env' H' f, ag_xt ρ env ρ' env' ∧ ag_Hp D M h0 ρ' env'.length H' h ∧ ag_wt env'.length f ∧ h.1 o n = Int32.ofInt (ag_ev ρ' f) ∧ K env' H' f = true := by
  unfold ag_rS at hs
  cases hb : (Nat.beq o 156 && ag_nn env H.2.2.2.1 (ag_sub (ag_y 0) j)) with
  | true =>
    rw [hb] at hs
    have hs : (ag_eq env (ag_sub (ag_y 0) j) (fun env => K env H (ag_k 0)) && ag_ge env (ag_sub (ag_sub (ag_y 0) j) (ag_k 1)) (fun env => ag_rA D env (H.1, H.2.1, H.2.2.1, ag_sub (ag_sub (ag_y 0) j) (ag_k 1) :: H.2.2.2.1, H.2.2.2.2) o j lo hi K)) = true := hs
    rw [Bool.and_eq_true] at hs hb
    have ho := Nat.eq_of_beq_eq_true hb.1
    have nn := ag_nn_ok hin (fun g hg => (hp.2.2.2.2.2.1.1 g hg).2) hb.2
    rw [ag_ev_sub, ag_ev_y] at nn
    by_cases e : ρ 0 - ag_ev ρ j = 0
    · obtain ⟨env', x1, x2, x3⟩ := ag_eq_ok hin (g := ag_sub (ag_y 0) j) (by rw [ag_ev_sub, ag_ev_y]; exact e) hs.1
      have xt : ag_xt ρ env ρ env' := ag_xt.cut x1 x2
      refine ⟨ρ, env', H, ag_k 0, xt, hp.up xt, ag_wt_k, ?_, x3⟩
      have z := hp.2.2.2.2.2.2.1.2
      have e2 : (ρ 0).toNat = n := by omega
      rw [e2] at z
      rw [ho, z, ag_ev_k]
      rfl
    · have g0 : 0 ≤ ag_ev ρ (ag_sub (ag_sub (ag_y 0) j) (ag_k 1)) := by
        rw [ag_ev_sub, ag_ev_sub, ag_ev_y, ag_ev_k]
        omega
      obtain ⟨env', x1, x2, x3⟩ := ag_ge_ok hin g0 hs.2
      have xt : ag_xt ρ env ρ env' := ag_xt.cut x1 x2
      have hl : 1 ≤ env'.length := by rw [x2]; exact Nat.le_trans (by decide) hp.1.2
      have w1 : ag_wt env'.length (ag_sub (ag_sub (ag_y 0) j) (ag_k 1)) := ag_wt_sub (ag_wt_sub (ag_wt_y hl) (hj.up xt.1)) ag_wt_k
      obtain ⟨ρ', env'', H', f, y1, y2, y3, y4, y5⟩ := ag_rA_ok x1 ((hp.up xt).add4 w1 g0) hn h1 h2 x3
      exact ⟨ρ', env'', H', f, xt.trans y1, y2, y3, y4, y5⟩
  | false =>
    rw [hb] at hs
    exact ag_rA_ok hin hp hn h1 h2 hs
end
section
/-! THE SECOND CHECKER IS SOUND: what is written, the state -/
variable {ρ ρ' : Nat → Int} {env env' : ag_e} {D : ag_D} {M : ag_M} {h0 h : am_H} {H : ag_H}
theorem ag_inM_at {o n : Nat} {lo hi : Int} (hs : ag_inM M o lo hi = true) (h1 : lo ≤ n) (h2 : (n : Int) ≤ hi) : ag_atM M o n = true := by
  obtain ⟨q, hq, hh⟩ := List.any_eq_true.mp hs
  rw [Bool.and_eq_true, Bool.and_eq_true, decide_eq_true_eq, decide_eq_true_eq] at hh
  refine List.any_eq_true.mpr ⟨q, hq, ?_⟩
  rw [Bool.and_eq_true, Bool.and_eq_true]
  exact ⟨hh.1, Nat.ble_eq_true_of_le (by omega), Nat.ble_eq_true_of_le (by omega)⟩
/-- places that no checked method writes -/
def ag_kp (o k : Nat) : Prop := o = 156 ∨ ((o = 161 ∨ o = 162) ∧ k < 1100) ∨ (o = 160 ∧ k = 3)
theorem ag_Mok_at (hM : ag_Mok M = true) {o k : Nat} (hk : ag_kp o k) : ag_atM M o k = false := by
  cases hb : ag_atM M o k with
  | false => rfl
  | true =>
    obtain ⟨q, hq, hh⟩ := List.any_eq_true.mp hb
    have hm := List.all_eq_true.mp hM q hq
    rw [Bool.and_eq_true, Bool.and_eq_true] at hh
    obtain ⟨a1, a2, a3⟩ := hh
    have a1 := Nat.eq_of_beq_eq_true a1
    have a2 := Nat.le_of_ble_eq_true a2
    have a3 := Nat.le_of_ble_eq_true a3
    simp only [Bool.and_eq_true, Bool.or_eq_true, Bool.not_eq_true', ae_beq, decide_eq_false_iff_not, Nat.ble_eq] at hm
    obtain ⟨b1, b2, b3, b4⟩ := hm
    rcases hk with k1 | ⟨k1 | k1, k2⟩ | ⟨k1, k2⟩
    · exact absurd (a1.trans k1) b1
    · rcases b2 with b2 | b2
      · exact absurd (a1.trans k1) b2
      · omega
    · rcases b3 with b3 | b3
      · exact absurd (a1.trans k1) b3
      · omega
    · have e1 := a1.trans k1
      have e2 : Nat.ble q.2.1 3 = true := Nat.ble_eq_true_of_le (by omega)
      have e3 : Nat.ble 3 q.2.2 = true := Nat.ble_eq_true_of_le (by omega)
      rw [e1, e2, e3] at b4
      exact absurd b4 (by decide)
theorem ag_out_mem {α : Type} {l : List (Nat × Nat × α)} {o n : Nat} {lo hi : Int} {q : Nat × Nat × α} (hq : q ∈ ag_out l o lo hi) (h1 : lo ≤ n) (h2 : (n : Int) ≤ hi) : q ∈ l ∧ ¬ (q.1 = o ∧ q.2.1 = n) := by
  obtain ⟨a, b⟩ := List.mem_filter.mp hq
  refine ⟨a, fun z => ?_⟩
  rw [ae_beq, decide_eq_true z.1, z.2, decide_eq_true h1, decide_eq_true h2] at b
  exact absurd b (by decide)
theorem ag_wI_ok {m : Nat} (hM : ag_Mok M = true) (hp : ag_Hp D M h0 ρ m H h) {o n : Nat} {j v : ag_f} {lo hi a b : Int} {x : Int32} (hn : ag_ev ρ j = (n : Int)) (h1 : lo ≤ n) (h2 : (n : Int) ≤ hi) (hv : ag_wt m v) (hx : x = Int32.ofInt (ag_ev ρ v)) (hx1 : x.toInt = ag_ev ρ v) (ha : a ≤ ag_ev ρ v) (hb : ag_ev ρ v ≤ b) {K : ag_H → Bool} (hs : ag_wI D M H o j lo hi v a b K = true) : ∃ H', ag_Hp D M h0 ρ m H' (am_wI h o n x) ∧ K H' = true := by
  unfold ag_wI at hs
  rw [Bool.and_eq_true, Bool.and_eq_true] at hs
  obtain ⟨s1, s2, s3⟩ := hs
  refine ⟨_, ?_, s3⟩
  have hat := ag_inM_at s1 h1 h2
  obtain ⟨a1, a2, a3, a4, a5, a6, a7, a8⟩ := hp
  have hne : ¬ o = 156 := by
    intro z
    have := ag_Mok_at hM (o := o) (k := n) (Or.inl z)
    rw [hat] at this
    cases this
  refine ⟨a1, ⟨fun o' s hs k => ?_, a2.2.1, a2.2.2⟩, fun q hq => ?_, a4, a5, ⟨a6.1, fun q hq => ?_⟩, ⟨a7.1, ?_⟩, a8.1, fun o' k' hk => ?_⟩
  · show ag_seg s k (if o' = o ∧ k = n then x else h.1 o' k)
    by_cases e : o' = o ∧ k = n
    · rw [if_pos e]
      obtain ⟨e1, e2⟩ := e
      subst e1
      subst e2
      have w := List.all_eq_true.mp s2 s hs
      intro k1 k2 k3
      simp only [Bool.or_eq_true, Bool.and_eq_true, decide_eq_true_eq] at w
      rcases w with (w | w) | w | w
      · omega
      · omega
      · split at w
        · rename_i r hr
          have e3 := ag_rs_ok hr hn h1 h2
          rw [ae_beq, decide_eq_true (e3.symm.trans k3)] at w
          cases w
        · cases w
      · rw [hx1]
        omega
    · rw [if_neg e]
      exact a2.1 o' s hs k
  · show ag_wt m q.2.2 ∧ (if q.1 = o ∧ q.2.1 = n then x else h.1 q.1 q.2.1) = _
    rw [ae_cond] at hq
    by_cases e1 : lo = hi
    · rw [if_pos e1] at hq
      rcases List.mem_cons.mp hq with e | e
      · have en : lo.toNat = n := by omega
        rw [e]
        refine ⟨hv, ?_⟩
        show (if o = o ∧ lo.toNat = n then x else h.1 o lo.toNat) = _
        rw [if_pos ⟨rfl, en⟩]
        exact hx
      · obtain ⟨b1, b2⟩ := ag_out_mem e h1 h2
        rw [if_neg b2]
        exact a3 q b1
    · rw [if_neg e1] at hq
      obtain ⟨b1, b2⟩ := ag_out_mem hq h1 h2
      rw [if_neg b2]
      exact a3 q b1
  · obtain ⟨q1, q2⟩ := List.mem_filter.mp hq
    refine ⟨(a6.2 q q1).1, xf_keep (fun s hs k k1 k2 => ?_) (a6.2 q q1).2⟩
    have w := List.all_eq_true.mp q2 s hs
    show (if s.1 = o ∧ k = n then x else h.1 s.1 k) = h.1 s.1 k
    refine if_neg (fun z => ?_)
    rw [ae_beq, decide_eq_true z.1, decide_eq_true (show lo ≤ (s.2.2 : Int) by omega), decide_eq_true (show (s.2.1 : Int) ≤ hi by omega)] at w
    cases w
  · show (if 156 = o ∧ (ρ 0).toNat = n then x else h.1 156 (ρ 0).toNat) = 0
    rw [if_neg (fun z => hne z.1.symm)]
    exact a7.2
  · have hh := a8.2 o' k' hk
    refine ⟨?_, hh.2⟩
    show (if o' = o ∧ k' = n then x else h.1 o' k') = _
    rw [if_neg (fun z => by rw [z.1, z.2, hat] at hk; cases hk)]
    exact hh.1
theorem ag_wL_ok {m : Nat} (hDL : ∀ o k, ¬ o = 154 → D.2.1 o k = (-9223372036854775808, 9223372036854775807)) (hp : ag_Hp D M h0 ρ m H h) {o n : Nat} {v : ag_f} {lo hi a b : Int} {x : Int64} (h1 : lo ≤ n) (h2 : (n : Int) ≤ hi) (hv : ag_wt m v) (hx : x = Int64.ofInt (ag_ev ρ v)) (hx1 : x.toInt = ag_ev ρ v) (ha : a ≤ ag_ev ρ v) (hb : ag_ev ρ v ≤ b) {K : ag_H → Bool} (hs : ag_wL D M H o lo hi v a b K = true) : ∃ H', ag_Hp D M h0 ρ m H' (am_wL h o n x) ∧ K H' = true := by
  unfold ag_wL at hs
  rw [Bool.and_eq_true, Bool.and_eq_true] at hs
  obtain ⟨s1, s2, s3⟩ := hs
  refine ⟨_, ?_, s3⟩
  have hat := ag_inM_at s1 h1 h2
  obtain ⟨a1, a2, a3, a4, a5, a6, a7, a8⟩ := hp
  refine ⟨a1, ⟨a2.1, fun o' k' => ?_, a2.2.2⟩, a3, fun q hq => ?_, a5, ⟨a6.1, fun q hq => ⟨(a6.2 q hq).1, xf_keep (fun _ _ _ _ _ => rfl) (a6.2 q hq).2⟩⟩, a7, a8.1, fun o' k' hk => ?_⟩
  · show (D.2.1 o' k').1 ≤ (if o' = o ∧ k' = n then x else h.2.1 o' k').toInt ∧ (if o' = o ∧ k' = n then x else h.2.1 o' k').toInt ≤ (D.2.1 o' k').2
    by_cases e : o' = o ∧ k' = n
    · rw [if_pos e]
      obtain ⟨e1, e2⟩ := e
      subst e1
      subst e2
      rw [ae_cond] at s2
      by_cases e1 : lo = hi
      · rw [if_pos e1] at s2
        have en : lo.toNat = k' := by omega
        rw [en, Bool.and_eq_true, decide_eq_true_eq, decide_eq_true_eq] at s2
        rw [hx1]
        exact ⟨Int.le_trans s2.1 ha, Int.le_trans hb s2.2⟩
      · rw [if_neg e1, ae_beq] at s2
        have : ¬ o' = 154 := by
          intro z
          rw [decide_eq_true z] at s2
          cases s2
        rw [hDL o' k' this]
        exact ag_i64r x
    · rw [if_neg e]
      exact a2.2.1 o' k'
  · show ag_wt m q.2.2 ∧ (if q.1 = o ∧ q.2.1 = n then x else h.2.1 q.1 q.2.1) = _
    rw [ae_cond] at hq
    by_cases e1 : lo = hi
    · rw [if_pos e1] at hq
      rcases List.mem_cons.mp hq with e | e
      · have en : lo.toNat = n := by omega
        rw [e]
        refine ⟨hv, ?_⟩
        show (if o = o ∧ lo.toNat = n then x else h.2.1 o lo.toNat) = _
        rw [if_pos ⟨rfl, en⟩]
        exact hx
      · obtain ⟨b1, b2⟩ := ag_out_mem e h1 h2
        rw [if_neg b2]
        exact a4 q b1
    · rw [if_neg e1] at hq
      obtain ⟨b1, b2⟩ := ag_out_mem hq h1 h2
      rw [if_neg b2]
      exact a4 q b1
  · have hh := a8.2 o' k' hk
    refine ⟨hh.1, ?_, hh.2.2⟩
    show (if o' = o ∧ k' = n then x else h.2.1 o' k') = _
    rw [if_neg (fun z => by rw [z.1, z.2, hat] at hk; cases hk)]
    exact hh.2.1
theorem ag_wR_ok {m : Nat} (hp : ag_Hp D M h0 ρ m H h) {o n x : Nat} (s1 : ag_inM M o n n = true) (s2 : (ag_lk D.2.2.1 o n).isNone = true) : ag_Hp D M h0 ρ m (H.1, H.2.1, (o, n, x) :: ag_out H.2.2.1 o n n, H.2.2.2) (am_wR h o n (some x)) := by
  have hat := ag_inM_at s1 (Int.le_refl _) (Int.le_refl _)
  obtain ⟨a1, a2, a3, a4, a5, a6, a7, a8⟩ := hp
  refine ⟨a1, ⟨a2.1, a2.2.1, fun o' k' r hr => ?_⟩, a3, a4, fun q hq => ?_, ⟨a6.1, fun q hq => ⟨(a6.2 q hq).1, xf_keep (fun _ _ _ _ _ => rfl) (a6.2 q hq).2⟩⟩, a7, a8.1, fun o' k' hk => ?_⟩
  · show (if o' = o ∧ k' = n then some x else h.2.2.1 o' k') = some r
    rw [if_neg (fun z => by rw [z.1, z.2] at hr; rw [hr] at s2; cases s2)]
    exact a2.2.2 o' k' r hr
  · show (if q.1 = o ∧ q.2.1 = n then some x else h.2.2.1 q.1 q.2.1) = some q.2.2
    rcases List.mem_cons.mp hq with e | e
    · rw [e, if_pos ⟨rfl, rfl⟩]
    · obtain ⟨b1, b2⟩ := ag_out_mem e (Int.le_refl (n : Int)) (Int.le_refl (n : Int))
      rw [if_neg b2]
      exact a5 q b1
  · have hh := a8.2 o' k' hk
    refine ⟨hh.1, hh.2.1, ?_⟩
    show (if o' = o ∧ k' = n then some x else h.2.2.1 o' k') = _
    rw [if_neg (fun z => by rw [z.1, z.2, hat] at hk; cases hk)]
    exact hh.2.2
/-! the state -/
def ag_cl (ρ : Nat → Int) (lv : ag_l) : am_V := lv.map (fun q => (q.1, ag_c ρ q.2))
def ag_wl (m : Nat) (lv : ag_l) : Prop := ∀ q ∈ lv, ag_wv m q.2
def ag_ws (m : Nat) (st : List ag_v) : Prop := ∀ v ∈ st, ag_wv m v
/-- locals that are among others -/
def ag_lR (lv lv' : am_V) : Prop := ∀ q ∈ lv, am_lk lv' q.1 = some q.2
def ag_St (D : ag_D) (M : ag_M) (h0 : am_H) (ρ : Nat → Int) (env : ag_e) (lv : ag_l) (st : List ag_v) (H : ag_H) (lvc : am_V) (stc : List Value) (h : am_H) : Prop :=
  ag_in ρ env ∧ (ag_wl env.length lv ∧ ag_lR (ag_cl ρ lv) lvc) ∧ (ag_ws env.length st ∧ stc = st.map (ag_c ρ)) ∧ ag_Hp D M h0 ρ env.length H h
theorem ag_cl_same {m : Nat} (hs : ∀ i, i < m → ρ' i = ρ i) {lv : ag_l} (hw : ag_wl m lv) : ag_cl ρ' lv = ag_cl ρ lv := by
  unfold ag_cl
  apply List.map_congr_left
  intro q hq
  rw [ag_c_same hs (hw q hq)]
theorem ag_st_same {m : Nat} (hs : ∀ i, i < m → ρ' i = ρ i) {st : List ag_v} (hw : ag_ws m st) : st.map (ag_c ρ') = st.map (ag_c ρ) := by
  apply List.map_congr_left
  intro q hq
  rw [ag_c_same hs (hw q hq)]
theorem ag_wl.up {m n : Nat} {lv : ag_l} (h : ag_wl m lv) (hn : m ≤ n) : ag_wl n lv := fun q hq => (h q hq).up hn
theorem ag_ws.up {m n : Nat} {st : List ag_v} (h : ag_ws m st) (hn : m ≤ n) : ag_ws n st := fun q hq => (h q hq).up hn
theorem ag_lv_mem : ∀ {lv : ag_l} {i : Nat} {v : ag_v}, ag_lv lv i = some v → (i, v) ∈ lv
  | q :: r, i, v, h => by
    unfold ag_lv at h
    rw [ae_beq, ae_cond] at h
    by_cases hh : q.1 = i
    · rw [if_pos hh] at h
      cases h
      rw [← hh]
      exact List.mem_cons_self
    · rw [if_neg hh] at h
      exact List.mem_cons_of_mem _ (ag_lv_mem h)
theorem ag_lv_c (lv : ag_l) (i : Nat) : am_lk (ag_cl ρ lv) i = (ag_lv lv i).map (ag_c ρ) := by
  induction lv with
  | nil => rfl
  | cons q r ih =>
    show (bif Nat.beq q.1 i then some (ag_c ρ q.2) else am_lk (ag_cl ρ r) i) = (bif Nat.beq q.1 i then some q.2 else ag_lv r i).map (ag_c ρ)
    rw [ih]
    cases Nat.beq q.1 i <;> rfl
theorem ag_cat_c (a : ag_v) : (ag_c ρ a).category = ag_cat a := by
  rcases a with f | f | o <;> rfl
theorem ag_s1_c (lv : ag_l) (i : Nat) (v : ag_v) : ag_cl ρ (ag_s1 lv i v) = am_s1 (ag_cl ρ lv) i (ag_c ρ v) := by
  simp only [ag_cl, ag_s1, am_s1, List.map_cons, List.filter_map]
  congr 2
  apply List.filter_congr
  intro q _
  simp only [ae_beq, Function.comp, ag_cat_c]
  rfl
theorem ag_s2_c (lv : ag_l) (i : Nat) (v : ag_v) : ag_cl ρ (ag_s2 lv i v) = am_s2 (ag_cl ρ lv) i (ag_c ρ v) := by
  simp only [ag_cl, ag_s2, am_s2, List.map_cons, List.filter_map]
  congr 2
  apply List.filter_congr
  intro q _
  simp only [ae_beq, Function.comp, ag_cat_c]
  rfl
theorem ag_wl_s1 {m : Nat} {lv : ag_l} {i : Nat} {v : ag_v} (h : ag_wl m lv) (hv : ag_wv m v) : ag_wl m (ag_s1 lv i v) := by
  intro q hq
  rcases List.mem_cons.mp hq with e | e
  · rw [e]; exact hv
  · exact h q (List.mem_filter.mp e).1
theorem ag_wl_s2 {m : Nat} {lv : ag_l} {i : Nat} {v : ag_v} (h : ag_wl m lv) (hv : ag_wv m v) : ag_wl m (ag_s2 lv i v) := by
  intro q hq
  rcases List.mem_cons.mp hq with e | e
  · rw [e]; exact hv
  · exact h q (List.mem_filter.mp e).1
theorem ag_ws_cons {m : Nat} {st : List ag_v} {v : ag_v} (h : ag_ws m st) (hv : ag_wv m v) : ag_ws m (v :: st) := by
  intro q hq
  rcases List.mem_cons.mp hq with e | e
  · rw [e]; exact hv
  · exact h q e
theorem ag_pop_c : ∀ (n : Nat) (acc st : List ag_v), am_pop n (acc.map (ag_c ρ)) (st.map (ag_c ρ)) = (ag_pop n acc st).map (fun q => (q.1.map (ag_c ρ), q.2.map (ag_c ρ)))
  | 0, acc, st => rfl
  | n + 1, acc, v :: st => ag_pop_c n (v :: acc) st
  | n + 1, acc, [] => rfl
theorem ag_pop_w {m : Nat} : ∀ (n : Nat) (acc st As r : List ag_v), ag_pop n acc st = some (As, r) → ag_ws m acc → ag_ws m st → ag_ws m As ∧ ag_ws m r
  | 0, acc, st, As, r, h, h1, h2 => by
    cases h
    exact ⟨h1, h2⟩
  | n + 1, acc, v :: st, As, r, h, h1, h2 => ag_pop_w n (v :: acc) st As r h (ag_ws_cons h1 (h2 v List.mem_cons_self)) (fun q hq => h2 q (List.mem_cons_of_mem _ hq))
  | n + 1, acc, [], As, r, h, h1, h2 => by cases h
theorem ag_sum_c (r : List ag_v) : ((r.map (ag_c ρ)).map fun v => v.category).sum = (r.map ag_cat).sum := by
  rw [List.map_map]
  congr 1
  apply List.map_congr_left
  intro v _
  exact ag_cat_c v
theorem ag_so_okL {o : Nat} {e : Nat × Nat} (hc : h.2.2.2.2 = 175) (hs : am_shl[o]? = some e) : am_so h o = some e ∧ am_sh h o = some e := by
  have hlt := am_sh_lt hs
  have e1 : am_so h o = some e := by
    unfold am_so
    rw [hc, ae_bltd, decide_eq_true hlt]
    exact hs
  refine ⟨e1, ?_⟩
  unfold am_sh
  rw [ae_beq, decide_eq_false (by omega)]
  exact e1
theorem ag_so_ok {o : Nat} {e : Nat × Nat} (_ : D.2.2.2 = am_shl) (hc : h.2.2.2.2 = 175) (hs : ag_so D o = some e) : am_so h o = some e ∧ am_sh h o = some e := by
  unfold ag_so at hs
  rw [ag_ix_eq (by decide) _ _ ag_shC_ok, ag_shC_eq, ae_shl_eq] at hs
  exact ag_so_okL hc hs
theorem ag_ob_inv {e : Option (Nat × Nat)} {b : Nat} (hs : ag_ob e b = true) : e = some (b, 0) := by
  unfold ag_ob at hs
  split at hs
  · rw [Bool.and_eq_true] at hs
    rw [Nat.eq_of_beq_eq_true hs.1, Nat.eq_of_beq_eq_true hs.2]
  · cases hs
theorem ag_ar_inv {e : Option (Nat × Nat)} {b : Nat} {lo hi : Int} (hs : ag_ar e b lo hi = true) : ∃ n, e = some (b, n) ∧ 0 ≤ lo ∧ hi < (n : Int) := by
  unfold ag_ar at hs
  split at hs
  · rename_i t n
    rw [Bool.and_eq_true, Bool.and_eq_true, decide_eq_true_eq, decide_eq_true_eq] at hs
    exact ⟨n, by rw [Nat.eq_of_beq_eq_true hs.1], hs.2⟩
  · cases hs
theorem ag_ty_ok {ty : FieldType} {a b : Int} {x : Int32} (hs : ag_ty ty a b = true) (h1 : a ≤ x.toInt) (h2 : x.toInt ≤ b) : narrow ty (.int x) = .int x ∧ fits ty (.int x) = true := by
  cases ty <;> try (exact Bool.noConfusion (show false = true from hs))
  case int => exact ⟨rfl, rfl⟩
  case boolean =>
    simp only [ag_ty, Bool.and_eq_true, decide_eq_true_eq] at hs
    have e : x.toInt = 0 ∨ x.toInt = 1 := by omega
    rcases e with e | e
    · have : x = 0 := Int32.toInt_inj.mp e
      subst this
      exact ⟨rfl, rfl⟩
    · have : x = 1 := Int32.toInt_inj.mp e
      subst this
      exact ⟨rfl, rfl⟩
  case char =>
    simp only [ag_ty, Bool.and_eq_true, decide_eq_true_eq] at hs
    have e : x = nI x.toInt.toNat := by
      apply Int32.toInt_inj.mp
      rw [nI_toInt (by omega)]
      omega
    rw [e]
    exact pk_charN (by omega)
  case byte =>
    simp only [ag_ty, Bool.and_eq_true, decide_eq_true_eq] at hs
    have e : x.toInt8.toInt32 = x := by
      apply Int32.toInt_inj.mp
      rw [Int8.toInt_toInt32, Int32.toInt_toInt8]
      exact Int.bmod_eq_of_le (by omega) (by omega)
    refine ⟨congrArg Value.int e, ?_⟩
    show (decide ((-128 : Int32) ≤ x) && decide (x ≤ 127)) = true
    have a1 : (-128 : Int32) ≤ x := Int32.le_iff_toInt_le.mpr (show (-128 : Int) ≤ x.toInt by omega)
    have a2 : x ≤ (127 : Int32) := Int32.le_iff_toInt_le.mpr (show x.toInt ≤ (127 : Int) by omega)
    rw [decide_eq_true a1, decide_eq_true a2]
    rfl
theorem ag_lk_of {lv : ag_l} {lvc : am_V} (hl : ag_lR (ag_cl ρ lv) lvc) {i : Nat} {v : ag_v} (he : ag_lv lv i = some v) : am_lk lvc i = some (ag_c ρ v) := hl (i, ag_c ρ v) (List.mem_map.mpr ⟨(i, v), ag_lv_mem he, rfl⟩)
theorem ag_lk_fil (p : Nat × Value → Bool) : ∀ {l : am_V} {i : Nat} {v : Value}, am_lk l i = some v → p (i, v) = true → am_lk (l.filter p) i = some v
  | q :: r, i, v, h, hp => by
    unfold am_lk at h
    rw [ae_beq, ae_cond] at h
    by_cases hq : q.1 = i
    · rw [if_pos hq] at h
      have e : q.2 = v := Option.some.inj h
      have e2 : q = (i, v) := by rw [← hq, ← e]
      rw [e2, List.filter_cons, if_pos hp]
      show (bif Nat.beq i i then some v else _) = some v
      rw [ae_beq, decide_eq_true rfl]
      rfl
    · rw [if_neg hq] at h
      rw [List.filter_cons]
      by_cases hp2 : p q = true
      · rw [if_pos hp2]
        show (bif Nat.beq q.1 i then some q.2 else am_lk (r.filter p) i) = some v
        rw [ae_beq, decide_eq_false hq]
        exact ag_lk_fil p h hp
      · rw [if_neg hp2]
        exact ag_lk_fil p h hp
theorem ag_lR_cons {l l' : am_V} {i : Nat} {v : Value} {p : Nat × Value → Bool} (hl : ag_lR l l') (hp : ∀ w, p (i, w) = false) : ag_lR ((i, v) :: l.filter p) ((i, v) :: l'.filter p) := by
  intro q hq
  rcases List.mem_cons.mp hq with e | e
  · rw [e]
    show (bif Nat.beq i i then some v else _) = some v
    rw [ae_beq, decide_eq_true rfl]
    rfl
  · obtain ⟨h1, h2⟩ := List.mem_filter.mp e
    have hne : ¬ i = q.1 := fun z => by
      have := hp q.2
      rw [z] at this
      rw [h2] at this
      cases this
    show (bif Nat.beq i q.1 then some v else am_lk (l'.filter p) q.1) = some q.2
    rw [ae_beq, decide_eq_false hne]
    exact ag_lk_fil p (hl q h1) h2
theorem ag_lR_s1 {lv : ag_l} {lvc : am_V} (hl : ag_lR (ag_cl ρ lv) lvc) (i : Nat) (v : ag_v) : ag_lR (ag_cl ρ (ag_s1 lv i v)) (am_s1 lvc i (ag_c ρ v)) := by
  rw [ag_s1_c]
  exact ag_lR_cons hl (fun w => by simp)
theorem ag_lR_s2 {lv : ag_l} {lvc : am_V} (hl : ag_lR (ag_cl ρ lv) lvc) (i : Nat) (v : ag_v) : ag_lR (ag_cl ρ (ag_s2 lv i v)) (am_s2 lvc i (ag_c ρ v)) := by
  rw [ag_s2_c]
  exact ag_lR_cons hl (fun w => by simp)
end
section
/-! THE SECOND CHECKER IS SOUND: numbers of one instruction -/
variable {ρ ρ' : Nat → Int} {env env' : ag_e}
theorem ag_pI_inv {st : List ag_v} {k : ag_f → List ag_v → Bool} (hs : ag_pI st k = true) : ∃ f r, st = .inl f :: r ∧ k f r = true := by
  unfold ag_pI at hs
  split at hs
  · exact ⟨_, _, rfl, hs⟩
  · cases hs
theorem ag_pL_inv {st : List ag_v} {k : ag_f → List ag_v → Bool} (hs : ag_pL st k = true) : ∃ f r, st = .inr (.inl f) :: r ∧ k f r = true := by
  unfold ag_pL at hs
  split at hs
  · exact ⟨_, _, rfl, hs⟩
  · cases hs
theorem ag_pR_inv {st : List ag_v} {k : Nat → List ag_v → Bool} (hs : ag_pR st k = true) : ∃ o r, st = .inr (.inr o) :: r ∧ k o r = true := by
  unfold ag_pR at hs
  split at hs
  · exact ⟨_, _, rfl, hs⟩
  · cases hs
theorem ag_pV_inv {st : List ag_v} {k : ag_v → List ag_v → Bool} (hs : ag_pV st k = true) : ∃ v r, st = v :: r ∧ k v r = true := by
  unfold ag_pV at hs
  split at hs
  · exact ⟨_, _, rfl, hs⟩
  · cases hs
theorem ag_li_inv {lv : ag_l} {i : Nat} {k : ag_f → Bool} (hs : ag_li lv i k = true) : ∃ f, ag_lv lv i = some (.inl f) ∧ k f = true := by
  unfold ag_li at hs
  split at hs
  · exact ⟨_, ‹_›, hs⟩
  · cases hs
theorem ag_ll_inv {lv : ag_l} {i : Nat} {k : ag_f → Bool} (hs : ag_ll lv i k = true) : ∃ f, ag_lv lv i = some (.inr (.inl f)) ∧ k f = true := by
  unfold ag_ll at hs
  split at hs
  · exact ⟨_, ‹_›, hs⟩
  · cases hs
theorem ag_la_inv {lv : ag_l} {i : Nat} {k : Nat → Bool} (hs : ag_la lv i k = true) : ∃ o, ag_lv lv i = some (.inr (.inr o)) ∧ k o = true := by
  unfold ag_la at hs
  split at hs
  · exact ⟨_, ‹_›, hs⟩
  · cases hs
/-- two ints that are their sums -/
theorem ag_mII_ok (hin : ag_in ρ env) {x y : ag_f} (hx : ag_wt env.length x) (hy : ag_wt env.length y) {k : ag_e → ag_f → Int → Int → ag_f → Int → Int → Bool} (hs : ag_mI env y (fun env y c d => ag_mI env x (fun env x a b => k env y c d x a b)) = true) : ∃ ρ' env' y' c d x' a b, ag_xt ρ env ρ' env' ∧ (ag_wt env'.length y' ∧ (Int32.ofInt (ag_ev ρ y)).toInt = ag_ev ρ' y' ∧ c ≤ ag_ev ρ' y' ∧ ag_ev ρ' y' ≤ d) ∧ (ag_wt env'.length x' ∧ (Int32.ofInt (ag_ev ρ x)).toInt = ag_ev ρ' x' ∧ a ≤ ag_ev ρ' x' ∧ ag_ev ρ' x' ≤ b) ∧ k env' y' c d x' a b = true := by
  obtain ⟨ρ1, e1, y1, c, d, x1, w1, -, t1, l1, u1, h1⟩ := ag_mI_ok hin hy hs
  obtain ⟨ρ2, e2, x2, a, b, z1, w2, -, t2, l2, u2, h2⟩ := ag_mI_ok x1.2.2 (hx.up x1.1) h1
  rw [ag_ev_same x1.2.1 hx] at t2
  have s := ag_ev_same z1.2.1 w1
  exact ⟨ρ2, e2, y1, c, d, x2, a, b, x1.trans z1, ⟨w1.up z1.1, by rw [s]; exact t1, by rw [s]; exact l1, by rw [s]; exact u1⟩, ⟨w2, t2, l2, u2⟩, h2⟩
theorem ag_mLL_ok (hin : ag_in ρ env) {x y : ag_f} (hx : ag_wt env.length x) (hy : ag_wt env.length y) {k : ag_e → ag_f → Int → Int → ag_f → Int → Int → Bool} (hs : ag_mL env y (fun env y c d => ag_mL env x (fun env x a b => k env y c d x a b)) = true) : ∃ ρ' env' y' c d x' a b, ag_xt ρ env ρ' env' ∧ (ag_wt env'.length y' ∧ (Int64.ofInt (ag_ev ρ y)).toInt = ag_ev ρ' y' ∧ c ≤ ag_ev ρ' y' ∧ ag_ev ρ' y' ≤ d) ∧ (ag_wt env'.length x' ∧ (Int64.ofInt (ag_ev ρ x)).toInt = ag_ev ρ' x' ∧ a ≤ ag_ev ρ' x' ∧ ag_ev ρ' x' ≤ b) ∧ k env' y' c d x' a b = true := by
  obtain ⟨ρ1, e1, y1, c, d, x1, w1, -, t1, l1, u1, h1⟩ := ag_mL_ok hin hy hs
  obtain ⟨ρ2, e2, x2, a, b, z1, w2, -, t2, l2, u2, h2⟩ := ag_mL_ok x1.2.2 (hx.up x1.1) h1
  rw [ag_ev_same x1.2.1 hx] at t2
  have s := ag_ev_same z1.2.1 w1
  exact ⟨ρ2, e2, y1, c, d, x2, a, b, x1.trans z1, ⟨w1.up z1.1, by rw [s]; exact t1, by rw [s]; exact l1, by rw [s]; exact u1⟩, ⟨w2, t2, l2, u2⟩, h2⟩
/-- an int in an interval, or any -/
theorem ag_opt_ok (hin : ag_in ρ env) {w : Option (Int × Int)} {v : Int32} (hv : ∀ z, w = some z → z.1 ≤ v.toInt ∧ v.toInt ≤ z.2) {k : ag_e → ag_f → Bool} (hs : ag_oI env w k = true) : ∃ ρ' env' f, ag_xt ρ env ρ' env' ∧ ag_wt env'.length f ∧ ag_ev ρ' f = v.toInt ∧ k env' f = true := by
  cases w with
  | some z => exact ag_nw_ok hin (hv z rfl).1 (hv z rfl).2 hs
  | none => exact ag_nI_ok hin v hs
theorem ag_optL_ok (hin : ag_in ρ env) {w : Option (Int × Int)} {v : Int64} (hv : ∀ z, w = some z → z.1 ≤ v.toInt ∧ v.toInt ≤ z.2) {k : ag_e → ag_f → Bool} (hs : ag_oL env w k = true) : ∃ ρ' env' f, ag_xt ρ env ρ' env' ∧ ag_wt env'.length f ∧ ag_ev ρ' f = v.toInt ∧ k env' f = true := by
  cases w with
  | some z => exact ag_nw_ok hin (hv z rfl).1 (hv z rfl).2 hs
  | none => exact ag_nL_ok hin v hs
theorem ag_b2_ok (hin : ag_in ρ env) {st : List ag_v} (hws : ag_ws env.length st) {g : Int → Int → Int → Int → Option (Int × Int)} {f : Int32 → Int32 → Int32} (hg : ∀ (x y : Int32) (a b c d : Int), a ≤ x.toInt → x.toInt ≤ b → c ≤ y.toInt → y.toInt ≤ d → ∀ z, g a b c d = some z → z.1 ≤ (f x y).toInt ∧ (f x y).toInt ≤ z.2) {K : ag_e → ag_f → List ag_v → Bool} (hs : ag_b2 env st g f K = true) : ∃ y x r, st = .inl y :: .inl x :: r ∧ ∃ ρ' env' z, ag_xt ρ env ρ' env' ∧ ag_wt env'.length z ∧ Int32.ofInt (ag_ev ρ' z) = f (Int32.ofInt (ag_ev ρ x)) (Int32.ofInt (ag_ev ρ y)) ∧ K env' z r = true := by
  obtain ⟨y, r1, rfl, hs1⟩ := ag_pI_inv hs
  obtain ⟨x, r, rfl, hs2⟩ := ag_pI_inv hs1
  clear hs hs1
  have hs := hs2
  refine ⟨y, x, r, rfl, ?_⟩
  have hy : ag_wt env.length y := hws _ List.mem_cons_self
  have hx : ag_wt env.length x := hws _ (List.mem_cons_of_mem _ List.mem_cons_self)
  obtain ⟨ρ1, e1, y1, c, d, x1, a, b, q1, ⟨wy, ty, ly, uy⟩, ⟨wx, tx, lx, ux⟩, hs⟩ := ag_mII_ok hin hx hy hs
  cases hb : (decide (a = b) && decide (c = d)) with
  | true =>
    rw [hb] at hs
    simp only [Bool.and_eq_true, decide_eq_true_eq] at hb
    refine ⟨ρ1, e1, _, q1, ag_wt_k, ?_, hs⟩
    have ea : Int32.ofInt a = Int32.ofInt (ag_ev ρ x) := by
      have : a = (Int32.ofInt (ag_ev ρ x)).toInt := by omega
      rw [this, Int32.ofInt_toInt]
    have ec : Int32.ofInt c = Int32.ofInt (ag_ev ρ y) := by
      have : c = (Int32.ofInt (ag_ev ρ y)).toInt := by omega
      rw [this, Int32.ofInt_toInt]
    rw [ag_ev_k, Int32.ofInt_toInt, ea, ec]
  | false =>
    rw [hb] at hs
    dsimp only [cond] at hs
    obtain ⟨ρ2, e2, z, q2, wz, ez, hk⟩ := ag_opt_ok q1.2.2 (v := f (Int32.ofInt (ag_ev ρ x)) (Int32.ofInt (ag_ev ρ y))) (hg _ _ a b c d (by omega) (by omega) (by omega) (by omega)) hs
    exact ⟨ρ2, e2, z, q1.trans q2, wz, by rw [ez, Int32.ofInt_toInt], hk⟩
theorem ag_noG_ok (f : Int32 → Int32 → Int32) : ∀ (x y : Int32) (a b c d : Int), a ≤ x.toInt → x.toInt ≤ b → c ≤ y.toInt → y.toInt ≤ d → ∀ z, ag_noG a b c d = some z → z.1 ≤ (f x y).toInt ∧ (f x y).toInt ≤ z.2 := by
  intro x y a b c d _ _ _ _ z h
  cases h
theorem ag_and_le (x : Int32) {j : Nat} (hj : j < 2 ^ 31) : ∃ i, i ≤ j ∧ x &&& nI j = nI i := by
  refine ⟨x.toBitVec.toNat &&& j, Nat.and_le_right, ?_⟩
  apply Int32.toBitVec_inj.mp
  apply BitVec.eq_of_toNat_eq
  rw [Int32.toBitVec_and, BitVec.toNat_and, pk_tn (by omega), pk_tn (Nat.lt_of_le_of_lt Nat.and_le_right (by omega))]
theorem ag_nIx {x : Int32} (h : 0 ≤ x.toInt) : ∃ j : Nat, j < 2 ^ 31 ∧ x = nI j ∧ x.toInt = (j : Int) := by
  have r := ag_i32r x
  refine ⟨x.toInt.toNat, by omega, ?_, by omega⟩
  apply Int32.toInt_inj.mp
  rw [nI_toInt (by omega)]
  omega
theorem ag_andG_ok : ∀ (x y : Int32) (a b c d : Int), a ≤ x.toInt → x.toInt ≤ b → c ≤ y.toInt → y.toInt ≤ d → ∀ z, ag_andG a b c d = some z → z.1 ≤ (x &&& y).toInt ∧ (x &&& y).toInt ≤ z.2 := by
  intro x y a b c d h1 h2 h3 h4 z hz
  unfold ag_andG at hz
  cases hb : (decide (0 ≤ c) && decide (c = d)) with
  | true =>
    rw [hb] at hz
    simp only [Bool.and_eq_true, decide_eq_true_eq] at hb
    cases hz
    obtain ⟨j, hj, e, e2⟩ := ag_nIx (x := y) (by omega)
    obtain ⟨i, hi, e3⟩ := ag_and_le x hj
    rw [e, e3, nI_toInt (by omega)]
    exact ⟨by show (0 : Int) ≤ _; omega, by show _ ≤ c; omega⟩
  | false =>
    rw [hb] at hz
    dsimp only [cond] at hz
    cases hb2 : (decide (0 ≤ a) && decide (a = b)) with
    | true =>
      rw [hb2] at hz
      simp only [Bool.and_eq_true, decide_eq_true_eq] at hb2
      cases hz
      obtain ⟨j, hj, e, e2⟩ := ag_nIx (x := x) (by omega)
      obtain ⟨i, hi, e3⟩ := ag_and_le y hj
      rw [Int32.and_comm, e, e3, nI_toInt (by omega)]
      exact ⟨by show (0 : Int) ≤ _; omega, by show _ ≤ a; omega⟩
    | false =>
      rw [hb2] at hz
      cases hz
theorem ag_shl1 : ∀ j, j < 31 → ((1 : Int32) <<< (nI j &&& 31)).toInt = ((2 ^ j : Nat) : Int) := by decide +kernel
theorem ag_shlG_ok : ∀ (x y : Int32) (a b c d : Int), a ≤ x.toInt → x.toInt ≤ b → c ≤ y.toInt → y.toInt ≤ d → ∀ z, ag_shlG a b c d = some z → z.1 ≤ (x <<< (y &&& 31)).toInt ∧ (x <<< (y &&& 31)).toInt ≤ z.2 := by
  intro x y a b c d h1 h2 h3 h4 z hz
  unfold ag_shlG at hz
  cases hb : (decide (a = 1) && (decide (b = 1) && (decide (0 ≤ c) && decide (d ≤ 30)))) with
  | true =>
    rw [hb] at hz
    simp only [Bool.and_eq_true, decide_eq_true_eq] at hb
    have hz := Option.some.inj hz
    obtain ⟨j, hj, e, e2⟩ := ag_nIx (x := y) (by omega)
    have ex : x = 1 := Int32.toInt_inj.mp (show x.toInt = 1 by omega)
    rw [ex, e, ag_shl1 j (by omega), ← hz]
    have p1 : 1 ≤ 2 ^ j := Nat.one_le_two_pow
    have p2 : 2 ^ j ≤ 2 ^ d.toNat := Nat.pow_le_pow_right (by decide) (by omega)
    refine ⟨by show (1 : Int) ≤ _; omega, ?_⟩
    show ((2 ^ j : Nat) : Int) ≤ 2 ^ d.toNat
    have p3 : ((2 ^ d.toNat : Nat) : Int) = 2 ^ d.toNat := by
      rw [Int.natCast_pow]
      rfl
    rw [← p3]
    omega
  | false =>
    rw [hb] at hz
    cases hz
theorem ag_divI {x y : Int32} (hy : 0 < y.toInt) : (x / y).toInt = x.toInt.tdiv y.toInt := Int32.toInt_div_of_ne_right x y (fun z => by rw [z] at hy; exact absurd hy (by decide))
theorem ag_divL {x y : Int64} (hy : 0 < y.toInt) : (x / y).toInt = x.toInt.tdiv y.toInt := Int64.toInt_div_of_ne_right x y (fun z => by rw [z] at hy; exact absurd hy (by decide))
theorem ag_div_in {X Y a b c d : Int} (h1 : a ≤ X) (h2 : X ≤ b) (h3 : c ≤ Y) (h4 : Y ≤ d) {z : Int × Int} (hz : ag_divG a b c d = some z) : z.1 ≤ X.tdiv Y ∧ X.tdiv Y ≤ z.2 := by
  unfold ag_divG at hz
  cases hb : (decide (0 ≤ a) && (decide (0 < c) && decide (c = d))) with
  | true =>
    rw [hb] at hz
    simp only [Bool.and_eq_true, decide_eq_true_eq] at hb
    have hz := Option.some.inj hz
    have e : Y = c := by omega
    rw [Int.tdiv_eq_ediv_of_nonneg (by omega), e, ← hz]
    exact ⟨Int.ediv_le_ediv (by omega) h1, Int.ediv_le_ediv (by omega) h2⟩
  | false =>
    rw [hb] at hz
    cases hz
theorem ag_rem_in {X Y a b c d : Int} (h1 : a ≤ X) (h2 : X ≤ b) (h3 : c ≤ Y) (h4 : Y ≤ d) (hY : 0 < Y) {z : Int × Int} (hz : ag_remG a b c d = some z) : z.1 ≤ X.tmod Y ∧ X.tmod Y ≤ z.2 := by
  unfold ag_remG at hz
  have u := Int.tmod_lt_of_pos X hY
  have l := Int.lt_tmod_of_pos X hY
  rw [ae_cond] at hz
  by_cases e1 : 0 < c
  · rw [if_pos e1, ae_cond] at hz
    by_cases e0 : a = b ∧ c = d
    · rw [if_pos e0] at hz
      have hz := Option.some.inj hz
      have eX : X = a := by omega
      have eY : Y = c := by omega
      rw [← hz, eX, eY]
      exact ⟨Int.le_refl _, Int.le_refl _⟩
    rw [if_neg e0, ae_cond] at hz
    by_cases e2 : 0 ≤ a
    · rw [if_pos e2] at hz
      have hz := Option.some.inj hz
      rw [← hz]
      have n := Int.tmod_nonneg Y (show 0 ≤ X by omega)
      exact ⟨n, by show _ ≤ d - 1; omega⟩
    · rw [if_neg e2] at hz
      have hz := Option.some.inj hz
      rw [← hz]
      exact ⟨by show 1 - d ≤ _; omega, by show _ ≤ d - 1; omega⟩
  · rw [if_neg e1] at hz
    cases hz
theorem ag_remI {x y : Int32} (hy : 0 < y.toInt) : (x - x / y * y).toInt = x.toInt.tmod y.toInt := by
  have u := Int.tmod_lt_of_pos x.toInt hy
  have l := Int.lt_tmod_of_pos x.toInt hy
  have r := ag_i32r y
  have e1 : x / y = Int32.ofInt (x.toInt.tdiv y.toInt) := by rw [← ag_divI hy, Int32.ofInt_toInt]
  have e2 : x - x / y * y = Int32.ofInt (x.toInt.tmod y.toInt) := by
    rw [Int.tmod_def, Int.mul_comm, Int32.ofInt_sub, Int32.ofInt_mul, Int32.ofInt_toInt, Int32.ofInt_toInt, ← e1]
  rw [e2, ag_i32 (by omega) (by omega)]
theorem ag_remL {x y : Int64} (hy : 0 < y.toInt) : (x - x / y * y).toInt = x.toInt.tmod y.toInt := by
  have u := Int.tmod_lt_of_pos x.toInt hy
  have l := Int.lt_tmod_of_pos x.toInt hy
  have r := ag_i64r y
  have e1 : x / y = Int64.ofInt (x.toInt.tdiv y.toInt) := by rw [← ag_divL hy, Int64.ofInt_toInt]
  have e2 : x - x / y * y = Int64.ofInt (x.toInt.tmod y.toInt) := by
    rw [Int.tmod_def, Int.mul_comm, Int64.ofInt_sub, Int64.ofInt_mul, Int64.ofInt_toInt, Int64.ofInt_toInt, ← e1]
  rw [e2, ag_i64 (by omega) (by omega)]
theorem ag_lcmp_in (x y : Int64) : -1 ≤ (lg_cmp x y).toInt ∧ (lg_cmp x y).toInt ≤ 1 := by
  unfold lg_cmp
  split
  · decide
  · split <;> decide
theorem ag_i2c_in (x : Int32) : 0 ≤ ((x.toUInt32 % 65536).toInt32).toInt ∧ ((x.toUInt32 % 65536).toInt32).toInt ≤ 65535 := by
  have hm : x.toBitVec.toNat % 65536 < 65536 := Nat.mod_lt _ (by decide)
  rw [pk_char, nI_toInt (by omega)]
  omega
theorem ag_i2c_id {x : Int32} (h1 : 0 ≤ x.toInt) (h2 : x.toInt ≤ 65535) : (x.toUInt32 % 65536).toInt32 = x := by
  obtain ⟨j, hj, e, e2⟩ := ag_nIx h1
  rw [e, pk_char, pk_tn (by omega), Nat.mod_eq_of_lt (by omega)]
theorem ag_vp {ty : FieldType} {x : Int32} (h : narrow ty (.int x) = .int x) : vp_nar ty x = x := by
  unfold vp_nar
  rw [h]
theorem ag_sw_off : ∀ (l : List (Int × Int)) (df k : Int), Op.lookupswitch.offset l df k = df ∨ ∃ q ∈ l, Op.lookupswitch.offset l df k = q.2
  | [], df, k => Or.inl rfl
  | (a, o) :: r, df, k => by
    rw [Op.lookupswitch.offset_cons]
    by_cases h : a = k
    · rw [if_pos h]
      exact Or.inr ⟨(a, o), List.mem_cons_self, rfl⟩
    · rw [if_neg h]
      rcases ag_sw_off r df k with e | ⟨q, hq, e⟩
      · exact Or.inl e
      · exact Or.inr ⟨q, List.mem_cons_of_mem _ hq, e⟩
theorem ag_i2b_in (x : Int32) : -128 ≤ (x.toInt8.toInt32).toInt ∧ (x.toInt8.toInt32).toInt ≤ 127 := by
  rw [Int8.toInt_toInt32]
  have h1 := x.toInt8.toInt_lt
  have h2 := x.toInt8.le_toInt
  omega
theorem ag_i2b_id {x : Int32} (h1 : -128 ≤ x.toInt) (h2 : x.toInt ≤ 127) : x.toInt8.toInt32 = x := by
  apply Int32.toInt_inj.mp
  rw [Int8.toInt_toInt32, Int32.toInt_toInt8]
  exact Int.bmod_eq_of_le (by omega) (by omega)
theorem ag_sby_in (q j : Nat) : 0 ≤ ((am_sby.getD q []).getD j 0).toInt ∧ ((am_sby.getD q []).getD j 0).toInt ≤ 127 := by
  have h1 : am_sby.all (fun l => l.all (fun x => decide (0 ≤ x.toInt) && decide (x.toInt ≤ 127))) = true := by decide +kernel
  rw [List.getD_eq_getElem?_getD (l := am_sby.getD q [])]
  cases hx : (am_sby.getD q [])[j]? with
  | none => exact ⟨by decide, by decide⟩
  | some x =>
    rw [List.getD_eq_getElem?_getD] at hx
    cases hl : am_sby[q]? with
    | none => rw [hl] at hx; cases hx
    | some l =>
      rw [hl] at hx
      have h2 := List.all_eq_true.mp (List.all_eq_true.mp h1 l (List.mem_of_getElem? hl)) x (List.mem_of_getElem? hx)
      rw [Bool.and_eq_true, decide_eq_true_eq, decide_eq_true_eq] at h2
      exact h2
end
section
/-! A STEP OF THE SECOND CHECKER -/
variable {ρ : Nat → Int} {env : ag_e} {D : ag_D} {M : ag_M} {h0 h : am_H} {H : ag_H}
theorem ag_kd3 (n : Nat) : n = 0 ∨ n = 1 ∨ ∃ m, n = m + 2 := by
  match n with
  | 0 => exact Or.inl rfl
  | 1 => exact Or.inr (Or.inl rfl)
  | m + 2 => exact Or.inr (Or.inr ⟨m, rfl⟩)
theorem ag_rr_ok {m : Nat} (hp : ag_Hp D M h0 ρ m H h) {o k x : Nat} (hs : ag_rr D H.2.2.1 o k = some x) : h.2.2.1 o k = some x := by
  unfold ag_rr at hs
  split at hs
  · rename_i r hr
    cases hs
    exact hp.2.2.2.2.1 _ (ag_lk_mem hr)
  · exact hp.2.1.2.2 o k x hs
theorem ag_s4 {o : Nat} (k : (Nat.ble 4000000 o && Nat.blt o 4000026) = true) : ∃ q, q < 26 ∧ o = 4000000 + q ∧ o + 1000000 = 5000000 + q := by
  rw [Bool.and_eq_true] at k
  have k1 := Nat.le_of_ble_eq_true k.1
  have k2 := ae_blt k.2
  exact ⟨o - 4000000, by omega, by omega, by omega⟩
theorem ag_s5 {o : Nat} (k : (Nat.ble 5000000 o && Nat.blt o 5000026) = true) : ∃ q, q < 26 ∧ o = 5000000 + q ∧ o - 5000000 = q := by
  rw [Bool.and_eq_true] at k
  have k1 := Nat.le_of_ble_eq_true k.1
  have k2 := ae_blt k.2
  exact ⟨o - 5000000, by omega, by omega, rfl⟩
set_option maxHeartbeats 8000000 in
set_option maxRecDepth 20000 in
theorem ag_step_ok (hM : ag_Mok M = true) (hD : D.2.2.2 = am_shl) (hDL : ∀ o k, ¬ o = 154 → D.2.1 o k = (-9223372036854775808, 9223372036854775807)) {nL : Nat} {rt : Option FieldType} {pc nx a b c d : Nat} {i : Instr} {lv : ag_l} {st : List ag_v} {lvc : am_V} {stc : List Value} {K : ag_e → Nat → ag_l → List ag_v → ag_H → Bool} {C : Nat → List ag_v → List ag_v → Bool} {Rt : ag_e → Option ag_v → Bool} {cp : am_P} {S : Nat → am_V → List Value → am_H → Prop} {Qr : am_Q}
    (hS : ag_St D M h0 ρ env lv st H lvc stc h)
    (hK : ∀ env' pc' lv' st' H' lvc' stc' ρ' h', K env' pc' lv' st' H' = true → ag_xt ρ env ρ' env' → ag_St D M h0 ρ' env' lv' st' H' lvc' stc' h' → S pc' lvc' stc' h')
    (hC : ∀ a As rest, C a As rest = true → am_al a = 0 → ag_ws env.length As → ag_ws env.length rest → cp a (As.map (ag_c ρ)) h (fun v h' => S nx lvc (v.toList ++ rest.map (ag_c ρ)) h'))
    (hRt : ∀ env' v ρ', Rt env' v = true → ag_xt ρ env ρ' env' → (∀ x, v = some x → ag_wv env'.length x) → Qr (v.map (ag_c ρ')) h)
    (hs : ag_step D M i nx a b c d env H nL rt pc lv st K C Rt = true) : am_stp cp nL 175 rt pc (i, nx, a, b, c, d) lvc stc h S Qr := by
  obtain ⟨hin, ⟨hwl, hlr⟩, ⟨hws, rfl⟩, hp⟩ := hS
  have hcnt : h.2.2.2.2 = 175 := hp.1.1
  have x0 : ag_xt ρ env ρ env := ag_xt.refl hin
  have gl : ∀ {env' : ag_e} {pc' : Nat} {lv' : ag_l} {lvc' : am_V} {st' : List ag_v} {H' : ag_H} {ρ' : Nat → Int} {h' : am_H}, K env' pc' lv' st' H' = true → ag_xt ρ env ρ' env' → ag_wl env'.length lv' → ag_lR (ag_cl ρ' lv') lvc' → ag_ws env'.length st' → ag_Hp D M h0 ρ' env'.length H' h' → S pc' lvc' (st'.map (ag_c ρ')) h' := fun k x w1 l1 w2 p => hK _ _ _ _ _ _ _ _ _ k x ⟨x.2.2, ⟨w1, l1⟩, ⟨w2, rfl⟩, p⟩
  have sl : ∀ {env' : ag_e} {ρ' : Nat → Int}, ag_xt ρ env ρ' env' → ag_lR (ag_cl ρ' lv) lvc := fun x => by
    rw [ag_cl_same x.2.1 hwl]
    exact hlr
  have g0 : ∀ {env' : ag_e} {pc' : Nat} {r : List ag_v} {H' : ag_H} {ρ' : Nat → Int} {h' : am_H}, K env' pc' lv r H' = true → ag_xt ρ env ρ' env' → ag_ws env.length r → ag_Hp D M h0 ρ' env'.length H' h' → S pc' lvc (r.map (ag_c ρ)) h' := fun k x w p => by
    have q := gl k x (hwl.up x.1) (sl x) (w.up x.1) p
    rw [ag_st_same x.2.1 w] at q
    exact q
  have g1 : ∀ {env' : ag_e} {pc' : Nat} {r : List ag_v} {v : ag_v} {H' : ag_H} {ρ' : Nat → Int} {h' : am_H} {x : Value}, K env' pc' lv (v :: r) H' = true → ag_xt ρ env ρ' env' → ag_wv env'.length v → ag_ws env.length r → ag_Hp D M h0 ρ' env'.length H' h' → ag_c ρ' v = x → S pc' lvc (x :: r.map (ag_c ρ)) h' := fun k x wv w p e => by
    have q := gl k x (hwl.up x.1) (sl x) (ag_ws_cons (w.up x.1) wv) p
    rw [List.map_cons, ag_st_same x.2.1 w, e] at q
    exact q
  have gI : ∀ {env' : ag_e} {pc' : Nat} {r : List ag_v} {f : ag_f} {H' : ag_H} {ρ' : Nat → Int} {h' : am_H} {x : Int32}, K env' pc' lv (.inl f :: r) H' = true → ag_xt ρ env ρ' env' → ag_wt env'.length f → ag_ws env.length r → ag_Hp D M h0 ρ' env'.length H' h' → Int32.ofInt (ag_ev ρ' f) = x → S pc' lvc (.int x :: r.map (ag_c ρ)) h' := fun k x wv w p e => g1 k x wv w p (congrArg Value.int e)
  have gL : ∀ {env' : ag_e} {pc' : Nat} {r : List ag_v} {f : ag_f} {H' : ag_H} {ρ' : Nat → Int} {h' : am_H} {x : Int64}, K env' pc' lv (.inr (.inl f) :: r) H' = true → ag_xt ρ env ρ' env' → ag_wt env'.length f → ag_ws env.length r → ag_Hp D M h0 ρ' env'.length H' h' → Int64.ofInt (ag_ev ρ' f) = x → S pc' lvc (.long x :: r.map (ag_c ρ)) h' := fun k x wv w p e => g1 k x wv w p (congrArg Value.long e)
  have tl : ∀ {v : ag_v} {r : List ag_v}, ag_ws env.length (v :: r) → ag_ws env.length r := fun w q hq => w q (List.mem_cons_of_mem _ hq)
  have hd : ∀ {v : ag_v} {r : List ag_v}, ag_ws env.length (v :: r) → ag_wv env.length v := fun w => w _ List.mem_cons_self
  have pu : ∀ {env' : ag_e} {ρ' : Nat → Int}, ag_xt ρ env ρ' env' → ag_Hp D M h0 ρ' env'.length H h := fun x => hp.up x
  cases i
  case bipush n =>
    exact gI hs x0 ag_wt_k hws hp (by rw [ag_ev_k, Int32.ofInt_toInt])
  case sipush n =>
    exact gI hs x0 ag_wt_k hws hp (by rw [ag_ev_k, Int32.ofInt_toInt])
  case ldc_w n =>
    have hk : (bif Nat.beq b 1 then K env nx lv (.inr (.inr (4000000 + c)) :: st) H else K env nx lv (.inl (ag_k (am_ki c).toInt) :: st) H) = true := hs
    show (bif Nat.beq b 1 then S nx lvc (.ref (4000000 + c) :: st.map (ag_c ρ)) h else S nx lvc (.int (am_ki c) :: st.map (ag_c ρ)) h)
    cases hb1 : Nat.beq b 1 with
    | true =>
      rw [hb1] at hk
      exact g1 hk x0 trivial hws hp rfl
    | false =>
      rw [hb1] at hk
      exact gI hk x0 ag_wt_k hws hp (by rw [ag_ev_k, Int32.ofInt_toInt])
  case ldc n =>
    have hk : (bif Nat.beq b 1 then K env nx lv (.inr (.inr (4000000 + c)) :: st) H else K env nx lv (.inl (ag_k (am_ki c).toInt) :: st) H) = true := hs
    show (bif Nat.beq b 1 then S nx lvc (.ref (4000000 + c) :: st.map (ag_c ρ)) h else S nx lvc (.int (am_ki c) :: st.map (ag_c ρ)) h)
    cases hb1 : Nat.beq b 1 with
    | true =>
      rw [hb1] at hk
      exact g1 hk x0 trivial hws hp rfl
    | false =>
      rw [hb1] at hk
      exact gI hk x0 ag_wt_k hws hp (by rw [ag_ev_k, Int32.ofInt_toInt])
  case getstatic n =>
    have hk : (bif Nat.beq b 1 then K env nx lv (.inr (.inr 6000000) :: st) H else K env nx lv (.inl (ag_k 1) :: st) H) = true := hs
    show (bif Nat.beq b 1 then S nx lvc (.ref 6000000 :: st.map (ag_c ρ)) h else S nx lvc (.int 1 :: st.map (ag_c ρ)) h)
    cases hb1 : Nat.beq b 1 with
    | true =>
      rw [hb1] at hk
      exact g1 hk x0 trivial hws hp rfl
    | false =>
      rw [hb1] at hk
      exact gI hk x0 ag_wt_k hws hp (by rw [ag_ev_k]; rfl)
  case arraylength =>
    obtain ⟨o, r, rfl, hk⟩ := ag_pR_inv hs
    rw [Bool.and_eq_true] at hk
    obtain ⟨k1, hk⟩ := hk
    obtain ⟨q, hq, e4, e5⟩ := ag_s5 k1
    rw [e5] at hk
    refine Or.inr ⟨q, hq, e4, ?_⟩
    exact gI hk x0 ag_wt_k (tl hws) hp (by rw [ag_ev_k, ae_nI])
  case iconst n =>
    exact gI hs x0 ag_wt_k hws hp (by rw [ag_ev_k])
  case lconst n =>
    exact gL hs x0 ag_wt_k hws hp (by rw [ag_ev_k, Int64.ofInt_toInt])
  case ldc2_w n =>
    exact gL hs x0 ag_wt_k hws hp (by rw [ag_ev_k, Int64.ofInt_toInt])
  case iload_n k =>
    obtain ⟨f, e, hk⟩ := ag_li_inv hs
    show am_li lvc k.val _
    unfold am_li
    rw [ag_lk_of hlr e]
    exact gI hk x0 (hwl _ (ag_lv_mem e)) hws hp rfl
  case iload k =>
    obtain ⟨f, e, hk⟩ := ag_li_inv hs
    show am_li lvc k _
    unfold am_li
    rw [ag_lk_of hlr e]
    exact gI hk x0 (hwl _ (ag_lv_mem e)) hws hp rfl
  case lload_n k =>
    obtain ⟨f, e, hk⟩ := ag_ll_inv hs
    show am_ll lvc k.val _
    unfold am_ll
    rw [ag_lk_of hlr e]
    exact gL hk x0 (hwl _ (ag_lv_mem e)) hws hp rfl
  case lload k =>
    obtain ⟨f, e, hk⟩ := ag_ll_inv hs
    show am_ll lvc k _
    unfold am_ll
    rw [ag_lk_of hlr e]
    exact gL hk x0 (hwl _ (ag_lv_mem e)) hws hp rfl
  case aload_n k =>
    obtain ⟨f, e, hk⟩ := ag_la_inv hs
    show am_la lvc k.val _
    unfold am_la
    rw [ag_lk_of hlr e]
    exact g1 hk x0 trivial hws hp rfl
  case aload k =>
    obtain ⟨f, e, hk⟩ := ag_la_inv hs
    show am_la lvc k _
    unfold am_la
    rw [ag_lk_of hlr e]
    exact g1 hk x0 trivial hws hp rfl
  case istore_n k =>
    obtain ⟨f, r, rfl, hk⟩ := ag_pI_inv hs
    rw [Bool.and_eq_true] at hk
    exact ⟨ae_blt hk.1, gl hk.2 x0 (ag_wl_s1 hwl (hd hws)) (ag_lR_s1 hlr _ _) (tl hws) hp⟩
  case istore k =>
    obtain ⟨f, r, rfl, hk⟩ := ag_pI_inv hs
    rw [Bool.and_eq_true] at hk
    exact ⟨ae_blt hk.1, gl hk.2 x0 (ag_wl_s1 hwl (hd hws)) (ag_lR_s1 hlr _ _) (tl hws) hp⟩
  case astore_n k =>
    obtain ⟨f, r, rfl, hk⟩ := ag_pR_inv hs
    rw [Bool.and_eq_true] at hk
    exact ⟨ae_blt hk.1, gl hk.2 x0 (ag_wl_s1 hwl (hd hws)) (ag_lR_s1 hlr _ _) (tl hws) hp⟩
  case astore k =>
    obtain ⟨f, r, rfl, hk⟩ := ag_pR_inv hs
    rw [Bool.and_eq_true] at hk
    exact ⟨ae_blt hk.1, gl hk.2 x0 (ag_wl_s1 hwl (hd hws)) (ag_lR_s1 hlr _ _) (tl hws) hp⟩
  case lstore_n k =>
    obtain ⟨f, r, rfl, hk⟩ := ag_pL_inv hs
    rw [Bool.and_eq_true] at hk
    exact ⟨ae_blt hk.1, gl hk.2 x0 (ag_wl_s2 hwl (hd hws)) (ag_lR_s2 hlr _ _) (tl hws) hp⟩
  case lstore k =>
    obtain ⟨f, r, rfl, hk⟩ := ag_pL_inv hs
    rw [Bool.and_eq_true] at hk
    exact ⟨ae_blt hk.1, gl hk.2 x0 (ag_wl_s2 hwl (hd hws)) (ag_lR_s2 hlr _ _) (tl hws) hp⟩
  case iinc k n =>
    obtain ⟨f, e, hk⟩ := ag_li_inv hs
    rw [Bool.and_eq_true] at hk
    show am_li lvc k _
    unfold am_li
    rw [ag_lk_of hlr e]
    have q := gl hk.2 x0 (ag_wl_s1 hwl (show ag_wv env.length (.inl (ag_add f (ag_k n))) from ag_wt_add (hwl _ (ag_lv_mem e)) ag_wt_k)) (ag_lR_s1 hlr _ _) hws hp
    have e2 : ag_c ρ (.inl (ag_add f (ag_k n))) = .int (Int32.ofInt (ag_ev ρ f) + Int32.ofInt n) := by
      show Value.int (Int32.ofInt (ag_ev ρ (ag_add f (ag_k n)))) = _
      rw [ag_ev_add, ag_ev_k, Int32.ofInt_add]
    rw [e2] at q
    exact ⟨ae_blt hk.1, q⟩
  case iadd =>
    obtain ⟨y, r1, rfl, hk1⟩ := ag_pI_inv hs
    obtain ⟨x, r, rfl, hk⟩ := ag_pI_inv hk1
    exact gI hk x0 (ag_wt_add (hd (tl hws)) (hd hws)) (tl (tl hws)) hp (by rw [ag_ev_add, Int32.ofInt_add])
  case isub =>
    obtain ⟨y, r1, rfl, hk1⟩ := ag_pI_inv hs
    obtain ⟨x, r, rfl, hk⟩ := ag_pI_inv hk1
    exact gI hk x0 (ag_wt_sub (hd (tl hws)) (hd hws)) (tl (tl hws)) hp (by rw [ag_ev_sub, Int32.ofInt_sub])
  case ladd =>
    obtain ⟨y, r1, rfl, hk1⟩ := ag_pL_inv hs
    obtain ⟨x, r, rfl, hk⟩ := ag_pL_inv hk1
    exact gL hk x0 (ag_wt_add (hd (tl hws)) (hd hws)) (tl (tl hws)) hp (by rw [ag_ev_add, Int64.ofInt_add])
  case lsub =>
    obtain ⟨y, r1, rfl, hk1⟩ := ag_pL_inv hs
    obtain ⟨x, r, rfl, hk⟩ := ag_pL_inv hk1
    exact gL hk x0 (ag_wt_sub (hd (tl hws)) (hd hws)) (tl (tl hws)) hp (by rw [ag_ev_sub, Int64.ofInt_sub])
  case imul =>
    obtain ⟨y, r1, rfl, hk1⟩ := ag_pI_inv hs
    obtain ⟨x, r, rfl, hk⟩ := ag_pI_inv hk1
    split at hk
    · rename_i z hz
      have ez : ag_ev ρ x = z := by
        unfold ag_cst at hz
        split at hz
        · rename_i hn
          cases hz
          unfold ag_ev
          rw [hn]
          exact Int.zero_add _
        · cases hz
      exact gI hk x0 (ag_wt_scl (hd hws)) (tl (tl hws)) hp (by rw [ag_ev_scl, Int32.ofInt_mul, ez])
    · split at hk
      · rename_i z hz
        have ez : ag_ev ρ y = z := by
          unfold ag_cst at hz
          split at hz
          · rename_i hn
            cases hz
            unfold ag_ev
            rw [hn]
            exact Int.zero_add _
          · cases hz
        exact gI hk x0 (ag_wt_scl (hd (tl hws))) (tl (tl hws)) hp (by rw [ag_ev_scl, Int.mul_comm, Int32.ofInt_mul, ez])
      · obtain ⟨ρ', e', f, xx, wf, ef, hk⟩ := ag_nI_ok hin (Int32.ofInt (ag_ev ρ x) * Int32.ofInt (ag_ev ρ y)) hk
        exact gI hk xx wf (tl (tl hws)) (pu xx) (by rw [ef, Int32.ofInt_toInt])
  case lmul =>
    obtain ⟨y, r1, rfl, hk1⟩ := ag_pL_inv hs
    obtain ⟨x, r, rfl, hk⟩ := ag_pL_inv hk1
    split at hk
    · rename_i z hz
      have ez : ag_ev ρ x = z := by
        unfold ag_cst at hz
        split at hz
        · rename_i hn
          cases hz
          unfold ag_ev
          rw [hn]
          exact Int.zero_add _
        · cases hz
      exact gL hk x0 (ag_wt_scl (hd hws)) (tl (tl hws)) hp (by rw [ag_ev_scl, Int64.ofInt_mul, ez])
    · split at hk
      · rename_i z hz
        have ez : ag_ev ρ y = z := by
          unfold ag_cst at hz
          split at hz
          · rename_i hn
            cases hz
            unfold ag_ev
            rw [hn]
            exact Int.zero_add _
          · cases hz
        exact gL hk x0 (ag_wt_scl (hd (tl hws))) (tl (tl hws)) hp (by rw [ag_ev_scl, Int.mul_comm, Int64.ofInt_mul, ez])
      · obtain ⟨ρ', e', f, xx, wf, ef, hk⟩ := ag_nL_ok hin (Int64.ofInt (ag_ev ρ x) * Int64.ofInt (ag_ev ρ y)) hk
        exact gL hk xx wf (tl (tl hws)) (pu xx) (by rw [ef, Int64.ofInt_toInt])
  case ineg =>
    obtain ⟨x, r, rfl, hk⟩ := ag_pI_inv hs
    exact gI hk x0 (ag_wt_scl (hd hws)) (tl hws) hp (by rw [ag_ev_scl, Int.neg_one_mul, Int32.ofInt_neg])
  case iand =>
    have hk0 : ag_b2 env st ag_andG (fun x y => x &&& y) (fun env z r => K env nx lv (.inl z :: r) H) = true := hs
    obtain ⟨y, x, r, rfl, ρ', e', z, xx, wz, ez, hk⟩ := ag_b2_ok hin hws ag_andG_ok hk0
    exact gI hk xx wz (tl (tl hws)) (pu xx) ez
  case ior =>
    have hk0 : ag_b2 env st ag_noG (fun x y => x ||| y) (fun env z r => K env nx lv (.inl z :: r) H) = true := hs
    obtain ⟨y, x, r, rfl, ρ', e', z, xx, wz, ez, hk⟩ := ag_b2_ok hin hws (ag_noG_ok _) hk0
    exact gI hk xx wz (tl (tl hws)) (pu xx) ez
  case ixor =>
    have hk0 : ag_b2 env st ag_noG (fun x y => x ^^^ y) (fun env z r => K env nx lv (.inl z :: r) H) = true := hs
    obtain ⟨y, x, r, rfl, ρ', e', z, xx, wz, ez, hk⟩ := ag_b2_ok hin hws (ag_noG_ok _) hk0
    exact gI hk xx wz (tl (tl hws)) (pu xx) ez
  case ishl =>
    have hk0 : ag_b2 env st ag_shlG (fun x y => x <<< (y &&& 31)) (fun env z r => K env nx lv (.inl z :: r) H) = true := hs
    obtain ⟨y, x, r, rfl, ρ', e', z, xx, wz, ez, hk⟩ := ag_b2_ok hin hws ag_shlG_ok hk0
    exact gI hk xx wz (tl (tl hws)) (pu xx) ez
  case ishr =>
    have hk0 : ag_b2 env st ag_noG (fun x y => x >>> (y &&& 31)) (fun env z r => K env nx lv (.inl z :: r) H) = true := hs
    obtain ⟨y, x, r, rfl, ρ', e', z, xx, wz, ez, hk⟩ := ag_b2_ok hin hws (ag_noG_ok _) hk0
    exact gI hk xx wz (tl (tl hws)) (pu xx) ez
  case iushr =>
    have hk0 : ag_b2 env st ag_noG (fun x y => (x.toUInt32 >>> (y.toUInt32 &&& Int32.toUInt32 31)).toInt32) (fun env z r => K env nx lv (.inl z :: r) H) = true := hs
    obtain ⟨y, x, r, rfl, ρ', e', z, xx, wz, ez, hk⟩ := ag_b2_ok hin hws (ag_noG_ok _) hk0
    exact gI hk xx wz (tl (tl hws)) (pu xx) ez
  case idiv =>
    obtain ⟨y, r1, rfl, hk1⟩ := ag_pI_inv hs
    obtain ⟨x, r, rfl, hk⟩ := ag_pI_inv hk1
    obtain ⟨ρ1, e1, y1, cc, dd, xf, aa, bb, q1, ⟨wy, ty, ly, uy⟩, ⟨wx, tx, lx, ux⟩, hk⟩ := ag_mII_ok hin (hd (tl hws)) (hd hws) hk
    rw [Bool.and_eq_true, decide_eq_true_eq] at hk
    have hy : 0 < (Int32.ofInt (ag_ev ρ y)).toInt := by omega
    obtain ⟨ρ2, e2, z, q2, wz, ez, hk⟩ := ag_opt_ok q1.2.2 (v := Int32.ofInt (ag_ev ρ x) / Int32.ofInt (ag_ev ρ y)) (fun z hz => by rw [ag_divI hy]; exact ag_div_in (by omega) (by omega) (by omega) (by omega) hz) hk.2
    exact ⟨fun z => by rw [z] at hy; exact absurd hy (by decide), gI hk (q1.trans q2) wz (tl (tl hws)) (pu (q1.trans q2)) (by rw [ez, Int32.ofInt_toInt])⟩
  case irem =>
    obtain ⟨y, r1, rfl, hk1⟩ := ag_pI_inv hs
    obtain ⟨x, r, rfl, hk⟩ := ag_pI_inv hk1
    obtain ⟨ρ1, e1, y1, cc, dd, xf, aa, bb, q1, ⟨wy, ty, ly, uy⟩, ⟨wx, tx, lx, ux⟩, hk⟩ := ag_mII_ok hin (hd (tl hws)) (hd hws) hk
    rw [Bool.and_eq_true, decide_eq_true_eq] at hk
    have hy : 0 < (Int32.ofInt (ag_ev ρ y)).toInt := by omega
    obtain ⟨ρ2, e2, z, q2, wz, ez, hk⟩ := ag_opt_ok q1.2.2 (v := Int32.ofInt (ag_ev ρ x) - Int32.ofInt (ag_ev ρ x) / Int32.ofInt (ag_ev ρ y) * Int32.ofInt (ag_ev ρ y)) (fun z hz => by rw [ag_remI hy]; exact ag_rem_in (by omega) (by omega) (by omega) (by omega) hy hz) hk.2
    exact ⟨fun z => by rw [z] at hy; exact absurd hy (by decide), gI hk (q1.trans q2) wz (tl (tl hws)) (pu (q1.trans q2)) (by rw [ez, Int32.ofInt_toInt])⟩
  case ldiv =>
    obtain ⟨y, r1, rfl, hk1⟩ := ag_pL_inv hs
    obtain ⟨x, r, rfl, hk⟩ := ag_pL_inv hk1
    obtain ⟨ρ1, e1, y1, cc, dd, xf, aa, bb, q1, ⟨wy, ty, ly, uy⟩, ⟨wx, tx, lx, ux⟩, hk⟩ := ag_mLL_ok hin (hd (tl hws)) (hd hws) hk
    rw [Bool.and_eq_true, decide_eq_true_eq] at hk
    have hy : 0 < (Int64.ofInt (ag_ev ρ y)).toInt := by omega
    obtain ⟨ρ2, e2, z, q2, wz, ez, hk⟩ := ag_optL_ok q1.2.2 (v := Int64.ofInt (ag_ev ρ x) / Int64.ofInt (ag_ev ρ y)) (fun z hz => by rw [ag_divL hy]; exact ag_div_in (by omega) (by omega) (by omega) (by omega) hz) hk.2
    exact ⟨fun z => by rw [z] at hy; exact absurd hy (by decide), gL hk (q1.trans q2) wz (tl (tl hws)) (pu (q1.trans q2)) (by rw [ez, Int64.ofInt_toInt])⟩
  case lrem =>
    obtain ⟨y, r1, rfl, hk1⟩ := ag_pL_inv hs
    obtain ⟨x, r, rfl, hk⟩ := ag_pL_inv hk1
    obtain ⟨ρ1, e1, y1, cc, dd, xf, aa, bb, q1, ⟨wy, ty, ly, uy⟩, ⟨wx, tx, lx, ux⟩, hk⟩ := ag_mLL_ok hin (hd (tl hws)) (hd hws) hk
    rw [Bool.and_eq_true, decide_eq_true_eq] at hk
    have hy : 0 < (Int64.ofInt (ag_ev ρ y)).toInt := by omega
    obtain ⟨ρ2, e2, z, q2, wz, ez, hk⟩ := ag_optL_ok q1.2.2 (v := Int64.ofInt (ag_ev ρ x) - Int64.ofInt (ag_ev ρ x) / Int64.ofInt (ag_ev ρ y) * Int64.ofInt (ag_ev ρ y)) (fun z hz => by rw [ag_remL hy]; exact ag_rem_in (by omega) (by omega) (by omega) (by omega) hy hz) hk.2
    exact ⟨fun z => by rw [z] at hy; exact absurd hy (by decide), gL hk (q1.trans q2) wz (tl (tl hws)) (pu (q1.trans q2)) (by rw [ez, Int64.ofInt_toInt])⟩
  case land =>
    obtain ⟨y, r1, rfl, hk1⟩ := ag_pL_inv hs
    obtain ⟨x, r, rfl, hk⟩ := ag_pL_inv hk1
    obtain ⟨ρ', e', f, xx, wf, ef, hk⟩ := ag_nL_ok hin (Int64.ofInt (ag_ev ρ x) &&& Int64.ofInt (ag_ev ρ y)) hk
    exact gL hk xx wf (tl (tl hws)) (pu xx) (by rw [ef, Int64.ofInt_toInt])
  case lor =>
    obtain ⟨y, r1, rfl, hk1⟩ := ag_pL_inv hs
    obtain ⟨x, r, rfl, hk⟩ := ag_pL_inv hk1
    obtain ⟨ρ', e', f, xx, wf, ef, hk⟩ := ag_nL_ok hin (Int64.ofInt (ag_ev ρ x) ||| Int64.ofInt (ag_ev ρ y)) hk
    exact gL hk xx wf (tl (tl hws)) (pu xx) (by rw [ef, Int64.ofInt_toInt])
  case lshl =>
    obtain ⟨y, r1, rfl, hk1⟩ := ag_pI_inv hs
    obtain ⟨x, r, rfl, hk⟩ := ag_pL_inv hk1
    obtain ⟨ρ', e', f, xx, wf, ef, hk⟩ := ag_nL_ok hin (Int64.ofInt (ag_ev ρ x) <<< ((Int32.ofInt (ag_ev ρ y)).toInt64 &&& 63)) hk
    exact gL hk xx wf (tl (tl hws)) (pu xx) (by rw [ef, Int64.ofInt_toInt])
  case lshr =>
    obtain ⟨y, r1, rfl, hk1⟩ := ag_pI_inv hs
    obtain ⟨x, r, rfl, hk⟩ := ag_pL_inv hk1
    obtain ⟨ρ', e', f, xx, wf, ef, hk⟩ := ag_nL_ok hin (Int64.ofInt (ag_ev ρ x) >>> ((Int32.ofInt (ag_ev ρ y)).toInt64 &&& 63)) hk
    exact gL hk xx wf (tl (tl hws)) (pu xx) (by rw [ef, Int64.ofInt_toInt])
  case lushr =>
    obtain ⟨y, r1, rfl, hk1⟩ := ag_pI_inv hs
    obtain ⟨x, r, rfl, hk⟩ := ag_pL_inv hk1
    obtain ⟨ρ', e', f, xx, wf, ef, hk⟩ := ag_nL_ok hin (((Int64.ofInt (ag_ev ρ x)).toUInt64 >>> ((Int32.ofInt (ag_ev ρ y)).toInt64.toUInt64 &&& Int64.toUInt64 63)).toInt64) hk
    exact gL hk xx wf (tl (tl hws)) (pu xx) (by rw [ef, Int64.ofInt_toInt])
  case lcmp =>
    obtain ⟨y, r1, rfl, hk1⟩ := ag_pL_inv hs
    obtain ⟨x, r, rfl, hk⟩ := ag_pL_inv hk1
    have b := ag_lcmp_in (Int64.ofInt (ag_ev ρ x)) (Int64.ofInt (ag_ev ρ y))
    obtain ⟨ρ', e', f, xx, wf, ef, hk⟩ := ag_nw_ok hin b.1 b.2 hk
    exact gI hk xx wf (tl (tl hws)) (pu xx) (by rw [ef, Int32.ofInt_toInt])
  case i2l =>
    obtain ⟨x, r, rfl, hk⟩ := ag_pI_inv hs
    obtain ⟨ρ', e', f, lo, hi, xx, wf, _, ef, _, _, hk⟩ := ag_mI_ok hin (hd hws) hk
    exact gL hk xx wf (tl hws) (pu xx) (by rw [← ef, Int64.ofInt_int32ToInt])
  case l2i =>
    obtain ⟨x, r, rfl, hk⟩ := ag_pL_inv hs
    exact gI hk x0 (hd hws) (tl hws) hp Int64.toInt32_ofInt.symm
  case i2c =>
    obtain ⟨x, r, rfl, hk⟩ := ag_pI_inv hs
    obtain ⟨ρ', e', f, lo, hi, xx, wf, ef0, ef, l1, u1, hk⟩ := ag_mI_ok hin (hd hws) hk
    cases hb : (decide (0 ≤ lo) && decide (hi ≤ 65535)) with
    | true =>
      rw [hb] at hk
      simp only [Bool.and_eq_true, decide_eq_true_eq] at hb
      exact gI hk xx wf (tl hws) (pu xx) (by rw [ag_i2c_id (by omega) (by omega), ef0])
    | false =>
      rw [hb] at hk
      dsimp only [cond] at hk
      have b := ag_i2c_in (Int32.ofInt (ag_ev ρ x))
      obtain ⟨ρ2, e2, f2, x2, wf2, ef2, hk⟩ := ag_nw_ok xx.2.2 b.1 b.2 hk
      exact gI hk (xx.trans x2) wf2 (tl hws) (pu (xx.trans x2)) (by rw [ef2, Int32.ofInt_toInt])
  case i2b =>
    obtain ⟨x, r, rfl, hk⟩ := ag_pI_inv hs
    obtain ⟨ρ', e', f, lo, hi, xx, wf, ef0, ef, l1, u1, hk⟩ := ag_mI_ok hin (hd hws) hk
    cases hb : (decide (-128 ≤ lo) && decide (hi ≤ 127)) with
    | true =>
      rw [hb] at hk
      simp only [Bool.and_eq_true, decide_eq_true_eq] at hb
      exact gI hk xx wf (tl hws) (pu xx) (by rw [ag_i2b_id (by omega) (by omega), ef0])
    | false =>
      rw [hb] at hk
      dsimp only [cond] at hk
      have b := ag_i2b_in (Int32.ofInt (ag_ev ρ x))
      obtain ⟨ρ2, e2, f2, x2, wf2, ef2, hk⟩ := ag_nw_ok xx.2.2 b.1 b.2 hk
      exact gI hk (xx.trans x2) wf2 (tl hws) (pu (xx.trans x2)) (by rw [ef2, Int32.ofInt_toInt])
  case dup =>
    obtain ⟨v, r, rfl, hk⟩ := ag_pV_inv hs
    rw [Bool.and_eq_true] at hk
    exact ⟨by rw [ag_cat_c]; exact Nat.eq_of_beq_eq_true hk.1, g0 hk.2 x0 (ag_ws_cons hws (hd hws)) hp⟩
  case dup2 =>
    obtain ⟨v, r1, rfl, hk1⟩ := ag_pV_inv hs
    obtain ⟨w, r, rfl, hk⟩ := ag_pV_inv hk1
    rw [Bool.and_eq_true, Bool.and_eq_true] at hk
    exact ⟨by rw [ag_cat_c]; exact Nat.eq_of_beq_eq_true hk.1, by rw [ag_cat_c]; exact Nat.eq_of_beq_eq_true hk.2.1, g0 hk.2.2 x0 (ag_ws_cons (ag_ws_cons hws (hd (tl hws))) (hd hws)) hp⟩
  case pop =>
    obtain ⟨v, r, rfl, hk⟩ := ag_pV_inv hs
    rw [Bool.and_eq_true] at hk
    exact ⟨by rw [ag_cat_c]; exact Nat.eq_of_beq_eq_true hk.1, g0 hk.2 x0 (tl hws) hp⟩
  case goto n =>
    exact g0 hs x0 hws hp
  case if_icmp q n =>
    obtain ⟨y, r1, rfl, hk1⟩ := ag_pI_inv hs
    obtain ⟨x, r, rfl, hk⟩ := ag_pI_inv hk1
    obtain ⟨ρ1, e1, y1, cc, dd, xf, aa, bb, q1, ⟨wy, ty, ly, uy⟩, ⟨wx, tx, lx, ux⟩, hk⟩ := ag_mII_ok hin (hd (tl hws)) (hd hws) hk
    obtain ⟨e2, t, i2, l2, ht, hk⟩ := ag_cmp_ok q1.2.2 hk
    have xx := q1.trans (ag_xt.cut i2 l2)
    have hc : am_c q (Int32.ofInt (ag_ev ρ x)) (Int32.ofInt (ag_ev ρ y)) ↔ t = true := by
      rw [ae_ti_c, tx, ty]
      exact ht
    cases t with
    | true => exact ⟨fun _ => g0 hk xx (tl (tl hws)) (pu xx), fun z => absurd (hc.mpr rfl) z⟩
    | false => exact ⟨fun z => Bool.noConfusion (hc.mp z), fun _ => g0 hk xx (tl (tl hws)) (pu xx)⟩
  case ifCond q n =>
    obtain ⟨x, r, rfl, hk⟩ := ag_pI_inv hs
    obtain ⟨ρ1, e1, xf, lo, hi, q1, wx, _, tx, lx, ux, hk⟩ := ag_mI_ok hin (hd hws) hk
    have t0 : (0 : Int32).toInt = ag_ev ρ1 (ag_k 0) := by rw [ag_ev_k]; rfl
    obtain ⟨e2, t, i2, l2, ht, hk⟩ := ag_cmp_ok q1.2.2 hk
    have xx := q1.trans (ag_xt.cut i2 l2)
    have hc : am_c q (Int32.ofInt (ag_ev ρ x)) 0 ↔ t = true := by
      rw [ae_ti_c, tx, t0]
      exact ht
    cases t with
    | true => exact ⟨fun _ => g0 hk xx (tl hws) (pu xx), fun z => absurd (hc.mpr rfl) z⟩
    | false => exact ⟨fun z => Bool.noConfusion (hc.mp z), fun _ => g0 hk xx (tl hws) (pu xx)⟩
  case tableswitch df lo hi os =>
    obtain ⟨x, r, rfl, hk⟩ := ag_pI_inv hs
    obtain ⟨ρ1, e1, xf, _, _, q1, wx, _, tx, lx, ux, hk⟩ := ag_mI_ok hin (hd hws) hk
    rw [Bool.and_eq_true, Bool.and_eq_true] at hk
    obtain ⟨k1, k2, k3⟩ := hk
    refine ⟨fun z => ?_, fun j hj hj2 => ?_⟩
    · rw [tx] at z
      rcases z with z | z
      · obtain ⟨e2, i2, l2, hk⟩ := ag_ge_ok q1.2.2 (g := ag_sub (ag_k (lo - 1)) xf) (by rw [ag_ev_sub, ag_ev_k]; omega) k1
        exact g0 hk (q1.trans (ag_xt.cut i2 l2)) (tl hws) (pu (q1.trans (ag_xt.cut i2 l2)))
      · obtain ⟨e2, i2, l2, hk⟩ := ag_ge_ok q1.2.2 (g := ag_sub xf (ag_k (hi + 1))) (by rw [ag_ev_sub, ag_ev_k]; omega) k2
        exact g0 hk (q1.trans (ag_xt.cut i2 l2)) (tl hws) (pu (q1.trans (ag_xt.cut i2 l2)))
    · rw [tx] at hj
      have k4 := List.all_eq_true.mp k3 j (List.mem_range.mpr (by omega))
      obtain ⟨e2, i2, l2, hk⟩ := ag_eq_ok q1.2.2 (by rw [ag_ev_sub, ag_ev_k]; omega) k4
      exact g0 hk (q1.trans (ag_xt.cut i2 l2)) (tl hws) (pu (q1.trans (ag_xt.cut i2 l2)))
  case lookupswitch df ps =>
    obtain ⟨x, r, rfl, hk⟩ := ag_pI_inv hs
    obtain ⟨ρ1, e1, xf, _, _, q1, wx, _, tx, lx, ux, hk⟩ := ag_mI_ok hin (hd hws) hk
    rw [Bool.and_eq_true] at hk
    show S ((pc : Int) + Op.lookupswitch.offset ps.toList df (Int32.ofInt (ag_ev ρ x)).toInt).toNat _ _ _
    rcases ag_sw_off ps.toList df (Int32.ofInt (ag_ev ρ x)).toInt with e | ⟨q, hq, e⟩
    · rw [e]
      exact g0 hk.1 q1 (tl hws) (pu q1)
    · rw [e]
      exact g0 (List.all_eq_true.mp hk.2 q hq) q1 (tl hws) (pu q1)
  case getfield n =>
    have hk0 := hs
    clear hs
    unfold ag_step at hk0
    dsimp only at hk0
    cases hb20 : Nat.beq b 20 with
    | true =>
      rw [hb20] at hk0
      show (bif Nat.beq b 20 then am_pR _ _ else _)
      rw [hb20]
      obtain ⟨o, r, rfl, hk⟩ := ag_pR_inv hk0
      rw [Bool.and_eq_true] at hk
      obtain ⟨k1, hk⟩ := hk
      obtain ⟨q, hq, e4, e5⟩ := ag_s4 k1
      rw [e5] at hk
      refine ⟨q, hq, e4, ?_⟩
      cases ha : Nat.beq a 0 with
      | true =>
        rw [ha] at hk
        exact g1 hk x0 trivial (tl hws) hp rfl
      | false =>
        rw [ha] at hk
        exact gI hk x0 ag_wt_k (tl hws) hp (by rw [ag_ev_k]; rfl)
    | false =>
    rw [hb20] at hk0
    show (bif Nat.beq b 20 then _ else am_pR _ _)
    rw [hb20]
    obtain ⟨ob, r, rfl, hk⟩ := ag_pR_inv hk0
    rw [Bool.and_eq_true] at hk
    obtain ⟨k1, hk⟩ := hk
    have hsh := (ag_so_ok hD hcnt (ag_ob_inv k1)).2
    refine ⟨hsh, ?_⟩
    unfold am_gv
    rcases ag_kd3 (am_kd b a) with e | e | ⟨m, e⟩
    · rw [e] at hk
      rw [e]
      obtain ⟨ρ', e', H', f, xx, hp', wf, ef, hk⟩ := ag_rd_ok hin hp hk
      exact gI hk xx wf (tl hws) hp' ef.symm
    · rw [e] at hk
      rw [e]
      obtain ⟨ρ', e', H', f, xx, hp', wf, ef, hk⟩ := ag_rL_ok hin hp hk
      exact gL hk xx wf (tl hws) hp' ef.symm
    · rw [e] at hk
      rw [e]
      have hk : (match ag_rr D H.2.2.1 ob a with
        | some x => K env nx lv (.inr (.inr x) :: r) H
        | none => false) = true := hk
      split at hk
      · rename_i x hx
        show S nx _ (am_rf (h.2.2.1 ob a) :: _) h
        rw [ag_rr_ok hp hx]
        exact g1 hk x0 trivial (tl hws) hp rfl
      · cases hk
  case putfield n =>
    have hk := hs
    show (match am_kd b a with
      | 0 => _
      | 1 => _
      | _ => _)
    rcases ag_kd3 (am_kd b a) with e | e | ⟨m, e⟩
    · unfold ag_step at hk
      dsimp only at hk
      rw [e] at hk
      rw [e]
      obtain ⟨x, r1, rfl, hk1⟩ := ag_pI_inv hk
      obtain ⟨ob, r, rfl, hk2⟩ := ag_pR_inv hk1
      obtain ⟨ρ1, e1, xf, lo, hi, q1, wx, ex, tx, lx, ux, hk3⟩ := ag_mI_ok hin (hd hws) hk2
      rw [Bool.and_eq_true, Bool.and_eq_true] at hk3
      obtain ⟨k1, k2, k3⟩ := hk3
      have hsh := (ag_so_ok hD hcnt (ag_ob_inv k1)).2
      have ty := ag_ty_ok (x := Int32.ofInt (ag_ev ρ x)) k2 (by omega) (by omega)
      obtain ⟨H', hp', hk⟩ := ag_wI_ok hM (pu q1) (ag_ev_k _) (Int.le_refl _) (Int.le_refl _) wx ex tx lx ux k3
      exact ⟨hsh, ty.1, ty.2, g0 hk q1 (tl (tl hws)) hp'⟩
    · unfold ag_step at hk
      dsimp only at hk
      rw [e] at hk
      rw [e]
      obtain ⟨x, r1, rfl, hk1⟩ := ag_pL_inv hk
      obtain ⟨ob, r, rfl, hk2⟩ := ag_pR_inv hk1
      obtain ⟨ρ1, e1, xf, lo, hi, q1, wx, ex, tx, lx, ux, hk3⟩ := ag_mL_ok hin (hd hws) hk2
      rw [Bool.and_eq_true] at hk3
      have hsh := (ag_so_ok hD hcnt (ag_ob_inv hk3.1)).2
      obtain ⟨H', hp', hk⟩ := ag_wL_ok hDL (pu q1) (Int.le_refl _) (Int.le_refl _) wx ex tx lx ux hk3.2
      exact ⟨hsh, g0 hk q1 (tl (tl hws)) hp'⟩
    · unfold ag_step at hk
      dsimp only at hk
      rw [e] at hk
      rw [e]
      obtain ⟨x, r1, rfl, hk1⟩ := ag_pR_inv hk
      obtain ⟨ob, r, rfl, hk2⟩ := ag_pR_inv hk1
      rw [Bool.and_eq_true, Bool.and_eq_true, Bool.and_eq_true] at hk2
      have hsh := (ag_so_ok hD hcnt (ag_ob_inv hk2.1)).2
      exact ⟨hsh, g0 hk2.2.2.2 x0 (tl (tl hws)) (ag_wR_ok hp hk2.2.1 hk2.2.2.1)⟩
  case iaload =>
    obtain ⟨j, r1, rfl, hk1⟩ := ag_pI_inv hs
    obtain ⟨ob, r, rfl, hk2⟩ := ag_pR_inv hk1
    obtain ⟨ρ1, e1, jf, lo, hi, q1, wj, ej, tj, lj, uj, hk3⟩ := ag_mI_ok hin (hd hws) hk2
    rw [Bool.and_eq_true] at hk3
    obtain ⟨n, en, a1, a2⟩ := ag_ar_inv hk3.1
    have hsh := (ag_so_ok hD hcnt en).2
    obtain ⟨jn, hjn, ejn, tjn⟩ := ag_nIx (x := Int32.ofInt (ag_ev ρ j)) (by omega)
    obtain ⟨ρ2, e2, H', f, x2, hp', wf, ef, hk⟩ := ag_rS_ok (n := jn) q1.2.2 (pu q1) wj (by omega) (by omega) (by omega) hk3.2
    exact ⟨jn, n, hsh, by omega, ejn, gI hk (q1.trans x2) wf (tl (tl hws)) hp' ef.symm⟩
  case caload =>
    obtain ⟨j, r1, rfl, hk1⟩ := ag_pI_inv hs
    obtain ⟨ob, r, rfl, hk2⟩ := ag_pR_inv hk1
    obtain ⟨ρ1, e1, jf, lo, hi, q1, wj, ej, tj, lj, uj, hk3⟩ := ag_mI_ok hin (hd hws) hk2
    rw [Bool.and_eq_true] at hk3
    obtain ⟨n, en, a1, a2⟩ := ag_ar_inv hk3.1
    have hsh := (ag_so_ok hD hcnt en).2
    obtain ⟨jn, hjn, ejn, tjn⟩ := ag_nIx (x := Int32.ofInt (ag_ev ρ j)) (by omega)
    obtain ⟨ρ2, e2, H', f, x2, hp', wf, ef, hk⟩ := ag_rA_ok (n := jn) q1.2.2 (pu q1) (by omega) (by omega) (by omega) hk3.2
    exact ⟨jn, n, hsh, by omega, ejn, gI hk (q1.trans x2) wf (tl (tl hws)) hp' ef.symm⟩
  case baload =>
    obtain ⟨j, r1, rfl, hk1⟩ := ag_pI_inv hs
    obtain ⟨ob, r, rfl, hk2⟩ := ag_pR_inv hk1
    obtain ⟨ρ1, e1, jf, lo, hi, q1, wj, ej, tj, lj, uj, hk3⟩ := ag_mI_ok hin (hd hws) hk2
    cases hb5 : (Nat.ble 5000000 ob && Nat.blt ob 5000026) with
    | true =>
      rw [hb5] at hk3
      have hk3 : (decide (0 ≤ lo) && (decide (hi < (am_sln.getD (ob - 5000000) 0 : Nat)) && (bif decide (lo = hi) then K e1 nx lv (.inl (ag_k ((am_sby.getD (ob - 5000000) []).getD lo.toNat 0).toInt) :: r) H else ag_nw e1 0 127 (fun env z => K env nx lv (.inl z :: r) H)))) = true := hk3
      rw [Bool.and_eq_true, Bool.and_eq_true, decide_eq_true_eq, decide_eq_true_eq] at hk3
      obtain ⟨a1, a2, hk⟩ := hk3
      obtain ⟨q, hq26, e4, e5⟩ := ag_s5 hb5
      rw [e5] at a2 hk
      obtain ⟨jn, hjn, ejn, tjn⟩ := ag_nIx (x := Int32.ofInt (ag_ev ρ j)) (by omega)
      refine Or.inr ⟨q, jn, hq26, e4, by omega, ejn, ?_⟩
      cases hq : decide (lo = hi) with
      | true =>
        rw [hq] at hk
        have hq := of_decide_eq_true hq
        have en : lo.toNat = jn := by omega
        rw [en] at hk
        exact gI hk q1 ag_wt_k (tl (tl hws)) (pu q1) (by rw [ag_ev_k, Int32.ofInt_toInt])
      | false =>
        rw [hq] at hk
        dsimp only [cond] at hk
        have b := ag_sby_in q jn
        obtain ⟨ρ2, e2, f2, x2, wf2, ef2, hk⟩ := ag_nw_ok q1.2.2 b.1 b.2 hk
        exact gI hk (q1.trans x2) wf2 (tl (tl hws)) (pu (q1.trans x2)) (by rw [ef2, Int32.ofInt_toInt])
    | false =>
    rw [hb5] at hk3
    have hk3 : (ag_ar (ag_so D ob) 15 lo hi && ag_rA D e1 H ob jf lo hi fun env H f => K env nx lv (.inl f :: r) H) = true := hk3
    rw [Bool.and_eq_true] at hk3
    obtain ⟨n, en, a1, a2⟩ := ag_ar_inv hk3.1
    have hsh := (ag_so_ok hD hcnt en).2
    obtain ⟨jn, hjn, ejn, tjn⟩ := ag_nIx (x := Int32.ofInt (ag_ev ρ j)) (by omega)
    obtain ⟨ρ2, e2, H', f, x2, hp', wf, ef, hk⟩ := ag_rA_ok (n := jn) q1.2.2 (pu q1) (by omega) (by omega) (by omega) hk3.2
    exact Or.inl ⟨jn, n, hsh, by omega, ejn, gI hk (q1.trans x2) wf (tl (tl hws)) hp' ef.symm⟩
  case laload =>
    obtain ⟨j, r1, rfl, hk1⟩ := ag_pI_inv hs
    obtain ⟨ob, r, rfl, hk2⟩ := ag_pR_inv hk1
    obtain ⟨ρ1, e1, jf, lo, hi, q1, wj, ej, tj, lj, uj, hk3⟩ := ag_mI_ok hin (hd hws) hk2
    rw [Bool.and_eq_true] at hk3
    obtain ⟨n, en, a1, a2⟩ := ag_ar_inv hk3.1
    have hsh := (ag_so_ok hD hcnt en).2
    obtain ⟨jn, hjn, ejn, tjn⟩ := ag_nIx (x := Int32.ofInt (ag_ev ρ j)) (by omega)
    obtain ⟨ρ2, e2, f, x2, wf, ef, hk⟩ := ag_nL_ok q1.2.2 (h.2.1 ob jn) hk3.2
    exact ⟨jn, n, hsh, by omega, ejn, gL hk (q1.trans x2) wf (tl (tl hws)) (pu (q1.trans x2)) (by rw [ef, Int64.ofInt_toInt])⟩
  case aaload =>
    obtain ⟨j, r1, rfl, hk1⟩ := ag_pI_inv hs
    obtain ⟨ob, r, rfl, hk2⟩ := ag_pR_inv hk1
    obtain ⟨ρ1, e1, jf, lo, hi, q1, wj, ej, tj, lj, uj, hk3⟩ := ag_mI_ok hin (hd hws) hk2
    rw [Bool.and_eq_true] at hk3
    have key : ∃ n : Nat, (am_sh h ob = some (16, n) ∨ am_sh h ob = some (17, n)) ∧ 0 ≤ lo ∧ hi < (n : Int) := by
      rcases Bool.or_eq_true_iff.mp hk3.1 with z | z
      · obtain ⟨n, en, a1, a2⟩ := ag_ar_inv z
        exact ⟨n, Or.inl (ag_so_ok hD hcnt en).2, a1, a2⟩
      · obtain ⟨n, en, a1, a2⟩ := ag_ar_inv z
        exact ⟨n, Or.inr (ag_so_ok hD hcnt en).2, a1, a2⟩
    obtain ⟨n, hsh, a1, a2⟩ := key
    obtain ⟨jn, hjn, ejn, tjn⟩ := ag_nIx (x := Int32.ofInt (ag_ev ρ j)) (by omega)
    have k4 := List.all_eq_true.mp hk3.2 ((jn : Int) - lo).toNat (List.mem_range.mpr (by omega))
    obtain ⟨e2, i2, l2, hk⟩ := ag_eq_ok q1.2.2 (by rw [ag_ev_sub, ag_ev_k]; omega) k4
    have xx := q1.trans (ag_xt.cut i2 l2)
    split at hk
    · rename_i x hx
      have ei : (lo + (((jn : Int) - lo).toNat : Int)).toNat = jn := by omega
      rw [ei] at hx
      refine ⟨jn, n, hsh, by omega, ejn, ?_⟩
      rw [ag_rr_ok hp hx]
      exact g1 hk xx trivial (tl (tl hws)) (pu xx) rfl
    · cases hk
  case iastore =>
    obtain ⟨x, r2, rfl, hk1⟩ := ag_pI_inv hs
    obtain ⟨j, r1, rfl, hk2⟩ := ag_pI_inv hk1
    obtain ⟨ob, r, rfl, hk3⟩ := ag_pR_inv hk2
    obtain ⟨ρ1, e1, xf, u, w, jf, lo, hi, q1, ⟨wx, tx, lx, ux⟩, ⟨wj, tj, lj, uj⟩, hk4⟩ := ag_mII_ok hin (hd (tl hws)) (hd hws) hk3
    rw [Bool.and_eq_true] at hk4
    obtain ⟨n, en, a1, a2⟩ := ag_ar_inv hk4.1
    have hsh := (ag_so_ok hD hcnt en).1
    obtain ⟨jn, hjn, ejn, tjn⟩ := ag_nIx (x := Int32.ofInt (ag_ev ρ j)) (by omega)
    have ex : Int32.ofInt (ag_ev ρ x) = Int32.ofInt (ag_ev ρ1 xf) := by rw [← tx, Int32.ofInt_toInt]
    obtain ⟨H', hp', hk⟩ := ag_wI_ok hM (pu q1) (n := jn) (by omega) (by omega) (by omega) wx ex tx lx ux hk4.2
    exact ⟨jn, n, hsh, by omega, ejn, g0 hk q1 (tl (tl (tl hws))) hp'⟩
  case castore =>
    obtain ⟨x, r2, rfl, hk1⟩ := ag_pI_inv hs
    obtain ⟨j, r1, rfl, hk2⟩ := ag_pI_inv hk1
    obtain ⟨ob, r, rfl, hk3⟩ := ag_pR_inv hk2
    obtain ⟨ρ1, e1, xf, u, w, jf, lo, hi, q1, ⟨wx, tx, lx, ux⟩, ⟨wj, tj, lj, uj⟩, hk4⟩ := ag_mII_ok hin (hd (tl hws)) (hd hws) hk3
    rw [Bool.and_eq_true] at hk4
    obtain ⟨n, en, a1, a2⟩ := ag_ar_inv hk4.1
    have hsh := (ag_so_ok hD hcnt en).1
    obtain ⟨jn, hjn, ejn, tjn⟩ := ag_nIx (x := Int32.ofInt (ag_ev ρ j)) (by omega)
    have ex : Int32.ofInt (ag_ev ρ x) = Int32.ofInt (ag_ev ρ1 xf) := by rw [← tx, Int32.ofInt_toInt]
    have hk5 := hk4.2
    rw [Bool.and_eq_true] at hk5
    have ty := (ag_ty_ok (x := Int32.ofInt (ag_ev ρ x)) hk5.1 (by omega) (by omega)).1
    obtain ⟨H', hp', hk⟩ := ag_wI_ok hM (pu q1) (n := jn) (by omega) (by omega) (by omega) wx ex tx lx ux hk5.2
    refine ⟨jn, n, hsh, by omega, ejn, ?_⟩
    rw [ag_vp ty]
    exact g0 hk q1 (tl (tl (tl hws))) hp'
  case bastore =>
    obtain ⟨x, r2, rfl, hk1⟩ := ag_pI_inv hs
    obtain ⟨j, r1, rfl, hk2⟩ := ag_pI_inv hk1
    obtain ⟨ob, r, rfl, hk3⟩ := ag_pR_inv hk2
    obtain ⟨ρ1, e1, xf, u, w, jf, lo, hi, q1, ⟨wx, tx, lx, ux⟩, ⟨wj, tj, lj, uj⟩, hk4⟩ := ag_mII_ok hin (hd (tl hws)) (hd hws) hk3
    rw [Bool.and_eq_true] at hk4
    obtain ⟨n, en, a1, a2⟩ := ag_ar_inv hk4.1
    have hsh := (ag_so_ok hD hcnt en).1
    obtain ⟨jn, hjn, ejn, tjn⟩ := ag_nIx (x := Int32.ofInt (ag_ev ρ j)) (by omega)
    have ex : Int32.ofInt (ag_ev ρ x) = Int32.ofInt (ag_ev ρ1 xf) := by rw [← tx, Int32.ofInt_toInt]
    have hk5 := hk4.2
    rw [Bool.and_eq_true] at hk5
    have ty := (ag_ty_ok (x := Int32.ofInt (ag_ev ρ x)) hk5.1 (by omega) (by omega)).1
    obtain ⟨H', hp', hk⟩ := ag_wI_ok hM (pu q1) (n := jn) (by omega) (by omega) (by omega) wx ex tx lx ux hk5.2
    refine ⟨jn, n, hsh, by omega, ejn, ?_⟩
    rw [ag_vp ty]
    exact g0 hk q1 (tl (tl (tl hws))) hp'
  case lastore =>
    obtain ⟨x, r2, rfl, hk1⟩ := ag_pL_inv hs
    obtain ⟨j, r1, rfl, hk2⟩ := ag_pI_inv hk1
    obtain ⟨ob, r, rfl, hk3⟩ := ag_pR_inv hk2
    obtain ⟨ρ1, e1, xf, u, w, q1, wx, ex, tx, lx, ux, hk4⟩ := ag_mL_ok hin (hd hws) hk3
    obtain ⟨ρ2, e2, jf, lo, hi, q2, wj, ej, tj, lj, uj, hk5⟩ := ag_mI_ok q1.2.2 ((hd (tl hws)).up q1.1) hk4
    have wj0 : ag_wt env.length j := hd (tl hws)
    rw [ag_ev_same q1.2.1 wj0] at tj
    rw [Bool.and_eq_true, Bool.and_eq_true] at hk5
    obtain ⟨n, en, a1, a2⟩ := ag_ar_inv hk5.1
    have hsh := (ag_so_ok hD hcnt en).1
    obtain ⟨jn, hjn, ejn, tjn⟩ := ag_nIx (x := Int32.ofInt (ag_ev ρ j)) (by omega)
    have s := ag_ev_same q2.2.1 wx
    obtain ⟨H', hp', hk⟩ := ag_wL_ok hDL (pu (q1.trans q2)) (n := jn) (x := Int64.ofInt (ag_ev ρ x)) (by omega) (by omega) (wx.up q2.1) (by rw [s]; exact ex) (by rw [s]; exact tx) (by rw [s]; exact lx) (by rw [s]; exact ux) hk5.2.2
    exact ⟨jn, n, hsh, by omega, ejn, g0 hk (q1.trans q2) (tl (tl (tl hws))) hp'⟩
  case invokevirtual n =>
    have hk := hs
    clear hs
    unfold ag_step at hk
    dsimp only at hk
    split at hk
    · rename_i As o r hpop
      rw [Bool.and_eq_true, Bool.and_eq_true, Bool.and_eq_true] at hk
      obtain ⟨k1, k2, k3, k4⟩ := hk
      have hsh : am_rc h o d := by
        cases hd20 : Nat.beq d 20 with
        | true =>
          rw [hd20] at k1
          have k1 : (Nat.ble 4000000 o && Nat.blt o 4000026) = true := k1
          obtain ⟨q, hq, e4, -⟩ := ag_s4 k1
          exact Or.inr ⟨Nat.eq_of_beq_eq_true hd20, q, hq, e4⟩
        | false =>
          rw [hd20] at k1
          exact Or.inl ⟨Nat.ne_of_beq_eq_false hd20, (ag_so_ok hD hcnt (ag_ob_inv k1)).2⟩
      have e3 := Nat.eq_of_beq_eq_true k3
      obtain ⟨w1, w2⟩ := ag_pop_w (m := env.length) b [] st As _ hpop (fun _ z => absurd z List.not_mem_nil) hws
      show (match am_pop b [] (st.map (ag_c ρ)) with
        | some (As, .ref o :: r) => _
        | _ => False)
      rw [show am_pop b [] (st.map (ag_c ρ)) = am_pop b (([] : List ag_v).map (ag_c ρ)) (st.map (ag_c ρ)) from rfl, ag_pop_c, hpop]
      exact ⟨hsh, by rw [ag_sum_c]; exact Nat.le_of_ble_eq_true k2, by rw [hcnt, e3]; exact Nat.le_refl _, hC a _ r k4 e3 (ag_ws_cons w1 (hd w2)) (tl w2)⟩
    · cases hk
  case invokestatic n =>
    have hk := hs
    clear hs
    unfold ag_step at hk
    dsimp only at hk
    split at hk
    · rename_i As r hpop
      rw [Bool.and_eq_true, Bool.and_eq_true] at hk
      obtain ⟨k2, k3, k4⟩ := hk
      have e3 := Nat.eq_of_beq_eq_true k3
      obtain ⟨w1, w2⟩ := ag_pop_w (m := env.length) b [] st As _ hpop (fun _ z => absurd z List.not_mem_nil) hws
      show (match am_pop b [] (st.map (ag_c ρ)) with
        | some (As, r) => _
        | _ => False)
      rw [show am_pop b [] (st.map (ag_c ρ)) = am_pop b (([] : List ag_v).map (ag_c ρ)) (st.map (ag_c ρ)) from rfl, ag_pop_c, hpop]
      exact ⟨by rw [ag_sum_c]; exact Nat.le_of_ble_eq_true k2, by rw [hcnt, e3]; exact Nat.le_refl _, hC a As r k4 e3 w1 w2⟩
    · cases hk
  case ireturn =>
    have hk := hs
    clear hs
    unfold ag_step at hk
    dsimp only at hk
    split at hk
    · rename_i x
      obtain ⟨ρ1, e1, xf, lo, hi, q1, wx, ex, tx, lx, ux, hk3⟩ := ag_mI_ok hin (hd hws) hk
      split at hk3
      · rename_i ty
        rw [Bool.and_eq_true] at hk3
        have t := (ag_ty_ok (x := Int32.ofInt (ag_ev ρ x)) hk3.1 (by omega) (by omega)).1
        have q := hRt e1 _ ρ1 hk3.2 q1 (fun z hz => by cases hz; exact wx)
        refine ⟨⟨ty, rfl, t⟩, ?_⟩
        rw [ex]
        exact q
      · cases hk3
    · cases hk
  case lreturn =>
    have hk := hs
    clear hs
    unfold ag_step at hk
    dsimp only at hk
    split at hk
    · rename_i x
      rw [Bool.and_eq_true, decide_eq_true_eq] at hk
      exact ⟨hk.1, hRt env _ ρ hk.2 x0 (fun z hz => by cases hz; exact hd hws)⟩
    · cases hk
  case return_ =>
    have hk := hs
    clear hs
    unfold ag_step at hk
    dsimp only at hk
    split at hk
    · split at hk
      · exact ⟨rfl, hRt env none ρ hk x0 (fun z hz => by cases hz)⟩
      · cases hk
    · cases hk
  all_goals exact Bool.noConfusion (show false = true from hs)
end
section
/-! RUNS OF THE SECOND CHECKER: templates, calls -/
variable {ρ ρ' : Nat → Int} {env env' : ag_e} {D : ag_D} {M : ag_M} {h0 h : am_H} {H : ag_H}
/-- a heap as every call finds it; a template's state -/
def ag_WH (D : ag_D) (N : Int) (h : am_H) : Prop := h.2.2.2.2 = 175 ∧ ag_G D h ∧ 0 ≤ N ∧ h.1 156 N.toNat = 0
def ag_TS (T : ag_T) (ρ : Nat → Int) (lvc : am_V) (h : am_H) : Prop :=
  ag_in ρ T.1 ∧ (∀ j, T.1.length ≤ j → ρ j = 0) ∧ ag_lR (ag_cl ρ T.2.2.1) lvc ∧ (∀ q ∈ T.2.2.2.1, h.1 q.1 q.2.1 = Int32.ofInt (ag_ev ρ q.2.2)) ∧ (∀ q ∈ T.2.2.2.2.1, h.2.1 q.1 q.2.1 = Int64.ofInt (ag_ev ρ q.2.2)) ∧ (∀ q ∈ T.2.2.2.2.2.1, h.2.2.1 q.1 q.2.1 = some q.2.2) ∧ (∀ g ∈ T.2.2.2.2.2.2.1, 0 ≤ ag_ev ρ g) ∧ (∀ q ∈ T.2.2.2.2.2.2.2, xf_P q.1 (ag_ev ρ q.2) h)
def ag_rT (ρ : Nat → Int) (σ : List ag_f) (j : Nat) : Int := ag_ev ρ (σ.getD j ([], 0))
theorem ag_rT_P0 (σ : List ag_f) : ∀ j, j < 3 → ag_rT ρ (ag_P0 ++ σ) j = ρ j
  | 0, _ => ag_ev_y 0
  | 1, _ => ag_ev_y 1
  | 2, _ => ag_ev_y 2
  | j + 3, h => absurd h (by omega)
theorem ag_iv_wt {f : ag_f} (h : (ag_iv env f).isSome = true) : ag_wt env.length f := by
  have key : ∀ (t : List (Nat × Int)) (z : Int × Int), ag_ivt env t = some z → ∀ q ∈ t, q.1 < env.length := by
    intro t
    induction t with
    | nil => intro z _ q hq; exact absurd hq List.not_mem_nil
    | cons p r ih =>
      intro z hz q hq
      unfold ag_ivt at hz
      split at hz
      · rename_i w hw
        split at hz
        · rename_i y hy
          rcases List.mem_cons.mp hq with e | e
          · rw [e]; exact (List.getElem?_eq_some_iff.mp hw).1
          · exact ih y hy q e
        · cases hz
      · cases hz
  unfold ag_iv at h
  split at h
  · rename_i z hz
    exact key f.1 z hz
  · cases h
theorem ag_sbt_ev (σ : List ag_f) {τ : Nat → Int} (hτ : ∀ j, ag_ev ρ (σ.getD j ([], 0)) = τ j) : ∀ t : List (Nat × Int), ag_ev ρ (ag_sbt σ t) = ag_ts τ t
  | [] => rfl
  | q :: r => by
    show ag_ev ρ (ag_add (ag_scl q.2 (σ.getD q.1 ([], 0))) (ag_sbt σ r)) = q.2 * τ q.1 + ag_ts τ r
    rw [ag_ev_add, ag_ev_scl, hτ, ag_sbt_ev σ hτ r]
theorem ag_sb_ev (σ : List ag_f) {τ : Nat → Int} (hτ : ∀ j, ag_ev ρ (σ.getD j ([], 0)) = τ j) (f : ag_f) : ag_ev ρ (ag_sb σ f) = ag_ev τ f := by
  unfold ag_sb
  rw [ag_ev_add, ag_ev_k, ag_sbt_ev σ hτ]
  rfl
theorem ag_sb_rT (σ : List ag_f) (f : ag_f) : ag_ev ρ (ag_sb σ f) = ag_ev (ag_rT ρ σ) f := ag_sb_ev σ (fun _ => rfl) f
theorem ag_wt_sbt {m : Nat} {σ : List ag_f} (hσ : ∀ f ∈ σ, ag_wt m f) : ∀ t : List (Nat × Int), ag_wt m (ag_sbt σ t)
  | [] => fun _ hq => absurd hq List.not_mem_nil
  | q :: r => by
    refine ag_wt_add (ag_wt_scl ?_) (ag_wt_sbt hσ r)
    rw [List.getD_eq_getElem?_getD]
    cases hj : σ[q.1]? with
    | none => exact fun _ hq => absurd hq List.not_mem_nil
    | some f => exact hσ f (List.mem_of_getElem? hj)
theorem ag_wt_sb {m : Nat} {σ : List ag_f} (hσ : ∀ f ∈ σ, ag_wt m f) (f : ag_f) : ag_wt m (ag_sb σ f) := ag_wt_add (ag_wt_sbt hσ f.1) ag_wt_k
theorem ag_inI_ok (hin : ag_in ρ env) {f : ag_f} {w : Int × Int} (hs : ag_inI env f w = true) : w.1 ≤ ag_ev ρ f ∧ ag_ev ρ f ≤ w.2 := by
  unfold ag_inI at hs
  split at hs
  · rename_i z hz
    have := ag_iv_ok hin hz
    rw [Bool.and_eq_true, decide_eq_true_eq, decide_eq_true_eq] at hs
    omega
  · cases hs
theorem ag_fit_pre {lv : ag_l} {pre : List ag_f} {T : ag_T} {σ : List ag_f} (hs : ag_fit D env lv H pre T = some σ) : ∃ σ', σ = pre ++ σ' := by
  unfold ag_fit at hs
  split at hs
  · rename_i σ' hσ
    cases hb : ag_fitB D env lv H T (pre ++ σ') with
    | true => rw [hb] at hs; cases hs; exact ⟨σ', rfl⟩
    | false => rw [hb] at hs; cases hs
  · cases hs
theorem ag_fit_ok (hin : ag_in ρ env) {lv : ag_l} {lvc : am_V} (hl : ag_lR (ag_cl ρ lv) lvc) (hp : ag_Hp D M h0 ρ env.length H h) {pre : List ag_f} {T : ag_T} {σ : List ag_f} (hs : ag_fit D env lv H pre T = some σ) : ag_TS T (ag_rT ρ σ) lvc h := by
  have hb : ag_fitB D env lv H T σ = true := by
    unfold ag_fit at hs
    split at hs
    · rename_i σ' hσ
      cases hb : ag_fitB D env lv H T (pre ++ σ') with
      | true => rw [hb] at hs; cases hs; exact hb
      | false => rw [hb] at hs; cases hs
    · cases hs
  clear hs
  · unfold ag_fitB at hb
    rw [Bool.and_eq_true, Bool.and_eq_true, Bool.and_eq_true, Bool.and_eq_true, Bool.and_eq_true, Bool.and_eq_true, Bool.and_eq_true] at hb
    obtain ⟨b0, b1, b2, b3, b4, b5, b6, b7⟩ := hb
    have b0 := Nat.eq_of_beq_eq_true b0
    refine ⟨fun j w hw => ?_, fun j hj => ?_, fun q hq => ?_, fun q hq => ?_, fun q hq => ?_, fun q hq => ?_, fun g hg => ?_, fun g hg => ?_⟩
    · have hjl : j < T.1.length := (List.getElem?_eq_some_iff.mp hw).1
      have e1 : σ[j]? = some σ[j] := List.getElem?_eq_getElem (by omega)
      have hz : (σ.zip T.1)[j]? = some (σ[j], w) := by
        rw [List.getElem?_zip_eq_some]
        exact ⟨e1, hw⟩
      have hh : w.1 ≤ ag_ev ρ σ[j] ∧ ag_ev ρ σ[j] ≤ w.2 := by
        rcases Bool.or_eq_true_iff.mp (List.all_eq_true.mp b1 _ (List.mem_of_getElem? hz)) with z | z
        · exact ag_inI_ok hin z
        · rw [Bool.and_eq_true] at z
          have hC : ∀ g ∈ H.2.2.2.1, 0 ≤ ag_ev ρ g := fun g hg => (hp.2.2.2.2.2.1.1 g hg).2
          have z1 := ag_nn_ok hin hC z.1
          have z2 := ag_nn_ok hin hC z.2
          rw [ag_ev_sub, ag_ev_k] at z1 z2
          dsimp only at z1 z2
          exact ⟨by omega, by omega⟩
      unfold ag_rT
      rw [List.getD_eq_getElem?_getD, e1]
      exact hh
    · unfold ag_rT
      rw [List.getD_eq_getElem?_getD, List.getElem?_eq_none (by omega)]
      rfl
    · obtain ⟨p, hp1, e⟩ := List.mem_map.mp hq
      have b := List.all_eq_true.mp b2 p hp1
      rw [← e]
      show am_lk lvc p.1 = some (ag_c (ag_rT ρ σ) p.2)
      unfold ag_vf at b
      split at b
      · rename_i f g hf hg
        rw [ag_lk_of hl hf, hg]
        show some (Value.int (Int32.ofInt (ag_ev ρ f))) = some (Value.int (Int32.ofInt (ag_ev (ag_rT ρ σ) g)))
        rw [of_decide_eq_true b, ag_sb_rT]
      · rename_i f g hf hg
        rw [ag_lk_of hl hf, hg]
        show some (Value.long (Int64.ofInt (ag_ev ρ f))) = some (Value.long (Int64.ofInt (ag_ev (ag_rT ρ σ) g)))
        rw [of_decide_eq_true b, ag_sb_rT]
      · rename_i o p' hf hg
        rw [ag_lk_of hl hf, hg, Nat.eq_of_beq_eq_true b]
        rfl
      · cases b
    · have b := List.all_eq_true.mp b3 q hq
      unfold ag_ff at b
      split at b
      · rename_i f hf
        have z := (hp.2.2.1 _ (ag_lk_mem hf)).2
        rw [of_decide_eq_true b, ag_sb_rT] at z
        exact z
      · cases b
    · have b := List.all_eq_true.mp b4 q hq
      unfold ag_ff at b
      split at b
      · rename_i f hf
        have z := (hp.2.2.2.1 _ (ag_lk_mem hf)).2
        rw [of_decide_eq_true b, ag_sb_rT] at z
        exact z
      · cases b
    · have b := List.all_eq_true.mp b5 q hq
      unfold ag_rok at b
      split at b
      · rename_i x hx
        rw [← Nat.eq_of_beq_eq_true b]
        exact ag_rr_ok hp hx
      · cases b
    · rw [← ag_sb_rT]
      exact ag_nn_ok hin (fun g hg => (hp.2.2.2.2.2.1.1 g hg).2) (List.all_eq_true.mp b6 g hg)
    · obtain ⟨q, hq, b⟩ := List.any_eq_true.mp (List.all_eq_true.mp b7 g hg)
      rw [Bool.and_eq_true, decide_eq_true_eq] at b
      have z := (hp.2.2.2.2.2.1.2 q hq).2
      rw [Nat.eq_of_beq_eq_true b.1, b.2, ag_sb_rT] at z
      exact z
theorem ag_mat_ok : ∀ (l : List (Nat × Nat × ag_f)) {ρ : Nat → Int} {env : ag_e} {H : ag_H} {K : ag_e → ag_H → Bool}, ag_in ρ env → ag_Hp D M h0 ρ env.length H h → ag_mat D l env H K = true → ∃ ρ' env' H', ag_xt ρ env ρ' env' ∧ ag_Hp D M h0 ρ' env'.length H' h ∧ K env' H' = true
  | [], ρ, env, H, K, hin, hp, hs => ⟨ρ, env, H, ag_xt.refl hin, hp, hs⟩
  | q :: r, ρ, env, H, K, hin, hp, hs => by
    obtain ⟨ρ1, e1, H1, f, x1, p1, -, -, k1⟩ := ag_rd_ok hin hp hs
    obtain ⟨ρ2, e2, H2, x2, p2, k2⟩ := ag_mat_ok r x1.2.2 p1 k1
    exact ⟨ρ2, e2, H2, x1.trans x2, p2, k2⟩
theorem ag_matL_ok : ∀ (l : List (Nat × Nat × ag_f)) {ρ : Nat → Int} {env : ag_e} {H : ag_H} {K : ag_e → ag_H → Bool}, ag_in ρ env → ag_Hp D M h0 ρ env.length H h → ag_matL D l env H K = true → ∃ ρ' env' H', ag_xt ρ env ρ' env' ∧ ag_Hp D M h0 ρ' env'.length H' h ∧ K env' H' = true
  | [], ρ, env, H, K, hin, hp, hs => ⟨ρ, env, H, ag_xt.refl hin, hp, hs⟩
  | q :: r, ρ, env, H, K, hin, hp, hs => by
    obtain ⟨ρ1, e1, H1, f, x1, p1, -, -, k1⟩ := ag_rL_ok hin hp hs
    obtain ⟨ρ2, e2, H2, x2, p2, k2⟩ := ag_matL_ok r x1.2.2 p1 k1
    exact ⟨ρ2, e2, H2, x1.trans x2, p2, k2⟩
theorem ag_m2_ok {T : ag_T} {K : ag_e → ag_H → Bool} (hin : ag_in ρ env) (hp : ag_Hp D M h0 ρ env.length H h) (hs : ag_m2 D T env H K = true) : ∃ ρ' env' H', ag_xt ρ env ρ' env' ∧ ag_Hp D M h0 ρ' env'.length H' h ∧ K env' H' = true := by
  obtain ⟨ρ1, e1, H1, x1, p1, k1⟩ := ag_mat_ok _ hin hp hs
  obtain ⟨ρ2, e2, H2, x2, p2, k2⟩ := ag_matL_ok _ x1.2.2 p1 k1
  exact ⟨ρ2, e2, H2, x1.trans x2, p2, k2⟩
theorem ag_nl1_ok (hin : ag_in ρ env) {lv : ag_l} {lvc : am_V} (hw : ag_wl env.length lv) (hl : ag_lR (ag_cl ρ lv) lvc) {k : Nat} {K : ag_e → ag_l → Bool} (hs : ag_nl1 env lv k K = true) : ∃ ρ' env' lv', ag_xt ρ env ρ' env' ∧ ag_wl env'.length lv' ∧ ag_lR (ag_cl ρ' lv') lvc ∧ K env' lv' = true := by
  have ext : ∀ {ρ' : Nat → Int} {env' : ag_e} {v : ag_v}, ag_xt ρ env ρ' env' → ag_wv env'.length v → am_lk lvc k = some (ag_c ρ' v) → ag_wl env'.length ((k, v) :: lv) ∧ ag_lR (ag_cl ρ' ((k, v) :: lv)) lvc := by
    intro ρ' env' v hx hv he
    refine ⟨fun q hq => ?_, fun q hq => ?_⟩
    · rcases List.mem_cons.mp hq with e | e
      · rw [e]; exact hv
      · exact (hw q e).up hx.1
    · rcases List.mem_cons.mp (show q ∈ (k, ag_c ρ' v) :: ag_cl ρ' lv from hq) with e | e
      · rw [e]; exact he
      · rw [ag_cl_same hx.2.1 hw] at e
        exact hl q e
  unfold ag_nl1 at hs
  split at hs
  · rename_i f hf
    split at hs
    · rename_i w hw2
      cases hb : (decide (-2147483648 ≤ w.1) && decide (w.2 ≤ 2147483647)) with
      | true =>
        rw [hb] at hs
        exact ⟨ρ, env, lv, ag_xt.refl hin, hw, hl, hs⟩
      | false =>
        rw [hb] at hs
        dsimp only [cond] at hs
        obtain ⟨ρ', env', z, x1, wz, ez, k1⟩ := ag_nI_ok hin (Int32.ofInt (ag_ev ρ f)) hs
        have e := ext (v := .inl z) x1 wz (by rw [ag_lk_of hl hf]; show some (Value.int _) = some (Value.int _); rw [ez, Int32.ofInt_toInt])
        exact ⟨ρ', env', _, x1, e.1, e.2, k1⟩
    · cases hs
  · rename_i f hf
    split at hs
    · rename_i w hw2
      cases hb : (decide (-9223372036854775808 ≤ w.1) && decide (w.2 ≤ 9223372036854775807)) with
      | true =>
        rw [hb] at hs
        exact ⟨ρ, env, lv, ag_xt.refl hin, hw, hl, hs⟩
      | false =>
        rw [hb] at hs
        dsimp only [cond] at hs
        obtain ⟨ρ', env', z, x1, wz, ez, k1⟩ := ag_nL_ok hin (Int64.ofInt (ag_ev ρ f)) hs
        have e := ext (v := .inr (.inl z)) x1 wz (by rw [ag_lk_of hl hf]; show some (Value.long _) = some (Value.long _); rw [ez, Int64.ofInt_toInt])
        exact ⟨ρ', env', _, x1, e.1, e.2, k1⟩
    · cases hs
  · exact ⟨ρ, env, lv, ag_xt.refl hin, hw, hl, hs⟩
theorem ag_nlv_ok {lvc : am_V} : ∀ (l : ag_l) {ρ : Nat → Int} {env : ag_e} {lv : ag_l} {K : ag_e → ag_l → Bool}, ag_in ρ env → ag_wl env.length lv → ag_lR (ag_cl ρ lv) lvc → ag_nlv l env lv K = true → ∃ ρ' env' lv', ag_xt ρ env ρ' env' ∧ ag_wl env'.length lv' ∧ ag_lR (ag_cl ρ' lv') lvc ∧ K env' lv' = true
  | [], ρ, env, lv, K, hin, hw, hl, hs => ⟨ρ, env, lv, ag_xt.refl hin, hw, hl, hs⟩
  | q :: r, ρ, env, lv, K, hin, hw, hl, hs => by
    obtain ⟨ρ1, e1, lv1, x1, w1, l1, k1⟩ := ag_nl1_ok hin hw hl hs
    obtain ⟨ρ2, e2, lv2, x2, w2, l2, k2⟩ := ag_nlv_ok r x1.2.2 w1 l1 k1
    exact ⟨ρ2, e2, lv2, x1.trans x2, w2, l2, k2⟩
theorem ag_m3_ok {T : ag_T} {lv : ag_l} {lvc : am_V} {K : ag_e → ag_l → ag_H → Bool} (hin : ag_in ρ env) (hw : ag_wl env.length lv) (hl : ag_lR (ag_cl ρ lv) lvc) (hp : ag_Hp D M h0 ρ env.length H h) (hs : ag_m3 D T env lv H K = true) : ∃ ρ' env' lv' H', ag_xt ρ env ρ' env' ∧ ag_lR (ag_cl ρ' lv') lvc ∧ ag_Hp D M h0 ρ' env'.length H' h ∧ K env' lv' H' = true := by
  obtain ⟨ρ1, e1, lv1, x1, w1, l1, k1⟩ := ag_nlv_ok _ hin hw hl hs
  obtain ⟨ρ2, e2, H2, x2, p2, k2⟩ := ag_m2_ok x1.2.2 (hp.up x1) k1
  exact ⟨ρ2, e2, lv1, H2, x1.trans x2, by rw [ag_cl_same x2.2.1 w1]; exact l1, p2, k2⟩
/-! behind a call -/
theorem ag_ys_len : ∀ n m : Nat, (ag_ys m n).length = n
  | 0, _ => rfl
  | n + 1, m => congrArg (· + 1) (ag_ys_len n (m + 1))
theorem ag_ys_at : ∀ (n m j : Nat), j < n → (ag_ys m n)[j]? = some (ag_y (m + j))
  | 0, _, _, h => absurd h (Nat.not_lt_zero _)
  | n + 1, m, 0, _ => rfl
  | n + 1, m, j + 1, h => by
    show (ag_ys (m + 1) n)[j]? = _
    rw [ag_ys_at n (m + 1) j (by omega)]
    congr 2
    omega
def ag_rv (v : Option Value) : am_V := match v with
  | some x => [(1000, x)]
  | none => []
theorem ag_atM_sub {M' : ag_M} (hs : ag_Msb M' M = true) {o k : Nat} (hk : ag_atM M o k = false) : ag_atM M' o k = false := by
  cases hb : ag_atM M' o k with
  | false => rfl
  | true =>
    obtain ⟨q, hq, hh⟩ := List.any_eq_true.mp hb
    rw [Bool.and_eq_true, Bool.and_eq_true] at hh
    have a1 := Nat.eq_of_beq_eq_true hh.1
    have a2 := Nat.le_of_ble_eq_true hh.2.1
    have a3 := Nat.le_of_ble_eq_true hh.2.2
    have := ag_inM_at (n := k) (List.all_eq_true.mp hs q hq) (by omega) (by omega)
    rw [a1, hk] at this
    cases this
theorem ag_fr.trans {M' : ag_M} {h' : am_H} (hs : ag_Msb M' M = true) (f1 : ag_fr M h0 h) (f2 : ag_fr M' h h') : ag_fr M h0 h' := by
  refine ⟨f2.1.trans f1.1, fun o k hk => ?_⟩
  have a := f1.2 o k hk
  have b := f2.2 o k (ag_atM_sub hs hk)
  exact ⟨b.1.trans a.1, b.2.1.trans a.2.1, b.2.2.trans a.2.2⟩
theorem ag_gm_keep {M' : ag_M} {h h' : am_H} (hfr : ag_fr M' h h') {G : List (Nat × ag_f)} {q : Nat × ag_f} (hq : q ∈ ag_gm M' G) {x : Int} (hp : xf_P q.1 x h) : q ∈ G ∧ xf_P q.1 x h' := by
  obtain ⟨q1, q2⟩ := List.mem_filter.mp hq
  refine ⟨q1, xf_keep (fun s hs k k1 k2 => ?_) hp⟩
  have w := List.all_eq_true.mp q2 s hs
  refine (hfr.2 s.1 k ?_).1
  cases hb : ag_atM M' s.1 k with
  | false => rfl
  | true =>
    obtain ⟨r, hr, hh⟩ := List.any_eq_true.mp hb
    rw [Bool.and_eq_true, Bool.and_eq_true] at hh
    have a2 := Nat.le_of_ble_eq_true hh.2.1
    have a3 := Nat.le_of_ble_eq_true hh.2.2
    have w2 := List.all_eq_true.mp w r hr
    rw [ae_beq, decide_eq_true (Nat.eq_of_beq_eq_true hh.1).symm, Nat.ble_eq_true_of_le (show r.2.1 ≤ s.2.2 by omega), Nat.ble_eq_true_of_le (show s.2.1 ≤ r.2.2 by omega)] at w2
    cases w2
theorem ag_aft_ok (hin : ag_in ρ env) (hp : ag_Hp D M h0 ρ env.length H h) {M' : ag_M} {h' : am_H} (hsb : ag_Msb M' M = true) (hfr : ag_fr M' h h') (hW : ag_WH D (ρ 0) h') {pre : List ag_f} (hpl : pre.length = 3) (hpw : ∀ f ∈ pre, ag_wt env.length f) {P : ag_T} {τ : Nat → Int} {v : Option Value} (hτ : ∀ j, j < 3 → τ j = ag_ev ρ (pre.getD j ([], 0))) (hT : ag_TS P τ (ag_rv v) h') (hv : v.isSome = (ag_lv P.2.2.1 1000).isSome) {K : ag_e → ag_H → Option ag_v → Bool} (hs : ag_aft M' env H pre P K = true) :
    ∃ ρ' env' H' vv, ag_xt ρ env ρ' env' ∧ ag_Hp D M h0 ρ' env'.length H' h' ∧ v = vv.map (ag_c ρ') ∧ (∀ x, vv = some x → ag_wv env'.length x) ∧ K env' H' vv = true := by
  obtain ⟨⟨p1, p1'⟩, p2, p3, p4, p5, p6, p7, p8⟩ := hp
  obtain ⟨t1, t2, t3, t4, t5, t6, t7, t8⟩ := hT
  have hlen : (env ++ P.1.drop 3).length = env.length + (P.1.length - 3) := by rw [List.length_append, List.length_drop]
  have hxt : ag_xt ρ env (fun i => if i < env.length then ρ i else τ (i - env.length + 3)) (env ++ P.1.drop 3) := by
    refine ⟨by omega, fun i hi => if_pos hi, fun i q hq => ?_⟩
    by_cases hi : i < env.length
    · rw [List.getElem?_append_left hi] at hq
      show q.1 ≤ (if i < env.length then ρ i else τ (i - env.length + 3)) ∧ (if i < env.length then ρ i else τ (i - env.length + 3)) ≤ q.2
      rw [if_pos hi]
      exact hin i q hq
    · rw [List.getElem?_append_right (by omega), List.getElem?_drop] at hq
      show q.1 ≤ (if i < env.length then ρ i else τ (i - env.length + 3)) ∧ (if i < env.length then ρ i else τ (i - env.length + 3)) ≤ q.2
      rw [if_neg hi, Nat.add_comm]
      exact t1 _ q hq
  have hσ : ∀ j, ag_ev (fun i => if i < env.length then ρ i else τ (i - env.length + 3)) ((pre ++ ag_ys env.length (P.1.length - 3)).getD j ([], 0)) = τ j := by
    intro j
    rw [List.getD_eq_getElem?_getD]
    by_cases hj : j < 3
    · rw [List.getElem?_append_left (by omega)]
      have e1 : pre[j]? = some pre[j] := List.getElem?_eq_getElem (by omega)
      have z := hτ j hj
      rw [List.getD_eq_getElem?_getD, e1] at z
      rw [e1, z]
      exact ag_ev_same hxt.2.1 (hpw _ (List.mem_of_getElem? e1))
    · rw [List.getElem?_append_right (by omega), hpl]
      by_cases hj2 : j - 3 < P.1.length - 3
      · rw [ag_ys_at _ _ _ hj2]
        show ag_ev _ (ag_y (env.length + (j - 3))) = τ j
        rw [ag_ev_y, if_neg (by omega)]
        congr 1
        omega
      · rw [List.getElem?_eq_none (by rw [ag_ys_len]; omega), t2 j (by omega)]
        rfl
  have hw : ∀ f, ag_wt (env ++ P.1.drop 3).length (ag_sb (pre ++ ag_ys env.length (P.1.length - 3)) f) := by
    refine ag_wt_sb (fun f hf => ?_)
    rcases List.mem_append.mp hf with hf | hf
    · exact (hpw f hf).up hxt.1
    obtain ⟨j, hj⟩ := List.getElem?_of_mem hf
    have hjl := (List.getElem?_eq_some_iff.mp hj).1
    rw [ag_ys_len] at hjl
    rw [ag_ys_at _ _ _ hjl] at hj
    cases hj
    exact ag_wt_y (by omega)
  have hev := fun f => ag_sb_ev (pre ++ ag_ys env.length (P.1.length - 3)) hσ f
  refine ⟨_, _, _, _, hxt, ⟨⟨hW.1, by omega⟩, hW.2.1, fun q hq => ?_, fun q hq => ?_, fun q hq => ?_, ⟨fun g hg => ?_, fun g hg => ?_⟩, ⟨?_, ?_⟩, p8.trans hsb hfr⟩, ?_, ?_, hs⟩
  · rcases List.mem_append.mp hq with e | e
    · obtain ⟨q', hq', e'⟩ := List.mem_map.mp e
      rw [← e']
      refine ⟨hw _, ?_⟩
      rw [hev]
      exact t4 q' hq'
    · obtain ⟨e1, e2⟩ := List.mem_filter.mp e
      have e3 : ag_atM M' q.1 q.2.1 = false := by
        cases hb : ag_atM M' q.1 q.2.1 with
        | false => rfl
        | true => rw [hb] at e2; cases e2
      refine ⟨(p3 q e1).1.up hxt.1, ?_⟩
      rw [ag_ev_same hxt.2.1 (p3 q e1).1, (hfr.2 _ _ e3).1]
      exact (p3 q e1).2
  · rcases List.mem_append.mp hq with e | e
    · obtain ⟨q', hq', e'⟩ := List.mem_map.mp e
      rw [← e']
      refine ⟨hw _, ?_⟩
      rw [hev]
      exact t5 q' hq'
    · obtain ⟨e1, e2⟩ := List.mem_filter.mp e
      have e3 : ag_atM M' q.1 q.2.1 = false := by
        cases hb : ag_atM M' q.1 q.2.1 with
        | false => rfl
        | true => rw [hb] at e2; cases e2
      refine ⟨(p4 q e1).1.up hxt.1, ?_⟩
      rw [ag_ev_same hxt.2.1 (p4 q e1).1, (hfr.2 _ _ e3).2.1]
      exact (p4 q e1).2
  · rcases List.mem_append.mp hq with e | e
    · exact t6 q e
    · obtain ⟨e1, e2⟩ := List.mem_filter.mp e
      have e3 : ag_atM M' q.1 q.2.1 = false := by
        cases hb : ag_atM M' q.1 q.2.1 with
        | false => rfl
        | true => rw [hb] at e2; cases e2
      rw [(hfr.2 _ _ e3).2.2]
      exact p5 q e1
  · rcases List.mem_append.mp hg with e | e
    · obtain ⟨g', hg', e'⟩ := List.mem_map.mp e
      rw [← e']
      refine ⟨hw _, ?_⟩
      rw [hev]
      exact t7 g' hg'
    · refine ⟨(p6.1 g e).1.up hxt.1, ?_⟩
      rw [ag_ev_same hxt.2.1 (p6.1 g e).1]
      exact (p6.1 g e).2
  · rcases List.mem_append.mp hg with e | e
    · obtain ⟨g', hg', e'⟩ := List.mem_map.mp e
      rw [← e']
      refine ⟨hw _, ?_⟩
      rw [hev]
      exact t8 g' hg'
    · have e0 : g ∈ H.2.2.2.2 := (List.mem_filter.mp e).1
      obtain ⟨-, e2⟩ := ag_gm_keep hfr e (p6.2 g e0).2
      refine ⟨(p6.2 g e0).1.up hxt.1, ?_⟩
      rw [ag_ev_same hxt.2.1 (p6.2 g e0).1]
      exact e2
  · show 0 ≤ (if 0 < env.length then ρ 0 else _)
    rw [if_pos (by omega)]
    exact p7.1
  · show h'.1 156 (if 0 < env.length then ρ 0 else _).toNat = 0
    rw [if_pos (by omega)]
    exact hW.2.2.2
  · cases hr : ag_lv P.2.2.1 1000 with
    | none =>
      rw [hr] at hv
      cases v with
      | none => rfl
      | some x => cases hv
    | some g =>
      rw [hr] at hv
      cases v with
      | none => cases hv
      | some x =>
        have z := ag_lk_of t3 hr
        have z2 : some x = some (ag_c τ g) := z
        rw [z2]
        show some (ag_c τ g) = some (ag_c _ (ag_rn (pre ++ ag_ys env.length (P.1.length - 3)) g))
        congr 1
        rcases g with f | f | o
        · show Value.int _ = Value.int _
          rw [hev]
        · show Value.long _ = Value.long _
          rw [hev]
        · rfl
  · intro x hx
    cases hr : ag_lv P.2.2.1 1000 with
    | none =>
      rw [hr] at hx
      cases hx
    | some g =>
      rw [hr] at hx
      cases hx
      rcases g with f | f | o
      · exact hw f
      · exact hw f
      · trivial
theorem ag_args_c : ∀ (As : List ag_v) (i : Nat), ag_cl ρ (ag_args i As) = lv_args i (As.map (ag_c ρ))
  | [], i => rfl
  | v :: vs, i => by
    show (i, ag_c ρ v) :: ag_cl ρ (ag_args (bif Nat.beq (ag_cat v) 2 then i + 2 else i + 1) vs) = (i, ag_c ρ v) :: lv_args (if (ag_c ρ v).category = 2 then i + 2 else i + 1) (vs.map (ag_c ρ))
    rw [ag_args_c vs, ae_beq, ae_cond, ag_cat_c]
theorem ag_args_lk : ∀ (vs : List Value) (i : Nat), ∀ q ∈ lv_args i vs, i ≤ q.1 ∧ am_lk (lv_args i vs) q.1 = some q.2
  | [], i, q, hq => absurd hq List.not_mem_nil
  | v :: vs, i, q, hq => by
    have hq' : q ∈ (i, v) :: lv_args (if v.category = 2 then i + 2 else i + 1) vs := hq
    rcases List.mem_cons.mp hq' with e | e
    · rw [e]
      refine ⟨Nat.le_refl _, ?_⟩
      show (bif Nat.beq i i then some v else _) = some v
      rw [ae_beq, decide_eq_true rfl]
      rfl
    · have ih := ag_args_lk vs _ q e
      have hlt : i < q.1 := by
        have := ih.1
        split at this <;> omega
      refine ⟨by omega, ?_⟩
      show (bif Nat.beq i q.1 then some v else am_lk (lv_args (if v.category = 2 then i + 2 else i + 1) vs) q.1) = some q.2
      rw [ae_beq, decide_eq_false (by omega)]
      exact ih.2
theorem ag_args_lR (As : List ag_v) : ag_lR (ag_cl ρ (ag_args 0 As)) (lv_args 0 (As.map (ag_c ρ))) := by
  rw [ag_args_c]
  exact fun q hq => (ag_args_lk _ 0 q hq).2
theorem ag_args_w {m : Nat} : ∀ {As : List ag_v} {i : Nat}, ag_ws m As → ag_wl m (ag_args i As)
  | [], _, _ => fun _ hq => absurd hq List.not_mem_nil
  | v :: vs, i, h => by
    intro q hq
    rcases List.mem_cons.mp hq with e | e
    · rw [e]
      exact h v List.mem_cons_self
    · exact ag_args_w (fun x hx => h x (List.mem_cons_of_mem _ hx)) q e
theorem ag_sl_c : ∀ (As : List ag_v), (lg_sl (As.map (ag_c ρ))).length = (As.map ag_cat).sum
  | [] => rfl
  | v :: vs => by
    have ih := ag_sl_c vs
    unfold lg_sl at ih ⊢
    rw [List.map_cons, List.flatMap_cons, List.length_append, ih, List.map_cons, List.sum_cons, ag_cat_c]
    rcases v with f | f | o <;> rfl
end
