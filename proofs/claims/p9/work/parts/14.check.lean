/-! THE CHECKER: runs the abstract machine on known ints, on symbols with intervals, and on references; every branch that is open is gone through -/
abbrev ae_v : Type := Int ⊕ (Nat ⊕ (Nat ⊕ (Int ⊕ Nat)))
abbrev ae_e : Type := List (Int × Int)
/-- what is known of the heap: ints, references (all others 0 and null); how many objects; the first that is known -/
abbrev ae_H : Type := List (Nat × Nat × (Int ⊕ Nat)) × List (Nat × Nat × Option Nat) × Nat × Nat
abbrev ae_l : Type := List (Nat × ae_v)
abbrev ae_F : Type := List (Nat × am_R) × Nat × Option FieldType × Nat × Nat × ae_l × List ae_v
def ae_ci (ρ : Nat → Int32) : Int ⊕ Nat → Int32
  | .inl n => Int32.ofInt n
  | .inr i => ρ i
/-- longs made of symbols: one widened, one moved up by 32, one without its sign, two in one -/
def ae_sh (ρ : Nat → Int32) (i : Nat) : Int64 := (ρ i).toInt64 <<< ((Int32.ofInt 32).toInt64 &&& 63)
def ae_mk (ρ : Nat → Int32) (i : Nat) : Int64 := (ρ i).toInt64 &&& Int64.ofInt 4294967295
def ae_lc (ρ : Nat → Int32) (c : Nat) : Int64 := bif Nat.blt c 100 then (ρ c).toInt64 else bif Nat.blt c 200 then ae_sh ρ (c - 100) else bif Nat.blt c 300 then ae_mk ρ (c - 200) else ae_sh ρ ((c - 1000) / 10) ||| ae_mk ρ ((c - 1000) % 10)
def ae_c (ρ : Nat → Int32) : ae_v → Value
  | .inl n => .int (Int32.ofInt n)
  | .inr (.inl i) => .int (ρ i)
  | .inr (.inr (.inl o)) => .ref o
  | .inr (.inr (.inr (.inl n))) => .long (Int64.ofInt n)
  | .inr (.inr (.inr (.inr i))) => .long (ae_lc ρ i)
def ae_iv : Int ⊕ Nat → ae_v
  | .inl n => .inl n
  | .inr i => .inr (.inl i)
def ae_cat : ae_v → Nat
  | .inl _ => 1
  | .inr (.inl _) => 1
  | .inr (.inr (.inl _)) => 1
  | .inr (.inr (.inr _)) => 2
def ae_lk {α : Type} : List (Nat × Nat × α) → Nat → Nat → α → α
  | [], _, _, d => d
  | q :: r, o, k, d => bif Nat.beq q.2.1 k && Nat.beq q.1 o then q.2.2 else ae_lk r o k d
def ae_up {α : Type} : List (Nat × Nat × α) → Nat → Nat → α → List (Nat × Nat × α)
  | [], o, k, v => [(o, k, v)]
  | q :: r, o, k, v => bif Nat.beq q.2.1 k && Nat.beq q.1 o then (o, k, v) :: r else q :: ae_up r o k v
def ae_n (env : ae_e) (a : ae_v) : ae_v := match a with
  | .inr (.inl i) => (match env[i]? with
    | some q => bif decide (q.1 = q.2) then .inl q.1 else a
    | none => a)
  | a => a
def ae_lv : ae_l → Nat → Option ae_v
  | [], _ => none
  | q :: r, i => bif Nat.beq q.1 i then some q.2 else ae_lv r i
def ae_s1 (lv : ae_l) (i : Nat) (v : ae_v) : ae_l := (i, v) :: lv.filter (fun q => !(Nat.beq q.1 i) && !(Nat.beq (q.1 + 1) i && Nat.beq (ae_cat q.2) 2))
def ae_s2 (lv : ae_l) (i : Nat) (v : ae_v) : ae_l := (i, v) :: lv.filter (fun q => !(Nat.beq q.1 i) && (!(Nat.beq q.1 (i + 1)) && !(Nat.beq (q.1 + 1) i && Nat.beq (ae_cat q.2) 2)))
/-- the stack: a known int, a reference, a long, an int (known or not), anything -/
def ae_pI (env : ae_e) (st : List ae_v) (k : Int → List ae_v → Bool) : Bool := match st with
  | a :: r => (match ae_n env a with
    | .inl n => k n r
    | _ => false)
  | [] => false
def ae_pR (st : List ae_v) (k : Nat → List ae_v → Bool) : Bool := match st with
  | .inr (.inr (.inl o)) :: r => k o r
  | _ => false
def ae_pL (st : List ae_v) (k : ae_v → List ae_v → Bool) : Bool := match st with
  | .inr (.inr (.inr x)) :: r => k (.inr (.inr (.inr x))) r
  | _ => false
def ae_pS (env : ae_e) (st : List ae_v) (k : Int ⊕ Nat → List ae_v → Bool) : Bool := match st with
  | a :: r => (match ae_n env a with
    | .inl n => k (.inl n) r
    | .inr (.inl i) => k (.inr i) r
    | _ => false)
  | [] => false
def ae_pV (st : List ae_v) (k : ae_v → List ae_v → Bool) : Bool := match st with
  | a :: r => k a r
  | [] => false
def ae_li (lv : ae_l) (i : Nat) (k : ae_v → Bool) : Bool := match ae_lv lv i with
  | some (.inl n) => k (.inl n)
  | some (.inr (.inl s)) => k (.inr (.inl s))
  | _ => false
def ae_ll (lv : ae_l) (i : Nat) (k : ae_v → Bool) : Bool := match ae_lv lv i with
  | some (.inr (.inr (.inr x))) => k (.inr (.inr (.inr x)))
  | _ => false
def ae_la (lv : ae_l) (i : Nat) (k : ae_v → Bool) : Bool := match ae_lv lv i with
  | some (.inr (.inr (.inl o))) => k (.inr (.inr (.inl o)))
  | _ => false
def ae_pop : Nat → List ae_v → List ae_v → Option (List ae_v × List ae_v)
  | 0, acc, st => some (acc, st)
  | n + 1, acc, v :: st => ae_pop n (v :: acc) st
  | _ + 1, _, [] => none
def ae_i2 (f : Int32 → Int32 → Int32) (n m : Int) : ae_v := .inl (f (Int32.ofInt n) (Int32.ofInt m)).toInt
/-- a comparison of known ints -/
def ae_cc (q : Jvm.ClassFile.Cond) (n m : Int) : Bool := match q with
  | .eq => decide (Int32.ofInt n = Int32.ofInt m)
  | .ne => !decide (Int32.ofInt n = Int32.ofInt m)
  | .lt => decide (Int32.ofInt n < Int32.ofInt m)
  | .ge => decide (Int32.ofInt m ≤ Int32.ofInt n)
  | .gt => decide (Int32.ofInt m < Int32.ofInt n)
  | .le => decide (Int32.ofInt n ≤ Int32.ofInt m)
def ae_flip : Jvm.ClassFile.Cond → Jvm.ClassFile.Cond
  | .eq => .eq
  | .ne => .ne
  | .lt => .gt
  | .ge => .le
  | .gt => .lt
  | .le => .ge
/-- an interval cut by a comparison with m -/
def ae_cut (q : Jvm.ClassFile.Cond) (lo hi m : Int) : List (Int × Int × Bool) := match q with
  | .lt => [(lo, min hi (m - 1), true), (max lo m, hi, false)]
  | .ge => [(lo, min hi (m - 1), false), (max lo m, hi, true)]
  | .le => [(lo, min hi m, true), (max lo (m + 1), hi, false)]
  | .gt => [(lo, min hi m, false), (max lo (m + 1), hi, true)]
  | .eq => [(max lo m, min hi m, true), (lo, min hi (m - 1), false), (max lo (m + 1), hi, false)]
  | .ne => [(max lo m, min hi m, false), (lo, min hi (m - 1), true), (max lo (m + 1), hi, true)]
/-- a branch -/
def ae_br (env : ae_e) (q : Jvm.ClassFile.Cond) (x y : Int ⊕ Nat) (k : ae_e → Bool → Bool) : Bool := match x, y with
  | .inl n, .inl m => k env (ae_cc q n m)
  | .inr i, .inl m => (match env[i]? with
    | some w => (ae_cut q w.1 w.2 (Int32.ofInt m).toInt).all (fun c => bif decide (c.1 ≤ c.2.1) then k (env.set i (c.1, c.2.1)) c.2.2 else true)
    | none => false)
  | .inl m, .inr i => (match env[i]? with
    | some w => (ae_cut (ae_flip q) w.1 w.2 (Int32.ofInt m).toInt).all (fun c => bif decide (c.1 ≤ c.2.1) then k (env.set i (c.1, c.2.1)) c.2.2 else true)
    | none => false)
  | .inr i, .inr j => Nat.beq i j && k env (match q with
    | .eq | .le | .ge => true
    | _ => false)
/-- a symbol gone through value by value -/
def ae_all (env : ae_e) (i : Nat) (k : ae_e → Bool) : Bool := match env[i]? with
  | some w => decide (w.2 - w.1 ≤ 130) && (List.range (w.2 - w.1 + 1).toNat).all (fun j => k (env.set i (w.1 + j, w.1 + j)))
  | none => false
def ae_shl : List (Nat × Nat) := [(10, 0), (7, 0), (12, 1000), (1, 0), (4, 0), (9, 0), (0, 0), (14, 6), (13, 6), (13, 6), (14, 5), (13, 5), (13, 5), (13, 5), (3, 0), (13, 1000), (13, 32), (0, 0), (14, 6), (13, 6), (13, 6), (14, 5), (13, 5), (13, 5), (13, 5), (3, 0), (13, 1000), (13, 32), (8, 0), (13, 40), (13, 40), (13, 40), (8, 0), (13, 40), (13, 40), (13, 40), (6, 0), (13, 6), (13, 6), (13, 5), (13, 5), (6, 0), (13, 6), (13, 6), (13, 5), (13, 5), (13, 6), (2, 0), (17, 16), (6, 0), (13, 6), (13, 6), (13, 5), (13, 5), (6, 0), (13, 6), (13, 6), (13, 5), (13, 5), (6, 0), (13, 6), (13, 6), (13, 5), (13, 5), (6, 0), (13, 6), (13, 6), (13, 5), (13, 5), (6, 0), (13, 6), (13, 6), (13, 5), (13, 5), (6, 0), (13, 6), (13, 6), (13, 5), (13, 5), (6, 0), (13, 6), (13, 6), (13, 5), (13, 5), (6, 0), (13, 6), (13, 6), (13, 5), (13, 5), (6, 0), (13, 6), (13, 6), (13, 5), (13, 5), (6, 0), (13, 6), (13, 6), (13, 5), (13, 5), (6, 0), (13, 6), (13, 6), (13, 5), (13, 5), (6, 0), (13, 6), (13, 6), (13, 5), (13, 5), (6, 0), (13, 6), (13, 6), (13, 5), (13, 5), (6, 0), (13, 6), (13, 6), (13, 5), (13, 5), (6, 0), (13, 6), (13, 6), (13, 5), (13, 5), (6, 0), (13, 6), (13, 6), (13, 5), (13, 5), (16, 4), (5, 0), (6, 0), (13, 6), (13, 6), (13, 5), (13, 5), (5, 0), (6, 0), (13, 6), (13, 6), (13, 5), (13, 5), (5, 0), (6, 0), (13, 6), (13, 6), (13, 5), (13, 5), (5, 0), (6, 0), (13, 6), (13, 6), (13, 5), (13, 5), (11, 0), (13, 1000), (13, 1002), (13, 1002), (14, 1002), (14, 21), (13, 80), (13, 2200), (13, 2200), (14, 11), (14, 11), (13, 11), (13, 11), (13, 250), (13, 4), (13, 1100), (13, 1127), (15, 4), (13, 5), (13, 6), (14, 1)]
def ae_so (H : ae_H) (o : Nat) : Option (Nat × Nat) := bif Nat.blt o H.2.2.1 && Nat.ble H.2.2.2 o then ae_shl[o]? else none
def ae_ob (e : Option (Nat × Nat)) (b : Nat) : Bool := match e with
  | some (t, n) => Nat.beq t b && Nat.beq n 0
  | none => false
def ae_ar (e : Option (Nat × Nat)) (b : Nat) (j : Int) (k : Nat → Bool) : Bool := match e with
  | some (t, n) => Nat.beq t b && (match j with
    | .ofNat j => Nat.blt j n && k j
    | _ => false)
  | none => false
def ae_wI (H : ae_H) (o k : Nat) (v : Int ⊕ Nat) : ae_H := (ae_up H.1 o k v, H.2.1, H.2.2)
def ae_wR (H : ae_H) (o k : Nat) (v : Option Nat) : ae_H := (H.1, ae_up H.2.1 o k v, H.2.2)
def ae_nx (H : ae_H) : ae_H := (H.1, H.2.1, H.2.2.1 + 1, H.2.2.2)
def ae_new (H : ae_H) (lim b : Nat) (n : Int) : Bool := match ae_shl[H.2.2.1]? with
  | some (t, m) => Nat.beq t b && (decide (n = m) && Nat.ble (H.2.2.1 + 1) lim)
  | none => false
/-- may a field, an answer of this type hold it -/
def ae_fit (ty : FieldType) (x : Int ⊕ Nat) : Bool := match x with
  | .inl n => decide (narrow ty (.int (Int32.ofInt n)) = .int (Int32.ofInt n)) && fits ty (.int (Int32.ofInt n))
  | .inr _ => decide (ty = .int)
def ae_tgt (pc : Nat) (o : Int) : Nat := ((pc : Int) + o).toNat
def ae_ts (pc : Nat) (df lo hi : Int) (os : Array Int) (z : Int) : Nat := bif decide (z < lo) || decide (hi < z) then ae_tgt pc df else ae_tgt pc ((os[(z - lo).toNat]?).getD 0)
/-- a step: first the instruction, then all else -/
def ae_stp (i : Instr) : Nat → Nat → Nat → Nat → Nat → Nat → ae_e → ae_H → Nat → Nat → Option FieldType → Nat → ae_l → List ae_v → (ae_e → Nat → ae_l → List ae_v → ae_H → Bool) → (Nat → List ae_v → Nat → List ae_v → Bool) → (Option ae_v → Bool) → Bool := match i with
  | .iconst n => fun nx a b c d LL env H nL lim rt pc lv st K C Rt => K env nx lv (.inl n :: st) H
  | .bipush n => fun nx a b c d LL env H nL lim rt pc lv st K C Rt => K env nx lv (.inl (Int8.ofInt n).toInt32.toInt :: st) H
  | .sipush n => fun nx a b c d LL env H nL lim rt pc lv st K C Rt => K env nx lv (.inl (Int16.ofInt n).toInt32.toInt :: st) H
  | .lconst n => fun nx a b c d LL env H nL lim rt pc lv st K C Rt => K env nx lv (.inr (.inr (.inr (.inl (Int64.ofNat n).toInt))) :: st) H
  | .ldc2_w _ => fun nx a b c d LL env H nL lim rt pc lv st K C Rt => K env nx lv (.inr (.inr (.inr (.inl (am_kl c).toInt))) :: st) H
  | .ldc_w _ => fun nx a b c d LL env H nL lim rt pc lv st K C Rt => !(Nat.beq b 1) && K env nx lv (.inl (am_ki c).toInt :: st) H
  | .ldc _ => fun nx a b c d LL env H nL lim rt pc lv st K C Rt => !(Nat.beq b 1) && K env nx lv (.inl (am_ki c).toInt :: st) H
  | .iload_n k => fun nx a b c d LL env H nL lim rt pc lv st K C Rt => ae_li lv k.val fun x => K env nx lv (x :: st) H
  | .iload k => fun nx a b c d LL env H nL lim rt pc lv st K C Rt => ae_li lv k fun x => K env nx lv (x :: st) H
  | .lload_n k => fun nx a b c d LL env H nL lim rt pc lv st K C Rt => ae_ll lv k.val fun x => K env nx lv (x :: st) H
  | .lload k => fun nx a b c d LL env H nL lim rt pc lv st K C Rt => ae_ll lv k fun x => K env nx lv (x :: st) H
  | .aload_n k => fun nx a b c d LL env H nL lim rt pc lv st K C Rt => ae_la lv k.val fun x => K env nx lv (x :: st) H
  | .aload k => fun nx a b c d LL env H nL lim rt pc lv st K C Rt => ae_la lv k fun x => K env nx lv (x :: st) H
  | .istore_n k => fun nx a b c d LL env H nL lim rt pc lv st K C Rt => ae_pS env st fun x r => Nat.blt k.val nL && K env nx (ae_s1 lv k.val (ae_iv x)) r H
  | .istore k => fun nx a b c d LL env H nL lim rt pc lv st K C Rt => ae_pS env st fun x r => Nat.blt k nL && K env nx (ae_s1 lv k (ae_iv x)) r H
  | .lstore_n k => fun nx a b c d LL env H nL lim rt pc lv st K C Rt => ae_pL st fun x r => Nat.blt (k.val + 1) nL && K env nx (ae_s2 lv k.val x) r H
  | .lstore k => fun nx a b c d LL env H nL lim rt pc lv st K C Rt => ae_pL st fun x r => Nat.blt (k + 1) nL && K env nx (ae_s2 lv k x) r H
  | .astore_n k => fun nx a b c d LL env H nL lim rt pc lv st K C Rt => ae_pR st fun x r => Nat.blt k.val nL && K env nx (ae_s1 lv k.val (.inr (.inr (.inl x)))) r H
  | .astore k => fun nx a b c d LL env H nL lim rt pc lv st K C Rt => ae_pR st fun x r => Nat.blt k nL && K env nx (ae_s1 lv k (.inr (.inr (.inl x)))) r H
  | .iinc k n => fun nx a b c d LL env H nL lim rt pc lv st K C Rt => ae_li lv k fun x => ae_pI env [x] fun x _ => Nat.blt k nL && K env nx (ae_s1 lv k (ae_i2 (· + ·) x n)) st H
  | .iadd => fun nx a b c d LL env H nL lim rt pc lv st K C Rt => ae_pI env st fun y r => ae_pI env r fun x r => K env nx lv (ae_i2 (· + ·) x y :: r) H
  | .isub => fun nx a b c d LL env H nL lim rt pc lv st K C Rt => ae_pI env st fun y r => ae_pI env r fun x r => K env nx lv (ae_i2 (· - ·) x y :: r) H
  | .imul => fun nx a b c d LL env H nL lim rt pc lv st K C Rt => ae_pI env st fun y r => ae_pI env r fun x r => K env nx lv (ae_i2 (· * ·) x y :: r) H
  | .iand => fun nx a b c d LL env H nL lim rt pc lv st K C Rt => ae_pI env st fun y r => ae_pS env r fun x r => (match x with
    | .inl x => K env nx lv (ae_i2 (· &&& ·) x y :: r) H
    | .inr i => Nat.beq i 0 && (decide (y = 63) && K env nx lv (.inr (.inl 7) :: r) H))
  | .ior => fun nx a b c d LL env H nL lim rt pc lv st K C Rt => ae_pI env st fun y r => ae_pI env r fun x r => K env nx lv (ae_i2 (· ||| ·) x y :: r) H
  | .ixor => fun nx a b c d LL env H nL lim rt pc lv st K C Rt => ae_pI env st fun y r => ae_pI env r fun x r => K env nx lv (ae_i2 (· ^^^ ·) x y :: r) H
  | .idiv => fun nx a b c d LL env H nL lim rt pc lv st K C Rt => ae_pI env st fun y r => ae_pI env r fun x r => !decide (Int32.ofInt y = 0) && K env nx lv (ae_i2 (· / ·) x y :: r) H
  | .irem => fun nx a b c d LL env H nL lim rt pc lv st K C Rt => ae_pI env st fun y r => ae_pI env r fun x r => !decide (Int32.ofInt y = 0) && K env nx lv (ae_i2 (fun x y => x - x / y * y) x y :: r) H
  | .ineg => fun nx a b c d LL env H nL lim rt pc lv st K C Rt => ae_pI env st fun x r => K env nx lv (.inl (-(Int32.ofInt x)).toInt :: r) H
  | .ishl => fun nx a b c d LL env H nL lim rt pc lv st K C Rt => ae_pI env st fun y r => ae_pI env r fun x r => K env nx lv (ae_i2 (fun x y => x <<< (y &&& 31)) x y :: r) H
  | .ishr => fun nx a b c d LL env H nL lim rt pc lv st K C Rt => ae_pI env st fun y r => ae_pI env r fun x r => K env nx lv (ae_i2 (fun x y => x >>> (y &&& 31)) x y :: r) H
  | .iushr => fun nx a b c d LL env H nL lim rt pc lv st K C Rt => ae_pI env st fun y r => ae_pI env r fun x r => K env nx lv (ae_i2 (fun x y => (x.toUInt32 >>> (y.toUInt32 &&& Int32.toUInt32 31)).toInt32) x y :: r) H
  | .i2l => fun nx a b c d LL env H nL lim rt pc lv st K C Rt => ae_pS env st fun x r => (match x with
    | .inl n => K env nx lv (.inr (.inr (.inr (.inl (Int32.ofInt n).toInt64.toInt))) :: r) H
    | .inr i => Nat.blt i 10 && K env nx lv (.inr (.inr (.inr (.inr i))) :: r) H)
  | .lshl => fun nx a b c d LL env H nL lim rt pc lv st K C Rt => ae_pI env st fun y r => ae_pL r fun x r => (match x with
    | .inr (.inr (.inr (.inr i))) => decide (y = 32) && (Nat.blt i 10 && K env nx lv (.inr (.inr (.inr (.inr (100 + i)))) :: r) H)
    | _ => false)
  | .land => fun nx a b c d LL env H nL lim rt pc lv st K C Rt => ae_pL st fun y r => ae_pL r fun x r => (match x, y with
    | .inr (.inr (.inr (.inr i))), .inr (.inr (.inr (.inl m))) => decide (m = 4294967295) && (Nat.blt i 10 && K env nx lv (.inr (.inr (.inr (.inr (200 + i)))) :: r) H)
    | _, _ => false)
  | .lor => fun nx a b c d LL env H nL lim rt pc lv st K C Rt => ae_pL st fun y r => ae_pL r fun x r => (match x, y with
    | .inr (.inr (.inr (.inr i))), .inr (.inr (.inr (.inr j))) => (Nat.ble 100 i && Nat.blt i 110) && ((Nat.ble 200 j && Nat.blt j 210) && K env nx lv (.inr (.inr (.inr (.inr (1000 + (10 * (i - 100) + (j - 200)))))) :: r) H)
    | _, _ => false)
  | .dup => fun nx a b c d LL env H nL lim rt pc lv st K C Rt => ae_pV st fun v r => Nat.beq (ae_cat v) 1 && K env nx lv (v :: v :: r) H
  | .dup2 => fun nx a b c d LL env H nL lim rt pc lv st K C Rt => ae_pV st fun v r => ae_pV r fun w r => Nat.beq (ae_cat v) 1 && (Nat.beq (ae_cat w) 1 && K env nx lv (v :: w :: v :: w :: r) H)
  | .pop => fun nx a b c d LL env H nL lim rt pc lv st K C Rt => ae_pV st fun v r => Nat.beq (ae_cat v) 1 && K env nx lv r H
  | .goto _ => fun nx a b c d LL env H nL lim rt pc lv st K C Rt => K env a lv st H
  | .if_icmp q _ => fun nx a b c d LL env H nL lim rt pc lv st K C Rt => ae_pS env st fun y r => ae_pS env r fun x r => ae_br env q x y fun env t => K env (bif t then a else nx) lv r H
  | .ifCond q _ => fun nx a b c d LL env H nL lim rt pc lv st K C Rt => ae_pS env st fun x r => ae_br env q x (.inl 0) fun env t => K env (bif t then a else nx) lv r H
  | .tableswitch df lo hi os => fun nx a b c d LL env H nL lim rt pc lv st K C Rt => ae_pS env st fun x r => (match x with
    | .inl n => K env (ae_ts pc df lo hi os (Int32.ofInt n).toInt) lv r H
    | .inr i => (match env[i]? with
      | some w => (bif decide (w.1 ≤ min w.2 (lo - 1)) then K (env.set i (w.1, min w.2 (lo - 1))) (ae_tgt pc df) lv r H else true) && ((bif decide (max w.1 (hi + 1) ≤ w.2) then K (env.set i (max w.1 (hi + 1), w.2)) (ae_tgt pc df) lv r H else true) && (List.range (hi - lo + 1).toNat).all (fun j => bif decide (w.1 ≤ lo + j) && decide (lo + j ≤ w.2) then K (env.set i (lo + j, lo + j)) (ae_tgt pc ((os[j]?).getD 0)) lv r H else true))
      | none => false))
  | .getfield _ => fun nx a b c d LL env H nL lim rt pc lv st K C Rt => !(Nat.beq b 20) && ae_pR st fun o r => ae_ob (ae_so H o) b && (match am_kd b a with
    | 0 => K env nx lv (ae_iv (ae_lk H.1 o a (.inl 0)) :: r) H
    | 1 => false
    | _ => (match ae_lk H.2.1 o a none with
      | some x => K env nx lv (.inr (.inr (.inl x)) :: r) H
      | none => false))
  | .putfield _ => fun nx a b c d LL env H nL lim rt pc lv st K C Rt => (match am_kd b a with
    | 0 => ae_pS env st fun x r => ae_pR r fun o r => ae_ob (ae_so H o) b && (ae_fit (am_fty b a) x && K env nx lv r (ae_wI H o a x))
    | 1 => ae_pL st fun _ r => ae_pR r fun o r => ae_ob (ae_so H o) b && K env nx lv r H
    | _ => ae_pR st fun x r => ae_pR r fun o r => ae_ob (ae_so H o) b && K env nx lv r (ae_wR H o a (some x)))
  | .iaload => fun nx a b c d LL env H nL lim rt pc lv st K C Rt => ae_pI env st fun j r => ae_pR r fun o r => bif Nat.beq o 3000000 then (match j with
      | .ofNat j => Nat.blt j LL && K env nx lv (.inr (.inl j) :: r) H
      | _ => false) else ae_ar (ae_so H o) 13 j fun j => K env nx lv (ae_iv (ae_lk H.1 o j (.inl 0)) :: r) H
  | .baload => fun nx a b c d LL env H nL lim rt pc lv st K C Rt => ae_pI env st fun j r => ae_pR r fun o r => bif Nat.beq o 3000000 then false else ae_ar (ae_so H o) 15 j fun j => K env nx lv (ae_iv (ae_lk H.1 o j (.inl 0)) :: r) H
  | .aaload => fun nx a b c d LL env H nL lim rt pc lv st K C Rt => ae_pI env st fun j r => ae_pR r fun o r => bif Nat.beq o 3000000 then false else (ae_ar (ae_so H o) 16 j (fun _ => true) || ae_ar (ae_so H o) 17 j (fun _ => true)) && (match ae_lk H.2.1 o j.toNat none with
      | some x => K env nx lv (.inr (.inr (.inl x)) :: r) H
      | none => false)
  | .iastore => fun nx a b c d LL env H nL lim rt pc lv st K C Rt => ae_pS env st fun x r => ae_pI env r fun j r => ae_pR r fun o r => ae_ar (ae_so H o) 13 j fun j => K env nx lv r (ae_wI H o j x)
  | .bastore => fun nx a b c d LL env H nL lim rt pc lv st K C Rt => ae_pI env st fun x r => ae_pI env r fun j r => ae_pR r fun o r => ae_ar (ae_so H o) 15 j fun j => K env nx lv r (ae_wI H o j (.inl (vp_nar .boolean (Int32.ofInt x)).toInt))
  | .lastore => fun nx a b c d LL env H nL lim rt pc lv st K C Rt => ae_pL st fun _ r => ae_pI env r fun j r => ae_pR r fun o r => ae_ar (ae_so H o) 14 j fun _ => K env nx lv r H
  | .aastore => fun nx a b c d LL env H nL lim rt pc lv st K C Rt => ae_pR st fun x r => ae_pI env r fun j r => ae_pR r fun o r => (ae_ar (ae_so H o) 16 j (fun _ => ae_ob (ae_so H x) 5) || ae_ar (ae_so H o) 17 j (fun _ => ae_ob (ae_so H x) 6)) && K env nx lv r (ae_wR H o j.toNat (some x))
  | .new _ => fun nx a b c d LL env H nL lim rt pc lv st K C Rt => ae_new H lim b 0 && K env nx lv (.inr (.inr (.inl H.2.2.1)) :: st) (ae_nx H)
  | .newarray _ => fun nx a b c d LL env H nL lim rt pc lv st K C Rt => ae_pI env st fun n r => ae_new H lim b n && K env nx lv (.inr (.inr (.inl H.2.2.1)) :: r) (ae_nx H)
  | .anewarray _ => fun nx a b c d LL env H nL lim rt pc lv st K C Rt => ae_pI env st fun n r => ae_new H lim b n && K env nx lv (.inr (.inr (.inl H.2.2.1)) :: r) (ae_nx H)
  | .arraylength => fun nx a b c d LL env H nL lim rt pc lv st K C Rt => ae_pR st fun o r => bif Nat.beq o 3000000 then Nat.blt 0 LL && K env nx lv (.inl LL :: r) H else false
  | .invokevirtual _ => fun nx a b c d LL env H nL lim rt pc lv st K C Rt => (match ae_pop b [] st with
    | some (As, .inr (.inr (.inl o)) :: r) => ae_ob (ae_so H o) d && (!(Nat.beq d 20) && Nat.ble ((r.map ae_cat).sum) 8 && (Nat.ble (H.2.2.1 + am_al a) lim && C a (.inr (.inr (.inl o)) :: As) nx r))
    | _ => false)
  | .invokespecial _ => fun nx a b c d LL env H nL lim rt pc lv st K C Rt => (match ae_pop b [] st with
    | some (As, .inr (.inr (.inl o)) :: r) => Nat.ble ((r.map ae_cat).sum) 8 && (bif Nat.beq a 1 then (match As with
      | [] => K env nx lv r H
      | _ => false) else Nat.ble (H.2.2.1 + am_al a) lim && C a (.inr (.inr (.inl o)) :: As) nx r)
    | _ => false)
  | .invokestatic _ => fun nx a b c d LL env H nL lim rt pc lv st K C Rt => (match ae_pop b [] st with
    | some (As, r) => Nat.ble ((r.map ae_cat).sum) 8 && (Nat.ble (H.2.2.1 + am_al a) lim && C a As nx r)
    | _ => false)
  | .ireturn => fun nx a b c d LL env H nL lim rt pc lv st K C Rt => (match st with
    | [x] => ae_pS env [x] fun x _ => (match rt with
      | some ty => ae_fit ty x && Rt (some (ae_iv x))
      | none => false)
    | _ => false)
  | .return_ => fun nx a b c d LL env H nL lim rt pc lv st K C Rt => (match st with
    | [] => (match rt with
      | none => Rt none
      | _ => false)
    | _ => false)
  | _ => fun nx a b c d LL env H nL lim rt pc lv st K C Rt => false
/-- which symbol must be gone through before an instruction -/
def ae_sy (env : ae_e) (st : List ae_v) (k : Nat) : Option Nat := match st[k]? with
  | some a => (match ae_n env a with
    | .inr (.inl i) => some i
    | _ => none)
  | none => none
def ae_nd (i : Instr) : List Nat := match i with
  | .iadd | .isub | .imul | .ior | .ixor | .idiv | .irem | .ishl | .ishr | .iushr => [0, 1]
  | .ineg | .iaload | .baload | .aaload => [0]
  | .iastore | .bastore | .lastore | .aastore => [1]
  | _ => []
def ae_args : Nat → List ae_v → ae_l
  | _, [] => []
  | i, v :: vs => (i, v) :: ae_args (bif Nat.beq (ae_cat v) 2 then i + 2 else i + 1) vs
/-- the run: calls that are known (asm: the answer's symbol, the first object that stays known); exits ex, what holds there fin; the last answer fr -/
def ae_go (LL : Nat) (asm : Nat → List ae_v → ae_H → Option (Nat × Nat)) (ex : Nat → Bool) (fin : ae_e → Nat → ae_l → List ae_v → ae_H → Bool) (fr : ae_e → Option ae_v → ae_H → Bool) : Nat → ae_e → Nat → ae_H → ae_F → List ae_F → Bool
  | 0, _, _, _, _, _ => false
  | f + 1, env, d, H, (rows, nL, rt, lim, pc, lv, st), fs => bif fs.isEmpty && ex pc then fin env pc lv st H else (match am_find rows pc with
    | none => false
    | some r => (match (ae_nd r.1).findSome? (ae_sy env st) with
      | some i => ae_all env i (fun env => ae_go LL asm ex fin fr f env d H (rows, nL, rt, lim, pc, lv, st) fs)
      | none => ae_stp r.1 r.2.1 r.2.2.1 r.2.2.2.1 r.2.2.2.2.1 r.2.2.2.2.2 LL env H nL lim rt pc lv st (fun env pc lv st H => ae_go LL asm ex fin fr f env d H (rows, nL, rt, lim, pc, lv, st) fs)
        (fun a As nx rest => match asm a As H with
          | some w => Nat.ble 10 d && (Nat.ble H.2.2.2 w.2 && (Nat.beq (am_al a) 0 && ae_go LL asm ex fin fr f env d (H.1, H.2.1, H.2.2.1, w.2) (rows, nL, rt, lim, nx, lv, .inr (.inl w.1) :: rest) fs))
          | none => match d with
          | 0 => false
          | d + 1 => (match am_inf[a]? with
            | some q => Nat.ble ((As.map ae_cat).sum) q.2.1 && ae_go LL asm ex fin fr f env d H (q.1, q.2.1, q.2.2, H.2.2.1 + am_al a, 0, ae_args 0 As, []) ((rows, nL, rt, lim, nx, lv, rest) :: fs)
            | none => false))
        (fun v => match fs with
          | [] => fr env v H
          | (rows', nL', rt', lim', pc', lv', st') :: fs' => Nat.beq H.2.2.1 lim && ae_go LL asm ex fin fr f env (d + 1) H (rows', nL', rt', lim', pc', lv', v.toList ++ st') fs')))
