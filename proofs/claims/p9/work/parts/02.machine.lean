/-! THE ABSTRACT MACHINE: one heap of ints, longs, references by object number and place (and the script's length); the rules of one instruction as a predicate; wp as the least predicate that is closed under them -/
abbrev am_V : Type := List (Nat × Value)
/-- ints, longs, references; the script's length; how many objects there are -/
abbrev am_H : Type := (Nat → Nat → Int32) × (Nat → Nat → Int64) × (Nat → Nat → Option Nat) × Nat × Nat
abbrev am_R : Type := Instr × Nat × Nat × Nat × Nat × Nat
abbrev am_Q : Type := Option Value → am_H → Prop
abbrev am_P : Type := Nat → List Value → am_H → am_Q → Prop
def am_wI (h : am_H) (o k : Nat) (v : Int32) : am_H := (fun a b => if a = o ∧ b = k then v else h.1 a b, h.2.1, h.2.2.1, h.2.2.2)
def am_wL (h : am_H) (o k : Nat) (v : Int64) : am_H := (h.1, fun a b => if a = o ∧ b = k then v else h.2.1 a b, h.2.2.1, h.2.2.2)
def am_wR (h : am_H) (o k : Nat) (v : Option Nat) : am_H := (h.1, h.2.1, fun a b => if a = o ∧ b = k then v else h.2.2.1 a b, h.2.2.2)
def am_lk : am_V → Nat → Option Value
  | [], _ => none
  | q :: r, i => bif Nat.beq q.1 i then some q.2 else am_lk r i
def am_s1 (lv : am_V) (i : Nat) (v : Value) : am_V := (i, v) :: lv.filter (fun q => !(q.1 == i) && !(q.1 + 1 == i && q.2.category == 2))
def am_s2 (lv : am_V) (i : Nat) (v : Value) : am_V := (i, v) :: lv.filter (fun q => !(q.1 == i) && (!(q.1 == i + 1) && !(q.1 + 1 == i && q.2.category == 2)))
def am_rf (r : Option Nat) : Value := match r with
  | some a => .ref a
  | none => .null
def am_pI (st : List Value) (k : Int32 → List Value → Prop) : Prop := match st with
  | .int x :: r => k x r
  | _ => False
def am_pL (st : List Value) (k : Int64 → List Value → Prop) : Prop := match st with
  | .long x :: r => k x r
  | _ => False
def am_pR (st : List Value) (k : Nat → List Value → Prop) : Prop := match st with
  | .ref x :: r => k x r
  | _ => False
def am_pV (st : List Value) (k : Value → List Value → Prop) : Prop := match st with
  | v :: r => k v r
  | [] => False
def am_li (lv : am_V) (i : Nat) (k : Int32 → Prop) : Prop := match am_lk lv i with
  | some (.int x) => k x
  | _ => False
def am_ll (lv : am_V) (i : Nat) (k : Int64 → Prop) : Prop := match am_lk lv i with
  | some (.long x) => k x
  | _ => False
def am_la (lv : am_V) (i : Nat) (k : Nat → Prop) : Prop := match am_lk lv i with
  | some (.ref x) => k x
  | _ => False
def am_pop : Nat → List Value → List Value → Option (List Value × List Value)
  | 0, acc, st => some (acc, st)
  | n + 1, acc, v :: st => am_pop n (v :: acc) st
  | _ + 1, _, [] => none
def am_c (c : Jvm.ClassFile.Cond) (x y : Int32) : Prop := match c with
  | .eq => x = y
  | .ne => ¬ x = y
  | .lt => x < y
  | .ge => y ≤ x
  | .gt => y < x
  | .le => x ≤ y
def am_gv (h : am_H) (ci k o : Nat) : Value := match am_kd ci k with
  | 0 => .int (h.1 o k)
  | 1 => .long (h.2.1 o k)
  | _ => am_rf (h.2.2.1 o k)
def am_fty (ci k : Nat) : FieldType := match vwCl[ci]? with
  | some q => (parseFieldDescriptor (q.2.1 k).2.2.1).getD .int
  | none => .int
def am_kl (c : Nat) : Int64 := match am_cl[c]? with
  | some q => q.2.2
  | none => 0
def am_ki (c : Nat) : Int32 := match am_ci[c]? with
  | some q => q.2.2
  | none => 0
/-- the shape of each object: (number of its class, 0), or (12 chars, 13 ints, 14 longs, 15 booleans, 16 Marks, 17 States, the length) -/
def am_st1 : List (Nat × Nat) := [(6, 0), (13, 6), (13, 6), (13, 5), (13, 5)]
def am_ca1 : List (Nat × Nat) := [(0, 0), (14, 6), (13, 6), (13, 6), (14, 5), (13, 5), (13, 5), (13, 5), (3, 0), (13, 1000), (13, 32)]
def am_we1 : List (Nat × Nat) := [(8, 0), (13, 40), (13, 40), (13, 40)]
def am_shl : List (Nat × Nat) := [(10, 0), (7, 0), (12, 1000), (1, 0), (4, 0), (9, 0)] ++ (am_ca1 ++ (am_ca1 ++ (am_we1 ++ (am_we1 ++ (am_st1 ++ (am_st1 ++ ([(13, 6), (2, 0), (17, 16)] ++ (
  am_st1 ++ (am_st1 ++ (am_st1 ++ (am_st1 ++ (am_st1 ++ (am_st1 ++ (am_st1 ++ (am_st1 ++ (am_st1 ++ (am_st1 ++ (am_st1 ++ (am_st1 ++ (am_st1 ++ (am_st1 ++ (am_st1 ++ (am_st1 ++ (
  [(16, 4)] ++ ((5, 0) :: (am_st1 ++ ((5, 0) :: (am_st1 ++ ((5, 0) :: (am_st1 ++ ((5, 0) :: (am_st1 ++
  [(11, 0), (13, 1000), (13, 1002), (13, 1002), (14, 1002), (14, 21), (13, 80), (13, 2200), (13, 2200), (14, 11), (14, 11), (13, 11), (13, 11), (13, 250), (13, 4), (13, 1100), (13, 1127), (15, 4), (13, 5), (13, 6), (14, 1)]
  ))))))))))))))))))))))))))))))))
def am_so (h : am_H) (o : Nat) : Option (Nat × Nat) := bif Nat.blt o h.2.2.2.2 then am_shl[o]? else none
def am_sh (h : am_H) (o : Nat) : Option (Nat × Nat) := bif Nat.beq o 3000000 then some (13, h.2.2.2.1) else am_so h o
/-- a receiver: one of the objects, or a String constant -/
def am_rc (h : am_H) (o d : Nat) : Prop := (¬ d = 20 ∧ am_sh h o = some (d, 0)) ∨ (d = 20 ∧ ∃ q : Nat, q < 26 ∧ o = 4000000 + q)
/-- the next object, all 0 and null -/
def am_nx (h : am_H) : am_H := (fun a b => if a = h.2.2.2.2 then 0 else h.1 a b, fun a b => if a = h.2.2.2.2 then 0 else h.2.1 a b, fun a b => if a = h.2.2.2.2 then none else h.2.2.1 a b, h.2.2.2.1, h.2.2.2.2 + 1)
/-- how many objects a constructor makes -/
def am_al (n : Nat) : Nat := ([153, 0, 1, 1, 0, 0, 10, 2, 3, 4, 81, 5] : List Nat).getD n (bif Nat.beq n 179 then 19 else 0)
def am_stp (cp : am_P) (nL lim : Nat) (rt : Option FieldType) (pc : Nat) (r : am_R) (lv : am_V) (st : List Value) (h : am_H) (K : Nat → am_V → List Value → am_H → Prop) (Q : am_Q) : Prop :=
  match r with
  | (i, nx, a, b, c, d) => match i with
    | .iconst n => K nx lv (.int (Int32.ofInt n) :: st) h
    | .bipush n => K nx lv (.int (Int8.ofInt n).toInt32 :: st) h
    | .sipush n => K nx lv (.int (Int16.ofInt n).toInt32 :: st) h
    | .lconst n => K nx lv (.long (Int64.ofNat n) :: st) h
    | .ldc2_w _ => K nx lv (.long (am_kl c) :: st) h
    | .ldc_w _ => bif Nat.beq b 1 then K nx lv (.ref (4000000 + c) :: st) h else K nx lv (.int (am_ki c) :: st) h
    | .ldc _ => bif Nat.beq b 1 then K nx lv (.ref (4000000 + c) :: st) h else K nx lv (.int (am_ki c) :: st) h
    | .getstatic _ => bif Nat.beq b 1 then K nx lv (.ref 6000000 :: st) h else K nx lv (.int 1 :: st) h
    | .i2b => am_pI st fun x r => K nx lv (.int x.toInt8.toInt32 :: r) h
    | .iload_n k => am_li lv k.val fun x => K nx lv (.int x :: st) h
    | .iload k => am_li lv k fun x => K nx lv (.int x :: st) h
    | .lload_n k => am_ll lv k.val fun x => K nx lv (.long x :: st) h
    | .lload k => am_ll lv k fun x => K nx lv (.long x :: st) h
    | .aload_n k => am_la lv k.val fun x => K nx lv (.ref x :: st) h
    | .aload k => am_la lv k fun x => K nx lv (.ref x :: st) h
    | .istore_n k => am_pI st fun x r => k.val < nL ∧ K nx (am_s1 lv k.val (.int x)) r h
    | .istore k => am_pI st fun x r => k < nL ∧ K nx (am_s1 lv k (.int x)) r h
    | .lstore_n k => am_pL st fun x r => k.val + 1 < nL ∧ K nx (am_s2 lv k.val (.long x)) r h
    | .lstore k => am_pL st fun x r => k + 1 < nL ∧ K nx (am_s2 lv k (.long x)) r h
    | .astore_n k => am_pR st fun x r => k.val < nL ∧ K nx (am_s1 lv k.val (.ref x)) r h
    | .astore k => am_pR st fun x r => k < nL ∧ K nx (am_s1 lv k (.ref x)) r h
    | .iinc k n => am_li lv k fun x => k < nL ∧ K nx (am_s1 lv k (.int (x + Int32.ofInt n))) st h
    | .iadd => am_pI st fun y r => am_pI r fun x r => K nx lv (.int (x + y) :: r) h
    | .isub => am_pI st fun y r => am_pI r fun x r => K nx lv (.int (x - y) :: r) h
    | .imul => am_pI st fun y r => am_pI r fun x r => K nx lv (.int (x * y) :: r) h
    | .iand => am_pI st fun y r => am_pI r fun x r => K nx lv (.int (x &&& y) :: r) h
    | .ior => am_pI st fun y r => am_pI r fun x r => K nx lv (.int (x ||| y) :: r) h
    | .ixor => am_pI st fun y r => am_pI r fun x r => K nx lv (.int (x ^^^ y) :: r) h
    | .idiv => am_pI st fun y r => am_pI r fun x r => ¬ y = 0 ∧ K nx lv (.int (x / y) :: r) h
    | .irem => am_pI st fun y r => am_pI r fun x r => ¬ y = 0 ∧ K nx lv (.int (x - x / y * y) :: r) h
    | .ineg => am_pI st fun x r => K nx lv (.int (-x) :: r) h
    | .ishl => am_pI st fun y r => am_pI r fun x r => K nx lv (.int (x <<< (y &&& 31)) :: r) h
    | .ishr => am_pI st fun y r => am_pI r fun x r => K nx lv (.int (x >>> (y &&& 31)) :: r) h
    | .iushr => am_pI st fun y r => am_pI r fun x r => K nx lv (.int (x.toUInt32 >>> (y.toUInt32 &&& Int32.toUInt32 31)).toInt32 :: r) h
    | .ladd => am_pL st fun y r => am_pL r fun x r => K nx lv (.long (x + y) :: r) h
    | .lsub => am_pL st fun y r => am_pL r fun x r => K nx lv (.long (x - y) :: r) h
    | .lmul => am_pL st fun y r => am_pL r fun x r => K nx lv (.long (x * y) :: r) h
    | .land => am_pL st fun y r => am_pL r fun x r => K nx lv (.long (x &&& y) :: r) h
    | .lor => am_pL st fun y r => am_pL r fun x r => K nx lv (.long (x ||| y) :: r) h
    | .ldiv => am_pL st fun y r => am_pL r fun x r => ¬ y = 0 ∧ K nx lv (.long (x / y) :: r) h
    | .lrem => am_pL st fun y r => am_pL r fun x r => ¬ y = 0 ∧ K nx lv (.long (x - x / y * y) :: r) h
    | .lshl => am_pI st fun y r => am_pL r fun x r => K nx lv (.long (x <<< (y.toInt64 &&& 63)) :: r) h
    | .lshr => am_pI st fun y r => am_pL r fun x r => K nx lv (.long (x >>> (y.toInt64 &&& 63)) :: r) h
    | .lushr => am_pI st fun y r => am_pL r fun x r => K nx lv (.long (x.toUInt64 >>> (y.toInt64.toUInt64 &&& Int64.toUInt64 63)).toInt64 :: r) h
    | .lcmp => am_pL st fun y r => am_pL r fun x r => K nx lv (.int (lg_cmp x y) :: r) h
    | .i2l => am_pI st fun x r => K nx lv (.long x.toInt64 :: r) h
    | .l2i => am_pL st fun x r => K nx lv (.int x.toInt32 :: r) h
    | .i2c => am_pI st fun x r => K nx lv (.int (x.toUInt32 % 65536).toInt32 :: r) h
    | .dup => am_pV st fun v r => v.category = 1 ∧ K nx lv (v :: v :: r) h
    | .dup2 => am_pV st fun v r => am_pV r fun w r => v.category = 1 ∧ w.category = 1 ∧ K nx lv (v :: w :: v :: w :: r) h
    | .pop => am_pV st fun v r => v.category = 1 ∧ K nx lv r h
    | .goto _ => K a lv st h
    | .if_icmp q _ => am_pI st fun y r => am_pI r fun x r => (am_c q x y → K a lv r h) ∧ (¬ am_c q x y → K nx lv r h)
    | .ifCond q _ => am_pI st fun x r => (am_c q x 0 → K a lv r h) ∧ (¬ am_c q x 0 → K nx lv r h)
    | .tableswitch df lo hi os => am_pI st fun x r => ((x.toInt < lo ∨ hi < x.toInt) → K ((pc : Int) + df).toNat lv r h) ∧ (∀ j : Nat, x.toInt = lo + j → lo + j ≤ hi → K ((pc : Int) + (os[j]?).getD 0).toNat lv r h)
    | .lookupswitch df ps => am_pI st fun x r => K ((pc : Int) + Op.lookupswitch.offset ps.toList df x.toInt).toNat lv r h
    | .getfield _ => bif Nat.beq b 20 then am_pR st fun o r => ∃ q : Nat, q < 26 ∧ o = 4000000 + q ∧ K nx lv ((bif Nat.beq a 0 then .ref (5000000 + q) else .int 0) :: r) h else am_pR st fun o r => am_sh h o = some (b, 0) ∧ K nx lv (am_gv h b a o :: r) h
    | .putfield _ => match am_kd b a with
      | 0 => am_pI st fun x r => am_pR r fun o r => am_sh h o = some (b, 0) ∧ narrow (am_fty b a) (.int x) = .int x ∧ fits (am_fty b a) (.int x) = true ∧ K nx lv r (am_wI h o a x)
      | 1 => am_pL st fun x r => am_pR r fun o r => am_sh h o = some (b, 0) ∧ K nx lv r (am_wL h o a x)
      | _ => am_pR st fun x r => am_pR r fun o r => am_sh h o = some (b, 0) ∧ K nx lv r (am_wR h o a (some x))
    | .iaload => am_pI st fun i r => am_pR r fun o r => ∃ j n : Nat, am_sh h o = some (13, n) ∧ j < n ∧ i = nI j ∧ K nx lv (.int (h.1 o j) :: r) h
    | .caload => am_pI st fun i r => am_pR r fun o r => ∃ j n : Nat, am_sh h o = some (12, n) ∧ j < n ∧ i = nI j ∧ K nx lv (.int (h.1 o j) :: r) h
    | .baload => am_pI st fun i r => am_pR r fun o r => (∃ j n : Nat, am_sh h o = some (15, n) ∧ j < n ∧ i = nI j ∧ K nx lv (.int (h.1 o j) :: r) h) ∨ (∃ q j : Nat, q < 26 ∧ o = 5000000 + q ∧ j < am_sln.getD q 0 ∧ i = nI j ∧ K nx lv (.int ((am_sby.getD q []).getD j 0) :: r) h)
    | .laload => am_pI st fun i r => am_pR r fun o r => ∃ j n : Nat, am_sh h o = some (14, n) ∧ j < n ∧ i = nI j ∧ K nx lv (.long (h.2.1 o j) :: r) h
    | .aaload => am_pI st fun i r => am_pR r fun o r => ∃ j n : Nat, (am_sh h o = some (16, n) ∨ am_sh h o = some (17, n)) ∧ j < n ∧ i = nI j ∧ K nx lv (am_rf (h.2.2.1 o j) :: r) h
    | .iastore => am_pI st fun x r => am_pI r fun i r => am_pR r fun o r => ∃ j n : Nat, am_so h o = some (13, n) ∧ j < n ∧ i = nI j ∧ K nx lv r (am_wI h o j x)
    | .castore => am_pI st fun x r => am_pI r fun i r => am_pR r fun o r => ∃ j n : Nat, am_so h o = some (12, n) ∧ j < n ∧ i = nI j ∧ K nx lv r (am_wI h o j (vp_nar .char x))
    | .bastore => am_pI st fun x r => am_pI r fun i r => am_pR r fun o r => ∃ j n : Nat, am_so h o = some (15, n) ∧ j < n ∧ i = nI j ∧ K nx lv r (am_wI h o j (vp_nar .boolean x))
    | .lastore => am_pL st fun x r => am_pI r fun i r => am_pR r fun o r => ∃ j n : Nat, am_so h o = some (14, n) ∧ j < n ∧ i = nI j ∧ K nx lv r (am_wL h o j x)
    | .aastore => am_pR st fun x r => am_pI r fun i r => am_pR r fun o r => ∃ j n : Nat, ((am_so h o = some (16, n) ∧ am_so h x = some (5, 0)) ∨ (am_so h o = some (17, n) ∧ am_so h x = some (6, 0))) ∧ j < n ∧ i = nI j ∧ K nx lv r (am_wR h o j (some x))
    | .new _ => am_shl[h.2.2.2.2]? = some (b, 0) ∧ h.2.2.2.2 + 1 ≤ lim ∧ K nx lv (.ref h.2.2.2.2 :: st) (am_nx h)
    | .newarray _ => am_pI st fun i r => ∃ n : Nat, am_shl[h.2.2.2.2]? = some (b, n) ∧ i = nI n ∧ h.2.2.2.2 + 1 ≤ lim ∧ K nx lv (.ref h.2.2.2.2 :: r) (am_nx h)
    | .anewarray _ => am_pI st fun i r => ∃ n : Nat, am_shl[h.2.2.2.2]? = some (b, n) ∧ i = nI n ∧ h.2.2.2.2 + 1 ≤ lim ∧ K nx lv (.ref h.2.2.2.2 :: r) (am_nx h)
    | .arraylength => am_pR st fun o r => (∃ t n : Nat, am_sh h o = some (t, n) ∧ 12 ≤ t ∧ K nx lv (.int (nI n) :: r) h) ∨ (∃ q : Nat, q < 26 ∧ o = 5000000 + q ∧ K nx lv (.int (nI (am_sln.getD q 0)) :: r) h)
    | .invokevirtual _ => match am_pop b [] st with
      | some (As, .ref o :: r) => am_rc h o d ∧ (r.map fun v => v.category).sum ≤ 8 ∧ h.2.2.2.2 + am_al a ≤ lim ∧ cp a (.ref o :: As) h (fun v h' => K nx lv (v.toList ++ r) h')
      | _ => False
    | .invokespecial _ => match am_pop b [] st with
      | some (As, .ref o :: r) => (r.map fun v => v.category).sum ≤ 8 ∧ (bif Nat.beq a 1 then As = [] ∧ K nx lv r h else h.2.2.2.2 + am_al a ≤ lim ∧ cp a (.ref o :: As) h (fun v h' => K nx lv (v.toList ++ r) h'))
      | _ => False
    | .invokestatic _ => match am_pop b [] st with
      | some (As, r) => (r.map fun v => v.category).sum ≤ 8 ∧ h.2.2.2.2 + am_al a ≤ lim ∧ cp a As h (fun v h' => K nx lv (v.toList ++ r) h')
      | _ => False
    | .ireturn => match st with
      | [.int x] => (∃ ty, rt = some ty ∧ narrow ty (.int x) = .int x) ∧ Q (some (.int x)) h
      | _ => False
    | .lreturn => match st with
      | [.long x] => rt = some .long ∧ Q (some (.long x)) h
      | _ => False
    | .return_ => match st with
      | [] => rt = none ∧ Q none h
      | _ => False
    | _ => False
/-- wp: least predicate closed under the rules, weakening built in; E: exits -/
def am_X (cp : am_P) (nL lim : Nat) (rt : Option FieldType) (cod : Nat → Option am_R) (E : Nat → am_V → List Value → am_H → Prop) (Q : am_Q) (pc : Nat) (lv : am_V) (st : List Value) (h : am_H) : Prop :=
  ∀ P : Nat → am_V → List Value → am_H → Prop, (∀ pc lv st h, E pc lv st h → P pc lv st h) → (∀ pc lv st h r K0 Q0, cod pc = some r → am_stp cp nL lim rt pc r lv st h K0 Q0 → (∀ pc lv st h, K0 pc lv st h → P pc lv st h) → (∀ v h, Q0 v h → Q v h) → P pc lv st h) → P pc lv st h
def am_W (cp : am_P) (nL lim : Nat) (rt : Option FieldType) (cod : Nat → Option am_R) (Q : am_Q) (pc : Nat) (lv : am_V) (st : List Value) (h : am_H) : Prop := am_X cp nL lim rt cod (fun _ _ _ _ => False) Q pc lv st h
theorem am_xstep {cp : am_P} {nL lim : Nat} {rt : Option FieldType} {cod : Nat → Option am_R} {E : Nat → am_V → List Value → am_H → Prop} {Q : am_Q} {pc : Nat} {lv : am_V} {st : List Value} {h : am_H} {r : am_R} (hc : cod pc = some r) (hs : am_stp cp nL lim rt pc r lv st h (am_X cp nL lim rt cod E Q) Q) : am_X cp nL lim rt cod E Q pc lv st h :=
  fun P hE hP => hP _ _ _ _ r _ Q hc hs (fun _ _ _ _ k => k P hE hP) (fun _ _ q => q)
theorem am_xexit {cp : am_P} {nL lim : Nat} {rt : Option FieldType} {cod : Nat → Option am_R} {E : Nat → am_V → List Value → am_H → Prop} {Q : am_Q} {pc : Nat} {lv : am_V} {st : List Value} {h : am_H} (he : E pc lv st h) : am_X cp nL lim rt cod E Q pc lv st h :=
  fun _ hE _ => hE _ _ _ _ he
theorem am_step {cp : am_P} {nL lim : Nat} {rt : Option FieldType} {cod : Nat → Option am_R} {Q : am_Q} {pc : Nat} {lv : am_V} {st : List Value} {h : am_H} {r : am_R} (hc : cod pc = some r) (hs : am_stp cp nL lim rt pc r lv st h (am_W cp nL lim rt cod Q) Q) : am_W cp nL lim rt cod Q pc lv st h := am_xstep hc hs
theorem am_X.mono {cp : am_P} {nL lim : Nat} {rt : Option FieldType} {cod : Nat → Option am_R} {E E' : Nat → am_V → List Value → am_H → Prop} {Q Q' : am_Q} {pc : Nat} {lv : am_V} {st : List Value} {h : am_H} (hE : ∀ pc lv st h, E pc lv st h → am_X cp nL lim rt cod E' Q' pc lv st h) (hQ : ∀ v h, Q v h → Q' v h) (k : am_X cp nL lim rt cod E Q pc lv st h) : am_X cp nL lim rt cod E' Q' pc lv st h :=
  fun P hE' hP => k P (fun pc lv st h he => hE pc lv st h he P hE' hP) fun pc lv st h r K0 Q0 hc hs hk hq => hP pc lv st h r K0 Q0 hc hs hk fun v h x => hQ v h (hq v h x)
theorem am_W.mono {cp : am_P} {nL lim : Nat} {rt : Option FieldType} {cod : Nat → Option am_R} {Q Q' : am_Q} {pc : Nat} {lv : am_V} {st : List Value} {h : am_H} (hQ : ∀ v h, Q v h → Q' v h) (k : am_W cp nL lim rt cod Q pc lv st h) : am_W cp nL lim rt cod Q' pc lv st h :=
  am_X.mono (fun _ _ _ _ q => q.elim) hQ k
/-- the locals at a method's entry -/
def am_nL (n : Nat) : Nat := match am_mi[n]? with
  | some q => q.2.2.1
  | none => 0
def am_rt (n : Nat) : Option FieldType := match am_mi[n]? with
  | some q => q.2.2.2
  | none => none
def am_by (n : Nat) : ByteArray := match am_mi[n]? with
  | some q => q.2.1
  | none => ⟨#[]⟩
/-- calls of depth at most d -/
def am_call (cods : Nat → Nat → Option am_R) : Nat → am_P
  | 0 => fun _ _ _ _ => False
  | d + 1 => fun n args h Q => am_call cods d n args h Q ∨ ((lg_sl args).length ≤ am_nL n ∧ am_W (am_call cods d) (am_nL n) (h.2.2.2.2 + am_al n) (am_rt n) (cods n) (fun v h' => h'.2.2.2.2 = h.2.2.2.2 + am_al n ∧ Q v h') 0 (lv_args 0 args) [] h)
theorem am_call.up {cods : Nat → Nat → Option am_R} {d e n : Nat} {args : List Value} {h : am_H} {Q : am_Q} (k : am_call cods d n args h Q) (hd : d ≤ e) : am_call cods e n args h Q := by
  induction hd with
  | refl => exact k
  | step _ ih => exact Or.inl ih
theorem am_call.mono {cods : Nat → Nat → Option am_R} {d n : Nat} {args : List Value} {h : am_H} {Q Q' : am_Q} (hQ : ∀ v h, Q v h → Q' v h) (k : am_call cods d n args h Q) : am_call cods d n args h Q' := by
  induction d with
  | zero => exact k
  | succ d ih => exact k.elim (fun k => Or.inl (ih k)) (fun k => Or.inr ⟨k.1, k.2.mono (fun v h q => ⟨q.1, hQ v h q.2⟩)⟩)
