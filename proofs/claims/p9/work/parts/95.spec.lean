/-! A LIGHT FOOTING: how many objects there are, the references that never change -/
def ex_P (h : am_H) : Prop := h.2.2.2.2 = 175 ∧ ∀ o k r, ag_lk ag_DD.2.2.1 o k = some r → h.2.2.1 o k = some r
theorem ex_175 {h : am_H} (hP : ex_P h) : h.2.2.2.2 = 175 := hP.1
theorem ex_so {h : am_H} (hP : ex_P h) {o : Nat} {e : Nat × Nat} (he : ag_so ag_DD o = some e) : am_so h o = some e ∧ am_sh h o = some e := ag_so_ok (D := ag_DD) ag_DD_sh hP.1 he
theorem ex_lim {h : am_H} (hP : ex_P h) {n : Nat} (hn : am_al n = 0) : h.2.2.2.2 + am_al n ≤ 175 := by
  rw [hP.1, hn]
  exact Nat.le_refl _
theorem ex_G {h : am_H} (h1 : h.2.2.2.2 = 175) (hG : ag_G ag_DD h) : ex_P h := ⟨h1, hG.2.2⟩
/-! WORDS IN TWO PACKINGS -/
def bse (B f : Nat) (r : Nat → Nat) : Nat → Nat
  | 0 => 0
  | n + 1 => B * bse B f r n + (f + r n)
def bsv (r : Nat → Nat) (n : Nat) : Prop := ∀ i, i < n → 1 ≤ r i ∧ r i ≤ 26
theorem bse_lt {B f : Nat} {r : Nat → Nat} (hB : f + 26 < B) : ∀ {n : Nat}, bsv r n → bse B f r n < B ^ n
  | 0, _ => Nat.lt_succ_self 0
  | n + 1, h => by
    have ih := bse_lt hB (n := n) (fun i hi => h i (by omega))
    have hr := h n (by omega)
    have h1 : B * bse B f r n + B ≤ B * B ^ n := by
      rw [← Nat.mul_succ]
      exact Nat.mul_le_mul_left B ih
    show B * bse B f r n + (f + r n) < B ^ n * B
    rw [Nat.mul_comm (B ^ n) B]
    omega
theorem bse_inj {B f : Nat} {r r' : Nat → Nat} (hB : f + 26 < B) : ∀ {n n' : Nat}, bsv r n → bsv r' n' → bse B f r n = bse B f r' n' → n = n' ∧ ∀ i, i < n → r i = r' i
  | 0, 0, _, _, _ => ⟨rfl, fun i hi => absurd hi (Nat.not_lt_zero i)⟩
  | 0, n' + 1, _, h', e => by
    have hr := h' n' (by omega)
    have e : 0 = B * bse B f r' n' + (f + r' n') := e
    omega
  | n + 1, 0, h, _, e => by
    have hr := h n (by omega)
    have e : B * bse B f r n + (f + r n) = 0 := e
    omega
  | n + 1, n' + 1, h, h', e => by
    have hr := h n (by omega)
    have hr' := h' n' (by omega)
    have e : B * bse B f r n + (f + r n) = B * bse B f r' n' + (f + r' n') := e
    have m := congrArg (· % B) e
    simp only [Nat.mul_add_mod] at m
    rw [Nat.mod_eq_of_lt (by omega), Nat.mod_eq_of_lt (by omega)] at m
    have e2 : bse B f r n = bse B f r' n' := Nat.eq_of_mul_eq_mul_left (show 0 < B by omega) (by omega)
    obtain ⟨e3, e4⟩ := bse_inj hB (fun i hi => h i (by omega)) (fun i hi => h' i (by omega)) e2
    refine ⟨by omega, fun i hi => ?_⟩
    by_cases hin : i = n
    · subst hin
      have : n' = i := e3.symm
      subst this
      omega
    · exact e4 i (by omega)
theorem bse_cg {B f : Nat} {r r' : Nat → Nat} : ∀ {n : Nat}, (∀ i, i < n → r i = r' i) → bse B f r n = bse B f r' n
  | 0, _ => rfl
  | n + 1, h => by
    show B * bse B f r n + (f + r n) = B * bse B f r' n + (f + r' n)
    rw [bse_cg (fun i hi => h i (by omega)), h n (by omega)]
theorem i64_inj {x y : Nat} (hx : x < 2 ^ 64) (hy : y < 2 ^ 64) (e : Int64.ofNat x = Int64.ofNat y) : x = y := by
  have e1 : (BitVec.ofNat 64 x).toNat = (BitVec.ofNat 64 y).toNat := congrArg (fun z : Int64 => z.toBitVec.toNat) e
  rw [BitVec.toNat_ofNat, BitVec.toNat_ofNat, Nat.mod_eq_of_lt hx, Nat.mod_eq_of_lt hy] at e1
  exact e1
/-- a word: in base 37, a byte each -/
def cwk (v w : Int64) : Prop := ∃ (n : Nat) (r : Nat → Nat), n ≤ 8 ∧ bsv r n ∧ v = Int64.ofNat (bse 37 0 r n) ∧ w = Int64.ofNat (bse 256 96 r n)
theorem cwk_lt {B f : Nat} {r : Nat → Nat} {n : Nat} (hB : f + 26 < B) (hB2 : B ≤ 256) (hn : n ≤ 8) (h : bsv r n) : bse B f r n < 2 ^ 64 := by
  have h1 := bse_lt hB h
  have h2 : B ^ n ≤ B ^ 8 := Nat.pow_le_pow_right (by omega) hn
  have h3 : B ^ 8 ≤ 256 ^ 8 := Nat.pow_le_pow_left hB2 8
  have h4 : (256 : Nat) ^ 8 = 2 ^ 64 := by decide +kernel
  omega
theorem cwk_inj {v w v' w' : Int64} (h1 : cwk v w) (h2 : cwk v' w') : v = v' ↔ w = w' := by
  obtain ⟨n, r, a1, a2, rfl, rfl⟩ := h1
  obtain ⟨n', r', b1, b2, rfl, rfl⟩ := h2
  constructor
  · intro e
    obtain ⟨e1, e2⟩ := bse_inj (by decide) a2 b2 (i64_inj (cwk_lt (by decide) (by decide) a1 a2) (cwk_lt (by decide) (by decide) b1 b2) e)
    subst e1
    rw [bse_cg e2]
  · intro e
    obtain ⟨e1, e2⟩ := bse_inj (by decide) a2 b2 (i64_inj (cwk_lt (by decide) (by decide) a1 a2) (cwk_lt (by decide) (by decide) b1 b2) e)
    subst e1
    rw [bse_cg e2]
theorem i64_sh {A x : Nat} (hA : A < 2 ^ 56) (hx : x < 256) : ((Int64.ofNat A) <<< (((Int8.ofInt 8).toInt32).toInt64 &&& 63)) ||| Int64.ofNat x = Int64.ofNat (256 * A + x) := by
  apply Int64.toBitVec_inj.mp
  show (BitVec.ofNat 64 A <<< 8) ||| BitVec.ofNat 64 x = BitVec.ofNat 64 (256 * A + x)
  apply BitVec.eq_of_toNat_eq
  rw [BitVec.toNat_or, BitVec.toNat_shiftLeft, BitVec.toNat_ofNat, BitVec.toNat_ofNat, BitVec.toNat_ofNat, Nat.mod_eq_of_lt (show A < 2 ^ 64 by omega), Nat.mod_eq_of_lt (show x < 2 ^ 64 by omega), Nat.mod_eq_of_lt (show 256 * A + x < 2 ^ 64 by omega), Nat.shiftLeft_eq, Nat.mod_eq_of_lt (show A * 2 ^ 8 < 2 ^ 64 by omega)]
  have e := Nat.shiftLeft_add_eq_or_of_lt (show x < 2 ^ 8 by omega) A
  rw [Nat.shiftLeft_eq] at e
  rw [← e]
  omega
/-- a number of at most four digits -/
def cnk (v : Int64) (x : Int32) : Prop := ∃ D : Nat, D ≤ 9999 ∧ v = Int64.ofNat D ∧ x = nI D
/-! WHAT A CANTON'S TEXT SAYS; tokens by their number: kind (0 the end, 1 word, 2 number, 3 sign, 4 none), worth, place -/
abbrev sp_T : Type := Nat → Int32 × Int64 × Nat
/-- persons: names, kinds, lots; events: names, days, needs, guests; snow told, on which days; law told, how long, its parts -/
abbrev sp_C : Type := (Nat × (Nat → Int64) × (Nat → Int32) × (Nat → Int32)) × (Nat × (Nat → Int64) × (Nat → Int32) × (Nat → Int32) × (Nat → Int32)) × (Bool × Int32) × (Bool × Nat × (Nat → Int32))
abbrev sp_S : Type := Nat × sp_C
abbrev sp_R : Type := Sum Int32 sp_S
def sp_b (r : sp_R) (f : sp_S → sp_R) : sp_R := match r with
  | .inl F => .inl F
  | .inr s => f s
def sp_ft (τ : sp_T) (a : Nat) (k : Int32) : Int32 := k + (Int8.ofInt 16).toInt32 * nI (τ a).2.2
def sp_f (τ : sp_T) (a : Nat) (k : Int32) : sp_R := .inl (sp_ft τ a k)
def sp_k (τ : sp_T) (a : Nat) (k : Int32) : Bool := decide ((τ a).1 = k)
def sp_w (τ : sp_T) (a : Nat) (w : Int64) : Bool := sp_k τ a 1 && decide ((τ a).2.1 = w)
def sp_s (τ : sp_T) (a : Nat) (x : Int32) : Bool := sp_k τ a 3 && decide ((τ a).2.1 = x.toInt64)
def sp_rs : List Int64 := [1119812451, 17003, 10492554, 569, 26498531, 6400279, 982151, 375310, 5538, 2083, 30596128, 43567634, 37900956, 488058286, 19741, 1891, 573]
def sp_n (τ : sp_T) (a : Nat) : Bool := sp_k τ a 1 && sp_rs.all (fun w => !decide ((τ a).2.1 = w))
def sp_v (τ : sp_T) (a : Nat) : Int32 := (τ a).2.1.toInt32
def sp_uI (f : Nat → Int32) (k : Nat) (v : Int32) : Nat → Int32 := fun i => if i = k then v else f i
def sp_uL (f : Nat → Int64) (k : Nat) (v : Int64) : Nat → Int64 := fun i => if i = k then v else f i
/-- the first of so many, from one on, that is v -/
def sp_fd (f : Nat → Int64) (v : Int64) : Nat → Nat → Option Nat
  | 0, _ => none
  | m + 1, i => bif decide (f i = v) then some i else sp_fd f v m (i + 1)
def sp_pf (C : sp_C) (v : Int64) : Option Nat := sp_fd C.1.2.1 v C.1.1 0
def sp_ef (C : sp_C) (v : Int64) : Option Nat := sp_fd C.2.1.2.1 v C.2.1.1 0
def sp_tS (τ : sp_T) (x : Int32) (s : sp_S) : sp_R := bif sp_s τ s.1 x then .inr (s.1 + 1, s.2) else sp_f τ s.1 (Int32.ofInt 1)
def sp_tW (τ : sp_T) (w : Int64) (s : sp_S) : sp_R := bif sp_w τ s.1 w then .inr (s.1 + 1, s.2) else sp_f τ s.1 (Int32.ofInt 1)
def sp_in (τ : sp_T) (a : Nat) (lo hi : Int32) : Bool := decide (lo ≤ sp_v τ a) && decide (sp_v τ a ≤ hi)
def sp_tN (τ : sp_T) (lo hi : Int32) (s : sp_S) : sp_R := bif sp_k τ s.1 2 then (bif sp_in τ s.1 lo hi then .inr s else sp_f τ s.1 (Int32.ofInt 4)) else sp_f τ s.1 (Int32.ofInt 1)
def sp_fn (τ : sp_T) (s : sp_S) : sp_R := bif sp_n τ s.1 then (bif (sp_pf s.2 (τ s.1).2.1).isSome || (sp_ef s.2 (τ s.1).2.1).isSome then sp_f τ s.1 (Int32.ofInt 3) else .inr s) else sp_f τ s.1 (Int32.ofInt 1)
def sp_kd (τ : sp_T) (a : Nat) : Option Int32 := bif sp_w τ a 30596128 then some 0 else bif sp_w τ a 43567634 then some 1 else bif sp_w τ a 37900956 then some 2 else bif sp_w τ a 488058286 then some 3 else none
def sp_cP (C : sp_C) (v : Int64) (k l : Int32) : sp_C := ((C.1.1 + 1, sp_uL C.1.2.1 C.1.1 v, sp_uI C.1.2.2.1 C.1.1 k, sp_uI C.1.2.2.2 C.1.1 l), C.2)
def sp_cE (C : sp_C) (v : Int64) (d n : Int32) : sp_C := (C.1, (C.2.1.1 + 1, sp_uL C.2.1.2.1 C.2.1.1 v, sp_uI C.2.1.2.2.1 C.2.1.1 d, sp_uI C.2.1.2.2.2.1 C.2.1.1 n, sp_uI C.2.1.2.2.2.2 C.2.1.1 0), C.2.2)
def sp_cG (C : sp_C) (e p : Nat) : sp_C := (C.1, (C.2.1.1, C.2.1.2.1, C.2.1.2.2.1, C.2.1.2.2.2.1, sp_uI C.2.1.2.2.2.2 e (C.2.1.2.2.2.2 e ||| ((Int32.ofInt 1) <<< (nI p &&& 31)))), C.2.2)
def sp_cS (C : sp_C) (b : Bool) (s : Int32) : sp_C := (C.1, C.2.1, (b, s), C.2.2.2)
def sp_cL (C : sp_C) : sp_C := (C.1, C.2.1, C.2.2.1, (true, C.2.2.2.2))
def sp_em (C : sp_C) (x : Int32) : sp_C := (C.1, C.2.1, C.2.2.1, (C.2.2.2.1, C.2.2.2.2.1 + 1, sp_uI C.2.2.2.2.2 C.2.2.2.2.1 x))
def sp_bit (x : Int32) (i : Int32) : Bool := decide (¬ ((x >>> (i &&& 31)) &&& Int32.ofInt 1) = 0)
def sp_person (τ : sp_T) (s : sp_S) : sp_R := bif Nat.ble 6 s.2.1.1 then sp_f τ s.1 (Int32.ofInt 5) else
  sp_b (sp_fn τ (s.1 + 1, s.2)) fun s1 => match sp_kd τ (s1.1 + 1) with
    | none => sp_f τ (s1.1 + 1) (Int32.ofInt 1)
    | some k => sp_b (sp_tW τ 17003 (s1.1 + 1 + 1, s1.2)) fun s2 => sp_b (sp_tN τ (Int32.ofInt 0) (Int32.ofInt 4) s2) fun s3 => sp_tS τ (Int8.ofInt 59).toInt32 (s3.1 + 1, sp_cP s3.2 (τ s1.1).2.1 k (sp_v τ s3.1))
def sp_event (τ : sp_T) (s : sp_S) : sp_R := bif Nat.ble 5 s.2.2.1.1 then sp_f τ s.1 (Int32.ofInt 5) else
  sp_b (sp_fn τ (s.1 + 1, s.2)) fun s1 => sp_b (sp_tW τ 569 (s1.1 + 1, s1.2)) fun s2 => sp_b (sp_tN τ (Int32.ofInt 0) (Int8.ofInt 6).toInt32 s2) fun s3 => sp_b (sp_tW τ 26498531 (s3.1 + 1, s3.2)) fun s4 => sp_b (sp_tN τ (Int32.ofInt 1) (Int8.ofInt 6).toInt32 s4) fun s5 =>
    sp_tS τ (Int8.ofInt 59).toInt32 (s5.1 + 1, sp_cE s5.2 (τ s1.1).2.1 (sp_v τ s3.1) (sp_v τ s5.1))
def sp_comes (τ : sp_T) (s : sp_S) : sp_R := bif sp_n τ (s.1 + 1) then (match sp_pf s.2 (τ (s.1 + 1)).2.1 with
    | none => sp_f τ (s.1 + 1) (Int32.ofInt 2)
    | some p => bif sp_n τ (s.1 + 1 + 1) then (match sp_ef s.2 (τ (s.1 + 1 + 1)).2.1 with
        | none => sp_f τ (s.1 + 1 + 1) (Int32.ofInt 2)
        | some e => bif sp_bit (s.2.2.1.2.2.2.2 e) (nI p) then sp_f τ (s.1 + 1 + 1) (Int32.ofInt 3) else sp_tS τ (Int8.ofInt 59).toInt32 (s.1 + 1 + 1 + 1, sp_cG s.2 e p)) else sp_f τ (s.1 + 1 + 1) (Int32.ofInt 1)) else sp_f τ (s.1 + 1) (Int32.ofInt 1)
/-- how many of 28 bits are 1 -/
def sp_pc (x : Int32) : Nat → Nat
  | 0 => 0
  | m + 1 => sp_pc x m + (bif sp_bit x (nI m) then 1 else 0)
def sp_sd (τ : sp_T) (s : sp_S) : sp_R := bif sp_k τ s.1 2 then (bif sp_in τ s.1 (Int32.ofInt 0) (Int8.ofInt 27).toInt32 then (bif sp_bit s.2.2.2.1.2 (sp_v τ s.1) then sp_f τ s.1 (Int32.ofInt 3) else bif Nat.ble 8 (sp_pc s.2.2.2.1.2 28) then sp_f τ s.1 (Int32.ofInt 5) else .inr (s.1 + 1, sp_cS s.2 s.2.2.2.1.1 (s.2.2.2.1.2 ||| ((Int32.ofInt 1) <<< (sp_v τ s.1 &&& 31))))) else sp_f τ s.1 (Int32.ofInt 4)) else sp_f τ s.1 (Int32.ofInt 1)
def sp_sl (τ : sp_T) : Nat → sp_S → sp_R
  | 0, s => .inr s
  | m + 1, s => bif sp_k τ s.1 2 then sp_b (sp_sd τ s) (sp_sl τ m) else .inr s
def sp_snow (τ : sp_T) (s : sp_S) : sp_R := bif s.2.2.2.1.1 then sp_f τ s.1 (Int32.ofInt 3) else sp_b (sp_sd τ (s.1 + 1, sp_cS s.2 true s.2.2.2.1.2)) fun s1 => sp_b (sp_sl τ 1001 s1) (sp_tS τ (Int8.ofInt 59).toInt32)
/-- the law: by what a PART is -/
def sp_pL (τ : sp_T) (p : sp_S → sp_R) : Nat → sp_S → sp_R
  | 0, s => .inr s
  | m + 1, s => bif sp_s τ s.1 (Int8.ofInt 42).toInt32 then sp_b (p (s.1 + 1, s.2)) (fun t => sp_pL τ p m (t.1, sp_em t.2 ((Int8.ofInt (-12)).toInt32))) else .inr s
def sp_p (τ : sp_T) (p : sp_S → sp_R) (s : sp_S) : sp_R := sp_b (p s) (sp_pL τ p 1001)
def sp_sL (τ : sp_T) (p : sp_S → sp_R) : Nat → sp_S → sp_R
  | 0, s => .inr s
  | m + 1, s => bif sp_s τ s.1 (Int8.ofInt 43).toInt32 then sp_b (sp_p τ p (s.1 + 1, s.2)) (fun t => sp_sL τ p m (t.1, sp_em t.2 ((Int8.ofInt (-10)).toInt32))) else bif sp_s τ s.1 (Int8.ofInt 45).toInt32 then sp_b (sp_p τ p (s.1 + 1, s.2)) (fun t => sp_sL τ p m (t.1, sp_em t.2 ((Int8.ofInt (-11)).toInt32))) else .inr s
def sp_su (τ : sp_T) (p : sp_S → sp_R) (s : sp_S) : sp_R := sp_b (sp_p τ p s) (sp_sL τ p 1001)
def sp_te (τ : sp_T) (p : sp_S → sp_R) (s : sp_S) : sp_R := sp_b (sp_su τ p s) fun t => bif sp_s τ t.1 (Int8.ofInt 60).toInt32 then sp_b (sp_su τ p (t.1 + 1, t.2)) (fun u => .inr (u.1, sp_em u.2 ((Int8.ofInt (-8)).toInt32))) else bif sp_s τ t.1 (Int8.ofInt 61).toInt32 then sp_b (sp_su τ p (t.1 + 1, t.2)) (fun u => .inr (u.1, sp_em u.2 ((Int8.ofInt (-9)).toInt32))) else .inr t
def sp_wL (τ : sp_T) (p : sp_S → sp_R) : Nat → sp_S → sp_R
  | 0, s => .inr s
  | m + 1, s => bif sp_w τ s.1 1891 then sp_b (sp_te τ p (s.1 + 1, s.2)) (fun t => sp_wL τ p m (t.1, sp_em t.2 ((Int8.ofInt (-6)).toInt32))) else bif sp_w τ s.1 573 then sp_b (sp_te τ p (s.1 + 1, s.2)) (fun t => sp_wL τ p m (t.1, sp_em t.2 ((Int8.ofInt (-7)).toInt32))) else .inr s
def sp_wh (τ : sp_T) (p : sp_S → sp_R) (s : sp_S) : sp_R := sp_b (sp_te τ p s) (sp_wL τ p 1001)
/-- a fact: off, week, met, white -/
def sp_fa (τ : sp_T) (a : Nat) : Int32 := bif sp_w τ a 20763 then Int32.ofInt (-1) else bif sp_w τ a 1172060 then (Int8.ofInt (-2)).toInt32 else bif sp_w τ a 18002 then (Int8.ofInt (-3)).toInt32 else bif sp_w τ a 43523993 then (Int8.ofInt (-4)).toInt32 else Int32.ofInt 0
def sp_pt (τ : sp_T) : Nat → sp_S → sp_R
  | 0, s => bif decide (sp_fa τ s.1 = 0) && (!sp_k τ s.1 2 && (!sp_w τ s.1 19741 && !sp_s τ s.1 (Int8.ofInt 40).toInt32)) then sp_f τ s.1 (Int32.ofInt 1) else sp_f τ s.1 (Int32.ofInt 5)
  | d + 1, s => bif decide (sp_fa τ s.1 = 0) && (!sp_k τ s.1 2 && (!sp_w τ s.1 19741 && !sp_s τ s.1 (Int8.ofInt 40).toInt32)) then sp_f τ s.1 (Int32.ofInt 1) else
    bif sp_k τ s.1 2 then .inr (s.1 + 1, sp_em s.2 (sp_v τ s.1)) else bif !decide (sp_fa τ s.1 = 0) then .inr (s.1 + 1, sp_em s.2 (sp_fa τ s.1)) else
    bif sp_w τ s.1 19741 then sp_b (sp_pt τ d (s.1 + 1, s.2)) (fun t => .inr (t.1, sp_em t.2 ((Int8.ofInt (-5)).toInt32))) else sp_b (sp_wh τ (sp_pt τ d) (s.1 + 1, s.2)) (sp_tS τ (Int8.ofInt 41).toInt32)
def sp_goes (τ : sp_T) (s : sp_S) : sp_R := bif s.2.2.2.2.1 then sp_f τ s.1 (Int32.ofInt 3) else sp_b (sp_wh τ (sp_pt τ 5) (s.1 + 1, sp_cL s.2)) (sp_tS τ (Int8.ofInt 59).toInt32)
def sp_line (τ : sp_T) (s : sp_S) : sp_R := bif sp_w τ s.1 1119812451 then sp_person τ s else bif sp_w τ s.1 10492554 then sp_event τ s else bif sp_w τ s.1 6400279 then sp_comes τ s else bif sp_w τ s.1 982151 then sp_snow τ s else bif sp_w τ s.1 375310 then sp_goes τ s else sp_f τ s.1 (Int32.ofInt 1)
def sp_all (τ : sp_T) : Nat → sp_S → sp_R
  | 0, s => .inr s
  | m + 1, s => bif sp_k τ s.1 0 then .inr s else sp_b (sp_line τ s) (sp_all τ m)
def sp_C0 : sp_C := ((0, fun _ => 0, fun _ => 0, fun _ => 0), (0, fun _ => 0, fun _ => 0, fun _ => 0, fun _ => 0), (false, 0), (false, 0, fun _ => 0))
def sp_canton (τ : sp_T) : sp_R := sp_all τ 1001 (0, sp_C0)
/-- what canton answers -/
def sp_ans (r : sp_R) : Int32 := match r with
  | .inl F => F
  | .inr _ => 0
