/-! BOTH DAYS ARE ONE -/
/-- what a state keeps: days told, lots 0 to 4, whom one has met is told, no more events than there are -/
def sI (C : sp_C) (D : Nat) (s : dS) : Prop := (∃ d, d ≤ D ∧ s.1 = nI d) ∧ (∀ p, p < dP C → ∃ l, l < 5 ∧ s.2.2.1 p = nI l) ∧ (∀ i, bN (s.2.2.2.1 i) < 2 ^ dP C ∧ (dP C ≤ i → s.2.2.2.1 i = 0)) ∧ (∀ e, dE C ≤ e → s.2.2.2.2.1 e = 0 ∧ s.2.2.2.2.2 e = 0) ∧ (∀ e, bN (s.2.2.2.2.2 e) < 2 ^ dP C)
theorem b01 (x : Int32) : x &&& Int32.ofInt 1 = Int32.ofInt 0 ∨ x &&& Int32.ofInt 1 = Int32.ofInt 1 := by
  have h : bN (x &&& Int32.ofInt 1) = bN x % 2 := by
    rw [bN_and, show bN (Int32.ofInt 1) = 1 by decide, Nat.and_one_is_mod]
  have h2 := Nat.mod_two_eq_zero_or_one (bN x)
  rcases h2 with w | w
  · exact Or.inl (bN_inj (by rw [h, w]; decide))
  · exact Or.inr (bN_inj (by rw [h, w]; decide))
theorem d_65_v (x y : Int32) : d_65 x y = (x >>> (y &&& 31)) &&& Int32.ofInt 1 := by
  unfold d_65
  rcases b01 (x >>> (y &&& 31)) with w | w
  · rw [w]; rfl
  · rw [w]; rfl
theorem d_68_e (C : sp_C) (x : Int32) : d_68 C x = d_224 C x := by
  unfold d_68 d_224
  exact d_65_v _ _
theorem d_224_01 (C : sp_C) (x : Int32) : d_224 C x = Int32.ofInt 0 ∨ d_224 C x = Int32.ofInt 1 := b01 _
/-- a bit of x, as the reference asks -/
theorem bit_1 (x y : Int32) : ((x >>> (y &&& 31)) &&& Int32.ofInt 1 = Int32.ofInt 1) ↔ sp_bit x y = true := by
  unfold sp_bit
  rcases b01 (x >>> (y &&& 31)) with w | w
  · rw [w]
    exact ⟨fun z => absurd z (by decide), fun z => absurd (of_decide_eq_true z) (fun q => q rfl)⟩
  · rw [w]
    exact ⟨fun _ => by decide, fun _ => rfl⟩
/-- bits counted, both ways -/
theorem bc_e : ∀ n, n < 64 → d_69 (nI n) = d_235 (nI n) := by decide +kernel
theorem nI_bN {x : Int32} {m : Nat} (h : bN x < m) (hm : m ≤ 4096) : x = nI (bN x) := bN_inj (by rw [bN_nI (by omega)])
theorem bc_x {x : Int32} (h : bN x < 64) : d_69 x = d_235 x := by
  rw [nI_bN h (by decide)]
  exact bc_e _ h
theorem p64 {n : Nat} (h : n ≤ 6) : 2 ^ n ≤ 64 := Nat.pow_le_pow_right (i := n) (j := 6) (show 2 > 0 by decide) h
/-- what day of the week it is to one -/
theorem k90 : ∀ i, i < 68 → ∀ j, j < 64 → d_90 (nI (64 * i + j)) = nI ((64 * i + j) % 7) ∧ nI (64 * i + j) - nI (64 * i + j) / (Int8.ofInt 7).toInt32 * (Int8.ofInt 7).toInt32 = nI ((64 * i + j) % 7) := by decide +kernel
theorem k90a {a : Nat} (ha : a < 4352) : d_90 (nI a) = nI (a % 7) ∧ nI a - nI a / (Int8.ofInt 7).toInt32 * (Int8.ofInt 7).toInt32 = nI (a % 7) := by
  have h := k90 (a / 64) (by omega) (a % 64) (by omega)
  rw [show 64 * (a / 64) + a % 64 = a by omega] at h
  exact h
theorem k90b : ∀ d, d < 2 → ∀ l, l < 2 → d_90 (nI d + (nI l - Int32.ofInt 2)) = nI ((d + l + 5) % 7) := by decide +kernel
theorem to_1 {d l : Nat} (hd : d ≤ 4200) (hl : l < 5) : d_90 (nI d + (nI l - Int32.ofInt 2)) = nI ((d + l + 5) % 7) := by
  by_cases h : 2 ≤ d + l
  · have e : nI d + (nI l - Int32.ofInt 2) = nI (d + l - 2) := by
      rw [show nI d + (nI l - Int32.ofInt 2) = (nI d + nI l) - Int32.ofInt 2 by rw [Int32.sub_eq_add_neg, Int32.sub_eq_add_neg, Int32.add_assoc], nI_add]
      exact dn_s h rfl rfl
    rw [e, (k90a (by omega)).1]
    congr 1
    omega
  · exact k90b d (by omega) l (by omega)
theorem to_2 {d l : Nat} (hd : d ≤ 4200) (hl : l < 5) : d_225 (nI d) (nI l - Int32.ofInt 2) (Int32.ofInt 0) = nI ((d + l + 5) % 7) := by
  unfold d_225
  rw [if_pos (by decide)]
  have e : (nI d + (nI l - Int32.ofInt 2)) + (Int8.ofInt 7).toInt32 = nI (d + l + 5) := by
    rw [show nI d + (nI l - Int32.ofInt 2) = (nI d + nI l) - Int32.ofInt 2 by rw [Int32.sub_eq_add_neg, Int32.sub_eq_add_neg, Int32.add_assoc], nI_add, show (Int8.ofInt 7).toInt32 = Int32.ofInt 2 + nI 5 by decide, ← Int32.add_assoc, Int32.sub_add_cancel, nI_add]
  rw [e, (k90a (by omega)).2]
theorem to_e {C : sp_C} {D : Nat} {s : dS} (hs : sI C D s) (hD : D ≤ 4200) {p : Nat} (hp : p < dP C) {w : Int32} (hw : w = Int32.ofInt 0 ∨ w = Int32.ofInt 1) : d_88 C s p w = d_225 s.1 (d_223 C s p) w := by
  obtain ⟨⟨d, hd, e1⟩, hl, -⟩ := hs
  obtain ⟨l, l5, e2⟩ := hl p hp
  have z : nI d + Int32.ofInt 0 = nI d := xw_i0 d
  unfold d_88 d_89 d_223
  rw [e1, e2]
  rcases hw with rfl | rfl
  · rw [if_pos (show Int32.ofInt 0 = 0 from rfl)]
    by_cases hk : ¬ dK C p = Int32.ofInt 3
    · rw [if_pos hk, to_1 (by omega) l5, to_2 (by omega) l5]
    · rw [if_neg hk, z, (k90a (by omega)).1]
      unfold d_225
      rw [if_pos (by decide), z]
      have e : nI d + (Int8.ofInt 7).toInt32 = nI (d + 7) := nI_add d 7
      rw [e, (k90a (by omega)).2]
      congr 1
      omega
  · rw [if_neg (show ¬ Int32.ofInt 1 = 0 by decide), z, (k90a (by omega)).1]
    unfold d_225
    rw [if_neg (show ¬ ¬ Int32.ofInt 1 = Int32.ofInt 1 from fun q => q rfl), (k90a (by omega)).2]
/-- whether one would come on such a day of the week -/
def dwc (C : sp_C) (p e : Nat) (y : Int32) : Bool := sp_bit (dG C e) (nI p) && !decide (d_103 (dK C p) (dW C e) y = 0)
theorem d_102_b {C : sp_C} {p : Nat} {y : Int32} : ∀ (m k : Nat) (a : Int32), k + m ≤ 5 → ∀ e, e < 5 → sp_bit (d_102_5 C p y m k a) (nI e) = (sp_bit a (nI e) || (decide (k ≤ e ∧ e < k + m) && dwc C p e y)) := by
  intro m
  induction m with
  | zero =>
    intro k a hk e he
    rw [decide_eq_false (by omega), Bool.false_and, Bool.or_false]
    rfl
  | succ m ih =>
    intro k a hk e he
    have stp : d_102_5 C p y (m + 1) k a = d_102_5 C p y m (k + 1) (if dwc C p k y = true then a ||| ((Int32.ofInt 1) <<< ((nI k) &&& 31)) else a) := by
      rw [d_102_5]
      unfold dwc
      by_cases h1 : sp_bit (dG C k) (nI p) = false
      · rw [if_pos (by rw [d_65_b]; exact h1), h1, Bool.false_and, if_neg (by decide)]
      · rw [if_neg (by rw [d_65_b]; exact h1)]
        have h1 : sp_bit (dG C k) (nI p) = true := by
          cases h : sp_bit (dG C k) (nI p) with
          | true => rfl
          | false => exact absurd h h1
        by_cases h2 : d_103 (dK C p) (dW C k) y = 0
        · rw [if_pos h2, h1, decide_eq_true h2, if_neg (by decide)]
        · rw [if_neg h2, h1, decide_eq_false h2, if_pos (by decide)]
    rw [stp, ih (k + 1) _ (by omega) e he]
    have hd : e = k ∨ decide (k + 1 ≤ e ∧ e < k + 1 + m) = decide (k ≤ e ∧ e < k + (m + 1)) := by
      by_cases ek : e = k
      · exact Or.inl ek
      · exact Or.inr (decide_eq_decide.mpr (by omega))
    rcases hd with ek | hd
    · rw [ek, decide_eq_false (show ¬ (k + 1 ≤ k ∧ k < k + 1 + m) by omega), decide_eq_true (show k ≤ k ∧ k < k + (m + 1) by omega), Bool.false_and, Bool.or_false, Bool.true_and]
      cases hb : dwc C p k y with
      | true => rw [if_pos rfl, bit_or (by omega) (by omega), decide_eq_true rfl]
      | false => rw [if_neg (by decide), Bool.or_false]
    · rw [hd]
      cases hb : dwc C p k y with
      | true =>
        rw [if_pos rfl, bit_or (by omega) (by omega)]
        by_cases ek : k = e
        · rw [decide_eq_true ek, ← ek, hb, decide_eq_true (show k ≤ k ∧ k < k + (m + 1) by omega)]
          simp only [Bool.or_true, Bool.true_and, Bool.true_or]
        · rw [decide_eq_false ek, Bool.or_false]
      | false => rw [if_neg (by decide)]
theorem d_102_v {C : sp_C} {p e : Nat} {y : Int32} (h5 : dE C ≤ 5) (he : e < dE C) : (((d_102 C p y) >>> ((nI e) &&& 31)) &&& (Int32.ofInt 1)) = if dwc C p e y = true then Int32.ofInt 1 else Int32.ofInt 0 := by
  have h := d_102_b (C := C) (p := p) (y := y) (dE C) 0 (Int32.ofInt 0) (by omega) e (by omega)
  have key : ∀ e, e < 5 → sp_bit (Int32.ofInt 0) (nI e) = false := by decide +kernel
  rw [key e (by omega), Bool.false_or, decide_eq_true (show 0 ≤ e ∧ e < 0 + dE C by omega), Bool.true_and] at h
  cases hb : dwc C p e y with
  | true => rw [if_pos rfl]; exact (bit_1 _ _).mpr (h.trans hb)
  | false =>
    rw [if_neg (by decide)]
    rcases b01 ((d_102 C p y) >>> ((nI e) &&& 31)) with w | w
    · exact w
    · have w := (bit_1 _ _).mp w
      have h : sp_bit (d_102 C p y) (nI e) = _ := h
      rw [h, hb] at w
      cases w
theorem d_102_0 {C : sp_C} {p : Nat} {y : Int32} (h5 : dE C ≤ 5) (h : d_102 C p y = 0) {e : Nat} (he : e < dE C) : dwc C p e y = false := by
  have w := d_102_v (p := p) (y := y) h5 he
  rw [h] at w
  cases hb : dwc C p e y with
  | false => rfl
  | true =>
    rw [hb, if_pos rfl] at w
    have key : ∀ e, e < 5 → ¬ ((0 : Int32) >>> ((nI e) &&& 31)) &&& (Int32.ofInt 1) = Int32.ofInt 1 := by decide +kernel
    exact absurd w (key e (by omega))
/-- one comes, as the class says and as the reference says -/
theorem come_e {C V : sp_C} {D : Nat} {s : dS} (hc : cI C) (hs : sI C D s) (hD : D ≤ 4200) {p e : Nat} (hp : p < dP C) (he : e < dE C) (hV : dW V e = dW C e) {w : Int32} (hw : w = Int32.ofInt 0 ∨ w = Int32.ofInt 1) : (d_238 C V s p e w = 0) ↔ dwc C p e (d_88 C s p w) = false := by
  have hb : (d_229 C p (nI e) = 0) ↔ sp_bit (dG C e) (nI p) = false := by
    unfold d_229
    have hB := (dB_b (C := C) (p := p) hc.1.2).2 e (by have := hc.1.2; omega)
    rw [decide_eq_true he, Bool.true_and] at hB
    by_cases h : ((dB C p) >>> ((nI e) &&& 31)) &&& (Int32.ofInt 1) = Int32.ofInt 1
    · rw [if_neg (fun z => z h)]
      have := (bit_1 _ _).mp h
      rw [hB] at this
      rw [this]
      exact ⟨fun z => absurd z (by decide), fun z => by cases z⟩
    · rw [if_pos h]
      refine ⟨fun _ => ?_, fun _ => rfl⟩
      cases hx : sp_bit (dG C e) (nI p) with
      | false => rfl
      | true => exact absurd ((bit_1 _ _).mpr (hB.trans hx)) h
  unfold d_238 dwc
  rw [← to_e hs hD hp hw, hV]
  by_cases h1 : d_229 C p (nI e) = 0
  · rw [if_pos h1, hb.mp h1, Bool.false_and]
    exact ⟨fun _ => rfl, fun _ => rfl⟩
  · rw [if_neg h1]
    have hx : sp_bit (dG C e) (nI p) = true := by
      cases hx : sp_bit (dG C e) (nI p) with
      | true => rfl
      | false => exact absurd (hb.mpr hx) h1
    rw [hx, Bool.true_and]
    generalize d_88 C s p w = y
    unfold d_103
    obtain ⟨k, hk, ek⟩ := (hc.2.1 p hp).1
    have k4 : k = 0 ∨ k = 1 ∨ k = 2 ∨ k = 3 := by omega
    rw [ek]
    generalize dW C e = on
    rcases k4 with rfl | rfl | rfl | rfl <;> by_cases e1 : y = on <;> by_cases e2 : on = Int32.ofInt 1 <;> by_cases e3 : y = ((on + (Int32.ofInt 1)) - (on + (Int32.ofInt 1)) / ((Int8.ofInt 7).toInt32) * ((Int8.ofInt 7).toInt32)) <;> simp [e1, e2, e3, nI] <;> first | decide | exact ⟨fun f b a => f a b, fun f a b => f b a⟩
