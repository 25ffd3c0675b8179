section
/-! BOTH DAYS ARE ONE -/
/-- what a state keeps: days told, lots 0 to 4, whom one has met is told, no more events than there are -/
def sI (C : sp_C) (D : Nat) (s : dS) : Prop := (∃ d, d ≤ D ∧ s.1 = nI d) ∧ (∀ p, p < dP C → ∃ l, l < 5 ∧ s.2.2.1 p = nI l) ∧ (∀ i, bN (s.2.2.2.1 i) < 2 ^ dP C ∧ (dP C ≤ i → s.2.2.2.1 i = 0)) ∧ (∀ e, dE C ≤ e → s.2.2.2.2.1 e = 0 ∧ s.2.2.2.2.2 e = 0) ∧ (∀ e, bN (s.2.2.2.2.2 e) < 2 ^ dP C)
theorem b01 (x : Int32) : x &&& Int32.ofInt 1 = Int32.ofInt 0 ∨ x &&& Int32.ofInt 1 = Int32.ofInt 1 := by
  have h : bN (x &&& Int32.ofInt 1) = bN x % 2 := by
    rw [bN_and, show bN (Int32.ofInt 1) = 1 by decide, Nat.and_one_is_mod]
  have h2 := Nat.mod_two_eq_zero_or_one (bN x)
  rcases h2 with w | w
  · exact Or.inl (bN_inj (by rw [h, w]; decide))
  · exact Or.inr (bN_inj (by rw [h, w]; decide))
theorem d_65_v (x y : Int32) : d_65 x y = (x >>> (y &&& 31)) &&& Int32.ofInt 1 := by
  unfold d_65
  rcases b01 (x >>> (y &&& 31)) with w | w
  · rw [w]; rfl
  · rw [w]; rfl
theorem d_68_e (C : sp_C) (x : Int32) : d_68 C x = d_224 C x := by
  unfold d_68 d_224
  exact d_65_v _ _
theorem d_224_01 (C : sp_C) (x : Int32) : d_224 C x = Int32.ofInt 0 ∨ d_224 C x = Int32.ofInt 1 := b01 _
/-- a bit of x, as the reference asks -/
theorem bit_1 (x y : Int32) : ((x >>> (y &&& 31)) &&& Int32.ofInt 1 = Int32.ofInt 1) ↔ sp_bit x y = true := by
  unfold sp_bit
  rcases b01 (x >>> (y &&& 31)) with w | w
  · rw [w]
    exact ⟨fun z => absurd z (by decide), fun z => absurd (of_decide_eq_true z) (fun q => q rfl)⟩
  · rw [w]
    exact ⟨fun _ => by decide, fun _ => rfl⟩
/-- bits counted, both ways -/
theorem bc_e : ∀ n, n < 64 → d_69 (nI n) = d_235 (nI n) := by decide +kernel
theorem nI_bN {x : Int32} {m : Nat} (h : bN x < m) (hm : m ≤ 4096) : x = nI (bN x) := bN_inj (by rw [bN_nI (by omega)])
theorem bc_x {x : Int32} (h : bN x < 64) : d_69 x = d_235 x := by
  rw [nI_bN h (by decide)]
  exact bc_e _ h
theorem p64 {n : Nat} (h : n ≤ 6) : 2 ^ n ≤ 64 := Nat.pow_le_pow_right (i := n) (j := 6) (show 2 > 0 by decide) h
/-- what day of the week it is to one -/
theorem k90 : ∀ i, i < 68 → ∀ j, j < 64 → d_90 (nI (64 * i + j)) = nI ((64 * i + j) % 7) ∧ nI (64 * i + j) - nI (64 * i + j) / (Int8.ofInt 7).toInt32 * (Int8.ofInt 7).toInt32 = nI ((64 * i + j) % 7) := by decide +kernel
theorem k90a {a : Nat} (ha : a < 4352) : d_90 (nI a) = nI (a % 7) ∧ nI a - nI a / (Int8.ofInt 7).toInt32 * (Int8.ofInt 7).toInt32 = nI (a % 7) := by
  have h := k90 (a / 64) (by omega) (a % 64) (by omega)
  rw [show 64 * (a / 64) + a % 64 = a by omega] at h
  exact h
theorem k90b : ∀ d, d < 2 → ∀ l, l < 2 → d_90 (nI d + (nI l - Int32.ofInt 2)) = nI ((d + l + 5) % 7) := by decide +kernel
theorem to_1 {d l : Nat} (hd : d ≤ 4200) (hl : l < 5) : d_90 (nI d + (nI l - Int32.ofInt 2)) = nI ((d + l + 5) % 7) := by
  by_cases h : 2 ≤ d + l
  · have e : nI d + (nI l - Int32.ofInt 2) = nI (d + l - 2) := by
      rw [show nI d + (nI l - Int32.ofInt 2) = (nI d + nI l) - Int32.ofInt 2 by rw [Int32.sub_eq_add_neg, Int32.sub_eq_add_neg, Int32.add_assoc], nI_add]
      exact dn_s h rfl rfl
    rw [e, (k90a (by omega)).1]
    congr 1
    omega
  · exact k90b d (by omega) l (by omega)
theorem to_2 {d l : Nat} (hd : d ≤ 4200) (hl : l < 5) : d_225 (nI d) (nI l - Int32.ofInt 2) (Int32.ofInt 0) = nI ((d + l + 5) % 7) := by
  unfold d_225
  rw [if_pos (by decide)]
  have e : (nI d + (nI l - Int32.ofInt 2)) + (Int8.ofInt 7).toInt32 = nI (d + l + 5) := by
    rw [show nI d + (nI l - Int32.ofInt 2) = (nI d + nI l) - Int32.ofInt 2 by rw [Int32.sub_eq_add_neg, Int32.sub_eq_add_neg, Int32.add_assoc], nI_add, show (Int8.ofInt 7).toInt32 = Int32.ofInt 2 + nI 5 by decide, ← Int32.add_assoc, Int32.sub_add_cancel, nI_add]
  rw [e, (k90a (by omega)).2]
theorem to_e {C : sp_C} {D : Nat} {s : dS} (hs : sI C D s) (hD : D ≤ 4200) {p : Nat} (hp : p < dP C) {w : Int32} (hw : w = Int32.ofInt 0 ∨ w = Int32.ofInt 1) : d_88 C s p w = d_225 s.1 (d_223 C s p) w := by
  obtain ⟨⟨d, hd, e1⟩, hl, -⟩ := hs
  obtain ⟨l, l5, e2⟩ := hl p hp
  have z : nI d + Int32.ofInt 0 = nI d := xw_i0 d
  unfold d_88 d_89 d_223
  rw [e1, e2]
  rcases hw with rfl | rfl
  · rw [if_pos (show Int32.ofInt 0 = 0 from rfl)]
    by_cases hk : ¬ dK C p = Int32.ofInt 3
    · rw [if_pos hk, to_1 (by omega) l5, to_2 (by omega) l5]
    · rw [if_neg hk, z, (k90a (by omega)).1]
      unfold d_225
      rw [if_pos (by decide), z]
      have e : nI d + (Int8.ofInt 7).toInt32 = nI (d + 7) := nI_add d 7
      rw [e, (k90a (by omega)).2]
      congr 1
      omega
  · rw [if_neg (show ¬ Int32.ofInt 1 = 0 by decide), z, (k90a (by omega)).1]
    unfold d_225
    rw [if_neg (show ¬ ¬ Int32.ofInt 1 = Int32.ofInt 1 from fun q => q rfl), (k90a (by omega)).2]
/-- whether one would come on such a day of the week -/
def dwc (C : sp_C) (p e : Nat) (y : Int32) : Bool := sp_bit (dG C e) (nI p) && !decide (d_103 (dK C p) (dW C e) y = 0)
theorem d_102_b {C : sp_C} {p : Nat} {y : Int32} : ∀ (m k : Nat) (a : Int32), k + m ≤ 5 → ∀ e, e < 5 → sp_bit (d_102_5 C p y m k a) (nI e) = (sp_bit a (nI e) || (decide (k ≤ e ∧ e < k + m) && dwc C p e y)) := by
  intro m
  induction m with
  | zero =>
    intro k a hk e he
    rw [decide_eq_false (by omega), Bool.false_and, Bool.or_false]
    rfl
  | succ m ih =>
    intro k a hk e he
    have stp : d_102_5 C p y (m + 1) k a = d_102_5 C p y m (k + 1) (if dwc C p k y = true then a ||| ((Int32.ofInt 1) <<< ((nI k) &&& 31)) else a) := by
      rw [d_102_5]
      unfold dwc
      by_cases h1 : sp_bit (dG C k) (nI p) = false
      · rw [if_pos (by rw [d_65_b]; exact h1), h1, Bool.false_and, if_neg (by decide)]
      · rw [if_neg (by rw [d_65_b]; exact h1)]
        have h1 : sp_bit (dG C k) (nI p) = true := by
          cases h : sp_bit (dG C k) (nI p) with
          | true => rfl
          | false => exact absurd h h1
        by_cases h2 : d_103 (dK C p) (dW C k) y = 0
        · rw [if_pos h2, h1, decide_eq_true h2, if_neg (by decide)]
        · rw [if_neg h2, h1, decide_eq_false h2, if_pos (by decide)]
    rw [stp, ih (k + 1) _ (by omega) e he]
    have hd : e = k ∨ decide (k + 1 ≤ e ∧ e < k + 1 + m) = decide (k ≤ e ∧ e < k + (m + 1)) := by
      by_cases ek : e = k
      · exact Or.inl ek
      · exact Or.inr (decide_eq_decide.mpr (by omega))
    rcases hd with ek | hd
    · rw [ek, decide_eq_false (show ¬ (k + 1 ≤ k ∧ k < k + 1 + m) by omega), decide_eq_true (show k ≤ k ∧ k < k + (m + 1) by omega), Bool.false_and, Bool.or_false, Bool.true_and]
      cases hb : dwc C p k y with
      | true => rw [if_pos rfl, bit_or (by omega) (by omega), decide_eq_true rfl]
      | false => rw [if_neg (by decide), Bool.or_false]
    · rw [hd]
      cases hb : dwc C p k y with
      | true =>
        rw [if_pos rfl, bit_or (by omega) (by omega)]
        by_cases ek : k = e
        · rw [decide_eq_true ek, ← ek, hb, decide_eq_true (show k ≤ k ∧ k < k + (m + 1) by omega)]
          simp only [Bool.or_true, Bool.true_and, Bool.true_or]
        · rw [decide_eq_false ek, Bool.or_false]
      | false => rw [if_neg (by decide)]
theorem d_102_v {C : sp_C} {p e : Nat} {y : Int32} (h5 : dE C ≤ 5) (he : e < dE C) : (((d_102 C p y) >>> ((nI e) &&& 31)) &&& (Int32.ofInt 1)) = if dwc C p e y = true then Int32.ofInt 1 else Int32.ofInt 0 := by
  have h := d_102_b (C := C) (p := p) (y := y) (dE C) 0 (Int32.ofInt 0) (by omega) e (by omega)
  have key : ∀ e, e < 5 → sp_bit (Int32.ofInt 0) (nI e) = false := by decide +kernel
  rw [key e (by omega), Bool.false_or, decide_eq_true (show 0 ≤ e ∧ e < 0 + dE C by omega), Bool.true_and] at h
  cases hb : dwc C p e y with
  | true => rw [if_pos rfl]; exact (bit_1 _ _).mpr (h.trans hb)
  | false =>
    rw [if_neg (by decide)]
    rcases b01 ((d_102 C p y) >>> ((nI e) &&& 31)) with w | w
    · exact w
    · have w := (bit_1 _ _).mp w
      have h : sp_bit (d_102 C p y) (nI e) = _ := h
      rw [h, hb] at w
      cases w
theorem d_102_0 {C : sp_C} {p : Nat} {y : Int32} (h5 : dE C ≤ 5) (h : d_102 C p y = 0) {e : Nat} (he : e < dE C) : dwc C p e y = false := by
  have w := d_102_v (p := p) (y := y) h5 he
  rw [h] at w
  cases hb : dwc C p e y with
  | false => rfl
  | true =>
    rw [hb, if_pos rfl] at w
    have key : ∀ e, e < 5 → ¬ ((0 : Int32) >>> ((nI e) &&& 31)) &&& (Int32.ofInt 1) = Int32.ofInt 1 := by decide +kernel
    exact absurd w (key e (by omega))
/-- one comes, as the class says and as the reference says -/
theorem come_e {C V : sp_C} {D : Nat} {s : dS} (hc : cI C) (hs : sI C D s) (hD : D ≤ 4200) {p e : Nat} (hp : p < dP C) (he : e < dE C) (hV : dW V e = dW C e) {w : Int32} (hw : w = Int32.ofInt 0 ∨ w = Int32.ofInt 1) : (d_238 C V s p e w = 0) ↔ dwc C p e (d_88 C s p w) = false := by
  have hb : (d_229 C p (nI e) = 0) ↔ sp_bit (dG C e) (nI p) = false := by
    unfold d_229
    have hB := (dB_b (C := C) (p := p) hc.1.2).2 e (by have := hc.1.2; omega)
    rw [decide_eq_true he, Bool.true_and] at hB
    by_cases h : ((dB C p) >>> ((nI e) &&& 31)) &&& (Int32.ofInt 1) = Int32.ofInt 1
    · rw [if_neg (fun z => z h)]
      have := (bit_1 _ _).mp h
      rw [hB] at this
      rw [this]
      exact ⟨fun z => absurd z (by decide), fun z => by cases z⟩
    · rw [if_pos h]
      refine ⟨fun _ => ?_, fun _ => rfl⟩
      cases hx : sp_bit (dG C e) (nI p) with
      | false => rfl
      | true => exact absurd ((bit_1 _ _).mpr (hB.trans hx)) h
  unfold d_238 dwc
  rw [← to_e hs hD hp hw, hV]
  by_cases h1 : d_229 C p (nI e) = 0
  · rw [if_pos h1, hb.mp h1, Bool.false_and]
    exact ⟨fun _ => rfl, fun _ => rfl⟩
  · rw [if_neg h1]
    have hx : sp_bit (dG C e) (nI p) = true := by
      cases hx : sp_bit (dG C e) (nI p) with
      | true => rfl
      | false => exact absurd (hb.mpr hx) h1
    rw [hx, Bool.true_and]
    generalize d_88 C s p w = y
    unfold d_103
    obtain ⟨k, hk, ek⟩ := (hc.2.1 p hp).1
    have k4 : k = 0 ∨ k = 1 ∨ k = 2 ∨ k = 3 := by omega
    rw [ek]
    generalize dW C e = on
    rcases k4 with rfl | rfl | rfl | rfl <;> by_cases e1 : y = on <;> by_cases e2 : on = Int32.ofInt 1 <;> by_cases e3 : y = ((on + (Int32.ofInt 1)) - (on + (Int32.ofInt 1)) / ((Int8.ofInt 7).toInt32) * ((Int8.ofInt 7).toInt32)) <;> simp [e1, e2, e3, nI] <;> first | decide | exact ⟨fun f b a => f a b, fun f a b => f b a⟩
end
section
/-! BOTH DAYS ARE ONE: THE STATES -/
/-- what one person adds to an event's bits -/
def tmk (C : sp_C) (s : dS) (w : Int32) (p e : Nat) : Int32 := if d_102 C p (d_88 C s p w) = 0 then Int32.ofInt 0 else if d_104 C s p w = 0 then Int32.ofInt 0 else (((d_102 C p (d_88 C s p w)) >>> ((nI e) &&& 31)) &&& (Int32.ofInt 1)) <<< ((nI p) &&& 31)
def cf (C : sp_C) (s : dS) (w : Int32) (e : Nat) : Nat → Nat → Int32 → Int32
  | 0, _, a => a
  | m + 1, k, a => cf C s w e m (k + 1) (a ||| tmk C s w k e)
theorem or0 (a : Int32) : a ||| Int32.ofInt 0 = a := Int32.or_zero
/-- two states that tell a day alike -/
def sEq (s t : dS) : Prop := s.1 = t.1 ∧ s.2.2.1 = t.2.2.1 ∧ s.2.2.2.1 = t.2.2.2.1
theorem tmk_c {C : sp_C} {s t : dS} (h : sEq s t) (w : Int32) (p e : Nat) : tmk C s w p e = tmk C t w p e ∧ d_102 C p (d_88 C s p w) = d_102 C p (d_88 C t p w) ∧ d_104 C s p w = d_104 C t p w := by
  obtain ⟨a, b, c, d, f, g⟩ := s
  obtain ⟨a', b', c', d', f', g'⟩ := t
  obtain ⟨h1, h2, h3⟩ := h
  have h1 : a = a' := h1
  have h2 : c = c' := h2
  have h3 : d = d' := h3
  subst h1
  subst h2
  subst h3
  exact ⟨rfl, rfl, rfl⟩
theorem cf_c {C : sp_C} {s t : dS} (h : sEq s t) (w : Int32) (e : Nat) : ∀ (m k : Nat) (a : Int32), cf C s w e m k a = cf C t w e m k a := by
  intro m
  induction m with
  | zero => exact fun _ _ => rfl
  | succ m ih =>
    intro k a
    show cf C s w e m (k + 1) _ = cf C t w e m (k + 1) _
    rw [(tmk_c h w k e).1, ih]
theorem in65 {C : sp_C} {w x : Int32} {p : Nat} : ∀ (m k : Nat) (s : dS), d_101_65 C w p x m k s = (s.1, s.2.1, s.2.2.1, s.2.2.2.1, s.2.2.2.2.1, fun e => if k ≤ e ∧ e < k + m then s.2.2.2.2.2 e ||| (((x >>> ((nI e) &&& 31)) &&& (Int32.ofInt 1)) <<< ((nI p) &&& 31)) else s.2.2.2.2.2 e) := by
  intro m
  induction m with
  | zero =>
    intro k s
    show s = _
    refine Prod.ext rfl (Prod.ext rfl (Prod.ext rfl (Prod.ext rfl (Prod.ext rfl (funext fun e => ?_)))))
    show _ = if k ≤ e ∧ e < k + 0 then _ else _
    rw [if_neg (by omega)]
  | succ m ih =>
    intro k s
    show d_101_65 C w p x m (k + 1) _ = _
    rw [ih]
    refine Prod.ext rfl (Prod.ext rfl (Prod.ext rfl (Prod.ext rfl (Prod.ext rfl (funext fun e => ?_)))))
    show (if k + 1 ≤ e ∧ e < k + 1 + m then (if e = k then _ else s.2.2.2.2.2 e) ||| _ else (if e = k then _ else s.2.2.2.2.2 e)) = if k ≤ e ∧ e < k + (m + 1) then _ else _
    by_cases ek : e = k
    · rw [if_neg (by omega), if_pos ek, if_pos (by omega), ek]
    · by_cases h : k + 1 ≤ e ∧ e < k + 1 + m
      · rw [if_pos h, if_neg ek, if_pos (by omega)]
      · rw [if_neg h, if_neg ek, if_neg (by omega)]
theorem in2 {C : sp_C} {w : Int32} : ∀ (m k : Nat) (s : dS), d_101_2 C w m k s = (s.1, s.2.1, s.2.2.1, s.2.2.2.1, s.2.2.2.2.1, fun e => if k ≤ e ∧ e < k + m then Int32.ofInt 0 else s.2.2.2.2.2 e) := by
  intro m
  induction m with
  | zero =>
    intro k s
    show s = _
    refine Prod.ext rfl (Prod.ext rfl (Prod.ext rfl (Prod.ext rfl (Prod.ext rfl (funext fun e => ?_)))))
    show _ = if k ≤ e ∧ e < k + 0 then _ else _
    rw [if_neg (by omega)]
  | succ m ih =>
    intro k s
    show d_101_2 C w m (k + 1) _ = _
    rw [ih]
    refine Prod.ext rfl (Prod.ext rfl (Prod.ext rfl (Prod.ext rfl (Prod.ext rfl (funext fun e => ?_)))))
    show (if k + 1 ≤ e ∧ e < k + 1 + m then _ else (if e = k then _ else s.2.2.2.2.2 e)) = if k ≤ e ∧ e < k + (m + 1) then _ else _
    by_cases ek : e = k
    · rw [if_neg (by omega), if_pos ek, if_pos (by omega)]
    · by_cases h : k + 1 ≤ e ∧ e < k + 1 + m
      · rw [if_pos h, if_pos (by omega)]
      · rw [if_neg h, if_neg ek, if_neg (by omega)]
theorem in25 {C : sp_C} {w : Int32} : ∀ (m k : Nat) (s : dS), d_101_25 C w m k s = (s.1, s.2.1, s.2.2.1, s.2.2.2.1, s.2.2.2.2.1, fun e => if e < dE C then cf C s w e m k (s.2.2.2.2.2 e) else s.2.2.2.2.2 e) := by
  intro m
  induction m with
  | zero =>
    intro k s
    show s = _
    refine Prod.ext rfl (Prod.ext rfl (Prod.ext rfl (Prod.ext rfl (Prod.ext rfl (funext fun e => ?_)))))
    show _ = if e < dE C then s.2.2.2.2.2 e else s.2.2.2.2.2 e
    split <;> rfl
  | succ m ih =>
    intro k s
    rw [d_101_25]
    by_cases h1 : d_102 C k (d_88 C s k w) = 0
    · rw [if_pos h1, ih]
      refine Prod.ext rfl (Prod.ext rfl (Prod.ext rfl (Prod.ext rfl (Prod.ext rfl (funext fun e => ?_)))))
      show (if e < dE C then cf C s w e m (k + 1) (s.2.2.2.2.2 e) else s.2.2.2.2.2 e) = if e < dE C then cf C s w e m (k + 1) (s.2.2.2.2.2 e ||| tmk C s w k e) else _
      rw [show tmk C s w k e = Int32.ofInt 0 from if_pos h1, or0]
    · rw [if_neg h1]
      by_cases h2 : d_104 C s k w = 0
      · rw [if_pos h2, ih]
        refine Prod.ext rfl (Prod.ext rfl (Prod.ext rfl (Prod.ext rfl (Prod.ext rfl (funext fun e => ?_)))))
        show (if e < dE C then cf C s w e m (k + 1) (s.2.2.2.2.2 e) else s.2.2.2.2.2 e) = if e < dE C then cf C s w e m (k + 1) (s.2.2.2.2.2 e ||| tmk C s w k e) else _
        rw [show tmk C s w k e = Int32.ofInt 0 from (if_neg h1).trans (if_pos h2), or0]
      · rw [if_neg h2, ih, in65]
        refine Prod.ext rfl (Prod.ext rfl (Prod.ext rfl (Prod.ext rfl (Prod.ext rfl (funext fun e => ?_)))))
        show (if e < dE C then cf C (s.1, s.2.1, s.2.2.1, s.2.2.2.1, s.2.2.2.2.1, _) w e m (k + 1) (if 0 ≤ e ∧ e < 0 + dE C then _ else s.2.2.2.2.2 e) else (if 0 ≤ e ∧ e < 0 + dE C then _ else s.2.2.2.2.2 e)) = if e < dE C then cf C s w e m (k + 1) (s.2.2.2.2.2 e ||| tmk C s w k e) else _
        by_cases he : e < dE C
        · rw [if_pos he, if_pos he, if_pos (by omega), show tmk C s w k e = _ from (if_neg h1).trans (if_neg h2)]
          refine cf_c ?_ w e m (k + 1) _
          exact ⟨rfl, rfl, rfl⟩
        · rw [if_neg he, if_neg he, if_neg (by omega)]
/-- who goes out, as the reference says -/
def goR (C : sp_C) (s : dS) (w : Int32) (p : Nat) : Bool := decide (dQ C < 0) || !decide (dlaw C (d_223 C s p) (s.1 / ((Int8.ofInt 7).toInt32)) (d_235 (s.2.2.2.1 p)) w = 0)
theorem in19 {C : sp_C} {s : dS} {w : Int32} : ∀ (m k : Nat) (gg : Int32), k + m ≤ 6 → (d_234_19 C w m k s gg).1 = s ∧ ∀ p, p < 6 → sp_bit (d_234_19 C w m k s gg).2 (nI p) = (sp_bit gg (nI p) || (decide (k ≤ p ∧ p < k + m) && goR C s w p)) := by
  intro m
  induction m with
  | zero =>
    intro k gg hk
    refine ⟨rfl, fun p hp => ?_⟩
    rw [decide_eq_false (by omega), Bool.false_and, Bool.or_false]
    rfl
  | succ m ih =>
    intro k gg hk
    have stp : d_234_19 C w (m + 1) k s gg = d_234_19 C w m (k + 1) s (if goR C s w k = true then gg ||| ((Int32.ofInt 1) <<< ((nI k) &&& 31)) else gg) := by
      rw [d_234_19]
      unfold goR
      by_cases h1 : dQ C < 0
      · rw [if_pos h1, decide_eq_true h1, Bool.true_or, if_pos rfl]
      · rw [if_neg h1, decide_eq_false h1, Bool.false_or]
        by_cases h2 : dlaw C (d_223 C s k) (s.1 / ((Int8.ofInt 7).toInt32)) (d_235 (s.2.2.2.1 k)) w = 0
        · rw [if_pos h2, decide_eq_true h2, if_neg (by decide), or0]
        · rw [if_neg h2, decide_eq_false h2, if_pos (by decide)]
    rw [stp]
    obtain ⟨i1, i2⟩ := ih (k + 1) (if goR C s w k = true then gg ||| ((Int32.ofInt 1) <<< ((nI k) &&& 31)) else gg) (by omega)
    refine ⟨i1, fun p hp => ?_⟩
    rw [i2 p hp]
    by_cases ek : p = k
    · rw [ek, decide_eq_false (show ¬ (k + 1 ≤ k ∧ k < k + 1 + m) by omega), decide_eq_true (show k ≤ k ∧ k < k + (m + 1) by omega), Bool.false_and, Bool.or_false, Bool.true_and]
      cases hb : goR C s w k with
      | true => rw [if_pos rfl, bit_or (by omega) (by omega), decide_eq_true rfl]
      | false => rw [if_neg (by decide), Bool.or_false]
    · rw [show decide (k + 1 ≤ p ∧ p < k + 1 + m) = decide (k ≤ p ∧ p < k + (m + 1)) from decide_eq_decide.mpr (by omega)]
      cases hb : goR C s w k with
      | true => rw [if_pos rfl, bit_or (by omega) (by omega), decide_eq_false (fun q => ek q.symm), Bool.or_false]
      | false => rw [if_neg (by decide)]
theorem go_e {C : sp_C} {D : Nat} {s : dS} (hc : cI C) (hs : sI C D s) {p : Nat} {w : Int32} (hw : w = Int32.ofInt 0 ∨ w = Int32.ofInt 1) : (d_104 C s p w = 0) ↔ goR C s w p = false := by
  have hm : d_69 (s.2.2.2.1 p) = d_235 (s.2.2.2.1 p) := bc_x (Nat.lt_of_lt_of_le (hs.2.2.1 p).1 (p64 hc.1.1))
  have w01 : (if w = 0 then Int32.ofInt 0 else Int32.ofInt 1) = w := by
    rcases hw with rfl | rfl
    · rfl
    · rfl
  unfold d_104 goR
  rw [hm, w01]
  show ((if dlaw C (d_223 C s p) _ _ w = 0 then Int32.ofInt 0 else Int32.ofInt 1) = 0) ↔ _
  by_cases h1 : dQ C < 0
  · have hM : dM C = 0 := by
      rcases hc.2.2.2 with q | q
      · exact q.2
      · rw [dQ_f h1] at q
        cases q.1
    rw [dlaw_0 hM, if_neg (by decide), decide_eq_true h1, Bool.true_or]
    exact ⟨fun z => absurd z (by decide), fun z => by cases z⟩
  · rw [decide_eq_false h1, Bool.false_or]
    by_cases h2 : dlaw C (d_223 C s p) (s.1 / ((Int8.ofInt 7).toInt32)) (d_235 (s.2.2.2.1 p)) w = 0
    · rw [if_pos h2, decide_eq_true h2]
      exact ⟨fun _ => rfl, fun _ => rfl⟩
    · rw [if_neg h2, decide_eq_false h2]
      exact ⟨fun z => absurd z (by decide), fun z => by cases z⟩
theorem sh0 : ∀ p, p < 6 → (Int32.ofInt 0) <<< ((nI p) &&& 31) = Int32.ofInt 0 := by decide +kernel
/-- what one person adds, both ways -/
theorem tmk_e {C V : sp_C} {D : Nat} {s t : dS} (hc : cI C) (hs : sI C D s) (hD : D ≤ 4200) (hst : s.1 = t.1 ∧ s.2.2.1 = t.2.2.1) {p e : Nat} (hp : p < dP C) (he : e < dE C) (hV : dW V e = dW C e) {w gg : Int32} (hw : w = Int32.ofInt 0 ∨ w = Int32.ofInt 1) (hg : sp_bit gg (nI p) = goR C s w p) : (if ¬ ((gg >>> ((nI p) &&& 31)) &&& (Int32.ofInt 1)) = (Int32.ofInt 1) then Int32.ofInt 0 else (if (d_238 C V t p e w) = 0 then Int32.ofInt 0 else (Int32.ofInt 1) <<< ((nI p) &&& 31))) = tmk C s w p e := by
  have h6 := hc.1.1
  have h5 := hc.1.2
  have e238 : d_238 C V t p e w = d_238 C V s p e w := by
    obtain ⟨a, b, c, d, f, g⟩ := s
    obtain ⟨a', b', c', d', f', g'⟩ := t
    obtain ⟨h1, h2⟩ := hst
    have h1 : a = a' := h1
    have h2 : c = c' := h2
    subst h1
    subst h2
    rfl
  rw [e238]
  have hcm := come_e (V := V) hc hs hD hp he hV hw
  unfold tmk
  cases hb : dwc C p e (d_88 C s p w) with
  | false =>
    rw [if_pos (hcm.mpr hb), d_102_v h5 he, hb, if_neg (show ¬ false = true by decide), sh0 p (by omega)]
    split <;> (split <;> (first | rfl | (split <;> rfl)))
  | true =>
    have n1 : ¬ d_102 C p (d_88 C s p w) = 0 := fun z => by
      rw [d_102_0 h5 z he] at hb
      cases hb
    have n2 : ¬ d_238 C V s p e w = 0 := fun z => by
      rw [hcm.mp z] at hb
      cases hb
    rw [if_neg n1, if_neg n2, d_102_v h5 he, hb, if_pos rfl]
    by_cases h4 : d_104 C s p w = 0
    · rw [if_pos h4]
      refine if_pos (fun z => ?_)
      rw [(bit_1 _ _).mp z] at hg
      rw [(go_e hc hs hw).mp h4] at hg
      cases hg
    · rw [if_neg h4]
      refine if_neg (fun z => z ((bit_1 _ _).mpr ?_))
      rw [hg]
      cases hx : goR C s w p with
      | true => rfl
      | false => exact absurd ((go_e hc hs hw).mpr hx) h4
theorem in147 {C V : sp_C} {D : Nat} {s t : dS} (hc : cI C) (hs : sI C D s) (hD : D ≤ 4200) (hst : s.1 = t.1 ∧ s.2.2.1 = t.2.2.1) {e : Nat} (he : e < dE C) (hV : dW V e = dW C e) {w gg : Int32} (hw : w = Int32.ofInt 0 ∨ w = Int32.ofInt 1) (hg : ∀ p, p < dP C → sp_bit gg (nI p) = goR C s w p) : ∀ (m k : Nat) (a : Int32), k + m = dP C → d_234_147 C V t gg w e m k a = cf C s w e m k a := by
  intro m
  induction m with
  | zero => exact fun _ _ _ => rfl
  | succ m ih =>
    intro k a hk
    show d_234_147 C V t gg w e m (k + 1) (a ||| _) = cf C s w e m (k + 1) (a ||| _)
    rw [tmk_e hc hs hD hst (by omega) he hV hw (hg k (by omega)), ih _ _ (by omega)]
theorem in108 {x : Int32} : ∀ (m k : Nat) (s : dS), d_108_2 x m k s = (s.1, s.2.1, s.2.2.1, (fun i => if k ≤ i ∧ i < k + m ∧ sp_bit x (nI i) = true then s.2.2.2.1 i ||| (x &&& (((Int32.ofInt 1) <<< ((nI i) &&& 31)) ^^^ (Int32.ofInt (-1)))) else s.2.2.2.1 i), s.2.2.2.2.1, s.2.2.2.2.2) := by
  intro m
  induction m with
  | zero =>
    intro k s
    show s = _
    refine Prod.ext rfl (Prod.ext rfl (Prod.ext rfl (Prod.ext (funext fun i => ?_) rfl)))
    show _ = if k ≤ i ∧ i < k + 0 ∧ sp_bit x (nI i) = true then _ else _
    rw [if_neg (by omega)]
  | succ m ih =>
    intro k s
    rw [d_108_2]
    by_cases hb : sp_bit x (nI k) = false
    · rw [if_pos (by rw [d_65_b]; exact hb), ih]
      refine Prod.ext rfl (Prod.ext rfl (Prod.ext rfl (Prod.ext (funext fun i => ?_) rfl)))
      show (if k + 1 ≤ i ∧ i < k + 1 + m ∧ sp_bit x (nI i) = true then _ else _) = if k ≤ i ∧ i < k + (m + 1) ∧ sp_bit x (nI i) = true then _ else _
      by_cases ek : i = k
      · rw [if_neg (fun z => by omega), if_neg (fun z => by rw [ek, hb] at z; cases z.2.2)]
      · by_cases h : k + 1 ≤ i ∧ i < k + 1 + m ∧ sp_bit x (nI i) = true
        · rw [if_pos h, if_pos ⟨by omega, by omega, h.2.2⟩]
        · rw [if_neg h, if_neg (fun z => h ⟨by omega, by omega, z.2.2⟩)]
    · rw [if_neg (by rw [d_65_b]; exact hb), ih]
      have hb : sp_bit x (nI k) = true := by
        cases h : sp_bit x (nI k) with
        | true => rfl
        | false => exact absurd h hb
      refine Prod.ext rfl (Prod.ext rfl (Prod.ext rfl (Prod.ext (funext fun i => ?_) rfl)))
      show (if k + 1 ≤ i ∧ i < k + 1 + m ∧ sp_bit x (nI i) = true then (if i = k then _ else s.2.2.2.1 i) ||| _ else (if i = k then _ else s.2.2.2.1 i)) = if k ≤ i ∧ i < k + (m + 1) ∧ sp_bit x (nI i) = true then _ else _
      by_cases ek : i = k
      · rw [if_neg (fun z => by omega), if_pos ek, if_pos ⟨by omega, by omega, by rw [ek]; exact hb⟩, ek]
      · by_cases h : k + 1 ≤ i ∧ i < k + 1 + m ∧ sp_bit x (nI i) = true
        · rw [if_pos h, if_neg ek, if_pos ⟨by omega, by omega, h.2.2⟩]
        · rw [if_neg h, if_neg ek, if_neg (fun z => h ⟨by omega, by omega, z.2.2⟩)]
theorem in281 {C : sp_C} {x : Int32} : ∀ (m k : Nat) (s : dS), d_234_281 C x m k s = (s.1, s.2.1, s.2.2.1, (fun i => if k ≤ i ∧ i < k + m then s.2.2.2.1 i ||| (if ¬ ((x >>> ((nI i) &&& 31)) &&& (Int32.ofInt 1)) = (Int32.ofInt 1) then Int32.ofInt 0 else x &&& (((Int32.ofInt 1) <<< ((nI i) &&& 31)) ^^^ (Int32.ofInt (-1)))) else s.2.2.2.1 i), s.2.2.2.2.1, s.2.2.2.2.2) := by
  intro m
  induction m with
  | zero =>
    intro k s
    show s = _
    refine Prod.ext rfl (Prod.ext rfl (Prod.ext rfl (Prod.ext (funext fun i => ?_) rfl)))
    show _ = if k ≤ i ∧ i < k + 0 then _ else _
    rw [if_neg (by omega)]
  | succ m ih =>
    intro k s
    show d_234_281 C x m (k + 1) _ = _
    rw [ih]
    refine Prod.ext rfl (Prod.ext rfl (Prod.ext rfl (Prod.ext (funext fun i => ?_) rfl)))
    show (if k + 1 ≤ i ∧ i < k + 1 + m then (if i = k then _ else s.2.2.2.1 i) ||| _ else (if i = k then _ else s.2.2.2.1 i)) = if k ≤ i ∧ i < k + (m + 1) then _ else _
    by_cases ek : i = k
    · rw [if_neg (show ¬ (k + 1 ≤ i ∧ i < k + 1 + m) by omega), if_pos ek, if_pos (show k ≤ i ∧ i < k + (m + 1) by omega), ek]
    · by_cases h : k + 1 ≤ i ∧ i < k + 1 + m
      · rw [if_pos h, if_neg ek, if_pos (show k ≤ i ∧ i < k + (m + 1) by omega)]
      · rw [if_neg h, if_neg ek, if_neg (show ¬ (k ≤ i ∧ i < k + (m + 1)) by omega)]
/-- who have come to one event meet: both ways -/
theorem meet_e {C : sp_C} {x : Int32} (h6 : dP C ≤ 6) (hx : bN x < 2 ^ dP C) (s : dS) : d_108_s s x = d_234_281 C x (dP C) 0 s := by
  unfold d_108_s
  rw [in108, in281]
  refine Prod.ext rfl (Prod.ext rfl (Prod.ext rfl (Prod.ext (funext fun i => ?_) rfl)))
  show (if 0 ≤ i ∧ i < 0 + 6 ∧ sp_bit x (nI i) = true then _ else _) = if 0 ≤ i ∧ i < 0 + dP C then _ ||| (if ¬ ((x >>> ((nI i) &&& 31)) &&& (Int32.ofInt 1)) = (Int32.ofInt 1) then Int32.ofInt 0 else _) else _
  by_cases hi : i < dP C
  · rw [if_pos (show 0 ≤ i ∧ i < 0 + dP C by omega)]
    by_cases hb : sp_bit x (nI i) = true
    · rw [if_pos ⟨by omega, by omega, hb⟩, if_neg (fun z => z ((bit_1 _ _).mpr hb))]
    · rw [if_neg (fun z => hb z.2.2), if_pos (fun z => hb ((bit_1 _ _).mp z)), or0]
  · rw [if_neg (show ¬ (0 ≤ i ∧ i < 0 + dP C) by omega)]
    refine if_neg (fun z => ?_)
    have hb := z.2.2
    rw [sp_bit_tg (by omega), Nat.testBit_lt_two_pow (Nat.lt_of_lt_of_le hx (Nat.pow_le_pow_right (by decide) (by omega)))] at hb
    cases hb
theorem cf_lt {C : sp_C} {s : dS} {w : Int32} {e : Nat} (h6 : dP C ≤ 6) (h5 : dE C ≤ 5) (he : e < dE C) : ∀ (m k : Nat) (a : Int32), k + m = dP C → bN a < 2 ^ dP C → bN (cf C s w e m k a) < 2 ^ dP C := by
  intro m
  induction m with
  | zero => exact fun _ _ _ ha => ha
  | succ m ih =>
    intro k a hk ha
    refine ih (k + 1) _ (by omega) ?_
    rw [bN_or]
    refine Nat.or_lt_two_pow ha ?_
    have hz : bN (Int32.ofInt 0) < 2 ^ dP C := by
      rw [show bN (Int32.ofInt 0) = 0 by decide]
      exact Nat.two_pow_pos _
    unfold tmk
    by_cases h1 : d_102 C k (d_88 C s k w) = 0
    · rw [if_pos h1]; exact hz
    · rw [if_neg h1]
      by_cases h2 : d_104 C s k w = 0
      · rw [if_pos h2]; exact hz
      · rw [if_neg h2, d_102_v h5 he]
        cases hb : dwc C k e (d_88 C s k w) with
        | true =>
          rw [if_pos rfl, bN_1s (by omega)]
          exact Nat.pow_lt_pow_right (by decide) (by omega)
        | false =>
          rw [if_neg (show ¬ false = true by decide), sh0 k (by omega)]
          exact hz
/-- the events of a day, both ways -/
theorem ev_e {C V : sp_C} {D : Nat} {s1 : dS} (hc : cI C) (hs : sI C D s1) (hD : D ≤ 4200) (hV : ∀ e, e < dE C → dW V e = dW C e) {w gg : Int32} (hw : w = Int32.ofInt 0 ∨ w = Int32.ofInt 1) (hg : ∀ p, p < dP C → sp_bit gg (nI p) = goR C s1 w p) : ∀ (m k : Nat) (a : Int32) (s t : dS), k + m = dE C → (s.1 = s1.1 ∧ s.2.2.1 = s1.2.2.1) → (∀ e, e < dE C → s.2.2.2.2.2 e = cf C s1 w e (dP C) 0 (Int32.ofInt 0)) → (t.1 = s.1 ∧ t.2.1 = s.2.1 ∧ t.2.2.1 = s.2.2.1 ∧ t.2.2.2.1 = s.2.2.2.1 ∧ t.2.2.2.2.1 = s.2.2.2.2.1) → (∀ e, e < k ∨ dE C ≤ e → t.2.2.2.2.2 e = s.2.2.2.2.2 e) → d_234_132 C V gg w m k a t = d_100_21 C m k a s := by
  have h6 := hc.1.1
  have h5 := hc.1.2
  intro m
  induction m with
  | zero =>
    intro k a s t hk h1 h2 h3 h4
    show (a, t) = (a, s)
    refine Prod.ext rfl (Prod.ext h3.1 (Prod.ext h3.2.1 (Prod.ext h3.2.2.1 (Prod.ext h3.2.2.2.1 (Prod.ext h3.2.2.2.2 (funext fun e => h4 e (by omega)))))))
  | succ m ih =>
    intro k a s t hk h1 h2 h3 h4
    have hx : d_234_147 C V t gg w k (dP C) 0 (Int32.ofInt 0) = s.2.2.2.2.2 k := by
      rw [h2 k (by omega)]
      exact in147 hc hs hD ⟨h1.1.symm.trans h3.1.symm, h1.2.symm.trans h3.2.2.1.symm⟩ (by omega) (hV k (by omega)) hw hg (dP C) 0 _ (by omega)
    have hlt : bN (s.2.2.2.2.2 k) < 2 ^ dP C := by
      rw [h2 k (by omega)]
      exact cf_lt h6 h5 (by omega) _ _ _ (by omega) (by rw [show bN (Int32.ofInt 0) = 0 by decide]; exact Nat.two_pow_pos _)
    rw [d_234_132, d_100_21, hx]
    have hc2 : (d_108_s s (s.2.2.2.2.2 k)).2.2.2.2.2 k = s.2.2.2.2.2 k := by
      unfold d_108_s
      rw [in108]
    have hh2 : (d_108_s s (s.2.2.2.2.2 k)).2.2.2.2.1 k = s.2.2.2.2.1 k := by
      unfold d_108_s
      rw [in108]
    rw [hc2, bc_x (Nat.lt_of_lt_of_le hlt (p64 h6))]
    have m1 := meet_e (s := s) h6 hlt
    by_cases hn : d_235 (s.2.2.2.2.2 k) < dN C k
    · rw [if_pos hn, if_pos hn, if_pos (show Int32.ofInt 0 = 0 from rfl), or0]
      refine ih (k + 1) a _ _ (by omega) ?_ ?_ ?_ ?_
      · unfold d_108_s; rw [in108]; exact h1
      · unfold d_108_s; rw [in108]; exact h2
      · rw [m1, in281, in281]
        refine ⟨h3.1, h3.2.1, h3.2.2.1, ?_, ?_⟩
        · show (fun i => if 0 ≤ i ∧ i < 0 + dP C then t.2.2.2.1 i ||| _ else t.2.2.2.1 i) = _
          rw [h3.2.2.2.1]
        · show (fun i => if i = k then t.2.2.2.2.1 k + Int32.ofInt 0 else t.2.2.2.2.1 i) = s.2.2.2.2.1
          rw [h3.2.2.2.2]
          funext i
          by_cases ik : i = k
          · rw [if_pos ik, ik]
            exact Int32.add_zero _
          · rw [if_neg ik]
      · intro e he
        rw [in281]
        unfold d_108_s
        rw [in108]
        show (if e = k then s.2.2.2.2.2 k else t.2.2.2.2.2 e) = s.2.2.2.2.2 e
        by_cases ek : e = k
        · rw [if_pos ek, ek]
        · rw [if_neg ek, h4 e (by omega)]
    · rw [if_neg hn, if_neg hn, if_neg (show ¬ Int32.ofInt 1 = 0 by decide), if_neg (show ¬ Int32.ofInt 1 = 0 by decide), hh2]
      refine ih (k + 1) _ _ _ (by omega) ?_ ?_ ?_ ?_
      · unfold d_108_s; rw [in108]; exact h1
      · unfold d_108_s; rw [in108]; exact h2
      · rw [m1, in281, in281]
        refine ⟨h3.1, h3.2.1, h3.2.2.1, ?_, ?_⟩
        · show (fun i => if 0 ≤ i ∧ i < 0 + dP C then t.2.2.2.1 i ||| _ else t.2.2.2.1 i) = _
          rw [h3.2.2.2.1]
        · show (fun i => if i = k then t.2.2.2.2.1 k + Int32.ofInt 1 else t.2.2.2.2.1 i) = fun i => if i = k then s.2.2.2.2.1 k + Int32.ofInt 1 else s.2.2.2.2.1 i
          rw [h3.2.2.2.2]
      · intro e he
        rw [in281]
        unfold d_108_s
        rw [in108]
        show (if e = k then s.2.2.2.2.2 k else t.2.2.2.2.2 e) = s.2.2.2.2.2 e
        by_cases ek : e = k
        · rw [if_pos ek, ek]
        · rw [if_neg ek, h4 e (by omega)]
theorem sI_d {C : sp_C} {D : Nat} {s : dS} (hs : sI C D s) : sI C (D + 1) (sSD s (s.1 + Int32.ofInt 1)) := by
  obtain ⟨⟨d, h1, h2⟩, h3⟩ := hs
  refine ⟨⟨d + 1, by omega, ?_⟩, h3⟩
  show s.1 + Int32.ofInt 1 = nI (d + 1)
  rw [h2, xw_i1]
/-- both days are one -/
theorem day_e {C V : sp_C} {D : Nat} {s : dS} (hc : cI C) (hs : sI C D s) (hD : D ≤ 4100) (hV : ∀ e, e < dE C → dW V e = dW C e) {w : Int32} (hw : w = Int32.ofInt 0 ∨ w = Int32.ofInt 1) : d_234 C V s w = d_100 C s w ∧ d_234_s C V s w = d_100_s C s w := by
  have h6 := hc.1.1
  have s1 := sI_d hs
  have key : ∀ s1 : dS, sI C (D + 1) s1 → d_234_132 C V ((d_234_19 C w (dP C) 0 s1 (Int32.ofInt 0)).2) w (dE C) 0 (Int32.ofInt 0) ((d_234_19 C w (dP C) 0 s1 (Int32.ofInt 0)).1) = d_100_21 C (dE C) 0 (Int32.ofInt 0) (d_101_s C s1 w) := by
    intro s1 hs1
    obtain ⟨i1, i2⟩ := in19 (C := C) (s := s1) (w := w) (dP C) 0 (Int32.ofInt 0) (by omega)
    rw [i1]
    have z : ∀ p, p < 6 → sp_bit (Int32.ofInt 0) (nI p) = false := by decide +kernel
    refine ev_e hc hs1 (by omega) hV hw (fun p hp => ?_) (dE C) 0 _ _ _ (by omega) ?_ (fun e he => ?_) ?_ (fun e he => ?_)
    · rw [i2 p (by omega), z p (by omega), Bool.false_or, decide_eq_true (by omega), Bool.true_and]
    · unfold d_101_s; rw [in25, in2]; exact ⟨rfl, rfl⟩
    · unfold d_101_s
      rw [in25, in2]
      show (if e < dE C then cf C _ w e (dP C) 0 (if 0 ≤ e ∧ e < 0 + dE C then Int32.ofInt 0 else _) else _) = _
      rw [if_pos he, if_pos (by omega)]
      refine cf_c ?_ w e _ _ _
      exact ⟨rfl, rfl, rfl⟩
    · unfold d_101_s; rw [in25, in2]; exact ⟨rfl, rfl, rfl, rfl, rfl⟩
    · unfold d_101_s
      rw [in25, in2]
      show _ = if e < dE C then _ else (if 0 ≤ e ∧ e < 0 + dE C then _ else s1.2.2.2.2.2 e)
      rw [if_neg (by omega), if_neg (by omega)]
  have k := key _ s1
  exact ⟨congrArg Prod.fst k, congrArg Prod.snd k⟩
end
section
/-! HISTORY AND MARKS: WHAT IS COPIED -/
/-- a State copied -/
def scq (D S : Nat) (h h1 : am_H) : Prop := (h1.1 D 0 = h.1 S 0 ∧ h1.1 D 1 = h.1 S 1) ∧ (∀ i, i < 6 → h1.1 (D + 1) i = h.1 (S + 1) i ∧ h1.1 (D + 2) i = h.1 (S + 2) i) ∧ (∀ i, i < 5 → h1.1 (D + 3) i = h.1 (S + 3) i ∧ h1.1 (D + 4) i = h.1 (S + 4) i)
def stO (o : Nat) : Prop := ∀ h : am_H, ex_P h → am_sh h o = some (6, 0) ∧ ((am_so h (o + 1) = some (13, 6) ∧ am_sh h (o + 1) = some (13, 6)) ∧ (am_so h (o + 2) = some (13, 6) ∧ am_sh h (o + 2) = some (13, 6)) ∧ (am_so h (o + 3) = some (13, 5) ∧ am_sh h (o + 3) = some (13, 5)) ∧ (am_so h (o + 4) = some (13, 5) ∧ am_sh h (o + 4) = some (13, 5))) ∧ h.2.2.1 o 2 = some (o + 1) ∧ h.2.2.1 o 3 = some (o + 2) ∧ h.2.2.1 o 4 = some (o + 3) ∧ h.2.2.1 o 5 = some (o + 4)
theorem stO_0 {o : Nat} (d : stO o) {h : am_H} (hP : ex_P h) : am_sh h o = some (6, 0) := (d h hP).1
theorem stO_w1 {o : Nat} (d : stO o) {h : am_H} (hP : ex_P h) : am_so h (o + 1) = some (13, 6) := (d h hP).2.1.1.1
theorem stO_1 {o : Nat} (d : stO o) {h : am_H} (hP : ex_P h) : am_sh h (o + 1) = some (13, 6) := (d h hP).2.1.1.2
theorem stO_w2 {o : Nat} (d : stO o) {h : am_H} (hP : ex_P h) : am_so h (o + 2) = some (13, 6) := (d h hP).2.1.2.1.1
theorem stO_2 {o : Nat} (d : stO o) {h : am_H} (hP : ex_P h) : am_sh h (o + 2) = some (13, 6) := (d h hP).2.1.2.1.2
theorem stO_w3 {o : Nat} (d : stO o) {h : am_H} (hP : ex_P h) : am_so h (o + 3) = some (13, 5) := (d h hP).2.1.2.2.1.1
theorem stO_3 {o : Nat} (d : stO o) {h : am_H} (hP : ex_P h) : am_sh h (o + 3) = some (13, 5) := (d h hP).2.1.2.2.1.2
theorem stO_w4 {o : Nat} (d : stO o) {h : am_H} (hP : ex_P h) : am_so h (o + 4) = some (13, 5) := (d h hP).2.1.2.2.2.1
theorem stO_4 {o : Nat} (d : stO o) {h : am_H} (hP : ex_P h) : am_sh h (o + 4) = some (13, 5) := (d h hP).2.1.2.2.2.2
theorem stO_r2 {o : Nat} (d : stO o) {h : am_H} (hP : ex_P h) : h.2.2.1 o 2 = some (o + 1) := (d h hP).2.2.1
theorem stO_r3 {o : Nat} (d : stO o) {h : am_H} (hP : ex_P h) : h.2.2.1 o 3 = some (o + 2) := (d h hP).2.2.2.1
theorem stO_r4 {o : Nat} (d : stO o) {h : am_H} (hP : ex_P h) : h.2.2.1 o 4 = some (o + 3) := (d h hP).2.2.2.2.1
theorem stO_r5 {o : Nat} (d : stO o) {h : am_H} (hP : ex_P h) : h.2.2.1 o 5 = some (o + 4) := (d h hP).2.2.2.2.2
theorem stO_36 : stO 36 := fun h hP => ⟨(ex_so hP (by decide +kernel)).2, ⟨ex_so hP (by decide +kernel), ex_so hP (by decide +kernel), ex_so hP (by decide +kernel), ex_so hP (by decide +kernel)⟩, hP.2 36 2 37 (by decide +kernel), hP.2 36 3 38 (by decide +kernel), hP.2 36 4 39 (by decide +kernel), hP.2 36 5 40 (by decide +kernel)⟩
theorem stO_41 : stO 41 := fun h hP => ⟨(ex_so hP (by decide +kernel)).2, ⟨ex_so hP (by decide +kernel), ex_so hP (by decide +kernel), ex_so hP (by decide +kernel), ex_so hP (by decide +kernel)⟩, hP.2 41 2 42 (by decide +kernel), hP.2 41 3 43 (by decide +kernel), hP.2 41 4 44 (by decide +kernel), hP.2 41 5 45 (by decide +kernel)⟩
theorem stO_49 : stO 49 := fun h hP => ⟨(ex_so hP (by decide +kernel)).2, ⟨ex_so hP (by decide +kernel), ex_so hP (by decide +kernel), ex_so hP (by decide +kernel), ex_so hP (by decide +kernel)⟩, hP.2 49 2 50 (by decide +kernel), hP.2 49 3 51 (by decide +kernel), hP.2 49 4 52 (by decide +kernel), hP.2 49 5 53 (by decide +kernel)⟩
theorem stO_54 : stO 54 := fun h hP => ⟨(ex_so hP (by decide +kernel)).2, ⟨ex_so hP (by decide +kernel), ex_so hP (by decide +kernel), ex_so hP (by decide +kernel), ex_so hP (by decide +kernel)⟩, hP.2 54 2 55 (by decide +kernel), hP.2 54 3 56 (by decide +kernel), hP.2 54 4 57 (by decide +kernel), hP.2 54 5 58 (by decide +kernel)⟩
theorem stO_59 : stO 59 := fun h hP => ⟨(ex_so hP (by decide +kernel)).2, ⟨ex_so hP (by decide +kernel), ex_so hP (by decide +kernel), ex_so hP (by decide +kernel), ex_so hP (by decide +kernel)⟩, hP.2 59 2 60 (by decide +kernel), hP.2 59 3 61 (by decide +kernel), hP.2 59 4 62 (by decide +kernel), hP.2 59 5 63 (by decide +kernel)⟩
theorem stO_64 : stO 64 := fun h hP => ⟨(ex_so hP (by decide +kernel)).2, ⟨ex_so hP (by decide +kernel), ex_so hP (by decide +kernel), ex_so hP (by decide +kernel), ex_so hP (by decide +kernel)⟩, hP.2 64 2 65 (by decide +kernel), hP.2 64 3 66 (by decide +kernel), hP.2 64 4 67 (by decide +kernel), hP.2 64 5 68 (by decide +kernel)⟩
theorem stO_69 : stO 69 := fun h hP => ⟨(ex_so hP (by decide +kernel)).2, ⟨ex_so hP (by decide +kernel), ex_so hP (by decide +kernel), ex_so hP (by decide +kernel), ex_so hP (by decide +kernel)⟩, hP.2 69 2 70 (by decide +kernel), hP.2 69 3 71 (by decide +kernel), hP.2 69 4 72 (by decide +kernel), hP.2 69 5 73 (by decide +kernel)⟩
theorem stO_74 : stO 74 := fun h hP => ⟨(ex_so hP (by decide +kernel)).2, ⟨ex_so hP (by decide +kernel), ex_so hP (by decide +kernel), ex_so hP (by decide +kernel), ex_so hP (by decide +kernel)⟩, hP.2 74 2 75 (by decide +kernel), hP.2 74 3 76 (by decide +kernel), hP.2 74 4 77 (by decide +kernel), hP.2 74 5 78 (by decide +kernel)⟩
theorem stO_79 : stO 79 := fun h hP => ⟨(ex_so hP (by decide +kernel)).2, ⟨ex_so hP (by decide +kernel), ex_so hP (by decide +kernel), ex_so hP (by decide +kernel), ex_so hP (by decide +kernel)⟩, hP.2 79 2 80 (by decide +kernel), hP.2 79 3 81 (by decide +kernel), hP.2 79 4 82 (by decide +kernel), hP.2 79 5 83 (by decide +kernel)⟩
theorem stO_84 : stO 84 := fun h hP => ⟨(ex_so hP (by decide +kernel)).2, ⟨ex_so hP (by decide +kernel), ex_so hP (by decide +kernel), ex_so hP (by decide +kernel), ex_so hP (by decide +kernel)⟩, hP.2 84 2 85 (by decide +kernel), hP.2 84 3 86 (by decide +kernel), hP.2 84 4 87 (by decide +kernel), hP.2 84 5 88 (by decide +kernel)⟩
theorem stO_89 : stO 89 := fun h hP => ⟨(ex_so hP (by decide +kernel)).2, ⟨ex_so hP (by decide +kernel), ex_so hP (by decide +kernel), ex_so hP (by decide +kernel), ex_so hP (by decide +kernel)⟩, hP.2 89 2 90 (by decide +kernel), hP.2 89 3 91 (by decide +kernel), hP.2 89 4 92 (by decide +kernel), hP.2 89 5 93 (by decide +kernel)⟩
theorem stO_94 : stO 94 := fun h hP => ⟨(ex_so hP (by decide +kernel)).2, ⟨ex_so hP (by decide +kernel), ex_so hP (by decide +kernel), ex_so hP (by decide +kernel), ex_so hP (by decide +kernel)⟩, hP.2 94 2 95 (by decide +kernel), hP.2 94 3 96 (by decide +kernel), hP.2 94 4 97 (by decide +kernel), hP.2 94 5 98 (by decide +kernel)⟩
theorem stO_99 : stO 99 := fun h hP => ⟨(ex_so hP (by decide +kernel)).2, ⟨ex_so hP (by decide +kernel), ex_so hP (by decide +kernel), ex_so hP (by decide +kernel), ex_so hP (by decide +kernel)⟩, hP.2 99 2 100 (by decide +kernel), hP.2 99 3 101 (by decide +kernel), hP.2 99 4 102 (by decide +kernel), hP.2 99 5 103 (by decide +kernel)⟩
theorem stO_104 : stO 104 := fun h hP => ⟨(ex_so hP (by decide +kernel)).2, ⟨ex_so hP (by decide +kernel), ex_so hP (by decide +kernel), ex_so hP (by decide +kernel), ex_so hP (by decide +kernel)⟩, hP.2 104 2 105 (by decide +kernel), hP.2 104 3 106 (by decide +kernel), hP.2 104 4 107 (by decide +kernel), hP.2 104 5 108 (by decide +kernel)⟩
theorem stO_109 : stO 109 := fun h hP => ⟨(ex_so hP (by decide +kernel)).2, ⟨ex_so hP (by decide +kernel), ex_so hP (by decide +kernel), ex_so hP (by decide +kernel), ex_so hP (by decide +kernel)⟩, hP.2 109 2 110 (by decide +kernel), hP.2 109 3 111 (by decide +kernel), hP.2 109 4 112 (by decide +kernel), hP.2 109 5 113 (by decide +kernel)⟩
theorem stO_114 : stO 114 := fun h hP => ⟨(ex_so hP (by decide +kernel)).2, ⟨ex_so hP (by decide +kernel), ex_so hP (by decide +kernel), ex_so hP (by decide +kernel), ex_so hP (by decide +kernel)⟩, hP.2 114 2 115 (by decide +kernel), hP.2 114 3 116 (by decide +kernel), hP.2 114 4 117 (by decide +kernel), hP.2 114 5 118 (by decide +kernel)⟩
theorem stO_119 : stO 119 := fun h hP => ⟨(ex_so hP (by decide +kernel)).2, ⟨ex_so hP (by decide +kernel), ex_so hP (by decide +kernel), ex_so hP (by decide +kernel), ex_so hP (by decide +kernel)⟩, hP.2 119 2 120 (by decide +kernel), hP.2 119 3 121 (by decide +kernel), hP.2 119 4 122 (by decide +kernel), hP.2 119 5 123 (by decide +kernel)⟩
theorem stO_124 : stO 124 := fun h hP => ⟨(ex_so hP (by decide +kernel)).2, ⟨ex_so hP (by decide +kernel), ex_so hP (by decide +kernel), ex_so hP (by decide +kernel), ex_so hP (by decide +kernel)⟩, hP.2 124 2 125 (by decide +kernel), hP.2 124 3 126 (by decide +kernel), hP.2 124 4 127 (by decide +kernel), hP.2 124 5 128 (by decide +kernel)⟩
theorem stO_131 : stO 131 := fun h hP => ⟨(ex_so hP (by decide +kernel)).2, ⟨ex_so hP (by decide +kernel), ex_so hP (by decide +kernel), ex_so hP (by decide +kernel), ex_so hP (by decide +kernel)⟩, hP.2 131 2 132 (by decide +kernel), hP.2 131 3 133 (by decide +kernel), hP.2 131 4 134 (by decide +kernel), hP.2 131 5 135 (by decide +kernel)⟩
theorem stO_137 : stO 137 := fun h hP => ⟨(ex_so hP (by decide +kernel)).2, ⟨ex_so hP (by decide +kernel), ex_so hP (by decide +kernel), ex_so hP (by decide +kernel), ex_so hP (by decide +kernel)⟩, hP.2 137 2 138 (by decide +kernel), hP.2 137 3 139 (by decide +kernel), hP.2 137 4 140 (by decide +kernel), hP.2 137 5 141 (by decide +kernel)⟩
theorem stO_143 : stO 143 := fun h hP => ⟨(ex_so hP (by decide +kernel)).2, ⟨ex_so hP (by decide +kernel), ex_so hP (by decide +kernel), ex_so hP (by decide +kernel), ex_so hP (by decide +kernel)⟩, hP.2 143 2 144 (by decide +kernel), hP.2 143 3 145 (by decide +kernel), hP.2 143 4 146 (by decide +kernel), hP.2 143 5 147 (by decide +kernel)⟩
theorem stO_149 : stO 149 := fun h hP => ⟨(ex_so hP (by decide +kernel)).2, ⟨ex_so hP (by decide +kernel), ex_so hP (by decide +kernel), ex_so hP (by decide +kernel), ex_so hP (by decide +kernel)⟩, hP.2 149 2 150 (by decide +kernel), hP.2 149 3 151 (by decide +kernel), hP.2 149 4 152 (by decide +kernel), hP.2 149 5 153 (by decide +kernel)⟩
theorem stO_ring {q : Nat} (hq : q < 16) : stO (49 + 5 * q) := by
  have w : q = 0 ∨ q = 1 ∨ q = 2 ∨ q = 3 ∨ q = 4 ∨ q = 5 ∨ q = 6 ∨ q = 7 ∨ q = 8 ∨ q = 9 ∨ q = 10 ∨ q = 11 ∨ q = 12 ∨ q = 13 ∨ q = 14 ∨ q = 15 := by omega
  rcases w with rfl | rfl | rfl | rfl | rfl | rfl | rfl | rfl | rfl | rfl | rfl | rfl | rfl | rfl | rfl | rfl
  · exact stO_49
  · exact stO_54
  · exact stO_59
  · exact stO_64
  · exact stO_69
  · exact stO_74
  · exact stO_79
  · exact stO_84
  · exact stO_89
  · exact stO_94
  · exact stO_99
  · exact stO_104
  · exact stO_109
  · exact stO_114
  · exact stO_119
  · exact stO_124
variable {h h0 : am_H} {Q : am_Q} {C : sp_C} {x y w z : Int32} {s u : dS} {D S : Nat}
theorem sv2_99 : am_r99.all (fun q => sv2_ok q.2) = true := by decide +kernel
theorem q_99b (oD : stO D) (oS : stO S) (hd : D + 5 ≤ S ∨ S + 5 ≤ D) : ∀ (m i : Nat) (h : am_H), i + m = 5 → ex_P h → (∀ j, j < i → h.1 (D + 3) j = h.1 (S + 3) j ∧ h.1 (D + 4) j = h.1 (S + 4) j) → (∀ h1, ex_P h1 → h1.2 = h.2 → (∀ o k, ¬ (o = (D + 3) ∨ o = (D + 4)) → h1.1 o k = h.1 o k) → (∀ j, j < 5 → h1.1 (D + 3) j = h.1 (S + 3) j ∧ h1.1 (D + 4) j = h.1 (S + 4) j) → Q none h1) → pz_S 3 none am_r99 0 Q 56 [(2, .int (nI i)), (0, .ref D), (1, .ref S)] [] h := by
  intro m
  induction m with
  | zero =>
    intro i h hi hP hj hQ
    refine am_goX 3 (show ((Int32.ofInt 5) ≤ (nI i) → pz_S 3 none am_r99 0 Q 91 [(2, .int (nI i)), (0, .ref D), (1, .ref S)] [] h) ∧ (¬ ((Int32.ofInt 5) ≤ (nI i)) → pz_S 3 none am_r99 0 Q 61 [(2, .int (nI i)), (0, .ref D), (1, .ref S)] [] h) from ⟨fun _ => ?_, fun hz => absurd (show nI 5 ≤ nI i from nI_le (by omega) (by omega)) hz⟩)
    exact am_goX 1 (show (none : Option FieldType) = none ∧ h.2.2.2.2 = 175 ∧ _ from ⟨rfl, ex_175 hP, hQ _ hP rfl (fun _ _ _ => rfl) (fun j hj1 => hj j (by omega))⟩)
  | succ m ih =>
    intro i h hi hP hj hQ
    refine am_goX 3 (show ((Int32.ofInt 5) ≤ (nI i) → pz_S 3 none am_r99 0 Q 91 [(2, .int (nI i)), (0, .ref D), (1, .ref S)] [] h) ∧ (¬ ((Int32.ofInt 5) ≤ (nI i)) → pz_S 3 none am_r99 0 Q 61 [(2, .int (nI i)), (0, .ref D), (1, .ref S)] [] h) from ⟨fun hz => absurd hz (show ¬ nI 5 ≤ nI i by rw [nI_leI (by omega) (by omega)]; omega), fun _ => ?_⟩)
    refine am_goX 2 (show am_sh h D = some (6, 0) ∧ pz_S 3 none am_r99 0 Q 65 [(2, .int (nI i)), (0, .ref D), (1, .ref S)] [am_rf (h.2.2.1 D 4)] h from ⟨stO_0 oD hP, ?_⟩)
    rw [stO_r4 oD (h := h) hP]
    refine am_goX 3 (show am_sh h S = some (6, 0) ∧ pz_S 3 none am_r99 0 Q 70 [(2, .int (nI i)), (0, .ref D), (1, .ref S)] [am_rf (h.2.2.1 S 4), .int (nI i), .ref (D + 3)] h from ⟨stO_0 oS hP, ?_⟩)
    rw [stO_r4 oS (h := h) hP]
    refine am_goX 2 (show ∃ jj nn : Nat, am_sh h (S + 3) = some (13, nn) ∧ jj < nn ∧ (nI i) = nI jj ∧ pz_S 3 none am_r99 0 Q 72 [(2, .int (nI i)), (0, .ref D), (1, .ref S)] [.int (h.1 (S + 3) jj), .int (nI i), .ref (D + 3)] h from ⟨i, 5, stO_3 oS hP, by omega, rfl, ?_⟩)
    refine am_goX 1 (show ∃ jj nn : Nat, am_so h (D + 3) = some (13, nn) ∧ jj < nn ∧ (nI i) = nI jj ∧ pz_S 3 none am_r99 0 Q 73 [(2, .int (nI i)), (0, .ref D), (1, .ref S)] [] (am_wI h (D + 3) jj (h.1 (S + 3) i)) from ⟨i, 5, stO_w3 oD hP, by omega, rfl, ?_⟩)
    refine am_goX 2 (show am_sh (am_wI h (D + 3) (i) (h.1 (S + 3) i)) D = some (6, 0) ∧ pz_S 3 none am_r99 0 Q 77 [(2, .int (nI i)), (0, .ref D), (1, .ref S)] [am_rf ((am_wI h (D + 3) (i) (h.1 (S + 3) i)).2.2.1 D 5)] (am_wI h (D + 3) (i) (h.1 (S + 3) i)) from ⟨stO_0 oD hP, ?_⟩)
    rw [stO_r5 oD (h := am_wI h (D + 3) (i) (h.1 (S + 3) i)) hP]
    refine am_goX 3 (show am_sh (am_wI h (D + 3) (i) (h.1 (S + 3) i)) S = some (6, 0) ∧ pz_S 3 none am_r99 0 Q 82 [(2, .int (nI i)), (0, .ref D), (1, .ref S)] [am_rf ((am_wI h (D + 3) (i) (h.1 (S + 3) i)).2.2.1 S 5), .int (nI i), .ref (D + 4)] (am_wI h (D + 3) (i) (h.1 (S + 3) i)) from ⟨stO_0 oS hP, ?_⟩)
    rw [stO_r5 oS (h := am_wI h (D + 3) (i) (h.1 (S + 3) i)) hP]
    refine am_goX 2 (show ∃ jj nn : Nat, am_sh (am_wI h (D + 3) (i) (h.1 (S + 3) i)) (S + 4) = some (13, nn) ∧ jj < nn ∧ (nI i) = nI jj ∧ pz_S 3 none am_r99 0 Q 84 [(2, .int (nI i)), (0, .ref D), (1, .ref S)] [.int ((am_wI h (D + 3) (i) (h.1 (S + 3) i)).1 (S + 4) jj), .int (nI i), .ref (D + 4)] (am_wI h (D + 3) (i) (h.1 (S + 3) i)) from ⟨i, 5, stO_4 oS hP, by omega, rfl, ?_⟩)
    rw [show (am_wI h (D + 3) (i) (h.1 (S + 3) i)).1 (S + 4) i = h.1 (S + 4) i from em_wn _ _ (by omega)]
    refine am_goX 1 (show ∃ jj nn : Nat, am_so (am_wI h (D + 3) (i) (h.1 (S + 3) i)) (D + 4) = some (13, nn) ∧ jj < nn ∧ (nI i) = nI jj ∧ pz_S 3 none am_r99 0 Q 85 [(2, .int (nI i)), (0, .ref D), (1, .ref S)] [] (am_wI (am_wI h (D + 3) (i) (h.1 (S + 3) i)) (D + 4) jj (h.1 (S + 4) i)) from ⟨i, 5, stO_w4 oD hP, by omega, rfl, ?_⟩)
    refine am_goX 2 (show 2 < 3 ∧ pz_S 3 none am_r99 0 Q 56 [(2, .int ((nI i) + Int32.ofInt 1)), (0, .ref D), (1, .ref S)] [] (am_wI (am_wI h (D + 3) (i) (h.1 (S + 3) i)) (D + 4) (i) (h.1 (S + 4) i)) from ⟨by decide, ?_⟩)
    rw [xw_i1]
    refine ih (i + 1) _ (by omega) hP (fun j hj1 => ?_) (fun h1 p1 p2 p3 p4 => hQ h1 p1 p2 (fun o k hn => (p3 o k hn).trans (by rw [em_wn _ _ (by omega), em_wn _ _ (by omega)])) (fun j hj1 => by
      have w := p4 j hj1
      rw [em_wn _ _ (by omega), em_wn _ _ (by omega), em_wn _ _ (by omega), em_wn _ _ (by omega)] at w
      exact w))
    by_cases ej : j = i
    · rw [ej, em_wn _ _ (by omega), em_we, em_we, em_wn _ _ (by omega), em_wn _ _ (by omega), em_wn _ _ (by omega), em_wn _ _ (by omega)]
      exact ⟨rfl, rfl⟩
    · rw [em_wn _ _ (by omega), em_wn _ _ (by omega), em_wn _ _ (by omega), em_wn _ _ (by omega), em_wn _ _ (by omega), em_wn _ _ (by omega), em_wn _ _ (by omega), em_wn _ _ (by omega)]
      exact hj j (by omega)
theorem q_99a (oD : stO D) (oS : stO S) (hd : D + 5 ≤ S ∨ S + 5 ≤ D) : ∀ (m i : Nat) (h : am_H), i + m = 6 → ex_P h → (∀ j, j < i → h.1 (D + 1) j = h.1 (S + 1) j ∧ h.1 (D + 2) j = h.1 (S + 2) j) → (∀ h1, ex_P h1 → h1.2 = h.2 → (∀ o k, ¬ ((D + 1) ≤ o ∧ o ≤ (D + 4)) → h1.1 o k = h.1 o k) → (∀ j, j < 6 → h1.1 (D + 1) j = h.1 (S + 1) j ∧ h1.1 (D + 2) j = h.1 (S + 2) j) → (∀ j, j < 5 → h1.1 (D + 3) j = h.1 (S + 3) j ∧ h1.1 (D + 4) j = h.1 (S + 4) j) → Q none h1) → pz_S 3 none am_r99 0 Q 18 [(2, .int (nI i)), (0, .ref D), (1, .ref S)] [] h := by
  intro m
  induction m with
  | zero =>
    intro i h hi hP hj hQ
    refine am_goX 3 (show ((Int8.ofInt 6).toInt32 ≤ (nI i) → pz_S 3 none am_r99 0 Q 54 [(2, .int (nI i)), (0, .ref D), (1, .ref S)] [] h) ∧ (¬ ((Int8.ofInt 6).toInt32 ≤ (nI i)) → pz_S 3 none am_r99 0 Q 24 [(2, .int (nI i)), (0, .ref D), (1, .ref S)] [] h) from ⟨fun _ => ?_, fun hz => absurd (show nI 6 ≤ nI i from nI_le (by omega) (by omega)) hz⟩)
    refine am_goX 2 (show 2 < 3 ∧ pz_S 3 none am_r99 0 Q 56 [(2, .int (Int32.ofInt 0)), (0, .ref D), (1, .ref S)] [] h from ⟨by decide, ?_⟩)
    exact q_99b oD oS hd 5 0 _ rfl hP (fun j hj1 => absurd hj1 (Nat.not_lt_zero j)) (fun h1 p1 p2 p3 p4 => hQ h1 p1 p2 (fun o k hn => p3 o k (by omega)) (fun j hj1 => by rw [p3 (D + 1) j (by omega), p3 (D + 2) j (by omega)]; exact hj j (by omega)) p4)
  | succ m ih =>
    intro i h hi hP hj hQ
    refine am_goX 3 (show ((Int8.ofInt 6).toInt32 ≤ (nI i) → pz_S 3 none am_r99 0 Q 54 [(2, .int (nI i)), (0, .ref D), (1, .ref S)] [] h) ∧ (¬ ((Int8.ofInt 6).toInt32 ≤ (nI i)) → pz_S 3 none am_r99 0 Q 24 [(2, .int (nI i)), (0, .ref D), (1, .ref S)] [] h) from ⟨fun hz => absurd hz (show ¬ nI 6 ≤ nI i by rw [nI_leI (by omega) (by omega)]; omega), fun _ => ?_⟩)
    refine am_goX 2 (show am_sh h D = some (6, 0) ∧ pz_S 3 none am_r99 0 Q 28 [(2, .int (nI i)), (0, .ref D), (1, .ref S)] [am_rf (h.2.2.1 D 2)] h from ⟨stO_0 oD hP, ?_⟩)
    rw [stO_r2 oD (h := h) hP]
    refine am_goX 3 (show am_sh h S = some (6, 0) ∧ pz_S 3 none am_r99 0 Q 33 [(2, .int (nI i)), (0, .ref D), (1, .ref S)] [am_rf (h.2.2.1 S 2), .int (nI i), .ref (D + 1)] h from ⟨stO_0 oS hP, ?_⟩)
    rw [stO_r2 oS (h := h) hP]
    refine am_goX 2 (show ∃ jj nn : Nat, am_sh h (S + 1) = some (13, nn) ∧ jj < nn ∧ (nI i) = nI jj ∧ pz_S 3 none am_r99 0 Q 35 [(2, .int (nI i)), (0, .ref D), (1, .ref S)] [.int (h.1 (S + 1) jj), .int (nI i), .ref (D + 1)] h from ⟨i, 6, stO_1 oS hP, by omega, rfl, ?_⟩)
    refine am_goX 1 (show ∃ jj nn : Nat, am_so h (D + 1) = some (13, nn) ∧ jj < nn ∧ (nI i) = nI jj ∧ pz_S 3 none am_r99 0 Q 36 [(2, .int (nI i)), (0, .ref D), (1, .ref S)] [] (am_wI h (D + 1) jj (h.1 (S + 1) i)) from ⟨i, 6, stO_w1 oD hP, by omega, rfl, ?_⟩)
    refine am_goX 2 (show am_sh (am_wI h (D + 1) (i) (h.1 (S + 1) i)) D = some (6, 0) ∧ pz_S 3 none am_r99 0 Q 40 [(2, .int (nI i)), (0, .ref D), (1, .ref S)] [am_rf ((am_wI h (D + 1) (i) (h.1 (S + 1) i)).2.2.1 D 3)] (am_wI h (D + 1) (i) (h.1 (S + 1) i)) from ⟨stO_0 oD hP, ?_⟩)
    rw [stO_r3 oD (h := am_wI h (D + 1) (i) (h.1 (S + 1) i)) hP]
    refine am_goX 3 (show am_sh (am_wI h (D + 1) (i) (h.1 (S + 1) i)) S = some (6, 0) ∧ pz_S 3 none am_r99 0 Q 45 [(2, .int (nI i)), (0, .ref D), (1, .ref S)] [am_rf ((am_wI h (D + 1) (i) (h.1 (S + 1) i)).2.2.1 S 3), .int (nI i), .ref (D + 2)] (am_wI h (D + 1) (i) (h.1 (S + 1) i)) from ⟨stO_0 oS hP, ?_⟩)
    rw [stO_r3 oS (h := am_wI h (D + 1) (i) (h.1 (S + 1) i)) hP]
    refine am_goX 2 (show ∃ jj nn : Nat, am_sh (am_wI h (D + 1) (i) (h.1 (S + 1) i)) (S + 2) = some (13, nn) ∧ jj < nn ∧ (nI i) = nI jj ∧ pz_S 3 none am_r99 0 Q 47 [(2, .int (nI i)), (0, .ref D), (1, .ref S)] [.int ((am_wI h (D + 1) (i) (h.1 (S + 1) i)).1 (S + 2) jj), .int (nI i), .ref (D + 2)] (am_wI h (D + 1) (i) (h.1 (S + 1) i)) from ⟨i, 6, stO_2 oS hP, by omega, rfl, ?_⟩)
    rw [show (am_wI h (D + 1) (i) (h.1 (S + 1) i)).1 (S + 2) i = h.1 (S + 2) i from em_wn _ _ (by omega)]
    refine am_goX 1 (show ∃ jj nn : Nat, am_so (am_wI h (D + 1) (i) (h.1 (S + 1) i)) (D + 2) = some (13, nn) ∧ jj < nn ∧ (nI i) = nI jj ∧ pz_S 3 none am_r99 0 Q 48 [(2, .int (nI i)), (0, .ref D), (1, .ref S)] [] (am_wI (am_wI h (D + 1) (i) (h.1 (S + 1) i)) (D + 2) jj (h.1 (S + 2) i)) from ⟨i, 6, stO_w2 oD hP, by omega, rfl, ?_⟩)
    refine am_goX 2 (show 2 < 3 ∧ pz_S 3 none am_r99 0 Q 18 [(2, .int ((nI i) + Int32.ofInt 1)), (0, .ref D), (1, .ref S)] [] (am_wI (am_wI h (D + 1) (i) (h.1 (S + 1) i)) (D + 2) (i) (h.1 (S + 2) i)) from ⟨by decide, ?_⟩)
    rw [xw_i1]
    refine ih (i + 1) _ (by omega) hP (fun j hj1 => ?_) (fun h1 p1 p2 p3 p4 p5 => hQ h1 p1 p2 (fun o k hn => (p3 o k hn).trans (by rw [em_wn _ _ (by omega), em_wn _ _ (by omega)])) (fun j hj1 => by
      have w := p4 j hj1
      rw [em_wn _ _ (by omega), em_wn _ _ (by omega), em_wn _ _ (by omega), em_wn _ _ (by omega)] at w
      exact w) (fun j hj1 => by
      have w := p5 j hj1
      rw [em_wn (o' := (S + 3)) _ _ (by omega), em_wn (o' := (S + 3)) _ _ (by omega), em_wn (o' := (S + 4)) _ _ (by omega), em_wn (o' := (S + 4)) _ _ (by omega)] at w
      exact w))
    by_cases ej : j = i
    · rw [ej, em_wn _ _ (by omega), em_we, em_we, em_wn _ _ (by omega), em_wn _ _ (by omega), em_wn _ _ (by omega), em_wn _ _ (by omega)]
      exact ⟨rfl, rfl⟩
    · rw [em_wn _ _ (by omega), em_wn _ _ (by omega), em_wn _ _ (by omega), em_wn _ _ (by omega), em_wn _ _ (by omega), em_wn _ _ (by omega), em_wn _ _ (by omega), em_wn _ _ (by omega)]
      exact hj j (by omega)
theorem q_99 (oD : stO D) (oS : stO S) (hd : D + 5 ≤ S ∨ S + 5 ≤ D) (hP : ex_P h) (hQ : ∀ h1, ex_P h1 → h1.2 = h.2 → (∀ o k, ¬ (D ≤ o ∧ o ≤ (D + 4)) → h1.1 o k = h.1 o k) → scq D S h h1 → Q none h1) : am_call am_cod 1 99 [.ref D, .ref S] h Q := by
  refine pz_call (n := 99) (nL := 3) (rt := none) (rows := am_r99) (d := 0) (by decide +kernel) (by decide +kernel) rfl (by funext pc; rfl) (ex_175 hP) (by exact Nat.le_of_ble_eq_true rfl) ?_
  refine am_goX 4 (show am_sh h S = some (6, 0) ∧ am_sh h D = some (6, 0) ∧ narrow (am_fty 6 0) (.int ((h.1 S 0))) = .int ((h.1 S 0)) ∧ fits (am_fty 6 0) (.int ((h.1 S 0))) = true ∧ pz_S 3 none am_r99 0 Q 8 [(0, .ref D), (1, .ref S)] [] (am_wI h D 0 ((h.1 S 0))) from ⟨stO_0 oS hP, stO_0 oD hP, rfl, rfl, ?_⟩)
  refine am_goX 4 (show am_sh (am_wI h D 0 ((h.1 S 0))) S = some (6, 0) ∧ am_sh (am_wI h D 0 ((h.1 S 0))) D = some (6, 0) ∧ narrow (am_fty 6 1) (.int (((am_wI h D 0 ((h.1 S 0))).1 S 1))) = .int (((am_wI h D 0 ((h.1 S 0))).1 S 1)) ∧ fits (am_fty 6 1) (.int (((am_wI h D 0 ((h.1 S 0))).1 S 1))) = true ∧ pz_S 3 none am_r99 0 Q 16 [(0, .ref D), (1, .ref S)] [] (am_wI (am_wI h D 0 ((h.1 S 0))) D 1 (((am_wI h D 0 ((h.1 S 0))).1 S 1))) from ⟨stO_0 oS hP, stO_0 oD hP, rfl, rfl, ?_⟩)
  rw [show (am_wI h D 0 ((h.1 S 0))).1 S 1 = h.1 S 1 from em_wn _ _ (by omega)]
  refine am_goX 2 (show 2 < 3 ∧ pz_S 3 none am_r99 0 Q 18 [(2, .int (Int32.ofInt 0)), (0, .ref D), (1, .ref S)] [] (am_wI (am_wI h D 0 ((h.1 S 0))) D 1 (h.1 S 1)) from ⟨by decide, ?_⟩)
  exact q_99a oD oS hd 6 0 _ rfl hP (fun j hj1 => absurd hj1 (Nat.not_lt_zero j)) (fun h1 p1 p2 p3 p4 p5 => hQ h1 p1 p2 (fun o k hn => by rw [p3 o k (by omega), em_wn _ _ (by omega), em_wn _ _ (by omega)]) ⟨⟨by rw [p3 D 0 (by omega), em_wn _ _ (by omega), em_we], by rw [p3 D 1 (by omega), em_we]⟩, fun j hj1 => by
    have w := p4 j hj1
    rw [em_wn _ _ (by omega), em_wn _ _ (by omega), em_wn _ _ (by omega), em_wn _ _ (by omega)] at w
    exact w, fun j hj1 => by
    have w := p5 j hj1
    rw [em_wn _ _ (by omega), em_wn _ _ (by omega), em_wn _ _ (by omega), em_wn _ _ (by omega)] at w
    exact w⟩)
theorem sC_fr {o : Nat} {s : dS} {h g : am_H} (e : ∀ a k, o ≤ a → a ≤ o + 4 → g.1 a k = h.1 a k) (l : sC o s h) : sC o s g := by
  obtain ⟨⟨a1, a2⟩, a3, a4⟩ := l
  exact ⟨⟨(e _ _ (by omega) (by omega)).trans a1, (e _ _ (by omega) (by omega)).trans a2⟩, fun i hi => ⟨(e _ _ (by omega) (by omega)).trans (a3 i hi).1, (e _ _ (by omega) (by omega)).trans (a3 i hi).2⟩, fun i hi => ⟨(e _ _ (by omega) (by omega)).trans (a4 i hi).1, (e _ _ (by omega) (by omega)).trans (a4 i hi).2⟩⟩
theorem sC_cp {D S : Nat} {s : dS} {h g : am_H} (c : scq D S h g) (l : sC S s h) : sC D s g := by
  obtain ⟨⟨a1, a2⟩, a3, a4⟩ := l
  obtain ⟨⟨c1, c2⟩, c3, c4⟩ := c
  exact ⟨⟨c1.trans a1, c2.trans a2⟩, fun i hi => ⟨(c3 i hi).1.trans (a3 i hi).1, (c3 i hi).2.trans (a3 i hi).2⟩, fun i hi => ⟨(c4 i hi).1.trans (a4 i hi).1, (c4 i hi).2.trans (a4 i hi).2⟩⟩
/-- all but the History's own cells and the State D -/
def kF (D : Nat) (h0 h : am_H) : Prop := h.2 = h0.2 ∧ ∀ o k, ¬ o = 47 → ¬ (D ≤ o ∧ o ≤ D + 4) → h.1 o k = h0.1 o k
theorem kF_0 {D : Nat} {h : am_H} : kF D h h := ⟨rfl, fun _ _ _ _ => rfl⟩
theorem kF_w {D o k : Nat} {v : Int32} {h0 h : am_H} (ho : o = 47) (l : kF D h0 h) : kF D h0 (am_wI h o k v) := ⟨l.1, fun a j h1 h2 => (em_wn _ _ (by omega)).trans (l.2 a j h1 h2)⟩
theorem kF_c {D : Nat} {h0 h h1 : am_H} (l : kF D h0 h) (p2 : h1.2 = h.2) (p3 : ∀ o k, ¬ (D ≤ o ∧ o ≤ D + 4) → h1.1 o k = h.1 o k) : kF D h0 h1 := ⟨p2.trans l.1, fun a j h1 h2 => (p3 a j h2).trans (l.2 a j h1 h2)⟩
theorem scq_b {D D' S : Nat} {h0 h h1 : am_H} (l : kF D' h0 h) (hn : ∀ a, S ≤ a → a ≤ S + 4 → ¬ a = 47 ∧ ¬ (D' ≤ a ∧ a ≤ D' + 4)) (c : scq D S h h1) : scq D S h0 h1 := by
  have e : ∀ a k, S ≤ a → a ≤ S + 4 → h.1 a k = h0.1 a k := fun a k u1 u2 => l.2 a k (hn a u1 u2).1 (hn a u1 u2).2
  obtain ⟨⟨c1, c2⟩, c3, c4⟩ := c
  exact ⟨⟨c1.trans (e _ _ (by omega) (by omega)), c2.trans (e _ _ (by omega) (by omega))⟩, fun i hi => ⟨(c3 i hi).1.trans (e _ _ (by omega) (by omega)), (c3 i hi).2.trans (e _ _ (by omega) (by omega))⟩, fun i hi => ⟨(c4 i hi).1.trans (e _ _ (by omega) (by omega)), (c4 i hi).2.trans (e _ _ (by omega) (by omega))⟩⟩
theorem scq_w {D S o k : Nat} {v : Int32} {h0 h : am_H} (hn : ¬ (D ≤ o ∧ o ≤ D + 4)) (c : scq D S h0 h) : scq D S h0 (am_wI h o k v) := by
  obtain ⟨⟨c1, c2⟩, c3, c4⟩ := c
  refine ⟨⟨?_, ?_⟩, fun i hi => ⟨?_, ?_⟩, fun i hi => ⟨?_, ?_⟩⟩ <;> rw [em_wn _ _ (by omega)]
  · exact c1
  · exact c2
  · exact (c3 i hi).1
  · exact (c3 i hi).2
  · exact (c4 i hi).1
  · exact (c4 i hi).2
theorem nI_n0 {n : Nat} (h0 : 0 < n) (hn : n ≤ 4096) : ¬ nI n = 0 := fun w => by
  have e := nI_inj2 (a := n) (b := 0) (by omega) (by omega) w
  omega
theorem min16 : ∀ n, n < 17 → (if nI 16 < nI (n + 1) then nI 16 else nI (n + 1)) = nI (min (n + 1) 16) := by decide +kernel
variable {n : Nat}
theorem ex_48 {h : am_H} (hP : ex_P h) : am_sh h 48 = some (17, 16) := (ex_so hP (by decide +kernel)).2
theorem ex_w48 {h : am_H} (hP : ex_P h) : am_so h 48 = some (17, 16) := (ex_so hP (by decide +kernel)).1
theorem ex_49 {h : am_H} (hP : ex_P h) : am_sh h 49 = some (6, 0) := (ex_so hP (by decide +kernel)).2
theorem ex_54 {h : am_H} (hP : ex_P h) : am_sh h 54 = some (6, 0) := (ex_so hP (by decide +kernel)).2
theorem ex_59 {h : am_H} (hP : ex_P h) : am_sh h 59 = some (6, 0) := (ex_so hP (by decide +kernel)).2
theorem ex_64 {h : am_H} (hP : ex_P h) : am_sh h 64 = some (6, 0) := (ex_so hP (by decide +kernel)).2
theorem ex_69 {h : am_H} (hP : ex_P h) : am_sh h 69 = some (6, 0) := (ex_so hP (by decide +kernel)).2
theorem ex_74 {h : am_H} (hP : ex_P h) : am_sh h 74 = some (6, 0) := (ex_so hP (by decide +kernel)).2
theorem ex_79 {h : am_H} (hP : ex_P h) : am_sh h 79 = some (6, 0) := (ex_so hP (by decide +kernel)).2
theorem ex_84 {h : am_H} (hP : ex_P h) : am_sh h 84 = some (6, 0) := (ex_so hP (by decide +kernel)).2
theorem ex_89 {h : am_H} (hP : ex_P h) : am_sh h 89 = some (6, 0) := (ex_so hP (by decide +kernel)).2
theorem ex_94 {h : am_H} (hP : ex_P h) : am_sh h 94 = some (6, 0) := (ex_so hP (by decide +kernel)).2
theorem ex_99 {h : am_H} (hP : ex_P h) : am_sh h 99 = some (6, 0) := (ex_so hP (by decide +kernel)).2
theorem ex_104 {h : am_H} (hP : ex_P h) : am_sh h 104 = some (6, 0) := (ex_so hP (by decide +kernel)).2
theorem ex_109 {h : am_H} (hP : ex_P h) : am_sh h 109 = some (6, 0) := (ex_so hP (by decide +kernel)).2
theorem ex_114 {h : am_H} (hP : ex_P h) : am_sh h 114 = some (6, 0) := (ex_so hP (by decide +kernel)).2
theorem ex_119 {h : am_H} (hP : ex_P h) : am_sh h 119 = some (6, 0) := (ex_so hP (by decide +kernel)).2
theorem ex_124 {h : am_H} (hP : ex_P h) : am_sh h 124 = some (6, 0) := (ex_so hP (by decide +kernel)).2
theorem ex_r47_0 {h : am_H} (hP : ex_P h) : h.2.2.1 47 0 = some 48 := hP.2 47 0 48 (by decide +kernel)
theorem ex_r48_0 {h : am_H} (hP : ex_P h) : h.2.2.1 48 0 = some 49 := hP.2 48 0 49 (by decide +kernel)
theorem ex_r48_1 {h : am_H} (hP : ex_P h) : h.2.2.1 48 1 = some 54 := hP.2 48 1 54 (by decide +kernel)
theorem ex_r48_2 {h : am_H} (hP : ex_P h) : h.2.2.1 48 2 = some 59 := hP.2 48 2 59 (by decide +kernel)
theorem ex_r48_3 {h : am_H} (hP : ex_P h) : h.2.2.1 48 3 = some 64 := hP.2 48 3 64 (by decide +kernel)
theorem ex_r48_4 {h : am_H} (hP : ex_P h) : h.2.2.1 48 4 = some 69 := hP.2 48 4 69 (by decide +kernel)
theorem ex_r48_5 {h : am_H} (hP : ex_P h) : h.2.2.1 48 5 = some 74 := hP.2 48 5 74 (by decide +kernel)
theorem ex_r48_6 {h : am_H} (hP : ex_P h) : h.2.2.1 48 6 = some 79 := hP.2 48 6 79 (by decide +kernel)
theorem ex_r48_7 {h : am_H} (hP : ex_P h) : h.2.2.1 48 7 = some 84 := hP.2 48 7 84 (by decide +kernel)
theorem ex_r48_8 {h : am_H} (hP : ex_P h) : h.2.2.1 48 8 = some 89 := hP.2 48 8 89 (by decide +kernel)
theorem ex_r48_9 {h : am_H} (hP : ex_P h) : h.2.2.1 48 9 = some 94 := hP.2 48 9 94 (by decide +kernel)
theorem ex_r48_10 {h : am_H} (hP : ex_P h) : h.2.2.1 48 10 = some 99 := hP.2 48 10 99 (by decide +kernel)
theorem ex_r48_11 {h : am_H} (hP : ex_P h) : h.2.2.1 48 11 = some 104 := hP.2 48 11 104 (by decide +kernel)
theorem ex_r48_12 {h : am_H} (hP : ex_P h) : h.2.2.1 48 12 = some 109 := hP.2 48 12 109 (by decide +kernel)
theorem ex_r48_13 {h : am_H} (hP : ex_P h) : h.2.2.1 48 13 = some 114 := hP.2 48 13 114 (by decide +kernel)
theorem ex_r48_14 {h : am_H} (hP : ex_P h) : h.2.2.1 48 14 = some 119 := hP.2 48 14 119 (by decide +kernel)
theorem ex_r48_15 {h : am_H} (hP : ex_P h) : h.2.2.1 48 15 = some 124 := hP.2 48 15 124 (by decide +kernel)
theorem sv2_29 : am_r29.all (fun q => sv2_ok q.2) = true := by decide +kernel
def d_29 (x y : Int32) : Int32 := (if y < x then y else x)
theorem d_29_w (hP : ex_P h)  (hQ : Q (some (.int (d_29 x y))) h) : am_call am_cod 1 29 [.int x, .int y] h Q := by
  refine pz_call (n := 29) (nL := 2) (rt := (some .int)) (rows := am_r29) (d := 0) (by decide +kernel) (by decide +kernel) rfl (by funext pc; rfl) (ex_175 hP) (by exact Nat.le_of_ble_eq_true rfl) ?_
  suffices key : ∀ (v2 : Int32), v2 = (if y < x then y else x) → pz_S 2 (some .int) am_r29 0 Q 10 [] [.int v2] h by
    refine am_goX 3 (show (y < x → pz_S 2 (some .int) am_r29 0 Q 9 [(0, .int x), (1, .int y)] [] h) ∧ (¬ (y < x) → pz_S 2 (some .int) am_r29 0 Q 5 [(0, .int x), (1, .int y)] [] h) from ⟨fun c1 => ?_, fun c1 => ?_⟩)
    · refine am_goX 1 (show pz_S 2 (some .int) am_r29 0 Q 10 [(0, .int x), (1, .int y)] [.int y] h from ?_)
      exact sv_S2 sv2_29 (fun q hq => absurd hq List.not_mem_nil) (key _ (if_pos c1).symm)
    · refine am_goX 2 (show pz_S 2 (some .int) am_r29 0 Q 10 [(0, .int x), (1, .int y)] [.int x] h from ?_)
      exact sv_S2 sv2_29 (fun q hq => absurd hq List.not_mem_nil) (key _ (if_neg c1).symm)
  intro v2 e3
  subst e3
  exact am_goX 1 (show (∃ ty, (some .int) = some ty ∧ narrow ty (.int (if y < x then y else x)) = .int (if y < x then y else x)) ∧ h.2.2.2.2 = 175 ∧ _ from ⟨⟨.int, rfl, rfl⟩, ex_175 hP, hQ⟩)
theorem q_98_0 (hn : n ≤ 16) (hP : ex_P h) (e1 : h.1 47 1 = nI 0) (e2 : h.1 47 2 = nI n) (hQ : ∀ h1, ex_P h1 → h1.2 = h.2 → (∀ o k, ¬ o = 47 → ¬ (54 ≤ o ∧ o ≤ 58) → h1.1 o k = h.1 o k) → h1.1 47 1 = nI 1 → h1.1 47 2 = nI (min (n + 1) 16) → scq 54 36 h h1 → Q none h1) : am_call am_cod 2 98 [.ref 47, .ref 36] h Q := by
  refine pz_call (n := 98) (nL := 2) (rt := none) (rows := am_r98) (d := 1) (by decide +kernel) (by decide +kernel) rfl (by funext pc; rfl) (ex_175 hP) (by exact Nat.le_of_ble_eq_true rfl) ?_
  have hX := kF_0 (D := 54) (h := h)
  refine am_goX 3 (show am_sh h 47 = some (2, 0) ∧ pz_S 2 none am_r98 1 Q 5 [(0, .ref 47), (1, .ref 36)] [.int (h.1 47 1), .ref 47] h from ⟨ex_47 hP, ?_⟩)
  rw [show h.1 47 1 = nI 0 from e1]
  refine am_goX 4 (show ¬ ((Int8.ofInt 16).toInt32) = 0 ∧ pz_S 2 none am_r98 1 Q 10 [(0, .ref 47), (1, .ref 36)] [.int (((nI 0) + (Int32.ofInt 1)) - ((nI 0) + (Int32.ofInt 1)) / ((Int8.ofInt 16).toInt32) * ((Int8.ofInt 16).toInt32)), .ref 47] h from ⟨by decide, ?_⟩)
  rw [show ((nI 0) + (Int32.ofInt 1)) - ((nI 0) + (Int32.ofInt 1)) / ((Int8.ofInt 16).toInt32) * ((Int8.ofInt 16).toInt32) = nI 1 from (by decide)]
  refine am_goX 1 (show am_sh h 47 = some (2, 0) ∧ narrow (am_fty 2 1) (.int (nI 1)) = .int (nI 1) ∧ fits (am_fty 2 1) (.int (nI 1)) = true ∧ pz_S 2 none am_r98 1 Q 13 [(0, .ref 47), (1, .ref 36)] [] (am_wI h 47 1 (nI 1)) from ⟨ex_47 hP, rfl, rfl, ?_⟩)
  have f5 : ex_P (am_wI h 47 1 (nI 1)) := hP
  have f6 : (am_wI h 47 1 (nI 1)).1 47 1 = nI 1 := (em_we _ _ _ _).trans (rfl)
  have f7 : (am_wI h 47 1 (nI 1)).1 47 2 = nI n := (em_wn _ _ (by omega)).trans e2
  have f8 : kF 54 h (am_wI h 47 1 (nI 1)) := kF_w (by omega) hX
  generalize am_wI h 47 1 (nI 1) = h4 at f5 f6 f7 f8 ⊢
  refine am_goX 2 (show am_sh h4 47 = some (2, 0) ∧ pz_S 2 none am_r98 1 Q 17 [(0, .ref 47), (1, .ref 36)] [am_rf (h4.2.2.1 47 0)] h4 from ⟨ex_47 f5, ?_⟩)
  rw [show am_rf (h4.2.2.1 47 0) = .ref 48 from congrArg am_rf (ex_r47_0 f5)]
  refine am_goX 2 (show am_sh h4 47 = some (2, 0) ∧ pz_S 2 none am_r98 1 Q 21 [(0, .ref 47), (1, .ref 36)] [.int (h4.1 47 1), .ref 48] h4 from ⟨ex_47 f5, ?_⟩)
  rw [show h4.1 47 1 = nI 1 from f6]
  refine am_goX 1 (show ∃ jj nn : Nat, (am_sh h4 48 = some (16, nn) ∨ am_sh h4 48 = some (17, nn)) ∧ jj < nn ∧ nI 1 = nI jj ∧ pz_S 2 none am_r98 1 Q 22 [(0, .ref 47), (1, .ref 36)] [am_rf (h4.2.2.1 48 jj)] h4 from ⟨1, 16, Or.inr (ex_48 f5), by decide, rfl, ?_⟩)
  rw [show am_rf (h4.2.2.1 48 1) = .ref 54 from congrArg am_rf (ex_r48_1 f5)]
  refine am_goX 2 (show am_rc h4 54 6 ∧ 0 ≤ 8 ∧ h4.2.2.2.2 + am_al 99 ≤ 175 ∧ am_call am_cod 1 99 [.ref 54, .ref 36] h4 (fun vv h' => pz_S 2 none am_r98 1 Q 26 [(0, .ref 47), (1, .ref 36)] (vv.toList ++ []) h') from ⟨Or.inl ⟨by decide, ex_54 f5⟩, by decide, ex_lim f5 rfl, am_call.up (q_99 stO_54 stO_36 (by decide) f5 (fun h9 f10 f11 f12 f13 => ?_)) (by decide)⟩)
  have f14 : h9.1 47 1 = nI 1 := (f12 47 1 (by omega)).trans f6
  have f15 : h9.1 47 2 = nI n := (f12 47 2 (by omega)).trans f7
  have f16 : kF 54 h h9 := kF_c f8 f11 f12
  have f17 : scq 54 36 h h9 := scq_b f8 (fun a u1 u2 => by omega) f13
  refine am_goX 3 (show am_sh h9 47 = some (2, 0) ∧ pz_S 2 none am_r98 1 Q 31 [(0, .ref 47), (1, .ref 36)] [.int (h9.1 47 2), .ref 47] h9 from ⟨ex_47 f10, ?_⟩)
  rw [show h9.1 47 2 = nI n from f15]
  refine am_goX 3 (show pz_S 2 none am_r98 1 Q 35 [(0, .ref 47), (1, .ref 36)] [.int ((Int8.ofInt 16).toInt32), .int ((nI n) + (Int32.ofInt 1)), .ref 47] h9 from ?_)
  rw [show (nI n) + (Int32.ofInt 1) = nI (n + 1) from (dn_a rfl rfl)]
  rw [show (Int8.ofInt 16).toInt32 = nI 16 from (show (Int8.ofInt 16).toInt32 = nI 16 by decide)]
  refine am_goX 1 (show 1 ≤ 8 ∧ h9.2.2.2.2 + am_al 29 ≤ 175 ∧ am_call am_cod 1 29 [.int (nI (n + 1)), .int (nI 16)] h9 (fun vv h' => pz_S 2 none am_r98 1 Q 38 [(0, .ref 47), (1, .ref 36)] (vv.toList ++ [.ref 47]) h') from ⟨by decide, ex_lim f10 rfl, am_call.up (d_29_w f10 ?_) (by decide)⟩)
  rw [show d_29 (nI (n + 1)) (nI 16) = nI (min (n + 1) 16) from ((show d_29 (nI (n + 1)) (nI 16) = nI (min (n + 1) 16) from min16 n (by omega)))]
  refine am_goX 1 (show am_sh h9 47 = some (2, 0) ∧ narrow (am_fty 2 2) (.int (nI (min (n + 1) 16))) = .int (nI (min (n + 1) 16)) ∧ fits (am_fty 2 2) (.int (nI (min (n + 1) 16))) = true ∧ pz_S 2 none am_r98 1 Q 41 [(0, .ref 47), (1, .ref 36)] [] (am_wI h9 47 2 (nI (min (n + 1) 16))) from ⟨ex_47 f10, rfl, rfl, ?_⟩)
  have f19 : ex_P (am_wI h9 47 2 (nI (min (n + 1) 16))) := f10
  have f20 : (am_wI h9 47 2 (nI (min (n + 1) 16))).1 47 1 = nI 1 := (em_wn _ _ (by omega)).trans f14
  have f21 : (am_wI h9 47 2 (nI (min (n + 1) 16))).1 47 2 = nI (min (n + 1) 16) := (em_we _ _ _ _).trans (rfl)
  have f22 : kF 54 h (am_wI h9 47 2 (nI (min (n + 1) 16))) := kF_w (by omega) f16
  have f23 : scq 54 36 h (am_wI h9 47 2 (nI (min (n + 1) 16))) := scq_w (by omega) f17
  generalize am_wI h9 47 2 (nI (min (n + 1) 16)) = h18 at f19 f20 f21 f22 f23 ⊢
  exact am_goX 1 (show (none : Option FieldType) = none ∧ h18.2.2.2.2 = 175 ∧ _ from ⟨rfl, ex_175 f19, hQ _ f19 f22.1 f22.2 f20 f21 f23⟩)
theorem q_98_1 (hn : n ≤ 16) (hP : ex_P h) (e1 : h.1 47 1 = nI 1) (e2 : h.1 47 2 = nI n) (hQ : ∀ h1, ex_P h1 → h1.2 = h.2 → (∀ o k, ¬ o = 47 → ¬ (59 ≤ o ∧ o ≤ 63) → h1.1 o k = h.1 o k) → h1.1 47 1 = nI 2 → h1.1 47 2 = nI (min (n + 1) 16) → scq 59 36 h h1 → Q none h1) : am_call am_cod 2 98 [.ref 47, .ref 36] h Q := by
  refine pz_call (n := 98) (nL := 2) (rt := none) (rows := am_r98) (d := 1) (by decide +kernel) (by decide +kernel) rfl (by funext pc; rfl) (ex_175 hP) (by exact Nat.le_of_ble_eq_true rfl) ?_
  have hX := kF_0 (D := 59) (h := h)
  refine am_goX 3 (show am_sh h 47 = some (2, 0) ∧ pz_S 2 none am_r98 1 Q 5 [(0, .ref 47), (1, .ref 36)] [.int (h.1 47 1), .ref 47] h from ⟨ex_47 hP, ?_⟩)
  rw [show h.1 47 1 = nI 1 from e1]
  refine am_goX 4 (show ¬ ((Int8.ofInt 16).toInt32) = 0 ∧ pz_S 2 none am_r98 1 Q 10 [(0, .ref 47), (1, .ref 36)] [.int (((nI 1) + (Int32.ofInt 1)) - ((nI 1) + (Int32.ofInt 1)) / ((Int8.ofInt 16).toInt32) * ((Int8.ofInt 16).toInt32)), .ref 47] h from ⟨by decide, ?_⟩)
  rw [show ((nI 1) + (Int32.ofInt 1)) - ((nI 1) + (Int32.ofInt 1)) / ((Int8.ofInt 16).toInt32) * ((Int8.ofInt 16).toInt32) = nI 2 from (by decide)]
  refine am_goX 1 (show am_sh h 47 = some (2, 0) ∧ narrow (am_fty 2 1) (.int (nI 2)) = .int (nI 2) ∧ fits (am_fty 2 1) (.int (nI 2)) = true ∧ pz_S 2 none am_r98 1 Q 13 [(0, .ref 47), (1, .ref 36)] [] (am_wI h 47 1 (nI 2)) from ⟨ex_47 hP, rfl, rfl, ?_⟩)
  have f25 : ex_P (am_wI h 47 1 (nI 2)) := hP
  have f26 : (am_wI h 47 1 (nI 2)).1 47 1 = nI 2 := (em_we _ _ _ _).trans (rfl)
  have f27 : (am_wI h 47 1 (nI 2)).1 47 2 = nI n := (em_wn _ _ (by omega)).trans e2
  have f28 : kF 59 h (am_wI h 47 1 (nI 2)) := kF_w (by omega) hX
  generalize am_wI h 47 1 (nI 2) = h24 at f25 f26 f27 f28 ⊢
  refine am_goX 2 (show am_sh h24 47 = some (2, 0) ∧ pz_S 2 none am_r98 1 Q 17 [(0, .ref 47), (1, .ref 36)] [am_rf (h24.2.2.1 47 0)] h24 from ⟨ex_47 f25, ?_⟩)
  rw [show am_rf (h24.2.2.1 47 0) = .ref 48 from congrArg am_rf (ex_r47_0 f25)]
  refine am_goX 2 (show am_sh h24 47 = some (2, 0) ∧ pz_S 2 none am_r98 1 Q 21 [(0, .ref 47), (1, .ref 36)] [.int (h24.1 47 1), .ref 48] h24 from ⟨ex_47 f25, ?_⟩)
  rw [show h24.1 47 1 = nI 2 from f26]
  refine am_goX 1 (show ∃ jj nn : Nat, (am_sh h24 48 = some (16, nn) ∨ am_sh h24 48 = some (17, nn)) ∧ jj < nn ∧ nI 2 = nI jj ∧ pz_S 2 none am_r98 1 Q 22 [(0, .ref 47), (1, .ref 36)] [am_rf (h24.2.2.1 48 jj)] h24 from ⟨2, 16, Or.inr (ex_48 f25), by decide, rfl, ?_⟩)
  rw [show am_rf (h24.2.2.1 48 2) = .ref 59 from congrArg am_rf (ex_r48_2 f25)]
  refine am_goX 2 (show am_rc h24 59 6 ∧ 0 ≤ 8 ∧ h24.2.2.2.2 + am_al 99 ≤ 175 ∧ am_call am_cod 1 99 [.ref 59, .ref 36] h24 (fun vv h' => pz_S 2 none am_r98 1 Q 26 [(0, .ref 47), (1, .ref 36)] (vv.toList ++ []) h') from ⟨Or.inl ⟨by decide, ex_59 f25⟩, by decide, ex_lim f25 rfl, am_call.up (q_99 stO_59 stO_36 (by decide) f25 (fun h29 f30 f31 f32 f33 => ?_)) (by decide)⟩)
  have f34 : h29.1 47 1 = nI 2 := (f32 47 1 (by omega)).trans f26
  have f35 : h29.1 47 2 = nI n := (f32 47 2 (by omega)).trans f27
  have f36 : kF 59 h h29 := kF_c f28 f31 f32
  have f37 : scq 59 36 h h29 := scq_b f28 (fun a u1 u2 => by omega) f33
  refine am_goX 3 (show am_sh h29 47 = some (2, 0) ∧ pz_S 2 none am_r98 1 Q 31 [(0, .ref 47), (1, .ref 36)] [.int (h29.1 47 2), .ref 47] h29 from ⟨ex_47 f30, ?_⟩)
  rw [show h29.1 47 2 = nI n from f35]
  refine am_goX 3 (show pz_S 2 none am_r98 1 Q 35 [(0, .ref 47), (1, .ref 36)] [.int ((Int8.ofInt 16).toInt32), .int ((nI n) + (Int32.ofInt 1)), .ref 47] h29 from ?_)
  rw [show (nI n) + (Int32.ofInt 1) = nI (n + 1) from (dn_a rfl rfl)]
  rw [show (Int8.ofInt 16).toInt32 = nI 16 from (show (Int8.ofInt 16).toInt32 = nI 16 by decide)]
  refine am_goX 1 (show 1 ≤ 8 ∧ h29.2.2.2.2 + am_al 29 ≤ 175 ∧ am_call am_cod 1 29 [.int (nI (n + 1)), .int (nI 16)] h29 (fun vv h' => pz_S 2 none am_r98 1 Q 38 [(0, .ref 47), (1, .ref 36)] (vv.toList ++ [.ref 47]) h') from ⟨by decide, ex_lim f30 rfl, am_call.up (d_29_w f30 ?_) (by decide)⟩)
  rw [show d_29 (nI (n + 1)) (nI 16) = nI (min (n + 1) 16) from ((show d_29 (nI (n + 1)) (nI 16) = nI (min (n + 1) 16) from min16 n (by omega)))]
  refine am_goX 1 (show am_sh h29 47 = some (2, 0) ∧ narrow (am_fty 2 2) (.int (nI (min (n + 1) 16))) = .int (nI (min (n + 1) 16)) ∧ fits (am_fty 2 2) (.int (nI (min (n + 1) 16))) = true ∧ pz_S 2 none am_r98 1 Q 41 [(0, .ref 47), (1, .ref 36)] [] (am_wI h29 47 2 (nI (min (n + 1) 16))) from ⟨ex_47 f30, rfl, rfl, ?_⟩)
  have f39 : ex_P (am_wI h29 47 2 (nI (min (n + 1) 16))) := f30
  have f40 : (am_wI h29 47 2 (nI (min (n + 1) 16))).1 47 1 = nI 2 := (em_wn _ _ (by omega)).trans f34
  have f41 : (am_wI h29 47 2 (nI (min (n + 1) 16))).1 47 2 = nI (min (n + 1) 16) := (em_we _ _ _ _).trans (rfl)
  have f42 : kF 59 h (am_wI h29 47 2 (nI (min (n + 1) 16))) := kF_w (by omega) f36
  have f43 : scq 59 36 h (am_wI h29 47 2 (nI (min (n + 1) 16))) := scq_w (by omega) f37
  generalize am_wI h29 47 2 (nI (min (n + 1) 16)) = h38 at f39 f40 f41 f42 f43 ⊢
  exact am_goX 1 (show (none : Option FieldType) = none ∧ h38.2.2.2.2 = 175 ∧ _ from ⟨rfl, ex_175 f39, hQ _ f39 f42.1 f42.2 f40 f41 f43⟩)
theorem q_98_2 (hn : n ≤ 16) (hP : ex_P h) (e1 : h.1 47 1 = nI 2) (e2 : h.1 47 2 = nI n) (hQ : ∀ h1, ex_P h1 → h1.2 = h.2 → (∀ o k, ¬ o = 47 → ¬ (64 ≤ o ∧ o ≤ 68) → h1.1 o k = h.1 o k) → h1.1 47 1 = nI 3 → h1.1 47 2 = nI (min (n + 1) 16) → scq 64 36 h h1 → Q none h1) : am_call am_cod 2 98 [.ref 47, .ref 36] h Q := by
  refine pz_call (n := 98) (nL := 2) (rt := none) (rows := am_r98) (d := 1) (by decide +kernel) (by decide +kernel) rfl (by funext pc; rfl) (ex_175 hP) (by exact Nat.le_of_ble_eq_true rfl) ?_
  have hX := kF_0 (D := 64) (h := h)
  refine am_goX 3 (show am_sh h 47 = some (2, 0) ∧ pz_S 2 none am_r98 1 Q 5 [(0, .ref 47), (1, .ref 36)] [.int (h.1 47 1), .ref 47] h from ⟨ex_47 hP, ?_⟩)
  rw [show h.1 47 1 = nI 2 from e1]
  refine am_goX 4 (show ¬ ((Int8.ofInt 16).toInt32) = 0 ∧ pz_S 2 none am_r98 1 Q 10 [(0, .ref 47), (1, .ref 36)] [.int (((nI 2) + (Int32.ofInt 1)) - ((nI 2) + (Int32.ofInt 1)) / ((Int8.ofInt 16).toInt32) * ((Int8.ofInt 16).toInt32)), .ref 47] h from ⟨by decide, ?_⟩)
  rw [show ((nI 2) + (Int32.ofInt 1)) - ((nI 2) + (Int32.ofInt 1)) / ((Int8.ofInt 16).toInt32) * ((Int8.ofInt 16).toInt32) = nI 3 from (by decide)]
  refine am_goX 1 (show am_sh h 47 = some (2, 0) ∧ narrow (am_fty 2 1) (.int (nI 3)) = .int (nI 3) ∧ fits (am_fty 2 1) (.int (nI 3)) = true ∧ pz_S 2 none am_r98 1 Q 13 [(0, .ref 47), (1, .ref 36)] [] (am_wI h 47 1 (nI 3)) from ⟨ex_47 hP, rfl, rfl, ?_⟩)
  have f45 : ex_P (am_wI h 47 1 (nI 3)) := hP
  have f46 : (am_wI h 47 1 (nI 3)).1 47 1 = nI 3 := (em_we _ _ _ _).trans (rfl)
  have f47 : (am_wI h 47 1 (nI 3)).1 47 2 = nI n := (em_wn _ _ (by omega)).trans e2
  have f48 : kF 64 h (am_wI h 47 1 (nI 3)) := kF_w (by omega) hX
  generalize am_wI h 47 1 (nI 3) = h44 at f45 f46 f47 f48 ⊢
  refine am_goX 2 (show am_sh h44 47 = some (2, 0) ∧ pz_S 2 none am_r98 1 Q 17 [(0, .ref 47), (1, .ref 36)] [am_rf (h44.2.2.1 47 0)] h44 from ⟨ex_47 f45, ?_⟩)
  rw [show am_rf (h44.2.2.1 47 0) = .ref 48 from congrArg am_rf (ex_r47_0 f45)]
  refine am_goX 2 (show am_sh h44 47 = some (2, 0) ∧ pz_S 2 none am_r98 1 Q 21 [(0, .ref 47), (1, .ref 36)] [.int (h44.1 47 1), .ref 48] h44 from ⟨ex_47 f45, ?_⟩)
  rw [show h44.1 47 1 = nI 3 from f46]
  refine am_goX 1 (show ∃ jj nn : Nat, (am_sh h44 48 = some (16, nn) ∨ am_sh h44 48 = some (17, nn)) ∧ jj < nn ∧ nI 3 = nI jj ∧ pz_S 2 none am_r98 1 Q 22 [(0, .ref 47), (1, .ref 36)] [am_rf (h44.2.2.1 48 jj)] h44 from ⟨3, 16, Or.inr (ex_48 f45), by decide, rfl, ?_⟩)
  rw [show am_rf (h44.2.2.1 48 3) = .ref 64 from congrArg am_rf (ex_r48_3 f45)]
  refine am_goX 2 (show am_rc h44 64 6 ∧ 0 ≤ 8 ∧ h44.2.2.2.2 + am_al 99 ≤ 175 ∧ am_call am_cod 1 99 [.ref 64, .ref 36] h44 (fun vv h' => pz_S 2 none am_r98 1 Q 26 [(0, .ref 47), (1, .ref 36)] (vv.toList ++ []) h') from ⟨Or.inl ⟨by decide, ex_64 f45⟩, by decide, ex_lim f45 rfl, am_call.up (q_99 stO_64 stO_36 (by decide) f45 (fun h49 f50 f51 f52 f53 => ?_)) (by decide)⟩)
  have f54 : h49.1 47 1 = nI 3 := (f52 47 1 (by omega)).trans f46
  have f55 : h49.1 47 2 = nI n := (f52 47 2 (by omega)).trans f47
  have f56 : kF 64 h h49 := kF_c f48 f51 f52
  have f57 : scq 64 36 h h49 := scq_b f48 (fun a u1 u2 => by omega) f53
  refine am_goX 3 (show am_sh h49 47 = some (2, 0) ∧ pz_S 2 none am_r98 1 Q 31 [(0, .ref 47), (1, .ref 36)] [.int (h49.1 47 2), .ref 47] h49 from ⟨ex_47 f50, ?_⟩)
  rw [show h49.1 47 2 = nI n from f55]
  refine am_goX 3 (show pz_S 2 none am_r98 1 Q 35 [(0, .ref 47), (1, .ref 36)] [.int ((Int8.ofInt 16).toInt32), .int ((nI n) + (Int32.ofInt 1)), .ref 47] h49 from ?_)
  rw [show (nI n) + (Int32.ofInt 1) = nI (n + 1) from (dn_a rfl rfl)]
  rw [show (Int8.ofInt 16).toInt32 = nI 16 from (show (Int8.ofInt 16).toInt32 = nI 16 by decide)]
  refine am_goX 1 (show 1 ≤ 8 ∧ h49.2.2.2.2 + am_al 29 ≤ 175 ∧ am_call am_cod 1 29 [.int (nI (n + 1)), .int (nI 16)] h49 (fun vv h' => pz_S 2 none am_r98 1 Q 38 [(0, .ref 47), (1, .ref 36)] (vv.toList ++ [.ref 47]) h') from ⟨by decide, ex_lim f50 rfl, am_call.up (d_29_w f50 ?_) (by decide)⟩)
  rw [show d_29 (nI (n + 1)) (nI 16) = nI (min (n + 1) 16) from ((show d_29 (nI (n + 1)) (nI 16) = nI (min (n + 1) 16) from min16 n (by omega)))]
  refine am_goX 1 (show am_sh h49 47 = some (2, 0) ∧ narrow (am_fty 2 2) (.int (nI (min (n + 1) 16))) = .int (nI (min (n + 1) 16)) ∧ fits (am_fty 2 2) (.int (nI (min (n + 1) 16))) = true ∧ pz_S 2 none am_r98 1 Q 41 [(0, .ref 47), (1, .ref 36)] [] (am_wI h49 47 2 (nI (min (n + 1) 16))) from ⟨ex_47 f50, rfl, rfl, ?_⟩)
  have f59 : ex_P (am_wI h49 47 2 (nI (min (n + 1) 16))) := f50
  have f60 : (am_wI h49 47 2 (nI (min (n + 1) 16))).1 47 1 = nI 3 := (em_wn _ _ (by omega)).trans f54
  have f61 : (am_wI h49 47 2 (nI (min (n + 1) 16))).1 47 2 = nI (min (n + 1) 16) := (em_we _ _ _ _).trans (rfl)
  have f62 : kF 64 h (am_wI h49 47 2 (nI (min (n + 1) 16))) := kF_w (by omega) f56
  have f63 : scq 64 36 h (am_wI h49 47 2 (nI (min (n + 1) 16))) := scq_w (by omega) f57
  generalize am_wI h49 47 2 (nI (min (n + 1) 16)) = h58 at f59 f60 f61 f62 f63 ⊢
  exact am_goX 1 (show (none : Option FieldType) = none ∧ h58.2.2.2.2 = 175 ∧ _ from ⟨rfl, ex_175 f59, hQ _ f59 f62.1 f62.2 f60 f61 f63⟩)
theorem q_98_3 (hn : n ≤ 16) (hP : ex_P h) (e1 : h.1 47 1 = nI 3) (e2 : h.1 47 2 = nI n) (hQ : ∀ h1, ex_P h1 → h1.2 = h.2 → (∀ o k, ¬ o = 47 → ¬ (69 ≤ o ∧ o ≤ 73) → h1.1 o k = h.1 o k) → h1.1 47 1 = nI 4 → h1.1 47 2 = nI (min (n + 1) 16) → scq 69 36 h h1 → Q none h1) : am_call am_cod 2 98 [.ref 47, .ref 36] h Q := by
  refine pz_call (n := 98) (nL := 2) (rt := none) (rows := am_r98) (d := 1) (by decide +kernel) (by decide +kernel) rfl (by funext pc; rfl) (ex_175 hP) (by exact Nat.le_of_ble_eq_true rfl) ?_
  have hX := kF_0 (D := 69) (h := h)
  refine am_goX 3 (show am_sh h 47 = some (2, 0) ∧ pz_S 2 none am_r98 1 Q 5 [(0, .ref 47), (1, .ref 36)] [.int (h.1 47 1), .ref 47] h from ⟨ex_47 hP, ?_⟩)
  rw [show h.1 47 1 = nI 3 from e1]
  refine am_goX 4 (show ¬ ((Int8.ofInt 16).toInt32) = 0 ∧ pz_S 2 none am_r98 1 Q 10 [(0, .ref 47), (1, .ref 36)] [.int (((nI 3) + (Int32.ofInt 1)) - ((nI 3) + (Int32.ofInt 1)) / ((Int8.ofInt 16).toInt32) * ((Int8.ofInt 16).toInt32)), .ref 47] h from ⟨by decide, ?_⟩)
  rw [show ((nI 3) + (Int32.ofInt 1)) - ((nI 3) + (Int32.ofInt 1)) / ((Int8.ofInt 16).toInt32) * ((Int8.ofInt 16).toInt32) = nI 4 from (by decide)]
  refine am_goX 1 (show am_sh h 47 = some (2, 0) ∧ narrow (am_fty 2 1) (.int (nI 4)) = .int (nI 4) ∧ fits (am_fty 2 1) (.int (nI 4)) = true ∧ pz_S 2 none am_r98 1 Q 13 [(0, .ref 47), (1, .ref 36)] [] (am_wI h 47 1 (nI 4)) from ⟨ex_47 hP, rfl, rfl, ?_⟩)
  have f65 : ex_P (am_wI h 47 1 (nI 4)) := hP
  have f66 : (am_wI h 47 1 (nI 4)).1 47 1 = nI 4 := (em_we _ _ _ _).trans (rfl)
  have f67 : (am_wI h 47 1 (nI 4)).1 47 2 = nI n := (em_wn _ _ (by omega)).trans e2
  have f68 : kF 69 h (am_wI h 47 1 (nI 4)) := kF_w (by omega) hX
  generalize am_wI h 47 1 (nI 4) = h64 at f65 f66 f67 f68 ⊢
  refine am_goX 2 (show am_sh h64 47 = some (2, 0) ∧ pz_S 2 none am_r98 1 Q 17 [(0, .ref 47), (1, .ref 36)] [am_rf (h64.2.2.1 47 0)] h64 from ⟨ex_47 f65, ?_⟩)
  rw [show am_rf (h64.2.2.1 47 0) = .ref 48 from congrArg am_rf (ex_r47_0 f65)]
  refine am_goX 2 (show am_sh h64 47 = some (2, 0) ∧ pz_S 2 none am_r98 1 Q 21 [(0, .ref 47), (1, .ref 36)] [.int (h64.1 47 1), .ref 48] h64 from ⟨ex_47 f65, ?_⟩)
  rw [show h64.1 47 1 = nI 4 from f66]
  refine am_goX 1 (show ∃ jj nn : Nat, (am_sh h64 48 = some (16, nn) ∨ am_sh h64 48 = some (17, nn)) ∧ jj < nn ∧ nI 4 = nI jj ∧ pz_S 2 none am_r98 1 Q 22 [(0, .ref 47), (1, .ref 36)] [am_rf (h64.2.2.1 48 jj)] h64 from ⟨4, 16, Or.inr (ex_48 f65), by decide, rfl, ?_⟩)
  rw [show am_rf (h64.2.2.1 48 4) = .ref 69 from congrArg am_rf (ex_r48_4 f65)]
  refine am_goX 2 (show am_rc h64 69 6 ∧ 0 ≤ 8 ∧ h64.2.2.2.2 + am_al 99 ≤ 175 ∧ am_call am_cod 1 99 [.ref 69, .ref 36] h64 (fun vv h' => pz_S 2 none am_r98 1 Q 26 [(0, .ref 47), (1, .ref 36)] (vv.toList ++ []) h') from ⟨Or.inl ⟨by decide, ex_69 f65⟩, by decide, ex_lim f65 rfl, am_call.up (q_99 stO_69 stO_36 (by decide) f65 (fun h69 f70 f71 f72 f73 => ?_)) (by decide)⟩)
  have f74 : h69.1 47 1 = nI 4 := (f72 47 1 (by omega)).trans f66
  have f75 : h69.1 47 2 = nI n := (f72 47 2 (by omega)).trans f67
  have f76 : kF 69 h h69 := kF_c f68 f71 f72
  have f77 : scq 69 36 h h69 := scq_b f68 (fun a u1 u2 => by omega) f73
  refine am_goX 3 (show am_sh h69 47 = some (2, 0) ∧ pz_S 2 none am_r98 1 Q 31 [(0, .ref 47), (1, .ref 36)] [.int (h69.1 47 2), .ref 47] h69 from ⟨ex_47 f70, ?_⟩)
  rw [show h69.1 47 2 = nI n from f75]
  refine am_goX 3 (show pz_S 2 none am_r98 1 Q 35 [(0, .ref 47), (1, .ref 36)] [.int ((Int8.ofInt 16).toInt32), .int ((nI n) + (Int32.ofInt 1)), .ref 47] h69 from ?_)
  rw [show (nI n) + (Int32.ofInt 1) = nI (n + 1) from (dn_a rfl rfl)]
  rw [show (Int8.ofInt 16).toInt32 = nI 16 from (show (Int8.ofInt 16).toInt32 = nI 16 by decide)]
  refine am_goX 1 (show 1 ≤ 8 ∧ h69.2.2.2.2 + am_al 29 ≤ 175 ∧ am_call am_cod 1 29 [.int (nI (n + 1)), .int (nI 16)] h69 (fun vv h' => pz_S 2 none am_r98 1 Q 38 [(0, .ref 47), (1, .ref 36)] (vv.toList ++ [.ref 47]) h') from ⟨by decide, ex_lim f70 rfl, am_call.up (d_29_w f70 ?_) (by decide)⟩)
  rw [show d_29 (nI (n + 1)) (nI 16) = nI (min (n + 1) 16) from ((show d_29 (nI (n + 1)) (nI 16) = nI (min (n + 1) 16) from min16 n (by omega)))]
  refine am_goX 1 (show am_sh h69 47 = some (2, 0) ∧ narrow (am_fty 2 2) (.int (nI (min (n + 1) 16))) = .int (nI (min (n + 1) 16)) ∧ fits (am_fty 2 2) (.int (nI (min (n + 1) 16))) = true ∧ pz_S 2 none am_r98 1 Q 41 [(0, .ref 47), (1, .ref 36)] [] (am_wI h69 47 2 (nI (min (n + 1) 16))) from ⟨ex_47 f70, rfl, rfl, ?_⟩)
  have f79 : ex_P (am_wI h69 47 2 (nI (min (n + 1) 16))) := f70
  have f80 : (am_wI h69 47 2 (nI (min (n + 1) 16))).1 47 1 = nI 4 := (em_wn _ _ (by omega)).trans f74
  have f81 : (am_wI h69 47 2 (nI (min (n + 1) 16))).1 47 2 = nI (min (n + 1) 16) := (em_we _ _ _ _).trans (rfl)
  have f82 : kF 69 h (am_wI h69 47 2 (nI (min (n + 1) 16))) := kF_w (by omega) f76
  have f83 : scq 69 36 h (am_wI h69 47 2 (nI (min (n + 1) 16))) := scq_w (by omega) f77
  generalize am_wI h69 47 2 (nI (min (n + 1) 16)) = h78 at f79 f80 f81 f82 f83 ⊢
  exact am_goX 1 (show (none : Option FieldType) = none ∧ h78.2.2.2.2 = 175 ∧ _ from ⟨rfl, ex_175 f79, hQ _ f79 f82.1 f82.2 f80 f81 f83⟩)
theorem q_98_4 (hn : n ≤ 16) (hP : ex_P h) (e1 : h.1 47 1 = nI 4) (e2 : h.1 47 2 = nI n) (hQ : ∀ h1, ex_P h1 → h1.2 = h.2 → (∀ o k, ¬ o = 47 → ¬ (74 ≤ o ∧ o ≤ 78) → h1.1 o k = h.1 o k) → h1.1 47 1 = nI 5 → h1.1 47 2 = nI (min (n + 1) 16) → scq 74 36 h h1 → Q none h1) : am_call am_cod 2 98 [.ref 47, .ref 36] h Q := by
  refine pz_call (n := 98) (nL := 2) (rt := none) (rows := am_r98) (d := 1) (by decide +kernel) (by decide +kernel) rfl (by funext pc; rfl) (ex_175 hP) (by exact Nat.le_of_ble_eq_true rfl) ?_
  have hX := kF_0 (D := 74) (h := h)
  refine am_goX 3 (show am_sh h 47 = some (2, 0) ∧ pz_S 2 none am_r98 1 Q 5 [(0, .ref 47), (1, .ref 36)] [.int (h.1 47 1), .ref 47] h from ⟨ex_47 hP, ?_⟩)
  rw [show h.1 47 1 = nI 4 from e1]
  refine am_goX 4 (show ¬ ((Int8.ofInt 16).toInt32) = 0 ∧ pz_S 2 none am_r98 1 Q 10 [(0, .ref 47), (1, .ref 36)] [.int (((nI 4) + (Int32.ofInt 1)) - ((nI 4) + (Int32.ofInt 1)) / ((Int8.ofInt 16).toInt32) * ((Int8.ofInt 16).toInt32)), .ref 47] h from ⟨by decide, ?_⟩)
  rw [show ((nI 4) + (Int32.ofInt 1)) - ((nI 4) + (Int32.ofInt 1)) / ((Int8.ofInt 16).toInt32) * ((Int8.ofInt 16).toInt32) = nI 5 from (by decide)]
  refine am_goX 1 (show am_sh h 47 = some (2, 0) ∧ narrow (am_fty 2 1) (.int (nI 5)) = .int (nI 5) ∧ fits (am_fty 2 1) (.int (nI 5)) = true ∧ pz_S 2 none am_r98 1 Q 13 [(0, .ref 47), (1, .ref 36)] [] (am_wI h 47 1 (nI 5)) from ⟨ex_47 hP, rfl, rfl, ?_⟩)
  have f85 : ex_P (am_wI h 47 1 (nI 5)) := hP
  have f86 : (am_wI h 47 1 (nI 5)).1 47 1 = nI 5 := (em_we _ _ _ _).trans (rfl)
  have f87 : (am_wI h 47 1 (nI 5)).1 47 2 = nI n := (em_wn _ _ (by omega)).trans e2
  have f88 : kF 74 h (am_wI h 47 1 (nI 5)) := kF_w (by omega) hX
  generalize am_wI h 47 1 (nI 5) = h84 at f85 f86 f87 f88 ⊢
  refine am_goX 2 (show am_sh h84 47 = some (2, 0) ∧ pz_S 2 none am_r98 1 Q 17 [(0, .ref 47), (1, .ref 36)] [am_rf (h84.2.2.1 47 0)] h84 from ⟨ex_47 f85, ?_⟩)
  rw [show am_rf (h84.2.2.1 47 0) = .ref 48 from congrArg am_rf (ex_r47_0 f85)]
  refine am_goX 2 (show am_sh h84 47 = some (2, 0) ∧ pz_S 2 none am_r98 1 Q 21 [(0, .ref 47), (1, .ref 36)] [.int (h84.1 47 1), .ref 48] h84 from ⟨ex_47 f85, ?_⟩)
  rw [show h84.1 47 1 = nI 5 from f86]
  refine am_goX 1 (show ∃ jj nn : Nat, (am_sh h84 48 = some (16, nn) ∨ am_sh h84 48 = some (17, nn)) ∧ jj < nn ∧ nI 5 = nI jj ∧ pz_S 2 none am_r98 1 Q 22 [(0, .ref 47), (1, .ref 36)] [am_rf (h84.2.2.1 48 jj)] h84 from ⟨5, 16, Or.inr (ex_48 f85), by decide, rfl, ?_⟩)
  rw [show am_rf (h84.2.2.1 48 5) = .ref 74 from congrArg am_rf (ex_r48_5 f85)]
  refine am_goX 2 (show am_rc h84 74 6 ∧ 0 ≤ 8 ∧ h84.2.2.2.2 + am_al 99 ≤ 175 ∧ am_call am_cod 1 99 [.ref 74, .ref 36] h84 (fun vv h' => pz_S 2 none am_r98 1 Q 26 [(0, .ref 47), (1, .ref 36)] (vv.toList ++ []) h') from ⟨Or.inl ⟨by decide, ex_74 f85⟩, by decide, ex_lim f85 rfl, am_call.up (q_99 stO_74 stO_36 (by decide) f85 (fun h89 f90 f91 f92 f93 => ?_)) (by decide)⟩)
  have f94 : h89.1 47 1 = nI 5 := (f92 47 1 (by omega)).trans f86
  have f95 : h89.1 47 2 = nI n := (f92 47 2 (by omega)).trans f87
  have f96 : kF 74 h h89 := kF_c f88 f91 f92
  have f97 : scq 74 36 h h89 := scq_b f88 (fun a u1 u2 => by omega) f93
  refine am_goX 3 (show am_sh h89 47 = some (2, 0) ∧ pz_S 2 none am_r98 1 Q 31 [(0, .ref 47), (1, .ref 36)] [.int (h89.1 47 2), .ref 47] h89 from ⟨ex_47 f90, ?_⟩)
  rw [show h89.1 47 2 = nI n from f95]
  refine am_goX 3 (show pz_S 2 none am_r98 1 Q 35 [(0, .ref 47), (1, .ref 36)] [.int ((Int8.ofInt 16).toInt32), .int ((nI n) + (Int32.ofInt 1)), .ref 47] h89 from ?_)
  rw [show (nI n) + (Int32.ofInt 1) = nI (n + 1) from (dn_a rfl rfl)]
  rw [show (Int8.ofInt 16).toInt32 = nI 16 from (show (Int8.ofInt 16).toInt32 = nI 16 by decide)]
  refine am_goX 1 (show 1 ≤ 8 ∧ h89.2.2.2.2 + am_al 29 ≤ 175 ∧ am_call am_cod 1 29 [.int (nI (n + 1)), .int (nI 16)] h89 (fun vv h' => pz_S 2 none am_r98 1 Q 38 [(0, .ref 47), (1, .ref 36)] (vv.toList ++ [.ref 47]) h') from ⟨by decide, ex_lim f90 rfl, am_call.up (d_29_w f90 ?_) (by decide)⟩)
  rw [show d_29 (nI (n + 1)) (nI 16) = nI (min (n + 1) 16) from ((show d_29 (nI (n + 1)) (nI 16) = nI (min (n + 1) 16) from min16 n (by omega)))]
  refine am_goX 1 (show am_sh h89 47 = some (2, 0) ∧ narrow (am_fty 2 2) (.int (nI (min (n + 1) 16))) = .int (nI (min (n + 1) 16)) ∧ fits (am_fty 2 2) (.int (nI (min (n + 1) 16))) = true ∧ pz_S 2 none am_r98 1 Q 41 [(0, .ref 47), (1, .ref 36)] [] (am_wI h89 47 2 (nI (min (n + 1) 16))) from ⟨ex_47 f90, rfl, rfl, ?_⟩)
  have f99 : ex_P (am_wI h89 47 2 (nI (min (n + 1) 16))) := f90
  have f100 : (am_wI h89 47 2 (nI (min (n + 1) 16))).1 47 1 = nI 5 := (em_wn _ _ (by omega)).trans f94
  have f101 : (am_wI h89 47 2 (nI (min (n + 1) 16))).1 47 2 = nI (min (n + 1) 16) := (em_we _ _ _ _).trans (rfl)
  have f102 : kF 74 h (am_wI h89 47 2 (nI (min (n + 1) 16))) := kF_w (by omega) f96
  have f103 : scq 74 36 h (am_wI h89 47 2 (nI (min (n + 1) 16))) := scq_w (by omega) f97
  generalize am_wI h89 47 2 (nI (min (n + 1) 16)) = h98 at f99 f100 f101 f102 f103 ⊢
  exact am_goX 1 (show (none : Option FieldType) = none ∧ h98.2.2.2.2 = 175 ∧ _ from ⟨rfl, ex_175 f99, hQ _ f99 f102.1 f102.2 f100 f101 f103⟩)
theorem q_98_5 (hn : n ≤ 16) (hP : ex_P h) (e1 : h.1 47 1 = nI 5) (e2 : h.1 47 2 = nI n) (hQ : ∀ h1, ex_P h1 → h1.2 = h.2 → (∀ o k, ¬ o = 47 → ¬ (79 ≤ o ∧ o ≤ 83) → h1.1 o k = h.1 o k) → h1.1 47 1 = nI 6 → h1.1 47 2 = nI (min (n + 1) 16) → scq 79 36 h h1 → Q none h1) : am_call am_cod 2 98 [.ref 47, .ref 36] h Q := by
  refine pz_call (n := 98) (nL := 2) (rt := none) (rows := am_r98) (d := 1) (by decide +kernel) (by decide +kernel) rfl (by funext pc; rfl) (ex_175 hP) (by exact Nat.le_of_ble_eq_true rfl) ?_
  have hX := kF_0 (D := 79) (h := h)
  refine am_goX 3 (show am_sh h 47 = some (2, 0) ∧ pz_S 2 none am_r98 1 Q 5 [(0, .ref 47), (1, .ref 36)] [.int (h.1 47 1), .ref 47] h from ⟨ex_47 hP, ?_⟩)
  rw [show h.1 47 1 = nI 5 from e1]
  refine am_goX 4 (show ¬ ((Int8.ofInt 16).toInt32) = 0 ∧ pz_S 2 none am_r98 1 Q 10 [(0, .ref 47), (1, .ref 36)] [.int (((nI 5) + (Int32.ofInt 1)) - ((nI 5) + (Int32.ofInt 1)) / ((Int8.ofInt 16).toInt32) * ((Int8.ofInt 16).toInt32)), .ref 47] h from ⟨by decide, ?_⟩)
  rw [show ((nI 5) + (Int32.ofInt 1)) - ((nI 5) + (Int32.ofInt 1)) / ((Int8.ofInt 16).toInt32) * ((Int8.ofInt 16).toInt32) = nI 6 from (by decide)]
  refine am_goX 1 (show am_sh h 47 = some (2, 0) ∧ narrow (am_fty 2 1) (.int (nI 6)) = .int (nI 6) ∧ fits (am_fty 2 1) (.int (nI 6)) = true ∧ pz_S 2 none am_r98 1 Q 13 [(0, .ref 47), (1, .ref 36)] [] (am_wI h 47 1 (nI 6)) from ⟨ex_47 hP, rfl, rfl, ?_⟩)
  have f105 : ex_P (am_wI h 47 1 (nI 6)) := hP
  have f106 : (am_wI h 47 1 (nI 6)).1 47 1 = nI 6 := (em_we _ _ _ _).trans (rfl)
  have f107 : (am_wI h 47 1 (nI 6)).1 47 2 = nI n := (em_wn _ _ (by omega)).trans e2
  have f108 : kF 79 h (am_wI h 47 1 (nI 6)) := kF_w (by omega) hX
  generalize am_wI h 47 1 (nI 6) = h104 at f105 f106 f107 f108 ⊢
  refine am_goX 2 (show am_sh h104 47 = some (2, 0) ∧ pz_S 2 none am_r98 1 Q 17 [(0, .ref 47), (1, .ref 36)] [am_rf (h104.2.2.1 47 0)] h104 from ⟨ex_47 f105, ?_⟩)
  rw [show am_rf (h104.2.2.1 47 0) = .ref 48 from congrArg am_rf (ex_r47_0 f105)]
  refine am_goX 2 (show am_sh h104 47 = some (2, 0) ∧ pz_S 2 none am_r98 1 Q 21 [(0, .ref 47), (1, .ref 36)] [.int (h104.1 47 1), .ref 48] h104 from ⟨ex_47 f105, ?_⟩)
  rw [show h104.1 47 1 = nI 6 from f106]
  refine am_goX 1 (show ∃ jj nn : Nat, (am_sh h104 48 = some (16, nn) ∨ am_sh h104 48 = some (17, nn)) ∧ jj < nn ∧ nI 6 = nI jj ∧ pz_S 2 none am_r98 1 Q 22 [(0, .ref 47), (1, .ref 36)] [am_rf (h104.2.2.1 48 jj)] h104 from ⟨6, 16, Or.inr (ex_48 f105), by decide, rfl, ?_⟩)
  rw [show am_rf (h104.2.2.1 48 6) = .ref 79 from congrArg am_rf (ex_r48_6 f105)]
  refine am_goX 2 (show am_rc h104 79 6 ∧ 0 ≤ 8 ∧ h104.2.2.2.2 + am_al 99 ≤ 175 ∧ am_call am_cod 1 99 [.ref 79, .ref 36] h104 (fun vv h' => pz_S 2 none am_r98 1 Q 26 [(0, .ref 47), (1, .ref 36)] (vv.toList ++ []) h') from ⟨Or.inl ⟨by decide, ex_79 f105⟩, by decide, ex_lim f105 rfl, am_call.up (q_99 stO_79 stO_36 (by decide) f105 (fun h109 f110 f111 f112 f113 => ?_)) (by decide)⟩)
  have f114 : h109.1 47 1 = nI 6 := (f112 47 1 (by omega)).trans f106
  have f115 : h109.1 47 2 = nI n := (f112 47 2 (by omega)).trans f107
  have f116 : kF 79 h h109 := kF_c f108 f111 f112
  have f117 : scq 79 36 h h109 := scq_b f108 (fun a u1 u2 => by omega) f113
  refine am_goX 3 (show am_sh h109 47 = some (2, 0) ∧ pz_S 2 none am_r98 1 Q 31 [(0, .ref 47), (1, .ref 36)] [.int (h109.1 47 2), .ref 47] h109 from ⟨ex_47 f110, ?_⟩)
  rw [show h109.1 47 2 = nI n from f115]
  refine am_goX 3 (show pz_S 2 none am_r98 1 Q 35 [(0, .ref 47), (1, .ref 36)] [.int ((Int8.ofInt 16).toInt32), .int ((nI n) + (Int32.ofInt 1)), .ref 47] h109 from ?_)
  rw [show (nI n) + (Int32.ofInt 1) = nI (n + 1) from (dn_a rfl rfl)]
  rw [show (Int8.ofInt 16).toInt32 = nI 16 from (show (Int8.ofInt 16).toInt32 = nI 16 by decide)]
  refine am_goX 1 (show 1 ≤ 8 ∧ h109.2.2.2.2 + am_al 29 ≤ 175 ∧ am_call am_cod 1 29 [.int (nI (n + 1)), .int (nI 16)] h109 (fun vv h' => pz_S 2 none am_r98 1 Q 38 [(0, .ref 47), (1, .ref 36)] (vv.toList ++ [.ref 47]) h') from ⟨by decide, ex_lim f110 rfl, am_call.up (d_29_w f110 ?_) (by decide)⟩)
  rw [show d_29 (nI (n + 1)) (nI 16) = nI (min (n + 1) 16) from ((show d_29 (nI (n + 1)) (nI 16) = nI (min (n + 1) 16) from min16 n (by omega)))]
  refine am_goX 1 (show am_sh h109 47 = some (2, 0) ∧ narrow (am_fty 2 2) (.int (nI (min (n + 1) 16))) = .int (nI (min (n + 1) 16)) ∧ fits (am_fty 2 2) (.int (nI (min (n + 1) 16))) = true ∧ pz_S 2 none am_r98 1 Q 41 [(0, .ref 47), (1, .ref 36)] [] (am_wI h109 47 2 (nI (min (n + 1) 16))) from ⟨ex_47 f110, rfl, rfl, ?_⟩)
  have f119 : ex_P (am_wI h109 47 2 (nI (min (n + 1) 16))) := f110
  have f120 : (am_wI h109 47 2 (nI (min (n + 1) 16))).1 47 1 = nI 6 := (em_wn _ _ (by omega)).trans f114
  have f121 : (am_wI h109 47 2 (nI (min (n + 1) 16))).1 47 2 = nI (min (n + 1) 16) := (em_we _ _ _ _).trans (rfl)
  have f122 : kF 79 h (am_wI h109 47 2 (nI (min (n + 1) 16))) := kF_w (by omega) f116
  have f123 : scq 79 36 h (am_wI h109 47 2 (nI (min (n + 1) 16))) := scq_w (by omega) f117
  generalize am_wI h109 47 2 (nI (min (n + 1) 16)) = h118 at f119 f120 f121 f122 f123 ⊢
  exact am_goX 1 (show (none : Option FieldType) = none ∧ h118.2.2.2.2 = 175 ∧ _ from ⟨rfl, ex_175 f119, hQ _ f119 f122.1 f122.2 f120 f121 f123⟩)
theorem q_98_6 (hn : n ≤ 16) (hP : ex_P h) (e1 : h.1 47 1 = nI 6) (e2 : h.1 47 2 = nI n) (hQ : ∀ h1, ex_P h1 → h1.2 = h.2 → (∀ o k, ¬ o = 47 → ¬ (84 ≤ o ∧ o ≤ 88) → h1.1 o k = h.1 o k) → h1.1 47 1 = nI 7 → h1.1 47 2 = nI (min (n + 1) 16) → scq 84 36 h h1 → Q none h1) : am_call am_cod 2 98 [.ref 47, .ref 36] h Q := by
  refine pz_call (n := 98) (nL := 2) (rt := none) (rows := am_r98) (d := 1) (by decide +kernel) (by decide +kernel) rfl (by funext pc; rfl) (ex_175 hP) (by exact Nat.le_of_ble_eq_true rfl) ?_
  have hX := kF_0 (D := 84) (h := h)
  refine am_goX 3 (show am_sh h 47 = some (2, 0) ∧ pz_S 2 none am_r98 1 Q 5 [(0, .ref 47), (1, .ref 36)] [.int (h.1 47 1), .ref 47] h from ⟨ex_47 hP, ?_⟩)
  rw [show h.1 47 1 = nI 6 from e1]
  refine am_goX 4 (show ¬ ((Int8.ofInt 16).toInt32) = 0 ∧ pz_S 2 none am_r98 1 Q 10 [(0, .ref 47), (1, .ref 36)] [.int (((nI 6) + (Int32.ofInt 1)) - ((nI 6) + (Int32.ofInt 1)) / ((Int8.ofInt 16).toInt32) * ((Int8.ofInt 16).toInt32)), .ref 47] h from ⟨by decide, ?_⟩)
  rw [show ((nI 6) + (Int32.ofInt 1)) - ((nI 6) + (Int32.ofInt 1)) / ((Int8.ofInt 16).toInt32) * ((Int8.ofInt 16).toInt32) = nI 7 from (by decide)]
  refine am_goX 1 (show am_sh h 47 = some (2, 0) ∧ narrow (am_fty 2 1) (.int (nI 7)) = .int (nI 7) ∧ fits (am_fty 2 1) (.int (nI 7)) = true ∧ pz_S 2 none am_r98 1 Q 13 [(0, .ref 47), (1, .ref 36)] [] (am_wI h 47 1 (nI 7)) from ⟨ex_47 hP, rfl, rfl, ?_⟩)
  have f125 : ex_P (am_wI h 47 1 (nI 7)) := hP
  have f126 : (am_wI h 47 1 (nI 7)).1 47 1 = nI 7 := (em_we _ _ _ _).trans (rfl)
  have f127 : (am_wI h 47 1 (nI 7)).1 47 2 = nI n := (em_wn _ _ (by omega)).trans e2
  have f128 : kF 84 h (am_wI h 47 1 (nI 7)) := kF_w (by omega) hX
  generalize am_wI h 47 1 (nI 7) = h124 at f125 f126 f127 f128 ⊢
  refine am_goX 2 (show am_sh h124 47 = some (2, 0) ∧ pz_S 2 none am_r98 1 Q 17 [(0, .ref 47), (1, .ref 36)] [am_rf (h124.2.2.1 47 0)] h124 from ⟨ex_47 f125, ?_⟩)
  rw [show am_rf (h124.2.2.1 47 0) = .ref 48 from congrArg am_rf (ex_r47_0 f125)]
  refine am_goX 2 (show am_sh h124 47 = some (2, 0) ∧ pz_S 2 none am_r98 1 Q 21 [(0, .ref 47), (1, .ref 36)] [.int (h124.1 47 1), .ref 48] h124 from ⟨ex_47 f125, ?_⟩)
  rw [show h124.1 47 1 = nI 7 from f126]
  refine am_goX 1 (show ∃ jj nn : Nat, (am_sh h124 48 = some (16, nn) ∨ am_sh h124 48 = some (17, nn)) ∧ jj < nn ∧ nI 7 = nI jj ∧ pz_S 2 none am_r98 1 Q 22 [(0, .ref 47), (1, .ref 36)] [am_rf (h124.2.2.1 48 jj)] h124 from ⟨7, 16, Or.inr (ex_48 f125), by decide, rfl, ?_⟩)
  rw [show am_rf (h124.2.2.1 48 7) = .ref 84 from congrArg am_rf (ex_r48_7 f125)]
  refine am_goX 2 (show am_rc h124 84 6 ∧ 0 ≤ 8 ∧ h124.2.2.2.2 + am_al 99 ≤ 175 ∧ am_call am_cod 1 99 [.ref 84, .ref 36] h124 (fun vv h' => pz_S 2 none am_r98 1 Q 26 [(0, .ref 47), (1, .ref 36)] (vv.toList ++ []) h') from ⟨Or.inl ⟨by decide, ex_84 f125⟩, by decide, ex_lim f125 rfl, am_call.up (q_99 stO_84 stO_36 (by decide) f125 (fun h129 f130 f131 f132 f133 => ?_)) (by decide)⟩)
  have f134 : h129.1 47 1 = nI 7 := (f132 47 1 (by omega)).trans f126
  have f135 : h129.1 47 2 = nI n := (f132 47 2 (by omega)).trans f127
  have f136 : kF 84 h h129 := kF_c f128 f131 f132
  have f137 : scq 84 36 h h129 := scq_b f128 (fun a u1 u2 => by omega) f133
  refine am_goX 3 (show am_sh h129 47 = some (2, 0) ∧ pz_S 2 none am_r98 1 Q 31 [(0, .ref 47), (1, .ref 36)] [.int (h129.1 47 2), .ref 47] h129 from ⟨ex_47 f130, ?_⟩)
  rw [show h129.1 47 2 = nI n from f135]
  refine am_goX 3 (show pz_S 2 none am_r98 1 Q 35 [(0, .ref 47), (1, .ref 36)] [.int ((Int8.ofInt 16).toInt32), .int ((nI n) + (Int32.ofInt 1)), .ref 47] h129 from ?_)
  rw [show (nI n) + (Int32.ofInt 1) = nI (n + 1) from (dn_a rfl rfl)]
  rw [show (Int8.ofInt 16).toInt32 = nI 16 from (show (Int8.ofInt 16).toInt32 = nI 16 by decide)]
  refine am_goX 1 (show 1 ≤ 8 ∧ h129.2.2.2.2 + am_al 29 ≤ 175 ∧ am_call am_cod 1 29 [.int (nI (n + 1)), .int (nI 16)] h129 (fun vv h' => pz_S 2 none am_r98 1 Q 38 [(0, .ref 47), (1, .ref 36)] (vv.toList ++ [.ref 47]) h') from ⟨by decide, ex_lim f130 rfl, am_call.up (d_29_w f130 ?_) (by decide)⟩)
  rw [show d_29 (nI (n + 1)) (nI 16) = nI (min (n + 1) 16) from ((show d_29 (nI (n + 1)) (nI 16) = nI (min (n + 1) 16) from min16 n (by omega)))]
  refine am_goX 1 (show am_sh h129 47 = some (2, 0) ∧ narrow (am_fty 2 2) (.int (nI (min (n + 1) 16))) = .int (nI (min (n + 1) 16)) ∧ fits (am_fty 2 2) (.int (nI (min (n + 1) 16))) = true ∧ pz_S 2 none am_r98 1 Q 41 [(0, .ref 47), (1, .ref 36)] [] (am_wI h129 47 2 (nI (min (n + 1) 16))) from ⟨ex_47 f130, rfl, rfl, ?_⟩)
  have f139 : ex_P (am_wI h129 47 2 (nI (min (n + 1) 16))) := f130
  have f140 : (am_wI h129 47 2 (nI (min (n + 1) 16))).1 47 1 = nI 7 := (em_wn _ _ (by omega)).trans f134
  have f141 : (am_wI h129 47 2 (nI (min (n + 1) 16))).1 47 2 = nI (min (n + 1) 16) := (em_we _ _ _ _).trans (rfl)
  have f142 : kF 84 h (am_wI h129 47 2 (nI (min (n + 1) 16))) := kF_w (by omega) f136
  have f143 : scq 84 36 h (am_wI h129 47 2 (nI (min (n + 1) 16))) := scq_w (by omega) f137
  generalize am_wI h129 47 2 (nI (min (n + 1) 16)) = h138 at f139 f140 f141 f142 f143 ⊢
  exact am_goX 1 (show (none : Option FieldType) = none ∧ h138.2.2.2.2 = 175 ∧ _ from ⟨rfl, ex_175 f139, hQ _ f139 f142.1 f142.2 f140 f141 f143⟩)
theorem q_98_7 (hn : n ≤ 16) (hP : ex_P h) (e1 : h.1 47 1 = nI 7) (e2 : h.1 47 2 = nI n) (hQ : ∀ h1, ex_P h1 → h1.2 = h.2 → (∀ o k, ¬ o = 47 → ¬ (89 ≤ o ∧ o ≤ 93) → h1.1 o k = h.1 o k) → h1.1 47 1 = nI 8 → h1.1 47 2 = nI (min (n + 1) 16) → scq 89 36 h h1 → Q none h1) : am_call am_cod 2 98 [.ref 47, .ref 36] h Q := by
  refine pz_call (n := 98) (nL := 2) (rt := none) (rows := am_r98) (d := 1) (by decide +kernel) (by decide +kernel) rfl (by funext pc; rfl) (ex_175 hP) (by exact Nat.le_of_ble_eq_true rfl) ?_
  have hX := kF_0 (D := 89) (h := h)
  refine am_goX 3 (show am_sh h 47 = some (2, 0) ∧ pz_S 2 none am_r98 1 Q 5 [(0, .ref 47), (1, .ref 36)] [.int (h.1 47 1), .ref 47] h from ⟨ex_47 hP, ?_⟩)
  rw [show h.1 47 1 = nI 7 from e1]
  refine am_goX 4 (show ¬ ((Int8.ofInt 16).toInt32) = 0 ∧ pz_S 2 none am_r98 1 Q 10 [(0, .ref 47), (1, .ref 36)] [.int (((nI 7) + (Int32.ofInt 1)) - ((nI 7) + (Int32.ofInt 1)) / ((Int8.ofInt 16).toInt32) * ((Int8.ofInt 16).toInt32)), .ref 47] h from ⟨by decide, ?_⟩)
  rw [show ((nI 7) + (Int32.ofInt 1)) - ((nI 7) + (Int32.ofInt 1)) / ((Int8.ofInt 16).toInt32) * ((Int8.ofInt 16).toInt32) = nI 8 from (by decide)]
  refine am_goX 1 (show am_sh h 47 = some (2, 0) ∧ narrow (am_fty 2 1) (.int (nI 8)) = .int (nI 8) ∧ fits (am_fty 2 1) (.int (nI 8)) = true ∧ pz_S 2 none am_r98 1 Q 13 [(0, .ref 47), (1, .ref 36)] [] (am_wI h 47 1 (nI 8)) from ⟨ex_47 hP, rfl, rfl, ?_⟩)
  have f145 : ex_P (am_wI h 47 1 (nI 8)) := hP
  have f146 : (am_wI h 47 1 (nI 8)).1 47 1 = nI 8 := (em_we _ _ _ _).trans (rfl)
  have f147 : (am_wI h 47 1 (nI 8)).1 47 2 = nI n := (em_wn _ _ (by omega)).trans e2
  have f148 : kF 89 h (am_wI h 47 1 (nI 8)) := kF_w (by omega) hX
  generalize am_wI h 47 1 (nI 8) = h144 at f145 f146 f147 f148 ⊢
  refine am_goX 2 (show am_sh h144 47 = some (2, 0) ∧ pz_S 2 none am_r98 1 Q 17 [(0, .ref 47), (1, .ref 36)] [am_rf (h144.2.2.1 47 0)] h144 from ⟨ex_47 f145, ?_⟩)
  rw [show am_rf (h144.2.2.1 47 0) = .ref 48 from congrArg am_rf (ex_r47_0 f145)]
  refine am_goX 2 (show am_sh h144 47 = some (2, 0) ∧ pz_S 2 none am_r98 1 Q 21 [(0, .ref 47), (1, .ref 36)] [.int (h144.1 47 1), .ref 48] h144 from ⟨ex_47 f145, ?_⟩)
  rw [show h144.1 47 1 = nI 8 from f146]
  refine am_goX 1 (show ∃ jj nn : Nat, (am_sh h144 48 = some (16, nn) ∨ am_sh h144 48 = some (17, nn)) ∧ jj < nn ∧ nI 8 = nI jj ∧ pz_S 2 none am_r98 1 Q 22 [(0, .ref 47), (1, .ref 36)] [am_rf (h144.2.2.1 48 jj)] h144 from ⟨8, 16, Or.inr (ex_48 f145), by decide, rfl, ?_⟩)
  rw [show am_rf (h144.2.2.1 48 8) = .ref 89 from congrArg am_rf (ex_r48_8 f145)]
  refine am_goX 2 (show am_rc h144 89 6 ∧ 0 ≤ 8 ∧ h144.2.2.2.2 + am_al 99 ≤ 175 ∧ am_call am_cod 1 99 [.ref 89, .ref 36] h144 (fun vv h' => pz_S 2 none am_r98 1 Q 26 [(0, .ref 47), (1, .ref 36)] (vv.toList ++ []) h') from ⟨Or.inl ⟨by decide, ex_89 f145⟩, by decide, ex_lim f145 rfl, am_call.up (q_99 stO_89 stO_36 (by decide) f145 (fun h149 f150 f151 f152 f153 => ?_)) (by decide)⟩)
  have f154 : h149.1 47 1 = nI 8 := (f152 47 1 (by omega)).trans f146
  have f155 : h149.1 47 2 = nI n := (f152 47 2 (by omega)).trans f147
  have f156 : kF 89 h h149 := kF_c f148 f151 f152
  have f157 : scq 89 36 h h149 := scq_b f148 (fun a u1 u2 => by omega) f153
  refine am_goX 3 (show am_sh h149 47 = some (2, 0) ∧ pz_S 2 none am_r98 1 Q 31 [(0, .ref 47), (1, .ref 36)] [.int (h149.1 47 2), .ref 47] h149 from ⟨ex_47 f150, ?_⟩)
  rw [show h149.1 47 2 = nI n from f155]
  refine am_goX 3 (show pz_S 2 none am_r98 1 Q 35 [(0, .ref 47), (1, .ref 36)] [.int ((Int8.ofInt 16).toInt32), .int ((nI n) + (Int32.ofInt 1)), .ref 47] h149 from ?_)
  rw [show (nI n) + (Int32.ofInt 1) = nI (n + 1) from (dn_a rfl rfl)]
  rw [show (Int8.ofInt 16).toInt32 = nI 16 from (show (Int8.ofInt 16).toInt32 = nI 16 by decide)]
  refine am_goX 1 (show 1 ≤ 8 ∧ h149.2.2.2.2 + am_al 29 ≤ 175 ∧ am_call am_cod 1 29 [.int (nI (n + 1)), .int (nI 16)] h149 (fun vv h' => pz_S 2 none am_r98 1 Q 38 [(0, .ref 47), (1, .ref 36)] (vv.toList ++ [.ref 47]) h') from ⟨by decide, ex_lim f150 rfl, am_call.up (d_29_w f150 ?_) (by decide)⟩)
  rw [show d_29 (nI (n + 1)) (nI 16) = nI (min (n + 1) 16) from ((show d_29 (nI (n + 1)) (nI 16) = nI (min (n + 1) 16) from min16 n (by omega)))]
  refine am_goX 1 (show am_sh h149 47 = some (2, 0) ∧ narrow (am_fty 2 2) (.int (nI (min (n + 1) 16))) = .int (nI (min (n + 1) 16)) ∧ fits (am_fty 2 2) (.int (nI (min (n + 1) 16))) = true ∧ pz_S 2 none am_r98 1 Q 41 [(0, .ref 47), (1, .ref 36)] [] (am_wI h149 47 2 (nI (min (n + 1) 16))) from ⟨ex_47 f150, rfl, rfl, ?_⟩)
  have f159 : ex_P (am_wI h149 47 2 (nI (min (n + 1) 16))) := f150
  have f160 : (am_wI h149 47 2 (nI (min (n + 1) 16))).1 47 1 = nI 8 := (em_wn _ _ (by omega)).trans f154
  have f161 : (am_wI h149 47 2 (nI (min (n + 1) 16))).1 47 2 = nI (min (n + 1) 16) := (em_we _ _ _ _).trans (rfl)
  have f162 : kF 89 h (am_wI h149 47 2 (nI (min (n + 1) 16))) := kF_w (by omega) f156
  have f163 : scq 89 36 h (am_wI h149 47 2 (nI (min (n + 1) 16))) := scq_w (by omega) f157
  generalize am_wI h149 47 2 (nI (min (n + 1) 16)) = h158 at f159 f160 f161 f162 f163 ⊢
  exact am_goX 1 (show (none : Option FieldType) = none ∧ h158.2.2.2.2 = 175 ∧ _ from ⟨rfl, ex_175 f159, hQ _ f159 f162.1 f162.2 f160 f161 f163⟩)
theorem q_98_8 (hn : n ≤ 16) (hP : ex_P h) (e1 : h.1 47 1 = nI 8) (e2 : h.1 47 2 = nI n) (hQ : ∀ h1, ex_P h1 → h1.2 = h.2 → (∀ o k, ¬ o = 47 → ¬ (94 ≤ o ∧ o ≤ 98) → h1.1 o k = h.1 o k) → h1.1 47 1 = nI 9 → h1.1 47 2 = nI (min (n + 1) 16) → scq 94 36 h h1 → Q none h1) : am_call am_cod 2 98 [.ref 47, .ref 36] h Q := by
  refine pz_call (n := 98) (nL := 2) (rt := none) (rows := am_r98) (d := 1) (by decide +kernel) (by decide +kernel) rfl (by funext pc; rfl) (ex_175 hP) (by exact Nat.le_of_ble_eq_true rfl) ?_
  have hX := kF_0 (D := 94) (h := h)
  refine am_goX 3 (show am_sh h 47 = some (2, 0) ∧ pz_S 2 none am_r98 1 Q 5 [(0, .ref 47), (1, .ref 36)] [.int (h.1 47 1), .ref 47] h from ⟨ex_47 hP, ?_⟩)
  rw [show h.1 47 1 = nI 8 from e1]
  refine am_goX 4 (show ¬ ((Int8.ofInt 16).toInt32) = 0 ∧ pz_S 2 none am_r98 1 Q 10 [(0, .ref 47), (1, .ref 36)] [.int (((nI 8) + (Int32.ofInt 1)) - ((nI 8) + (Int32.ofInt 1)) / ((Int8.ofInt 16).toInt32) * ((Int8.ofInt 16).toInt32)), .ref 47] h from ⟨by decide, ?_⟩)
  rw [show ((nI 8) + (Int32.ofInt 1)) - ((nI 8) + (Int32.ofInt 1)) / ((Int8.ofInt 16).toInt32) * ((Int8.ofInt 16).toInt32) = nI 9 from (by decide)]
  refine am_goX 1 (show am_sh h 47 = some (2, 0) ∧ narrow (am_fty 2 1) (.int (nI 9)) = .int (nI 9) ∧ fits (am_fty 2 1) (.int (nI 9)) = true ∧ pz_S 2 none am_r98 1 Q 13 [(0, .ref 47), (1, .ref 36)] [] (am_wI h 47 1 (nI 9)) from ⟨ex_47 hP, rfl, rfl, ?_⟩)
  have f165 : ex_P (am_wI h 47 1 (nI 9)) := hP
  have f166 : (am_wI h 47 1 (nI 9)).1 47 1 = nI 9 := (em_we _ _ _ _).trans (rfl)
  have f167 : (am_wI h 47 1 (nI 9)).1 47 2 = nI n := (em_wn _ _ (by omega)).trans e2
  have f168 : kF 94 h (am_wI h 47 1 (nI 9)) := kF_w (by omega) hX
  generalize am_wI h 47 1 (nI 9) = h164 at f165 f166 f167 f168 ⊢
  refine am_goX 2 (show am_sh h164 47 = some (2, 0) ∧ pz_S 2 none am_r98 1 Q 17 [(0, .ref 47), (1, .ref 36)] [am_rf (h164.2.2.1 47 0)] h164 from ⟨ex_47 f165, ?_⟩)
  rw [show am_rf (h164.2.2.1 47 0) = .ref 48 from congrArg am_rf (ex_r47_0 f165)]
  refine am_goX 2 (show am_sh h164 47 = some (2, 0) ∧ pz_S 2 none am_r98 1 Q 21 [(0, .ref 47), (1, .ref 36)] [.int (h164.1 47 1), .ref 48] h164 from ⟨ex_47 f165, ?_⟩)
  rw [show h164.1 47 1 = nI 9 from f166]
  refine am_goX 1 (show ∃ jj nn : Nat, (am_sh h164 48 = some (16, nn) ∨ am_sh h164 48 = some (17, nn)) ∧ jj < nn ∧ nI 9 = nI jj ∧ pz_S 2 none am_r98 1 Q 22 [(0, .ref 47), (1, .ref 36)] [am_rf (h164.2.2.1 48 jj)] h164 from ⟨9, 16, Or.inr (ex_48 f165), by decide, rfl, ?_⟩)
  rw [show am_rf (h164.2.2.1 48 9) = .ref 94 from congrArg am_rf (ex_r48_9 f165)]
  refine am_goX 2 (show am_rc h164 94 6 ∧ 0 ≤ 8 ∧ h164.2.2.2.2 + am_al 99 ≤ 175 ∧ am_call am_cod 1 99 [.ref 94, .ref 36] h164 (fun vv h' => pz_S 2 none am_r98 1 Q 26 [(0, .ref 47), (1, .ref 36)] (vv.toList ++ []) h') from ⟨Or.inl ⟨by decide, ex_94 f165⟩, by decide, ex_lim f165 rfl, am_call.up (q_99 stO_94 stO_36 (by decide) f165 (fun h169 f170 f171 f172 f173 => ?_)) (by decide)⟩)
  have f174 : h169.1 47 1 = nI 9 := (f172 47 1 (by omega)).trans f166
  have f175 : h169.1 47 2 = nI n := (f172 47 2 (by omega)).trans f167
  have f176 : kF 94 h h169 := kF_c f168 f171 f172
  have f177 : scq 94 36 h h169 := scq_b f168 (fun a u1 u2 => by omega) f173
  refine am_goX 3 (show am_sh h169 47 = some (2, 0) ∧ pz_S 2 none am_r98 1 Q 31 [(0, .ref 47), (1, .ref 36)] [.int (h169.1 47 2), .ref 47] h169 from ⟨ex_47 f170, ?_⟩)
  rw [show h169.1 47 2 = nI n from f175]
  refine am_goX 3 (show pz_S 2 none am_r98 1 Q 35 [(0, .ref 47), (1, .ref 36)] [.int ((Int8.ofInt 16).toInt32), .int ((nI n) + (Int32.ofInt 1)), .ref 47] h169 from ?_)
  rw [show (nI n) + (Int32.ofInt 1) = nI (n + 1) from (dn_a rfl rfl)]
  rw [show (Int8.ofInt 16).toInt32 = nI 16 from (show (Int8.ofInt 16).toInt32 = nI 16 by decide)]
  refine am_goX 1 (show 1 ≤ 8 ∧ h169.2.2.2.2 + am_al 29 ≤ 175 ∧ am_call am_cod 1 29 [.int (nI (n + 1)), .int (nI 16)] h169 (fun vv h' => pz_S 2 none am_r98 1 Q 38 [(0, .ref 47), (1, .ref 36)] (vv.toList ++ [.ref 47]) h') from ⟨by decide, ex_lim f170 rfl, am_call.up (d_29_w f170 ?_) (by decide)⟩)
  rw [show d_29 (nI (n + 1)) (nI 16) = nI (min (n + 1) 16) from ((show d_29 (nI (n + 1)) (nI 16) = nI (min (n + 1) 16) from min16 n (by omega)))]
  refine am_goX 1 (show am_sh h169 47 = some (2, 0) ∧ narrow (am_fty 2 2) (.int (nI (min (n + 1) 16))) = .int (nI (min (n + 1) 16)) ∧ fits (am_fty 2 2) (.int (nI (min (n + 1) 16))) = true ∧ pz_S 2 none am_r98 1 Q 41 [(0, .ref 47), (1, .ref 36)] [] (am_wI h169 47 2 (nI (min (n + 1) 16))) from ⟨ex_47 f170, rfl, rfl, ?_⟩)
  have f179 : ex_P (am_wI h169 47 2 (nI (min (n + 1) 16))) := f170
  have f180 : (am_wI h169 47 2 (nI (min (n + 1) 16))).1 47 1 = nI 9 := (em_wn _ _ (by omega)).trans f174
  have f181 : (am_wI h169 47 2 (nI (min (n + 1) 16))).1 47 2 = nI (min (n + 1) 16) := (em_we _ _ _ _).trans (rfl)
  have f182 : kF 94 h (am_wI h169 47 2 (nI (min (n + 1) 16))) := kF_w (by omega) f176
  have f183 : scq 94 36 h (am_wI h169 47 2 (nI (min (n + 1) 16))) := scq_w (by omega) f177
  generalize am_wI h169 47 2 (nI (min (n + 1) 16)) = h178 at f179 f180 f181 f182 f183 ⊢
  exact am_goX 1 (show (none : Option FieldType) = none ∧ h178.2.2.2.2 = 175 ∧ _ from ⟨rfl, ex_175 f179, hQ _ f179 f182.1 f182.2 f180 f181 f183⟩)
theorem q_98_9 (hn : n ≤ 16) (hP : ex_P h) (e1 : h.1 47 1 = nI 9) (e2 : h.1 47 2 = nI n) (hQ : ∀ h1, ex_P h1 → h1.2 = h.2 → (∀ o k, ¬ o = 47 → ¬ (99 ≤ o ∧ o ≤ 103) → h1.1 o k = h.1 o k) → h1.1 47 1 = nI 10 → h1.1 47 2 = nI (min (n + 1) 16) → scq 99 36 h h1 → Q none h1) : am_call am_cod 2 98 [.ref 47, .ref 36] h Q := by
  refine pz_call (n := 98) (nL := 2) (rt := none) (rows := am_r98) (d := 1) (by decide +kernel) (by decide +kernel) rfl (by funext pc; rfl) (ex_175 hP) (by exact Nat.le_of_ble_eq_true rfl) ?_
  have hX := kF_0 (D := 99) (h := h)
  refine am_goX 3 (show am_sh h 47 = some (2, 0) ∧ pz_S 2 none am_r98 1 Q 5 [(0, .ref 47), (1, .ref 36)] [.int (h.1 47 1), .ref 47] h from ⟨ex_47 hP, ?_⟩)
  rw [show h.1 47 1 = nI 9 from e1]
  refine am_goX 4 (show ¬ ((Int8.ofInt 16).toInt32) = 0 ∧ pz_S 2 none am_r98 1 Q 10 [(0, .ref 47), (1, .ref 36)] [.int (((nI 9) + (Int32.ofInt 1)) - ((nI 9) + (Int32.ofInt 1)) / ((Int8.ofInt 16).toInt32) * ((Int8.ofInt 16).toInt32)), .ref 47] h from ⟨by decide, ?_⟩)
  rw [show ((nI 9) + (Int32.ofInt 1)) - ((nI 9) + (Int32.ofInt 1)) / ((Int8.ofInt 16).toInt32) * ((Int8.ofInt 16).toInt32) = nI 10 from (by decide)]
  refine am_goX 1 (show am_sh h 47 = some (2, 0) ∧ narrow (am_fty 2 1) (.int (nI 10)) = .int (nI 10) ∧ fits (am_fty 2 1) (.int (nI 10)) = true ∧ pz_S 2 none am_r98 1 Q 13 [(0, .ref 47), (1, .ref 36)] [] (am_wI h 47 1 (nI 10)) from ⟨ex_47 hP, rfl, rfl, ?_⟩)
  have f185 : ex_P (am_wI h 47 1 (nI 10)) := hP
  have f186 : (am_wI h 47 1 (nI 10)).1 47 1 = nI 10 := (em_we _ _ _ _).trans (rfl)
  have f187 : (am_wI h 47 1 (nI 10)).1 47 2 = nI n := (em_wn _ _ (by omega)).trans e2
  have f188 : kF 99 h (am_wI h 47 1 (nI 10)) := kF_w (by omega) hX
  generalize am_wI h 47 1 (nI 10) = h184 at f185 f186 f187 f188 ⊢
  refine am_goX 2 (show am_sh h184 47 = some (2, 0) ∧ pz_S 2 none am_r98 1 Q 17 [(0, .ref 47), (1, .ref 36)] [am_rf (h184.2.2.1 47 0)] h184 from ⟨ex_47 f185, ?_⟩)
  rw [show am_rf (h184.2.2.1 47 0) = .ref 48 from congrArg am_rf (ex_r47_0 f185)]
  refine am_goX 2 (show am_sh h184 47 = some (2, 0) ∧ pz_S 2 none am_r98 1 Q 21 [(0, .ref 47), (1, .ref 36)] [.int (h184.1 47 1), .ref 48] h184 from ⟨ex_47 f185, ?_⟩)
  rw [show h184.1 47 1 = nI 10 from f186]
  refine am_goX 1 (show ∃ jj nn : Nat, (am_sh h184 48 = some (16, nn) ∨ am_sh h184 48 = some (17, nn)) ∧ jj < nn ∧ nI 10 = nI jj ∧ pz_S 2 none am_r98 1 Q 22 [(0, .ref 47), (1, .ref 36)] [am_rf (h184.2.2.1 48 jj)] h184 from ⟨10, 16, Or.inr (ex_48 f185), by decide, rfl, ?_⟩)
  rw [show am_rf (h184.2.2.1 48 10) = .ref 99 from congrArg am_rf (ex_r48_10 f185)]
  refine am_goX 2 (show am_rc h184 99 6 ∧ 0 ≤ 8 ∧ h184.2.2.2.2 + am_al 99 ≤ 175 ∧ am_call am_cod 1 99 [.ref 99, .ref 36] h184 (fun vv h' => pz_S 2 none am_r98 1 Q 26 [(0, .ref 47), (1, .ref 36)] (vv.toList ++ []) h') from ⟨Or.inl ⟨by decide, ex_99 f185⟩, by decide, ex_lim f185 rfl, am_call.up (q_99 stO_99 stO_36 (by decide) f185 (fun h189 f190 f191 f192 f193 => ?_)) (by decide)⟩)
  have f194 : h189.1 47 1 = nI 10 := (f192 47 1 (by omega)).trans f186
  have f195 : h189.1 47 2 = nI n := (f192 47 2 (by omega)).trans f187
  have f196 : kF 99 h h189 := kF_c f188 f191 f192
  have f197 : scq 99 36 h h189 := scq_b f188 (fun a u1 u2 => by omega) f193
  refine am_goX 3 (show am_sh h189 47 = some (2, 0) ∧ pz_S 2 none am_r98 1 Q 31 [(0, .ref 47), (1, .ref 36)] [.int (h189.1 47 2), .ref 47] h189 from ⟨ex_47 f190, ?_⟩)
  rw [show h189.1 47 2 = nI n from f195]
  refine am_goX 3 (show pz_S 2 none am_r98 1 Q 35 [(0, .ref 47), (1, .ref 36)] [.int ((Int8.ofInt 16).toInt32), .int ((nI n) + (Int32.ofInt 1)), .ref 47] h189 from ?_)
  rw [show (nI n) + (Int32.ofInt 1) = nI (n + 1) from (dn_a rfl rfl)]
  rw [show (Int8.ofInt 16).toInt32 = nI 16 from (show (Int8.ofInt 16).toInt32 = nI 16 by decide)]
  refine am_goX 1 (show 1 ≤ 8 ∧ h189.2.2.2.2 + am_al 29 ≤ 175 ∧ am_call am_cod 1 29 [.int (nI (n + 1)), .int (nI 16)] h189 (fun vv h' => pz_S 2 none am_r98 1 Q 38 [(0, .ref 47), (1, .ref 36)] (vv.toList ++ [.ref 47]) h') from ⟨by decide, ex_lim f190 rfl, am_call.up (d_29_w f190 ?_) (by decide)⟩)
  rw [show d_29 (nI (n + 1)) (nI 16) = nI (min (n + 1) 16) from ((show d_29 (nI (n + 1)) (nI 16) = nI (min (n + 1) 16) from min16 n (by omega)))]
  refine am_goX 1 (show am_sh h189 47 = some (2, 0) ∧ narrow (am_fty 2 2) (.int (nI (min (n + 1) 16))) = .int (nI (min (n + 1) 16)) ∧ fits (am_fty 2 2) (.int (nI (min (n + 1) 16))) = true ∧ pz_S 2 none am_r98 1 Q 41 [(0, .ref 47), (1, .ref 36)] [] (am_wI h189 47 2 (nI (min (n + 1) 16))) from ⟨ex_47 f190, rfl, rfl, ?_⟩)
  have f199 : ex_P (am_wI h189 47 2 (nI (min (n + 1) 16))) := f190
  have f200 : (am_wI h189 47 2 (nI (min (n + 1) 16))).1 47 1 = nI 10 := (em_wn _ _ (by omega)).trans f194
  have f201 : (am_wI h189 47 2 (nI (min (n + 1) 16))).1 47 2 = nI (min (n + 1) 16) := (em_we _ _ _ _).trans (rfl)
  have f202 : kF 99 h (am_wI h189 47 2 (nI (min (n + 1) 16))) := kF_w (by omega) f196
  have f203 : scq 99 36 h (am_wI h189 47 2 (nI (min (n + 1) 16))) := scq_w (by omega) f197
  generalize am_wI h189 47 2 (nI (min (n + 1) 16)) = h198 at f199 f200 f201 f202 f203 ⊢
  exact am_goX 1 (show (none : Option FieldType) = none ∧ h198.2.2.2.2 = 175 ∧ _ from ⟨rfl, ex_175 f199, hQ _ f199 f202.1 f202.2 f200 f201 f203⟩)
theorem q_98_10 (hn : n ≤ 16) (hP : ex_P h) (e1 : h.1 47 1 = nI 10) (e2 : h.1 47 2 = nI n) (hQ : ∀ h1, ex_P h1 → h1.2 = h.2 → (∀ o k, ¬ o = 47 → ¬ (104 ≤ o ∧ o ≤ 108) → h1.1 o k = h.1 o k) → h1.1 47 1 = nI 11 → h1.1 47 2 = nI (min (n + 1) 16) → scq 104 36 h h1 → Q none h1) : am_call am_cod 2 98 [.ref 47, .ref 36] h Q := by
  refine pz_call (n := 98) (nL := 2) (rt := none) (rows := am_r98) (d := 1) (by decide +kernel) (by decide +kernel) rfl (by funext pc; rfl) (ex_175 hP) (by exact Nat.le_of_ble_eq_true rfl) ?_
  have hX := kF_0 (D := 104) (h := h)
  refine am_goX 3 (show am_sh h 47 = some (2, 0) ∧ pz_S 2 none am_r98 1 Q 5 [(0, .ref 47), (1, .ref 36)] [.int (h.1 47 1), .ref 47] h from ⟨ex_47 hP, ?_⟩)
  rw [show h.1 47 1 = nI 10 from e1]
  refine am_goX 4 (show ¬ ((Int8.ofInt 16).toInt32) = 0 ∧ pz_S 2 none am_r98 1 Q 10 [(0, .ref 47), (1, .ref 36)] [.int (((nI 10) + (Int32.ofInt 1)) - ((nI 10) + (Int32.ofInt 1)) / ((Int8.ofInt 16).toInt32) * ((Int8.ofInt 16).toInt32)), .ref 47] h from ⟨by decide, ?_⟩)
  rw [show ((nI 10) + (Int32.ofInt 1)) - ((nI 10) + (Int32.ofInt 1)) / ((Int8.ofInt 16).toInt32) * ((Int8.ofInt 16).toInt32) = nI 11 from (by decide)]
  refine am_goX 1 (show am_sh h 47 = some (2, 0) ∧ narrow (am_fty 2 1) (.int (nI 11)) = .int (nI 11) ∧ fits (am_fty 2 1) (.int (nI 11)) = true ∧ pz_S 2 none am_r98 1 Q 13 [(0, .ref 47), (1, .ref 36)] [] (am_wI h 47 1 (nI 11)) from ⟨ex_47 hP, rfl, rfl, ?_⟩)
  have f205 : ex_P (am_wI h 47 1 (nI 11)) := hP
  have f206 : (am_wI h 47 1 (nI 11)).1 47 1 = nI 11 := (em_we _ _ _ _).trans (rfl)
  have f207 : (am_wI h 47 1 (nI 11)).1 47 2 = nI n := (em_wn _ _ (by omega)).trans e2
  have f208 : kF 104 h (am_wI h 47 1 (nI 11)) := kF_w (by omega) hX
  generalize am_wI h 47 1 (nI 11) = h204 at f205 f206 f207 f208 ⊢
  refine am_goX 2 (show am_sh h204 47 = some (2, 0) ∧ pz_S 2 none am_r98 1 Q 17 [(0, .ref 47), (1, .ref 36)] [am_rf (h204.2.2.1 47 0)] h204 from ⟨ex_47 f205, ?_⟩)
  rw [show am_rf (h204.2.2.1 47 0) = .ref 48 from congrArg am_rf (ex_r47_0 f205)]
  refine am_goX 2 (show am_sh h204 47 = some (2, 0) ∧ pz_S 2 none am_r98 1 Q 21 [(0, .ref 47), (1, .ref 36)] [.int (h204.1 47 1), .ref 48] h204 from ⟨ex_47 f205, ?_⟩)
  rw [show h204.1 47 1 = nI 11 from f206]
  refine am_goX 1 (show ∃ jj nn : Nat, (am_sh h204 48 = some (16, nn) ∨ am_sh h204 48 = some (17, nn)) ∧ jj < nn ∧ nI 11 = nI jj ∧ pz_S 2 none am_r98 1 Q 22 [(0, .ref 47), (1, .ref 36)] [am_rf (h204.2.2.1 48 jj)] h204 from ⟨11, 16, Or.inr (ex_48 f205), by decide, rfl, ?_⟩)
  rw [show am_rf (h204.2.2.1 48 11) = .ref 104 from congrArg am_rf (ex_r48_11 f205)]
  refine am_goX 2 (show am_rc h204 104 6 ∧ 0 ≤ 8 ∧ h204.2.2.2.2 + am_al 99 ≤ 175 ∧ am_call am_cod 1 99 [.ref 104, .ref 36] h204 (fun vv h' => pz_S 2 none am_r98 1 Q 26 [(0, .ref 47), (1, .ref 36)] (vv.toList ++ []) h') from ⟨Or.inl ⟨by decide, ex_104 f205⟩, by decide, ex_lim f205 rfl, am_call.up (q_99 stO_104 stO_36 (by decide) f205 (fun h209 f210 f211 f212 f213 => ?_)) (by decide)⟩)
  have f214 : h209.1 47 1 = nI 11 := (f212 47 1 (by omega)).trans f206
  have f215 : h209.1 47 2 = nI n := (f212 47 2 (by omega)).trans f207
  have f216 : kF 104 h h209 := kF_c f208 f211 f212
  have f217 : scq 104 36 h h209 := scq_b f208 (fun a u1 u2 => by omega) f213
  refine am_goX 3 (show am_sh h209 47 = some (2, 0) ∧ pz_S 2 none am_r98 1 Q 31 [(0, .ref 47), (1, .ref 36)] [.int (h209.1 47 2), .ref 47] h209 from ⟨ex_47 f210, ?_⟩)
  rw [show h209.1 47 2 = nI n from f215]
  refine am_goX 3 (show pz_S 2 none am_r98 1 Q 35 [(0, .ref 47), (1, .ref 36)] [.int ((Int8.ofInt 16).toInt32), .int ((nI n) + (Int32.ofInt 1)), .ref 47] h209 from ?_)
  rw [show (nI n) + (Int32.ofInt 1) = nI (n + 1) from (dn_a rfl rfl)]
  rw [show (Int8.ofInt 16).toInt32 = nI 16 from (show (Int8.ofInt 16).toInt32 = nI 16 by decide)]
  refine am_goX 1 (show 1 ≤ 8 ∧ h209.2.2.2.2 + am_al 29 ≤ 175 ∧ am_call am_cod 1 29 [.int (nI (n + 1)), .int (nI 16)] h209 (fun vv h' => pz_S 2 none am_r98 1 Q 38 [(0, .ref 47), (1, .ref 36)] (vv.toList ++ [.ref 47]) h') from ⟨by decide, ex_lim f210 rfl, am_call.up (d_29_w f210 ?_) (by decide)⟩)
  rw [show d_29 (nI (n + 1)) (nI 16) = nI (min (n + 1) 16) from ((show d_29 (nI (n + 1)) (nI 16) = nI (min (n + 1) 16) from min16 n (by omega)))]
  refine am_goX 1 (show am_sh h209 47 = some (2, 0) ∧ narrow (am_fty 2 2) (.int (nI (min (n + 1) 16))) = .int (nI (min (n + 1) 16)) ∧ fits (am_fty 2 2) (.int (nI (min (n + 1) 16))) = true ∧ pz_S 2 none am_r98 1 Q 41 [(0, .ref 47), (1, .ref 36)] [] (am_wI h209 47 2 (nI (min (n + 1) 16))) from ⟨ex_47 f210, rfl, rfl, ?_⟩)
  have f219 : ex_P (am_wI h209 47 2 (nI (min (n + 1) 16))) := f210
  have f220 : (am_wI h209 47 2 (nI (min (n + 1) 16))).1 47 1 = nI 11 := (em_wn _ _ (by omega)).trans f214
  have f221 : (am_wI h209 47 2 (nI (min (n + 1) 16))).1 47 2 = nI (min (n + 1) 16) := (em_we _ _ _ _).trans (rfl)
  have f222 : kF 104 h (am_wI h209 47 2 (nI (min (n + 1) 16))) := kF_w (by omega) f216
  have f223 : scq 104 36 h (am_wI h209 47 2 (nI (min (n + 1) 16))) := scq_w (by omega) f217
  generalize am_wI h209 47 2 (nI (min (n + 1) 16)) = h218 at f219 f220 f221 f222 f223 ⊢
  exact am_goX 1 (show (none : Option FieldType) = none ∧ h218.2.2.2.2 = 175 ∧ _ from ⟨rfl, ex_175 f219, hQ _ f219 f222.1 f222.2 f220 f221 f223⟩)
theorem q_98_11 (hn : n ≤ 16) (hP : ex_P h) (e1 : h.1 47 1 = nI 11) (e2 : h.1 47 2 = nI n) (hQ : ∀ h1, ex_P h1 → h1.2 = h.2 → (∀ o k, ¬ o = 47 → ¬ (109 ≤ o ∧ o ≤ 113) → h1.1 o k = h.1 o k) → h1.1 47 1 = nI 12 → h1.1 47 2 = nI (min (n + 1) 16) → scq 109 36 h h1 → Q none h1) : am_call am_cod 2 98 [.ref 47, .ref 36] h Q := by
  refine pz_call (n := 98) (nL := 2) (rt := none) (rows := am_r98) (d := 1) (by decide +kernel) (by decide +kernel) rfl (by funext pc; rfl) (ex_175 hP) (by exact Nat.le_of_ble_eq_true rfl) ?_
  have hX := kF_0 (D := 109) (h := h)
  refine am_goX 3 (show am_sh h 47 = some (2, 0) ∧ pz_S 2 none am_r98 1 Q 5 [(0, .ref 47), (1, .ref 36)] [.int (h.1 47 1), .ref 47] h from ⟨ex_47 hP, ?_⟩)
  rw [show h.1 47 1 = nI 11 from e1]
  refine am_goX 4 (show ¬ ((Int8.ofInt 16).toInt32) = 0 ∧ pz_S 2 none am_r98 1 Q 10 [(0, .ref 47), (1, .ref 36)] [.int (((nI 11) + (Int32.ofInt 1)) - ((nI 11) + (Int32.ofInt 1)) / ((Int8.ofInt 16).toInt32) * ((Int8.ofInt 16).toInt32)), .ref 47] h from ⟨by decide, ?_⟩)
  rw [show ((nI 11) + (Int32.ofInt 1)) - ((nI 11) + (Int32.ofInt 1)) / ((Int8.ofInt 16).toInt32) * ((Int8.ofInt 16).toInt32) = nI 12 from (by decide)]
  refine am_goX 1 (show am_sh h 47 = some (2, 0) ∧ narrow (am_fty 2 1) (.int (nI 12)) = .int (nI 12) ∧ fits (am_fty 2 1) (.int (nI 12)) = true ∧ pz_S 2 none am_r98 1 Q 13 [(0, .ref 47), (1, .ref 36)] [] (am_wI h 47 1 (nI 12)) from ⟨ex_47 hP, rfl, rfl, ?_⟩)
  have f225 : ex_P (am_wI h 47 1 (nI 12)) := hP
  have f226 : (am_wI h 47 1 (nI 12)).1 47 1 = nI 12 := (em_we _ _ _ _).trans (rfl)
  have f227 : (am_wI h 47 1 (nI 12)).1 47 2 = nI n := (em_wn _ _ (by omega)).trans e2
  have f228 : kF 109 h (am_wI h 47 1 (nI 12)) := kF_w (by omega) hX
  generalize am_wI h 47 1 (nI 12) = h224 at f225 f226 f227 f228 ⊢
  refine am_goX 2 (show am_sh h224 47 = some (2, 0) ∧ pz_S 2 none am_r98 1 Q 17 [(0, .ref 47), (1, .ref 36)] [am_rf (h224.2.2.1 47 0)] h224 from ⟨ex_47 f225, ?_⟩)
  rw [show am_rf (h224.2.2.1 47 0) = .ref 48 from congrArg am_rf (ex_r47_0 f225)]
  refine am_goX 2 (show am_sh h224 47 = some (2, 0) ∧ pz_S 2 none am_r98 1 Q 21 [(0, .ref 47), (1, .ref 36)] [.int (h224.1 47 1), .ref 48] h224 from ⟨ex_47 f225, ?_⟩)
  rw [show h224.1 47 1 = nI 12 from f226]
  refine am_goX 1 (show ∃ jj nn : Nat, (am_sh h224 48 = some (16, nn) ∨ am_sh h224 48 = some (17, nn)) ∧ jj < nn ∧ nI 12 = nI jj ∧ pz_S 2 none am_r98 1 Q 22 [(0, .ref 47), (1, .ref 36)] [am_rf (h224.2.2.1 48 jj)] h224 from ⟨12, 16, Or.inr (ex_48 f225), by decide, rfl, ?_⟩)
  rw [show am_rf (h224.2.2.1 48 12) = .ref 109 from congrArg am_rf (ex_r48_12 f225)]
  refine am_goX 2 (show am_rc h224 109 6 ∧ 0 ≤ 8 ∧ h224.2.2.2.2 + am_al 99 ≤ 175 ∧ am_call am_cod 1 99 [.ref 109, .ref 36] h224 (fun vv h' => pz_S 2 none am_r98 1 Q 26 [(0, .ref 47), (1, .ref 36)] (vv.toList ++ []) h') from ⟨Or.inl ⟨by decide, ex_109 f225⟩, by decide, ex_lim f225 rfl, am_call.up (q_99 stO_109 stO_36 (by decide) f225 (fun h229 f230 f231 f232 f233 => ?_)) (by decide)⟩)
  have f234 : h229.1 47 1 = nI 12 := (f232 47 1 (by omega)).trans f226
  have f235 : h229.1 47 2 = nI n := (f232 47 2 (by omega)).trans f227
  have f236 : kF 109 h h229 := kF_c f228 f231 f232
  have f237 : scq 109 36 h h229 := scq_b f228 (fun a u1 u2 => by omega) f233
  refine am_goX 3 (show am_sh h229 47 = some (2, 0) ∧ pz_S 2 none am_r98 1 Q 31 [(0, .ref 47), (1, .ref 36)] [.int (h229.1 47 2), .ref 47] h229 from ⟨ex_47 f230, ?_⟩)
  rw [show h229.1 47 2 = nI n from f235]
  refine am_goX 3 (show pz_S 2 none am_r98 1 Q 35 [(0, .ref 47), (1, .ref 36)] [.int ((Int8.ofInt 16).toInt32), .int ((nI n) + (Int32.ofInt 1)), .ref 47] h229 from ?_)
  rw [show (nI n) + (Int32.ofInt 1) = nI (n + 1) from (dn_a rfl rfl)]
  rw [show (Int8.ofInt 16).toInt32 = nI 16 from (show (Int8.ofInt 16).toInt32 = nI 16 by decide)]
  refine am_goX 1 (show 1 ≤ 8 ∧ h229.2.2.2.2 + am_al 29 ≤ 175 ∧ am_call am_cod 1 29 [.int (nI (n + 1)), .int (nI 16)] h229 (fun vv h' => pz_S 2 none am_r98 1 Q 38 [(0, .ref 47), (1, .ref 36)] (vv.toList ++ [.ref 47]) h') from ⟨by decide, ex_lim f230 rfl, am_call.up (d_29_w f230 ?_) (by decide)⟩)
  rw [show d_29 (nI (n + 1)) (nI 16) = nI (min (n + 1) 16) from ((show d_29 (nI (n + 1)) (nI 16) = nI (min (n + 1) 16) from min16 n (by omega)))]
  refine am_goX 1 (show am_sh h229 47 = some (2, 0) ∧ narrow (am_fty 2 2) (.int (nI (min (n + 1) 16))) = .int (nI (min (n + 1) 16)) ∧ fits (am_fty 2 2) (.int (nI (min (n + 1) 16))) = true ∧ pz_S 2 none am_r98 1 Q 41 [(0, .ref 47), (1, .ref 36)] [] (am_wI h229 47 2 (nI (min (n + 1) 16))) from ⟨ex_47 f230, rfl, rfl, ?_⟩)
  have f239 : ex_P (am_wI h229 47 2 (nI (min (n + 1) 16))) := f230
  have f240 : (am_wI h229 47 2 (nI (min (n + 1) 16))).1 47 1 = nI 12 := (em_wn _ _ (by omega)).trans f234
  have f241 : (am_wI h229 47 2 (nI (min (n + 1) 16))).1 47 2 = nI (min (n + 1) 16) := (em_we _ _ _ _).trans (rfl)
  have f242 : kF 109 h (am_wI h229 47 2 (nI (min (n + 1) 16))) := kF_w (by omega) f236
  have f243 : scq 109 36 h (am_wI h229 47 2 (nI (min (n + 1) 16))) := scq_w (by omega) f237
  generalize am_wI h229 47 2 (nI (min (n + 1) 16)) = h238 at f239 f240 f241 f242 f243 ⊢
  exact am_goX 1 (show (none : Option FieldType) = none ∧ h238.2.2.2.2 = 175 ∧ _ from ⟨rfl, ex_175 f239, hQ _ f239 f242.1 f242.2 f240 f241 f243⟩)
theorem q_98_12 (hn : n ≤ 16) (hP : ex_P h) (e1 : h.1 47 1 = nI 12) (e2 : h.1 47 2 = nI n) (hQ : ∀ h1, ex_P h1 → h1.2 = h.2 → (∀ o k, ¬ o = 47 → ¬ (114 ≤ o ∧ o ≤ 118) → h1.1 o k = h.1 o k) → h1.1 47 1 = nI 13 → h1.1 47 2 = nI (min (n + 1) 16) → scq 114 36 h h1 → Q none h1) : am_call am_cod 2 98 [.ref 47, .ref 36] h Q := by
  refine pz_call (n := 98) (nL := 2) (rt := none) (rows := am_r98) (d := 1) (by decide +kernel) (by decide +kernel) rfl (by funext pc; rfl) (ex_175 hP) (by exact Nat.le_of_ble_eq_true rfl) ?_
  have hX := kF_0 (D := 114) (h := h)
  refine am_goX 3 (show am_sh h 47 = some (2, 0) ∧ pz_S 2 none am_r98 1 Q 5 [(0, .ref 47), (1, .ref 36)] [.int (h.1 47 1), .ref 47] h from ⟨ex_47 hP, ?_⟩)
  rw [show h.1 47 1 = nI 12 from e1]
  refine am_goX 4 (show ¬ ((Int8.ofInt 16).toInt32) = 0 ∧ pz_S 2 none am_r98 1 Q 10 [(0, .ref 47), (1, .ref 36)] [.int (((nI 12) + (Int32.ofInt 1)) - ((nI 12) + (Int32.ofInt 1)) / ((Int8.ofInt 16).toInt32) * ((Int8.ofInt 16).toInt32)), .ref 47] h from ⟨by decide, ?_⟩)
  rw [show ((nI 12) + (Int32.ofInt 1)) - ((nI 12) + (Int32.ofInt 1)) / ((Int8.ofInt 16).toInt32) * ((Int8.ofInt 16).toInt32) = nI 13 from (by decide)]
  refine am_goX 1 (show am_sh h 47 = some (2, 0) ∧ narrow (am_fty 2 1) (.int (nI 13)) = .int (nI 13) ∧ fits (am_fty 2 1) (.int (nI 13)) = true ∧ pz_S 2 none am_r98 1 Q 13 [(0, .ref 47), (1, .ref 36)] [] (am_wI h 47 1 (nI 13)) from ⟨ex_47 hP, rfl, rfl, ?_⟩)
  have f245 : ex_P (am_wI h 47 1 (nI 13)) := hP
  have f246 : (am_wI h 47 1 (nI 13)).1 47 1 = nI 13 := (em_we _ _ _ _).trans (rfl)
  have f247 : (am_wI h 47 1 (nI 13)).1 47 2 = nI n := (em_wn _ _ (by omega)).trans e2
  have f248 : kF 114 h (am_wI h 47 1 (nI 13)) := kF_w (by omega) hX
  generalize am_wI h 47 1 (nI 13) = h244 at f245 f246 f247 f248 ⊢
  refine am_goX 2 (show am_sh h244 47 = some (2, 0) ∧ pz_S 2 none am_r98 1 Q 17 [(0, .ref 47), (1, .ref 36)] [am_rf (h244.2.2.1 47 0)] h244 from ⟨ex_47 f245, ?_⟩)
  rw [show am_rf (h244.2.2.1 47 0) = .ref 48 from congrArg am_rf (ex_r47_0 f245)]
  refine am_goX 2 (show am_sh h244 47 = some (2, 0) ∧ pz_S 2 none am_r98 1 Q 21 [(0, .ref 47), (1, .ref 36)] [.int (h244.1 47 1), .ref 48] h244 from ⟨ex_47 f245, ?_⟩)
  rw [show h244.1 47 1 = nI 13 from f246]
  refine am_goX 1 (show ∃ jj nn : Nat, (am_sh h244 48 = some (16, nn) ∨ am_sh h244 48 = some (17, nn)) ∧ jj < nn ∧ nI 13 = nI jj ∧ pz_S 2 none am_r98 1 Q 22 [(0, .ref 47), (1, .ref 36)] [am_rf (h244.2.2.1 48 jj)] h244 from ⟨13, 16, Or.inr (ex_48 f245), by decide, rfl, ?_⟩)
  rw [show am_rf (h244.2.2.1 48 13) = .ref 114 from congrArg am_rf (ex_r48_13 f245)]
  refine am_goX 2 (show am_rc h244 114 6 ∧ 0 ≤ 8 ∧ h244.2.2.2.2 + am_al 99 ≤ 175 ∧ am_call am_cod 1 99 [.ref 114, .ref 36] h244 (fun vv h' => pz_S 2 none am_r98 1 Q 26 [(0, .ref 47), (1, .ref 36)] (vv.toList ++ []) h') from ⟨Or.inl ⟨by decide, ex_114 f245⟩, by decide, ex_lim f245 rfl, am_call.up (q_99 stO_114 stO_36 (by decide) f245 (fun h249 f250 f251 f252 f253 => ?_)) (by decide)⟩)
  have f254 : h249.1 47 1 = nI 13 := (f252 47 1 (by omega)).trans f246
  have f255 : h249.1 47 2 = nI n := (f252 47 2 (by omega)).trans f247
  have f256 : kF 114 h h249 := kF_c f248 f251 f252
  have f257 : scq 114 36 h h249 := scq_b f248 (fun a u1 u2 => by omega) f253
  refine am_goX 3 (show am_sh h249 47 = some (2, 0) ∧ pz_S 2 none am_r98 1 Q 31 [(0, .ref 47), (1, .ref 36)] [.int (h249.1 47 2), .ref 47] h249 from ⟨ex_47 f250, ?_⟩)
  rw [show h249.1 47 2 = nI n from f255]
  refine am_goX 3 (show pz_S 2 none am_r98 1 Q 35 [(0, .ref 47), (1, .ref 36)] [.int ((Int8.ofInt 16).toInt32), .int ((nI n) + (Int32.ofInt 1)), .ref 47] h249 from ?_)
  rw [show (nI n) + (Int32.ofInt 1) = nI (n + 1) from (dn_a rfl rfl)]
  rw [show (Int8.ofInt 16).toInt32 = nI 16 from (show (Int8.ofInt 16).toInt32 = nI 16 by decide)]
  refine am_goX 1 (show 1 ≤ 8 ∧ h249.2.2.2.2 + am_al 29 ≤ 175 ∧ am_call am_cod 1 29 [.int (nI (n + 1)), .int (nI 16)] h249 (fun vv h' => pz_S 2 none am_r98 1 Q 38 [(0, .ref 47), (1, .ref 36)] (vv.toList ++ [.ref 47]) h') from ⟨by decide, ex_lim f250 rfl, am_call.up (d_29_w f250 ?_) (by decide)⟩)
  rw [show d_29 (nI (n + 1)) (nI 16) = nI (min (n + 1) 16) from ((show d_29 (nI (n + 1)) (nI 16) = nI (min (n + 1) 16) from min16 n (by omega)))]
  refine am_goX 1 (show am_sh h249 47 = some (2, 0) ∧ narrow (am_fty 2 2) (.int (nI (min (n + 1) 16))) = .int (nI (min (n + 1) 16)) ∧ fits (am_fty 2 2) (.int (nI (min (n + 1) 16))) = true ∧ pz_S 2 none am_r98 1 Q 41 [(0, .ref 47), (1, .ref 36)] [] (am_wI h249 47 2 (nI (min (n + 1) 16))) from ⟨ex_47 f250, rfl, rfl, ?_⟩)
  have f259 : ex_P (am_wI h249 47 2 (nI (min (n + 1) 16))) := f250
  have f260 : (am_wI h249 47 2 (nI (min (n + 1) 16))).1 47 1 = nI 13 := (em_wn _ _ (by omega)).trans f254
  have f261 : (am_wI h249 47 2 (nI (min (n + 1) 16))).1 47 2 = nI (min (n + 1) 16) := (em_we _ _ _ _).trans (rfl)
  have f262 : kF 114 h (am_wI h249 47 2 (nI (min (n + 1) 16))) := kF_w (by omega) f256
  have f263 : scq 114 36 h (am_wI h249 47 2 (nI (min (n + 1) 16))) := scq_w (by omega) f257
  generalize am_wI h249 47 2 (nI (min (n + 1) 16)) = h258 at f259 f260 f261 f262 f263 ⊢
  exact am_goX 1 (show (none : Option FieldType) = none ∧ h258.2.2.2.2 = 175 ∧ _ from ⟨rfl, ex_175 f259, hQ _ f259 f262.1 f262.2 f260 f261 f263⟩)
theorem q_98_13 (hn : n ≤ 16) (hP : ex_P h) (e1 : h.1 47 1 = nI 13) (e2 : h.1 47 2 = nI n) (hQ : ∀ h1, ex_P h1 → h1.2 = h.2 → (∀ o k, ¬ o = 47 → ¬ (119 ≤ o ∧ o ≤ 123) → h1.1 o k = h.1 o k) → h1.1 47 1 = nI 14 → h1.1 47 2 = nI (min (n + 1) 16) → scq 119 36 h h1 → Q none h1) : am_call am_cod 2 98 [.ref 47, .ref 36] h Q := by
  refine pz_call (n := 98) (nL := 2) (rt := none) (rows := am_r98) (d := 1) (by decide +kernel) (by decide +kernel) rfl (by funext pc; rfl) (ex_175 hP) (by exact Nat.le_of_ble_eq_true rfl) ?_
  have hX := kF_0 (D := 119) (h := h)
  refine am_goX 3 (show am_sh h 47 = some (2, 0) ∧ pz_S 2 none am_r98 1 Q 5 [(0, .ref 47), (1, .ref 36)] [.int (h.1 47 1), .ref 47] h from ⟨ex_47 hP, ?_⟩)
  rw [show h.1 47 1 = nI 13 from e1]
  refine am_goX 4 (show ¬ ((Int8.ofInt 16).toInt32) = 0 ∧ pz_S 2 none am_r98 1 Q 10 [(0, .ref 47), (1, .ref 36)] [.int (((nI 13) + (Int32.ofInt 1)) - ((nI 13) + (Int32.ofInt 1)) / ((Int8.ofInt 16).toInt32) * ((Int8.ofInt 16).toInt32)), .ref 47] h from ⟨by decide, ?_⟩)
  rw [show ((nI 13) + (Int32.ofInt 1)) - ((nI 13) + (Int32.ofInt 1)) / ((Int8.ofInt 16).toInt32) * ((Int8.ofInt 16).toInt32) = nI 14 from (by decide)]
  refine am_goX 1 (show am_sh h 47 = some (2, 0) ∧ narrow (am_fty 2 1) (.int (nI 14)) = .int (nI 14) ∧ fits (am_fty 2 1) (.int (nI 14)) = true ∧ pz_S 2 none am_r98 1 Q 13 [(0, .ref 47), (1, .ref 36)] [] (am_wI h 47 1 (nI 14)) from ⟨ex_47 hP, rfl, rfl, ?_⟩)
  have f265 : ex_P (am_wI h 47 1 (nI 14)) := hP
  have f266 : (am_wI h 47 1 (nI 14)).1 47 1 = nI 14 := (em_we _ _ _ _).trans (rfl)
  have f267 : (am_wI h 47 1 (nI 14)).1 47 2 = nI n := (em_wn _ _ (by omega)).trans e2
  have f268 : kF 119 h (am_wI h 47 1 (nI 14)) := kF_w (by omega) hX
  generalize am_wI h 47 1 (nI 14) = h264 at f265 f266 f267 f268 ⊢
  refine am_goX 2 (show am_sh h264 47 = some (2, 0) ∧ pz_S 2 none am_r98 1 Q 17 [(0, .ref 47), (1, .ref 36)] [am_rf (h264.2.2.1 47 0)] h264 from ⟨ex_47 f265, ?_⟩)
  rw [show am_rf (h264.2.2.1 47 0) = .ref 48 from congrArg am_rf (ex_r47_0 f265)]
  refine am_goX 2 (show am_sh h264 47 = some (2, 0) ∧ pz_S 2 none am_r98 1 Q 21 [(0, .ref 47), (1, .ref 36)] [.int (h264.1 47 1), .ref 48] h264 from ⟨ex_47 f265, ?_⟩)
  rw [show h264.1 47 1 = nI 14 from f266]
  refine am_goX 1 (show ∃ jj nn : Nat, (am_sh h264 48 = some (16, nn) ∨ am_sh h264 48 = some (17, nn)) ∧ jj < nn ∧ nI 14 = nI jj ∧ pz_S 2 none am_r98 1 Q 22 [(0, .ref 47), (1, .ref 36)] [am_rf (h264.2.2.1 48 jj)] h264 from ⟨14, 16, Or.inr (ex_48 f265), by decide, rfl, ?_⟩)
  rw [show am_rf (h264.2.2.1 48 14) = .ref 119 from congrArg am_rf (ex_r48_14 f265)]
  refine am_goX 2 (show am_rc h264 119 6 ∧ 0 ≤ 8 ∧ h264.2.2.2.2 + am_al 99 ≤ 175 ∧ am_call am_cod 1 99 [.ref 119, .ref 36] h264 (fun vv h' => pz_S 2 none am_r98 1 Q 26 [(0, .ref 47), (1, .ref 36)] (vv.toList ++ []) h') from ⟨Or.inl ⟨by decide, ex_119 f265⟩, by decide, ex_lim f265 rfl, am_call.up (q_99 stO_119 stO_36 (by decide) f265 (fun h269 f270 f271 f272 f273 => ?_)) (by decide)⟩)
  have f274 : h269.1 47 1 = nI 14 := (f272 47 1 (by omega)).trans f266
  have f275 : h269.1 47 2 = nI n := (f272 47 2 (by omega)).trans f267
  have f276 : kF 119 h h269 := kF_c f268 f271 f272
  have f277 : scq 119 36 h h269 := scq_b f268 (fun a u1 u2 => by omega) f273
  refine am_goX 3 (show am_sh h269 47 = some (2, 0) ∧ pz_S 2 none am_r98 1 Q 31 [(0, .ref 47), (1, .ref 36)] [.int (h269.1 47 2), .ref 47] h269 from ⟨ex_47 f270, ?_⟩)
  rw [show h269.1 47 2 = nI n from f275]
  refine am_goX 3 (show pz_S 2 none am_r98 1 Q 35 [(0, .ref 47), (1, .ref 36)] [.int ((Int8.ofInt 16).toInt32), .int ((nI n) + (Int32.ofInt 1)), .ref 47] h269 from ?_)
  rw [show (nI n) + (Int32.ofInt 1) = nI (n + 1) from (dn_a rfl rfl)]
  rw [show (Int8.ofInt 16).toInt32 = nI 16 from (show (Int8.ofInt 16).toInt32 = nI 16 by decide)]
  refine am_goX 1 (show 1 ≤ 8 ∧ h269.2.2.2.2 + am_al 29 ≤ 175 ∧ am_call am_cod 1 29 [.int (nI (n + 1)), .int (nI 16)] h269 (fun vv h' => pz_S 2 none am_r98 1 Q 38 [(0, .ref 47), (1, .ref 36)] (vv.toList ++ [.ref 47]) h') from ⟨by decide, ex_lim f270 rfl, am_call.up (d_29_w f270 ?_) (by decide)⟩)
  rw [show d_29 (nI (n + 1)) (nI 16) = nI (min (n + 1) 16) from ((show d_29 (nI (n + 1)) (nI 16) = nI (min (n + 1) 16) from min16 n (by omega)))]
  refine am_goX 1 (show am_sh h269 47 = some (2, 0) ∧ narrow (am_fty 2 2) (.int (nI (min (n + 1) 16))) = .int (nI (min (n + 1) 16)) ∧ fits (am_fty 2 2) (.int (nI (min (n + 1) 16))) = true ∧ pz_S 2 none am_r98 1 Q 41 [(0, .ref 47), (1, .ref 36)] [] (am_wI h269 47 2 (nI (min (n + 1) 16))) from ⟨ex_47 f270, rfl, rfl, ?_⟩)
  have f279 : ex_P (am_wI h269 47 2 (nI (min (n + 1) 16))) := f270
  have f280 : (am_wI h269 47 2 (nI (min (n + 1) 16))).1 47 1 = nI 14 := (em_wn _ _ (by omega)).trans f274
  have f281 : (am_wI h269 47 2 (nI (min (n + 1) 16))).1 47 2 = nI (min (n + 1) 16) := (em_we _ _ _ _).trans (rfl)
  have f282 : kF 119 h (am_wI h269 47 2 (nI (min (n + 1) 16))) := kF_w (by omega) f276
  have f283 : scq 119 36 h (am_wI h269 47 2 (nI (min (n + 1) 16))) := scq_w (by omega) f277
  generalize am_wI h269 47 2 (nI (min (n + 1) 16)) = h278 at f279 f280 f281 f282 f283 ⊢
  exact am_goX 1 (show (none : Option FieldType) = none ∧ h278.2.2.2.2 = 175 ∧ _ from ⟨rfl, ex_175 f279, hQ _ f279 f282.1 f282.2 f280 f281 f283⟩)
theorem q_98_14 (hn : n ≤ 16) (hP : ex_P h) (e1 : h.1 47 1 = nI 14) (e2 : h.1 47 2 = nI n) (hQ : ∀ h1, ex_P h1 → h1.2 = h.2 → (∀ o k, ¬ o = 47 → ¬ (124 ≤ o ∧ o ≤ 128) → h1.1 o k = h.1 o k) → h1.1 47 1 = nI 15 → h1.1 47 2 = nI (min (n + 1) 16) → scq 124 36 h h1 → Q none h1) : am_call am_cod 2 98 [.ref 47, .ref 36] h Q := by
  refine pz_call (n := 98) (nL := 2) (rt := none) (rows := am_r98) (d := 1) (by decide +kernel) (by decide +kernel) rfl (by funext pc; rfl) (ex_175 hP) (by exact Nat.le_of_ble_eq_true rfl) ?_
  have hX := kF_0 (D := 124) (h := h)
  refine am_goX 3 (show am_sh h 47 = some (2, 0) ∧ pz_S 2 none am_r98 1 Q 5 [(0, .ref 47), (1, .ref 36)] [.int (h.1 47 1), .ref 47] h from ⟨ex_47 hP, ?_⟩)
  rw [show h.1 47 1 = nI 14 from e1]
  refine am_goX 4 (show ¬ ((Int8.ofInt 16).toInt32) = 0 ∧ pz_S 2 none am_r98 1 Q 10 [(0, .ref 47), (1, .ref 36)] [.int (((nI 14) + (Int32.ofInt 1)) - ((nI 14) + (Int32.ofInt 1)) / ((Int8.ofInt 16).toInt32) * ((Int8.ofInt 16).toInt32)), .ref 47] h from ⟨by decide, ?_⟩)
  rw [show ((nI 14) + (Int32.ofInt 1)) - ((nI 14) + (Int32.ofInt 1)) / ((Int8.ofInt 16).toInt32) * ((Int8.ofInt 16).toInt32) = nI 15 from (by decide)]
  refine am_goX 1 (show am_sh h 47 = some (2, 0) ∧ narrow (am_fty 2 1) (.int (nI 15)) = .int (nI 15) ∧ fits (am_fty 2 1) (.int (nI 15)) = true ∧ pz_S 2 none am_r98 1 Q 13 [(0, .ref 47), (1, .ref 36)] [] (am_wI h 47 1 (nI 15)) from ⟨ex_47 hP, rfl, rfl, ?_⟩)
  have f285 : ex_P (am_wI h 47 1 (nI 15)) := hP
  have f286 : (am_wI h 47 1 (nI 15)).1 47 1 = nI 15 := (em_we _ _ _ _).trans (rfl)
  have f287 : (am_wI h 47 1 (nI 15)).1 47 2 = nI n := (em_wn _ _ (by omega)).trans e2
  have f288 : kF 124 h (am_wI h 47 1 (nI 15)) := kF_w (by omega) hX
  generalize am_wI h 47 1 (nI 15) = h284 at f285 f286 f287 f288 ⊢
  refine am_goX 2 (show am_sh h284 47 = some (2, 0) ∧ pz_S 2 none am_r98 1 Q 17 [(0, .ref 47), (1, .ref 36)] [am_rf (h284.2.2.1 47 0)] h284 from ⟨ex_47 f285, ?_⟩)
  rw [show am_rf (h284.2.2.1 47 0) = .ref 48 from congrArg am_rf (ex_r47_0 f285)]
  refine am_goX 2 (show am_sh h284 47 = some (2, 0) ∧ pz_S 2 none am_r98 1 Q 21 [(0, .ref 47), (1, .ref 36)] [.int (h284.1 47 1), .ref 48] h284 from ⟨ex_47 f285, ?_⟩)
  rw [show h284.1 47 1 = nI 15 from f286]
  refine am_goX 1 (show ∃ jj nn : Nat, (am_sh h284 48 = some (16, nn) ∨ am_sh h284 48 = some (17, nn)) ∧ jj < nn ∧ nI 15 = nI jj ∧ pz_S 2 none am_r98 1 Q 22 [(0, .ref 47), (1, .ref 36)] [am_rf (h284.2.2.1 48 jj)] h284 from ⟨15, 16, Or.inr (ex_48 f285), by decide, rfl, ?_⟩)
  rw [show am_rf (h284.2.2.1 48 15) = .ref 124 from congrArg am_rf (ex_r48_15 f285)]
  refine am_goX 2 (show am_rc h284 124 6 ∧ 0 ≤ 8 ∧ h284.2.2.2.2 + am_al 99 ≤ 175 ∧ am_call am_cod 1 99 [.ref 124, .ref 36] h284 (fun vv h' => pz_S 2 none am_r98 1 Q 26 [(0, .ref 47), (1, .ref 36)] (vv.toList ++ []) h') from ⟨Or.inl ⟨by decide, ex_124 f285⟩, by decide, ex_lim f285 rfl, am_call.up (q_99 stO_124 stO_36 (by decide) f285 (fun h289 f290 f291 f292 f293 => ?_)) (by decide)⟩)
  have f294 : h289.1 47 1 = nI 15 := (f292 47 1 (by omega)).trans f286
  have f295 : h289.1 47 2 = nI n := (f292 47 2 (by omega)).trans f287
  have f296 : kF 124 h h289 := kF_c f288 f291 f292
  have f297 : scq 124 36 h h289 := scq_b f288 (fun a u1 u2 => by omega) f293
  refine am_goX 3 (show am_sh h289 47 = some (2, 0) ∧ pz_S 2 none am_r98 1 Q 31 [(0, .ref 47), (1, .ref 36)] [.int (h289.1 47 2), .ref 47] h289 from ⟨ex_47 f290, ?_⟩)
  rw [show h289.1 47 2 = nI n from f295]
  refine am_goX 3 (show pz_S 2 none am_r98 1 Q 35 [(0, .ref 47), (1, .ref 36)] [.int ((Int8.ofInt 16).toInt32), .int ((nI n) + (Int32.ofInt 1)), .ref 47] h289 from ?_)
  rw [show (nI n) + (Int32.ofInt 1) = nI (n + 1) from (dn_a rfl rfl)]
  rw [show (Int8.ofInt 16).toInt32 = nI 16 from (show (Int8.ofInt 16).toInt32 = nI 16 by decide)]
  refine am_goX 1 (show 1 ≤ 8 ∧ h289.2.2.2.2 + am_al 29 ≤ 175 ∧ am_call am_cod 1 29 [.int (nI (n + 1)), .int (nI 16)] h289 (fun vv h' => pz_S 2 none am_r98 1 Q 38 [(0, .ref 47), (1, .ref 36)] (vv.toList ++ [.ref 47]) h') from ⟨by decide, ex_lim f290 rfl, am_call.up (d_29_w f290 ?_) (by decide)⟩)
  rw [show d_29 (nI (n + 1)) (nI 16) = nI (min (n + 1) 16) from ((show d_29 (nI (n + 1)) (nI 16) = nI (min (n + 1) 16) from min16 n (by omega)))]
  refine am_goX 1 (show am_sh h289 47 = some (2, 0) ∧ narrow (am_fty 2 2) (.int (nI (min (n + 1) 16))) = .int (nI (min (n + 1) 16)) ∧ fits (am_fty 2 2) (.int (nI (min (n + 1) 16))) = true ∧ pz_S 2 none am_r98 1 Q 41 [(0, .ref 47), (1, .ref 36)] [] (am_wI h289 47 2 (nI (min (n + 1) 16))) from ⟨ex_47 f290, rfl, rfl, ?_⟩)
  have f299 : ex_P (am_wI h289 47 2 (nI (min (n + 1) 16))) := f290
  have f300 : (am_wI h289 47 2 (nI (min (n + 1) 16))).1 47 1 = nI 15 := (em_wn _ _ (by omega)).trans f294
  have f301 : (am_wI h289 47 2 (nI (min (n + 1) 16))).1 47 2 = nI (min (n + 1) 16) := (em_we _ _ _ _).trans (rfl)
  have f302 : kF 124 h (am_wI h289 47 2 (nI (min (n + 1) 16))) := kF_w (by omega) f296
  have f303 : scq 124 36 h (am_wI h289 47 2 (nI (min (n + 1) 16))) := scq_w (by omega) f297
  generalize am_wI h289 47 2 (nI (min (n + 1) 16)) = h298 at f299 f300 f301 f302 f303 ⊢
  exact am_goX 1 (show (none : Option FieldType) = none ∧ h298.2.2.2.2 = 175 ∧ _ from ⟨rfl, ex_175 f299, hQ _ f299 f302.1 f302.2 f300 f301 f303⟩)
theorem q_98_15 (hn : n ≤ 16) (hP : ex_P h) (e1 : h.1 47 1 = nI 15) (e2 : h.1 47 2 = nI n) (hQ : ∀ h1, ex_P h1 → h1.2 = h.2 → (∀ o k, ¬ o = 47 → ¬ (49 ≤ o ∧ o ≤ 53) → h1.1 o k = h.1 o k) → h1.1 47 1 = nI 0 → h1.1 47 2 = nI (min (n + 1) 16) → scq 49 36 h h1 → Q none h1) : am_call am_cod 2 98 [.ref 47, .ref 36] h Q := by
  refine pz_call (n := 98) (nL := 2) (rt := none) (rows := am_r98) (d := 1) (by decide +kernel) (by decide +kernel) rfl (by funext pc; rfl) (ex_175 hP) (by exact Nat.le_of_ble_eq_true rfl) ?_
  have hX := kF_0 (D := 49) (h := h)
  refine am_goX 3 (show am_sh h 47 = some (2, 0) ∧ pz_S 2 none am_r98 1 Q 5 [(0, .ref 47), (1, .ref 36)] [.int (h.1 47 1), .ref 47] h from ⟨ex_47 hP, ?_⟩)
  rw [show h.1 47 1 = nI 15 from e1]
  refine am_goX 4 (show ¬ ((Int8.ofInt 16).toInt32) = 0 ∧ pz_S 2 none am_r98 1 Q 10 [(0, .ref 47), (1, .ref 36)] [.int (((nI 15) + (Int32.ofInt 1)) - ((nI 15) + (Int32.ofInt 1)) / ((Int8.ofInt 16).toInt32) * ((Int8.ofInt 16).toInt32)), .ref 47] h from ⟨by decide, ?_⟩)
  rw [show ((nI 15) + (Int32.ofInt 1)) - ((nI 15) + (Int32.ofInt 1)) / ((Int8.ofInt 16).toInt32) * ((Int8.ofInt 16).toInt32) = nI 0 from (by decide)]
  refine am_goX 1 (show am_sh h 47 = some (2, 0) ∧ narrow (am_fty 2 1) (.int (nI 0)) = .int (nI 0) ∧ fits (am_fty 2 1) (.int (nI 0)) = true ∧ pz_S 2 none am_r98 1 Q 13 [(0, .ref 47), (1, .ref 36)] [] (am_wI h 47 1 (nI 0)) from ⟨ex_47 hP, rfl, rfl, ?_⟩)
  have f305 : ex_P (am_wI h 47 1 (nI 0)) := hP
  have f306 : (am_wI h 47 1 (nI 0)).1 47 1 = nI 0 := (em_we _ _ _ _).trans (rfl)
  have f307 : (am_wI h 47 1 (nI 0)).1 47 2 = nI n := (em_wn _ _ (by omega)).trans e2
  have f308 : kF 49 h (am_wI h 47 1 (nI 0)) := kF_w (by omega) hX
  generalize am_wI h 47 1 (nI 0) = h304 at f305 f306 f307 f308 ⊢
  refine am_goX 2 (show am_sh h304 47 = some (2, 0) ∧ pz_S 2 none am_r98 1 Q 17 [(0, .ref 47), (1, .ref 36)] [am_rf (h304.2.2.1 47 0)] h304 from ⟨ex_47 f305, ?_⟩)
  rw [show am_rf (h304.2.2.1 47 0) = .ref 48 from congrArg am_rf (ex_r47_0 f305)]
  refine am_goX 2 (show am_sh h304 47 = some (2, 0) ∧ pz_S 2 none am_r98 1 Q 21 [(0, .ref 47), (1, .ref 36)] [.int (h304.1 47 1), .ref 48] h304 from ⟨ex_47 f305, ?_⟩)
  rw [show h304.1 47 1 = nI 0 from f306]
  refine am_goX 1 (show ∃ jj nn : Nat, (am_sh h304 48 = some (16, nn) ∨ am_sh h304 48 = some (17, nn)) ∧ jj < nn ∧ nI 0 = nI jj ∧ pz_S 2 none am_r98 1 Q 22 [(0, .ref 47), (1, .ref 36)] [am_rf (h304.2.2.1 48 jj)] h304 from ⟨0, 16, Or.inr (ex_48 f305), by decide, rfl, ?_⟩)
  rw [show am_rf (h304.2.2.1 48 0) = .ref 49 from congrArg am_rf (ex_r48_0 f305)]
  refine am_goX 2 (show am_rc h304 49 6 ∧ 0 ≤ 8 ∧ h304.2.2.2.2 + am_al 99 ≤ 175 ∧ am_call am_cod 1 99 [.ref 49, .ref 36] h304 (fun vv h' => pz_S 2 none am_r98 1 Q 26 [(0, .ref 47), (1, .ref 36)] (vv.toList ++ []) h') from ⟨Or.inl ⟨by decide, ex_49 f305⟩, by decide, ex_lim f305 rfl, am_call.up (q_99 stO_49 stO_36 (by decide) f305 (fun h309 f310 f311 f312 f313 => ?_)) (by decide)⟩)
  have f314 : h309.1 47 1 = nI 0 := (f312 47 1 (by omega)).trans f306
  have f315 : h309.1 47 2 = nI n := (f312 47 2 (by omega)).trans f307
  have f316 : kF 49 h h309 := kF_c f308 f311 f312
  have f317 : scq 49 36 h h309 := scq_b f308 (fun a u1 u2 => by omega) f313
  refine am_goX 3 (show am_sh h309 47 = some (2, 0) ∧ pz_S 2 none am_r98 1 Q 31 [(0, .ref 47), (1, .ref 36)] [.int (h309.1 47 2), .ref 47] h309 from ⟨ex_47 f310, ?_⟩)
  rw [show h309.1 47 2 = nI n from f315]
  refine am_goX 3 (show pz_S 2 none am_r98 1 Q 35 [(0, .ref 47), (1, .ref 36)] [.int ((Int8.ofInt 16).toInt32), .int ((nI n) + (Int32.ofInt 1)), .ref 47] h309 from ?_)
  rw [show (nI n) + (Int32.ofInt 1) = nI (n + 1) from (dn_a rfl rfl)]
  rw [show (Int8.ofInt 16).toInt32 = nI 16 from (show (Int8.ofInt 16).toInt32 = nI 16 by decide)]
  refine am_goX 1 (show 1 ≤ 8 ∧ h309.2.2.2.2 + am_al 29 ≤ 175 ∧ am_call am_cod 1 29 [.int (nI (n + 1)), .int (nI 16)] h309 (fun vv h' => pz_S 2 none am_r98 1 Q 38 [(0, .ref 47), (1, .ref 36)] (vv.toList ++ [.ref 47]) h') from ⟨by decide, ex_lim f310 rfl, am_call.up (d_29_w f310 ?_) (by decide)⟩)
  rw [show d_29 (nI (n + 1)) (nI 16) = nI (min (n + 1) 16) from ((show d_29 (nI (n + 1)) (nI 16) = nI (min (n + 1) 16) from min16 n (by omega)))]
  refine am_goX 1 (show am_sh h309 47 = some (2, 0) ∧ narrow (am_fty 2 2) (.int (nI (min (n + 1) 16))) = .int (nI (min (n + 1) 16)) ∧ fits (am_fty 2 2) (.int (nI (min (n + 1) 16))) = true ∧ pz_S 2 none am_r98 1 Q 41 [(0, .ref 47), (1, .ref 36)] [] (am_wI h309 47 2 (nI (min (n + 1) 16))) from ⟨ex_47 f310, rfl, rfl, ?_⟩)
  have f319 : ex_P (am_wI h309 47 2 (nI (min (n + 1) 16))) := f310
  have f320 : (am_wI h309 47 2 (nI (min (n + 1) 16))).1 47 1 = nI 0 := (em_wn _ _ (by omega)).trans f314
  have f321 : (am_wI h309 47 2 (nI (min (n + 1) 16))).1 47 2 = nI (min (n + 1) 16) := (em_we _ _ _ _).trans (rfl)
  have f322 : kF 49 h (am_wI h309 47 2 (nI (min (n + 1) 16))) := kF_w (by omega) f316
  have f323 : scq 49 36 h (am_wI h309 47 2 (nI (min (n + 1) 16))) := scq_w (by omega) f317
  generalize am_wI h309 47 2 (nI (min (n + 1) 16)) = h318 at f319 f320 f321 f322 f323 ⊢
  exact am_goX 1 (show (none : Option FieldType) = none ∧ h318.2.2.2.2 = 175 ∧ _ from ⟨rfl, ex_175 f319, hQ _ f319 f322.1 f322.2 f320 f321 f323⟩)
theorem q_113_0 (hn0 : 0 < n) (hn : n ≤ 16) (hP : ex_P h) (e1 : h.1 47 1 = nI 0) (e2 : h.1 47 2 = nI n) (hQ : ∀ h1, ex_P h1 → h1.2 = h.2 → (∀ o k, ¬ o = 47 → ¬ (36 ≤ o ∧ o ≤ 40) → h1.1 o k = h.1 o k) → h1.1 47 1 = nI 15 → h1.1 47 2 = nI (n - 1) → scq 36 49 h h1 → Q (some (.int (Int32.ofInt 1))) h1) : am_call am_cod 2 113 [.ref 47, .ref 36] h Q := by
  refine pz_call (n := 113) (nL := 2) (rt := (some .boolean)) (rows := am_r113) (d := 1) (by decide +kernel) (by decide +kernel) rfl (by funext pc; rfl) (ex_175 hP) (by exact Nat.le_of_ble_eq_true rfl) ?_
  have hX := kF_0 (D := 36) (h := h)
  refine am_goX 2 (show am_sh h 47 = some (2, 0) ∧ pz_S 2 (some .boolean) am_r113 1 Q 4 [(0, .ref 47), (1, .ref 36)] [.int (h.1 47 2)] h from ⟨ex_47 hP, ?_⟩)
  rw [show h.1 47 2 = nI n from e2]
  refine am_goX 1 (show (¬ (nI n) = 0 → pz_S 2 (some .boolean) am_r113 1 Q 9 [(0, .ref 47), (1, .ref 36)] [] h) ∧ (¬ ¬ (nI n) = 0 → pz_S 2 (some .boolean) am_r113 1 Q 7 [(0, .ref 47), (1, .ref 36)] [] h) from ⟨fun _ => ?_, fun hz => absurd (nI_n0 hn0 (by omega)) hz⟩)
  refine am_goX 3 (show am_sh h 47 = some (2, 0) ∧ pz_S 2 (some .boolean) am_r113 1 Q 14 [(0, .ref 47), (1, .ref 36)] [am_rf (h.2.2.1 47 0), .ref 36] h from ⟨ex_47 hP, ?_⟩)
  rw [show am_rf (h.2.2.1 47 0) = .ref 48 from congrArg am_rf (ex_r47_0 hP)]
  refine am_goX 2 (show am_sh h 47 = some (2, 0) ∧ pz_S 2 (some .boolean) am_r113 1 Q 18 [(0, .ref 47), (1, .ref 36)] [.int (h.1 47 1), .ref 48, .ref 36] h from ⟨ex_47 hP, ?_⟩)
  rw [show h.1 47 1 = nI 0 from e1]
  refine am_goX 1 (show ∃ jj nn : Nat, (am_sh h 48 = some (16, nn) ∨ am_sh h 48 = some (17, nn)) ∧ jj < nn ∧ nI 0 = nI jj ∧ pz_S 2 (some .boolean) am_r113 1 Q 19 [(0, .ref 47), (1, .ref 36)] [am_rf (h.2.2.1 48 jj), .ref 36] h from ⟨0, 16, Or.inr (ex_48 hP), by decide, rfl, ?_⟩)
  rw [show am_rf (h.2.2.1 48 0) = .ref 49 from congrArg am_rf (ex_r48_0 hP)]
  refine am_goX 1 (show am_rc h 36 6 ∧ 0 ≤ 8 ∧ h.2.2.2.2 + am_al 99 ≤ 175 ∧ am_call am_cod 1 99 [.ref 36, .ref 49] h (fun vv h' => pz_S 2 (some .boolean) am_r113 1 Q 22 [(0, .ref 47), (1, .ref 36)] (vv.toList ++ []) h') from ⟨Or.inl ⟨by decide, ex_36 hP⟩, by decide, ex_lim hP rfl, am_call.up (q_99 stO_36 stO_49 (by decide) hP (fun h324 f325 f326 f327 f328 => ?_)) (by decide)⟩)
  have f329 : h324.1 47 1 = nI 0 := (f327 47 1 (by omega)).trans e1
  have f330 : h324.1 47 2 = nI n := (f327 47 2 (by omega)).trans e2
  have f331 : kF 36 h h324 := kF_c hX f326 f327
  have f332 : scq 36 49 h h324 := scq_b hX (fun a u1 u2 => by omega) f328
  refine am_goX 3 (show am_sh h324 47 = some (2, 0) ∧ pz_S 2 (some .boolean) am_r113 1 Q 27 [(0, .ref 47), (1, .ref 36)] [.int (h324.1 47 1), .ref 47] h324 from ⟨ex_47 f325, ?_⟩)
  rw [show h324.1 47 1 = nI 0 from f329]
  refine am_goX 6 (show ¬ ((Int8.ofInt 16).toInt32) = 0 ∧ pz_S 2 (some .boolean) am_r113 1 Q 35 [(0, .ref 47), (1, .ref 36)] [.int ((((nI 0) + ((Int8.ofInt 16).toInt32)) - (Int32.ofInt 1)) - (((nI 0) + ((Int8.ofInt 16).toInt32)) - (Int32.ofInt 1)) / ((Int8.ofInt 16).toInt32) * ((Int8.ofInt 16).toInt32)), .ref 47] h324 from ⟨by decide, ?_⟩)
  rw [show (((nI 0) + ((Int8.ofInt 16).toInt32)) - (Int32.ofInt 1)) - (((nI 0) + ((Int8.ofInt 16).toInt32)) - (Int32.ofInt 1)) / ((Int8.ofInt 16).toInt32) * ((Int8.ofInt 16).toInt32) = nI 15 from (by decide)]
  refine am_goX 1 (show am_sh h324 47 = some (2, 0) ∧ narrow (am_fty 2 1) (.int (nI 15)) = .int (nI 15) ∧ fits (am_fty 2 1) (.int (nI 15)) = true ∧ pz_S 2 (some .boolean) am_r113 1 Q 38 [(0, .ref 47), (1, .ref 36)] [] (am_wI h324 47 1 (nI 15)) from ⟨ex_47 f325, rfl, rfl, ?_⟩)
  have f334 : ex_P (am_wI h324 47 1 (nI 15)) := f325
  have f335 : (am_wI h324 47 1 (nI 15)).1 47 1 = nI 15 := (em_we _ _ _ _).trans (rfl)
  have f336 : (am_wI h324 47 1 (nI 15)).1 47 2 = nI n := (em_wn _ _ (by omega)).trans f330
  have f337 : kF 36 h (am_wI h324 47 1 (nI 15)) := kF_w (by omega) f331
  have f338 : scq 36 49 h (am_wI h324 47 1 (nI 15)) := scq_w (by omega) f332
  generalize am_wI h324 47 1 (nI 15) = h333 at f334 f335 f336 f337 f338 ⊢
  refine am_goX 3 (show (Value.ref 47).category = 1 ∧ am_sh h333 47 = some (2, 0) ∧ pz_S 2 (some .boolean) am_r113 1 Q 43 [(0, .ref 47), (1, .ref 36)] [.int (h333.1 47 2), .ref 47] h333 from ⟨rfl, ex_47 f334, ?_⟩)
  rw [show h333.1 47 2 = nI n from f336]
  refine am_goX 3 (show am_sh h333 47 = some (2, 0) ∧ narrow (am_fty 2 2) (.int ((nI n) - (Int32.ofInt 1))) = .int ((nI n) - (Int32.ofInt 1)) ∧ fits (am_fty 2 2) (.int ((nI n) - (Int32.ofInt 1))) = true ∧ pz_S 2 (some .boolean) am_r113 1 Q 48 [(0, .ref 47), (1, .ref 36)] [] (am_wI h333 47 2 ((nI n) - (Int32.ofInt 1))) from ⟨ex_47 f334, rfl, rfl, ?_⟩)
  have f340 : ex_P (am_wI h333 47 2 ((nI n) - (Int32.ofInt 1))) := f334
  have f341 : (am_wI h333 47 2 ((nI n) - (Int32.ofInt 1))).1 47 1 = nI 15 := (em_wn _ _ (by omega)).trans f335
  have f342 : (am_wI h333 47 2 ((nI n) - (Int32.ofInt 1))).1 47 2 = nI (n - 1) := (em_we _ _ _ _).trans ((dn_s (by omega) rfl rfl))
  have f343 : kF 36 h (am_wI h333 47 2 ((nI n) - (Int32.ofInt 1))) := kF_w (by omega) f337
  have f344 : scq 36 49 h (am_wI h333 47 2 ((nI n) - (Int32.ofInt 1))) := scq_w (by omega) f338
  generalize am_wI h333 47 2 ((nI n) - (Int32.ofInt 1)) = h339 at f340 f341 f342 f343 f344 ⊢
  exact am_goX 2 (show (∃ ty, (some .boolean) = some ty ∧ narrow ty (.int (Int32.ofInt 1)) = .int (Int32.ofInt 1)) ∧ h339.2.2.2.2 = 175 ∧ _ from ⟨⟨.boolean, rfl, rfl⟩, ex_175 f340, hQ _ f340 f343.1 f343.2 f341 f342 f344⟩)
theorem q_113_1 (hn0 : 0 < n) (hn : n ≤ 16) (hP : ex_P h) (e1 : h.1 47 1 = nI 1) (e2 : h.1 47 2 = nI n) (hQ : ∀ h1, ex_P h1 → h1.2 = h.2 → (∀ o k, ¬ o = 47 → ¬ (36 ≤ o ∧ o ≤ 40) → h1.1 o k = h.1 o k) → h1.1 47 1 = nI 0 → h1.1 47 2 = nI (n - 1) → scq 36 54 h h1 → Q (some (.int (Int32.ofInt 1))) h1) : am_call am_cod 2 113 [.ref 47, .ref 36] h Q := by
  refine pz_call (n := 113) (nL := 2) (rt := (some .boolean)) (rows := am_r113) (d := 1) (by decide +kernel) (by decide +kernel) rfl (by funext pc; rfl) (ex_175 hP) (by exact Nat.le_of_ble_eq_true rfl) ?_
  have hX := kF_0 (D := 36) (h := h)
  refine am_goX 2 (show am_sh h 47 = some (2, 0) ∧ pz_S 2 (some .boolean) am_r113 1 Q 4 [(0, .ref 47), (1, .ref 36)] [.int (h.1 47 2)] h from ⟨ex_47 hP, ?_⟩)
  rw [show h.1 47 2 = nI n from e2]
  refine am_goX 1 (show (¬ (nI n) = 0 → pz_S 2 (some .boolean) am_r113 1 Q 9 [(0, .ref 47), (1, .ref 36)] [] h) ∧ (¬ ¬ (nI n) = 0 → pz_S 2 (some .boolean) am_r113 1 Q 7 [(0, .ref 47), (1, .ref 36)] [] h) from ⟨fun _ => ?_, fun hz => absurd (nI_n0 hn0 (by omega)) hz⟩)
  refine am_goX 3 (show am_sh h 47 = some (2, 0) ∧ pz_S 2 (some .boolean) am_r113 1 Q 14 [(0, .ref 47), (1, .ref 36)] [am_rf (h.2.2.1 47 0), .ref 36] h from ⟨ex_47 hP, ?_⟩)
  rw [show am_rf (h.2.2.1 47 0) = .ref 48 from congrArg am_rf (ex_r47_0 hP)]
  refine am_goX 2 (show am_sh h 47 = some (2, 0) ∧ pz_S 2 (some .boolean) am_r113 1 Q 18 [(0, .ref 47), (1, .ref 36)] [.int (h.1 47 1), .ref 48, .ref 36] h from ⟨ex_47 hP, ?_⟩)
  rw [show h.1 47 1 = nI 1 from e1]
  refine am_goX 1 (show ∃ jj nn : Nat, (am_sh h 48 = some (16, nn) ∨ am_sh h 48 = some (17, nn)) ∧ jj < nn ∧ nI 1 = nI jj ∧ pz_S 2 (some .boolean) am_r113 1 Q 19 [(0, .ref 47), (1, .ref 36)] [am_rf (h.2.2.1 48 jj), .ref 36] h from ⟨1, 16, Or.inr (ex_48 hP), by decide, rfl, ?_⟩)
  rw [show am_rf (h.2.2.1 48 1) = .ref 54 from congrArg am_rf (ex_r48_1 hP)]
  refine am_goX 1 (show am_rc h 36 6 ∧ 0 ≤ 8 ∧ h.2.2.2.2 + am_al 99 ≤ 175 ∧ am_call am_cod 1 99 [.ref 36, .ref 54] h (fun vv h' => pz_S 2 (some .boolean) am_r113 1 Q 22 [(0, .ref 47), (1, .ref 36)] (vv.toList ++ []) h') from ⟨Or.inl ⟨by decide, ex_36 hP⟩, by decide, ex_lim hP rfl, am_call.up (q_99 stO_36 stO_54 (by decide) hP (fun h345 f346 f347 f348 f349 => ?_)) (by decide)⟩)
  have f350 : h345.1 47 1 = nI 1 := (f348 47 1 (by omega)).trans e1
  have f351 : h345.1 47 2 = nI n := (f348 47 2 (by omega)).trans e2
  have f352 : kF 36 h h345 := kF_c hX f347 f348
  have f353 : scq 36 54 h h345 := scq_b hX (fun a u1 u2 => by omega) f349
  refine am_goX 3 (show am_sh h345 47 = some (2, 0) ∧ pz_S 2 (some .boolean) am_r113 1 Q 27 [(0, .ref 47), (1, .ref 36)] [.int (h345.1 47 1), .ref 47] h345 from ⟨ex_47 f346, ?_⟩)
  rw [show h345.1 47 1 = nI 1 from f350]
  refine am_goX 6 (show ¬ ((Int8.ofInt 16).toInt32) = 0 ∧ pz_S 2 (some .boolean) am_r113 1 Q 35 [(0, .ref 47), (1, .ref 36)] [.int ((((nI 1) + ((Int8.ofInt 16).toInt32)) - (Int32.ofInt 1)) - (((nI 1) + ((Int8.ofInt 16).toInt32)) - (Int32.ofInt 1)) / ((Int8.ofInt 16).toInt32) * ((Int8.ofInt 16).toInt32)), .ref 47] h345 from ⟨by decide, ?_⟩)
  rw [show (((nI 1) + ((Int8.ofInt 16).toInt32)) - (Int32.ofInt 1)) - (((nI 1) + ((Int8.ofInt 16).toInt32)) - (Int32.ofInt 1)) / ((Int8.ofInt 16).toInt32) * ((Int8.ofInt 16).toInt32) = nI 0 from (by decide)]
  refine am_goX 1 (show am_sh h345 47 = some (2, 0) ∧ narrow (am_fty 2 1) (.int (nI 0)) = .int (nI 0) ∧ fits (am_fty 2 1) (.int (nI 0)) = true ∧ pz_S 2 (some .boolean) am_r113 1 Q 38 [(0, .ref 47), (1, .ref 36)] [] (am_wI h345 47 1 (nI 0)) from ⟨ex_47 f346, rfl, rfl, ?_⟩)
  have f355 : ex_P (am_wI h345 47 1 (nI 0)) := f346
  have f356 : (am_wI h345 47 1 (nI 0)).1 47 1 = nI 0 := (em_we _ _ _ _).trans (rfl)
  have f357 : (am_wI h345 47 1 (nI 0)).1 47 2 = nI n := (em_wn _ _ (by omega)).trans f351
  have f358 : kF 36 h (am_wI h345 47 1 (nI 0)) := kF_w (by omega) f352
  have f359 : scq 36 54 h (am_wI h345 47 1 (nI 0)) := scq_w (by omega) f353
  generalize am_wI h345 47 1 (nI 0) = h354 at f355 f356 f357 f358 f359 ⊢
  refine am_goX 3 (show (Value.ref 47).category = 1 ∧ am_sh h354 47 = some (2, 0) ∧ pz_S 2 (some .boolean) am_r113 1 Q 43 [(0, .ref 47), (1, .ref 36)] [.int (h354.1 47 2), .ref 47] h354 from ⟨rfl, ex_47 f355, ?_⟩)
  rw [show h354.1 47 2 = nI n from f357]
  refine am_goX 3 (show am_sh h354 47 = some (2, 0) ∧ narrow (am_fty 2 2) (.int ((nI n) - (Int32.ofInt 1))) = .int ((nI n) - (Int32.ofInt 1)) ∧ fits (am_fty 2 2) (.int ((nI n) - (Int32.ofInt 1))) = true ∧ pz_S 2 (some .boolean) am_r113 1 Q 48 [(0, .ref 47), (1, .ref 36)] [] (am_wI h354 47 2 ((nI n) - (Int32.ofInt 1))) from ⟨ex_47 f355, rfl, rfl, ?_⟩)
  have f361 : ex_P (am_wI h354 47 2 ((nI n) - (Int32.ofInt 1))) := f355
  have f362 : (am_wI h354 47 2 ((nI n) - (Int32.ofInt 1))).1 47 1 = nI 0 := (em_wn _ _ (by omega)).trans f356
  have f363 : (am_wI h354 47 2 ((nI n) - (Int32.ofInt 1))).1 47 2 = nI (n - 1) := (em_we _ _ _ _).trans ((dn_s (by omega) rfl rfl))
  have f364 : kF 36 h (am_wI h354 47 2 ((nI n) - (Int32.ofInt 1))) := kF_w (by omega) f358
  have f365 : scq 36 54 h (am_wI h354 47 2 ((nI n) - (Int32.ofInt 1))) := scq_w (by omega) f359
  generalize am_wI h354 47 2 ((nI n) - (Int32.ofInt 1)) = h360 at f361 f362 f363 f364 f365 ⊢
  exact am_goX 2 (show (∃ ty, (some .boolean) = some ty ∧ narrow ty (.int (Int32.ofInt 1)) = .int (Int32.ofInt 1)) ∧ h360.2.2.2.2 = 175 ∧ _ from ⟨⟨.boolean, rfl, rfl⟩, ex_175 f361, hQ _ f361 f364.1 f364.2 f362 f363 f365⟩)
theorem q_113_2 (hn0 : 0 < n) (hn : n ≤ 16) (hP : ex_P h) (e1 : h.1 47 1 = nI 2) (e2 : h.1 47 2 = nI n) (hQ : ∀ h1, ex_P h1 → h1.2 = h.2 → (∀ o k, ¬ o = 47 → ¬ (36 ≤ o ∧ o ≤ 40) → h1.1 o k = h.1 o k) → h1.1 47 1 = nI 1 → h1.1 47 2 = nI (n - 1) → scq 36 59 h h1 → Q (some (.int (Int32.ofInt 1))) h1) : am_call am_cod 2 113 [.ref 47, .ref 36] h Q := by
  refine pz_call (n := 113) (nL := 2) (rt := (some .boolean)) (rows := am_r113) (d := 1) (by decide +kernel) (by decide +kernel) rfl (by funext pc; rfl) (ex_175 hP) (by exact Nat.le_of_ble_eq_true rfl) ?_
  have hX := kF_0 (D := 36) (h := h)
  refine am_goX 2 (show am_sh h 47 = some (2, 0) ∧ pz_S 2 (some .boolean) am_r113 1 Q 4 [(0, .ref 47), (1, .ref 36)] [.int (h.1 47 2)] h from ⟨ex_47 hP, ?_⟩)
  rw [show h.1 47 2 = nI n from e2]
  refine am_goX 1 (show (¬ (nI n) = 0 → pz_S 2 (some .boolean) am_r113 1 Q 9 [(0, .ref 47), (1, .ref 36)] [] h) ∧ (¬ ¬ (nI n) = 0 → pz_S 2 (some .boolean) am_r113 1 Q 7 [(0, .ref 47), (1, .ref 36)] [] h) from ⟨fun _ => ?_, fun hz => absurd (nI_n0 hn0 (by omega)) hz⟩)
  refine am_goX 3 (show am_sh h 47 = some (2, 0) ∧ pz_S 2 (some .boolean) am_r113 1 Q 14 [(0, .ref 47), (1, .ref 36)] [am_rf (h.2.2.1 47 0), .ref 36] h from ⟨ex_47 hP, ?_⟩)
  rw [show am_rf (h.2.2.1 47 0) = .ref 48 from congrArg am_rf (ex_r47_0 hP)]
  refine am_goX 2 (show am_sh h 47 = some (2, 0) ∧ pz_S 2 (some .boolean) am_r113 1 Q 18 [(0, .ref 47), (1, .ref 36)] [.int (h.1 47 1), .ref 48, .ref 36] h from ⟨ex_47 hP, ?_⟩)
  rw [show h.1 47 1 = nI 2 from e1]
  refine am_goX 1 (show ∃ jj nn : Nat, (am_sh h 48 = some (16, nn) ∨ am_sh h 48 = some (17, nn)) ∧ jj < nn ∧ nI 2 = nI jj ∧ pz_S 2 (some .boolean) am_r113 1 Q 19 [(0, .ref 47), (1, .ref 36)] [am_rf (h.2.2.1 48 jj), .ref 36] h from ⟨2, 16, Or.inr (ex_48 hP), by decide, rfl, ?_⟩)
  rw [show am_rf (h.2.2.1 48 2) = .ref 59 from congrArg am_rf (ex_r48_2 hP)]
  refine am_goX 1 (show am_rc h 36 6 ∧ 0 ≤ 8 ∧ h.2.2.2.2 + am_al 99 ≤ 175 ∧ am_call am_cod 1 99 [.ref 36, .ref 59] h (fun vv h' => pz_S 2 (some .boolean) am_r113 1 Q 22 [(0, .ref 47), (1, .ref 36)] (vv.toList ++ []) h') from ⟨Or.inl ⟨by decide, ex_36 hP⟩, by decide, ex_lim hP rfl, am_call.up (q_99 stO_36 stO_59 (by decide) hP (fun h366 f367 f368 f369 f370 => ?_)) (by decide)⟩)
  have f371 : h366.1 47 1 = nI 2 := (f369 47 1 (by omega)).trans e1
  have f372 : h366.1 47 2 = nI n := (f369 47 2 (by omega)).trans e2
  have f373 : kF 36 h h366 := kF_c hX f368 f369
  have f374 : scq 36 59 h h366 := scq_b hX (fun a u1 u2 => by omega) f370
  refine am_goX 3 (show am_sh h366 47 = some (2, 0) ∧ pz_S 2 (some .boolean) am_r113 1 Q 27 [(0, .ref 47), (1, .ref 36)] [.int (h366.1 47 1), .ref 47] h366 from ⟨ex_47 f367, ?_⟩)
  rw [show h366.1 47 1 = nI 2 from f371]
  refine am_goX 6 (show ¬ ((Int8.ofInt 16).toInt32) = 0 ∧ pz_S 2 (some .boolean) am_r113 1 Q 35 [(0, .ref 47), (1, .ref 36)] [.int ((((nI 2) + ((Int8.ofInt 16).toInt32)) - (Int32.ofInt 1)) - (((nI 2) + ((Int8.ofInt 16).toInt32)) - (Int32.ofInt 1)) / ((Int8.ofInt 16).toInt32) * ((Int8.ofInt 16).toInt32)), .ref 47] h366 from ⟨by decide, ?_⟩)
  rw [show (((nI 2) + ((Int8.ofInt 16).toInt32)) - (Int32.ofInt 1)) - (((nI 2) + ((Int8.ofInt 16).toInt32)) - (Int32.ofInt 1)) / ((Int8.ofInt 16).toInt32) * ((Int8.ofInt 16).toInt32) = nI 1 from (by decide)]
  refine am_goX 1 (show am_sh h366 47 = some (2, 0) ∧ narrow (am_fty 2 1) (.int (nI 1)) = .int (nI 1) ∧ fits (am_fty 2 1) (.int (nI 1)) = true ∧ pz_S 2 (some .boolean) am_r113 1 Q 38 [(0, .ref 47), (1, .ref 36)] [] (am_wI h366 47 1 (nI 1)) from ⟨ex_47 f367, rfl, rfl, ?_⟩)
  have f376 : ex_P (am_wI h366 47 1 (nI 1)) := f367
  have f377 : (am_wI h366 47 1 (nI 1)).1 47 1 = nI 1 := (em_we _ _ _ _).trans (rfl)
  have f378 : (am_wI h366 47 1 (nI 1)).1 47 2 = nI n := (em_wn _ _ (by omega)).trans f372
  have f379 : kF 36 h (am_wI h366 47 1 (nI 1)) := kF_w (by omega) f373
  have f380 : scq 36 59 h (am_wI h366 47 1 (nI 1)) := scq_w (by omega) f374
  generalize am_wI h366 47 1 (nI 1) = h375 at f376 f377 f378 f379 f380 ⊢
  refine am_goX 3 (show (Value.ref 47).category = 1 ∧ am_sh h375 47 = some (2, 0) ∧ pz_S 2 (some .boolean) am_r113 1 Q 43 [(0, .ref 47), (1, .ref 36)] [.int (h375.1 47 2), .ref 47] h375 from ⟨rfl, ex_47 f376, ?_⟩)
  rw [show h375.1 47 2 = nI n from f378]
  refine am_goX 3 (show am_sh h375 47 = some (2, 0) ∧ narrow (am_fty 2 2) (.int ((nI n) - (Int32.ofInt 1))) = .int ((nI n) - (Int32.ofInt 1)) ∧ fits (am_fty 2 2) (.int ((nI n) - (Int32.ofInt 1))) = true ∧ pz_S 2 (some .boolean) am_r113 1 Q 48 [(0, .ref 47), (1, .ref 36)] [] (am_wI h375 47 2 ((nI n) - (Int32.ofInt 1))) from ⟨ex_47 f376, rfl, rfl, ?_⟩)
  have f382 : ex_P (am_wI h375 47 2 ((nI n) - (Int32.ofInt 1))) := f376
  have f383 : (am_wI h375 47 2 ((nI n) - (Int32.ofInt 1))).1 47 1 = nI 1 := (em_wn _ _ (by omega)).trans f377
  have f384 : (am_wI h375 47 2 ((nI n) - (Int32.ofInt 1))).1 47 2 = nI (n - 1) := (em_we _ _ _ _).trans ((dn_s (by omega) rfl rfl))
  have f385 : kF 36 h (am_wI h375 47 2 ((nI n) - (Int32.ofInt 1))) := kF_w (by omega) f379
  have f386 : scq 36 59 h (am_wI h375 47 2 ((nI n) - (Int32.ofInt 1))) := scq_w (by omega) f380
  generalize am_wI h375 47 2 ((nI n) - (Int32.ofInt 1)) = h381 at f382 f383 f384 f385 f386 ⊢
  exact am_goX 2 (show (∃ ty, (some .boolean) = some ty ∧ narrow ty (.int (Int32.ofInt 1)) = .int (Int32.ofInt 1)) ∧ h381.2.2.2.2 = 175 ∧ _ from ⟨⟨.boolean, rfl, rfl⟩, ex_175 f382, hQ _ f382 f385.1 f385.2 f383 f384 f386⟩)
theorem q_113_3 (hn0 : 0 < n) (hn : n ≤ 16) (hP : ex_P h) (e1 : h.1 47 1 = nI 3) (e2 : h.1 47 2 = nI n) (hQ : ∀ h1, ex_P h1 → h1.2 = h.2 → (∀ o k, ¬ o = 47 → ¬ (36 ≤ o ∧ o ≤ 40) → h1.1 o k = h.1 o k) → h1.1 47 1 = nI 2 → h1.1 47 2 = nI (n - 1) → scq 36 64 h h1 → Q (some (.int (Int32.ofInt 1))) h1) : am_call am_cod 2 113 [.ref 47, .ref 36] h Q := by
  refine pz_call (n := 113) (nL := 2) (rt := (some .boolean)) (rows := am_r113) (d := 1) (by decide +kernel) (by decide +kernel) rfl (by funext pc; rfl) (ex_175 hP) (by exact Nat.le_of_ble_eq_true rfl) ?_
  have hX := kF_0 (D := 36) (h := h)
  refine am_goX 2 (show am_sh h 47 = some (2, 0) ∧ pz_S 2 (some .boolean) am_r113 1 Q 4 [(0, .ref 47), (1, .ref 36)] [.int (h.1 47 2)] h from ⟨ex_47 hP, ?_⟩)
  rw [show h.1 47 2 = nI n from e2]
  refine am_goX 1 (show (¬ (nI n) = 0 → pz_S 2 (some .boolean) am_r113 1 Q 9 [(0, .ref 47), (1, .ref 36)] [] h) ∧ (¬ ¬ (nI n) = 0 → pz_S 2 (some .boolean) am_r113 1 Q 7 [(0, .ref 47), (1, .ref 36)] [] h) from ⟨fun _ => ?_, fun hz => absurd (nI_n0 hn0 (by omega)) hz⟩)
  refine am_goX 3 (show am_sh h 47 = some (2, 0) ∧ pz_S 2 (some .boolean) am_r113 1 Q 14 [(0, .ref 47), (1, .ref 36)] [am_rf (h.2.2.1 47 0), .ref 36] h from ⟨ex_47 hP, ?_⟩)
  rw [show am_rf (h.2.2.1 47 0) = .ref 48 from congrArg am_rf (ex_r47_0 hP)]
  refine am_goX 2 (show am_sh h 47 = some (2, 0) ∧ pz_S 2 (some .boolean) am_r113 1 Q 18 [(0, .ref 47), (1, .ref 36)] [.int (h.1 47 1), .ref 48, .ref 36] h from ⟨ex_47 hP, ?_⟩)
  rw [show h.1 47 1 = nI 3 from e1]
  refine am_goX 1 (show ∃ jj nn : Nat, (am_sh h 48 = some (16, nn) ∨ am_sh h 48 = some (17, nn)) ∧ jj < nn ∧ nI 3 = nI jj ∧ pz_S 2 (some .boolean) am_r113 1 Q 19 [(0, .ref 47), (1, .ref 36)] [am_rf (h.2.2.1 48 jj), .ref 36] h from ⟨3, 16, Or.inr (ex_48 hP), by decide, rfl, ?_⟩)
  rw [show am_rf (h.2.2.1 48 3) = .ref 64 from congrArg am_rf (ex_r48_3 hP)]
  refine am_goX 1 (show am_rc h 36 6 ∧ 0 ≤ 8 ∧ h.2.2.2.2 + am_al 99 ≤ 175 ∧ am_call am_cod 1 99 [.ref 36, .ref 64] h (fun vv h' => pz_S 2 (some .boolean) am_r113 1 Q 22 [(0, .ref 47), (1, .ref 36)] (vv.toList ++ []) h') from ⟨Or.inl ⟨by decide, ex_36 hP⟩, by decide, ex_lim hP rfl, am_call.up (q_99 stO_36 stO_64 (by decide) hP (fun h387 f388 f389 f390 f391 => ?_)) (by decide)⟩)
  have f392 : h387.1 47 1 = nI 3 := (f390 47 1 (by omega)).trans e1
  have f393 : h387.1 47 2 = nI n := (f390 47 2 (by omega)).trans e2
  have f394 : kF 36 h h387 := kF_c hX f389 f390
  have f395 : scq 36 64 h h387 := scq_b hX (fun a u1 u2 => by omega) f391
  refine am_goX 3 (show am_sh h387 47 = some (2, 0) ∧ pz_S 2 (some .boolean) am_r113 1 Q 27 [(0, .ref 47), (1, .ref 36)] [.int (h387.1 47 1), .ref 47] h387 from ⟨ex_47 f388, ?_⟩)
  rw [show h387.1 47 1 = nI 3 from f392]
  refine am_goX 6 (show ¬ ((Int8.ofInt 16).toInt32) = 0 ∧ pz_S 2 (some .boolean) am_r113 1 Q 35 [(0, .ref 47), (1, .ref 36)] [.int ((((nI 3) + ((Int8.ofInt 16).toInt32)) - (Int32.ofInt 1)) - (((nI 3) + ((Int8.ofInt 16).toInt32)) - (Int32.ofInt 1)) / ((Int8.ofInt 16).toInt32) * ((Int8.ofInt 16).toInt32)), .ref 47] h387 from ⟨by decide, ?_⟩)
  rw [show (((nI 3) + ((Int8.ofInt 16).toInt32)) - (Int32.ofInt 1)) - (((nI 3) + ((Int8.ofInt 16).toInt32)) - (Int32.ofInt 1)) / ((Int8.ofInt 16).toInt32) * ((Int8.ofInt 16).toInt32) = nI 2 from (by decide)]
  refine am_goX 1 (show am_sh h387 47 = some (2, 0) ∧ narrow (am_fty 2 1) (.int (nI 2)) = .int (nI 2) ∧ fits (am_fty 2 1) (.int (nI 2)) = true ∧ pz_S 2 (some .boolean) am_r113 1 Q 38 [(0, .ref 47), (1, .ref 36)] [] (am_wI h387 47 1 (nI 2)) from ⟨ex_47 f388, rfl, rfl, ?_⟩)
  have f397 : ex_P (am_wI h387 47 1 (nI 2)) := f388
  have f398 : (am_wI h387 47 1 (nI 2)).1 47 1 = nI 2 := (em_we _ _ _ _).trans (rfl)
  have f399 : (am_wI h387 47 1 (nI 2)).1 47 2 = nI n := (em_wn _ _ (by omega)).trans f393
  have f400 : kF 36 h (am_wI h387 47 1 (nI 2)) := kF_w (by omega) f394
  have f401 : scq 36 64 h (am_wI h387 47 1 (nI 2)) := scq_w (by omega) f395
  generalize am_wI h387 47 1 (nI 2) = h396 at f397 f398 f399 f400 f401 ⊢
  refine am_goX 3 (show (Value.ref 47).category = 1 ∧ am_sh h396 47 = some (2, 0) ∧ pz_S 2 (some .boolean) am_r113 1 Q 43 [(0, .ref 47), (1, .ref 36)] [.int (h396.1 47 2), .ref 47] h396 from ⟨rfl, ex_47 f397, ?_⟩)
  rw [show h396.1 47 2 = nI n from f399]
  refine am_goX 3 (show am_sh h396 47 = some (2, 0) ∧ narrow (am_fty 2 2) (.int ((nI n) - (Int32.ofInt 1))) = .int ((nI n) - (Int32.ofInt 1)) ∧ fits (am_fty 2 2) (.int ((nI n) - (Int32.ofInt 1))) = true ∧ pz_S 2 (some .boolean) am_r113 1 Q 48 [(0, .ref 47), (1, .ref 36)] [] (am_wI h396 47 2 ((nI n) - (Int32.ofInt 1))) from ⟨ex_47 f397, rfl, rfl, ?_⟩)
  have f403 : ex_P (am_wI h396 47 2 ((nI n) - (Int32.ofInt 1))) := f397
  have f404 : (am_wI h396 47 2 ((nI n) - (Int32.ofInt 1))).1 47 1 = nI 2 := (em_wn _ _ (by omega)).trans f398
  have f405 : (am_wI h396 47 2 ((nI n) - (Int32.ofInt 1))).1 47 2 = nI (n - 1) := (em_we _ _ _ _).trans ((dn_s (by omega) rfl rfl))
  have f406 : kF 36 h (am_wI h396 47 2 ((nI n) - (Int32.ofInt 1))) := kF_w (by omega) f400
  have f407 : scq 36 64 h (am_wI h396 47 2 ((nI n) - (Int32.ofInt 1))) := scq_w (by omega) f401
  generalize am_wI h396 47 2 ((nI n) - (Int32.ofInt 1)) = h402 at f403 f404 f405 f406 f407 ⊢
  exact am_goX 2 (show (∃ ty, (some .boolean) = some ty ∧ narrow ty (.int (Int32.ofInt 1)) = .int (Int32.ofInt 1)) ∧ h402.2.2.2.2 = 175 ∧ _ from ⟨⟨.boolean, rfl, rfl⟩, ex_175 f403, hQ _ f403 f406.1 f406.2 f404 f405 f407⟩)
theorem q_113_4 (hn0 : 0 < n) (hn : n ≤ 16) (hP : ex_P h) (e1 : h.1 47 1 = nI 4) (e2 : h.1 47 2 = nI n) (hQ : ∀ h1, ex_P h1 → h1.2 = h.2 → (∀ o k, ¬ o = 47 → ¬ (36 ≤ o ∧ o ≤ 40) → h1.1 o k = h.1 o k) → h1.1 47 1 = nI 3 → h1.1 47 2 = nI (n - 1) → scq 36 69 h h1 → Q (some (.int (Int32.ofInt 1))) h1) : am_call am_cod 2 113 [.ref 47, .ref 36] h Q := by
  refine pz_call (n := 113) (nL := 2) (rt := (some .boolean)) (rows := am_r113) (d := 1) (by decide +kernel) (by decide +kernel) rfl (by funext pc; rfl) (ex_175 hP) (by exact Nat.le_of_ble_eq_true rfl) ?_
  have hX := kF_0 (D := 36) (h := h)
  refine am_goX 2 (show am_sh h 47 = some (2, 0) ∧ pz_S 2 (some .boolean) am_r113 1 Q 4 [(0, .ref 47), (1, .ref 36)] [.int (h.1 47 2)] h from ⟨ex_47 hP, ?_⟩)
  rw [show h.1 47 2 = nI n from e2]
  refine am_goX 1 (show (¬ (nI n) = 0 → pz_S 2 (some .boolean) am_r113 1 Q 9 [(0, .ref 47), (1, .ref 36)] [] h) ∧ (¬ ¬ (nI n) = 0 → pz_S 2 (some .boolean) am_r113 1 Q 7 [(0, .ref 47), (1, .ref 36)] [] h) from ⟨fun _ => ?_, fun hz => absurd (nI_n0 hn0 (by omega)) hz⟩)
  refine am_goX 3 (show am_sh h 47 = some (2, 0) ∧ pz_S 2 (some .boolean) am_r113 1 Q 14 [(0, .ref 47), (1, .ref 36)] [am_rf (h.2.2.1 47 0), .ref 36] h from ⟨ex_47 hP, ?_⟩)
  rw [show am_rf (h.2.2.1 47 0) = .ref 48 from congrArg am_rf (ex_r47_0 hP)]
  refine am_goX 2 (show am_sh h 47 = some (2, 0) ∧ pz_S 2 (some .boolean) am_r113 1 Q 18 [(0, .ref 47), (1, .ref 36)] [.int (h.1 47 1), .ref 48, .ref 36] h from ⟨ex_47 hP, ?_⟩)
  rw [show h.1 47 1 = nI 4 from e1]
  refine am_goX 1 (show ∃ jj nn : Nat, (am_sh h 48 = some (16, nn) ∨ am_sh h 48 = some (17, nn)) ∧ jj < nn ∧ nI 4 = nI jj ∧ pz_S 2 (some .boolean) am_r113 1 Q 19 [(0, .ref 47), (1, .ref 36)] [am_rf (h.2.2.1 48 jj), .ref 36] h from ⟨4, 16, Or.inr (ex_48 hP), by decide, rfl, ?_⟩)
  rw [show am_rf (h.2.2.1 48 4) = .ref 69 from congrArg am_rf (ex_r48_4 hP)]
  refine am_goX 1 (show am_rc h 36 6 ∧ 0 ≤ 8 ∧ h.2.2.2.2 + am_al 99 ≤ 175 ∧ am_call am_cod 1 99 [.ref 36, .ref 69] h (fun vv h' => pz_S 2 (some .boolean) am_r113 1 Q 22 [(0, .ref 47), (1, .ref 36)] (vv.toList ++ []) h') from ⟨Or.inl ⟨by decide, ex_36 hP⟩, by decide, ex_lim hP rfl, am_call.up (q_99 stO_36 stO_69 (by decide) hP (fun h408 f409 f410 f411 f412 => ?_)) (by decide)⟩)
  have f413 : h408.1 47 1 = nI 4 := (f411 47 1 (by omega)).trans e1
  have f414 : h408.1 47 2 = nI n := (f411 47 2 (by omega)).trans e2
  have f415 : kF 36 h h408 := kF_c hX f410 f411
  have f416 : scq 36 69 h h408 := scq_b hX (fun a u1 u2 => by omega) f412
  refine am_goX 3 (show am_sh h408 47 = some (2, 0) ∧ pz_S 2 (some .boolean) am_r113 1 Q 27 [(0, .ref 47), (1, .ref 36)] [.int (h408.1 47 1), .ref 47] h408 from ⟨ex_47 f409, ?_⟩)
  rw [show h408.1 47 1 = nI 4 from f413]
  refine am_goX 6 (show ¬ ((Int8.ofInt 16).toInt32) = 0 ∧ pz_S 2 (some .boolean) am_r113 1 Q 35 [(0, .ref 47), (1, .ref 36)] [.int ((((nI 4) + ((Int8.ofInt 16).toInt32)) - (Int32.ofInt 1)) - (((nI 4) + ((Int8.ofInt 16).toInt32)) - (Int32.ofInt 1)) / ((Int8.ofInt 16).toInt32) * ((Int8.ofInt 16).toInt32)), .ref 47] h408 from ⟨by decide, ?_⟩)
  rw [show (((nI 4) + ((Int8.ofInt 16).toInt32)) - (Int32.ofInt 1)) - (((nI 4) + ((Int8.ofInt 16).toInt32)) - (Int32.ofInt 1)) / ((Int8.ofInt 16).toInt32) * ((Int8.ofInt 16).toInt32) = nI 3 from (by decide)]
  refine am_goX 1 (show am_sh h408 47 = some (2, 0) ∧ narrow (am_fty 2 1) (.int (nI 3)) = .int (nI 3) ∧ fits (am_fty 2 1) (.int (nI 3)) = true ∧ pz_S 2 (some .boolean) am_r113 1 Q 38 [(0, .ref 47), (1, .ref 36)] [] (am_wI h408 47 1 (nI 3)) from ⟨ex_47 f409, rfl, rfl, ?_⟩)
  have f418 : ex_P (am_wI h408 47 1 (nI 3)) := f409
  have f419 : (am_wI h408 47 1 (nI 3)).1 47 1 = nI 3 := (em_we _ _ _ _).trans (rfl)
  have f420 : (am_wI h408 47 1 (nI 3)).1 47 2 = nI n := (em_wn _ _ (by omega)).trans f414
  have f421 : kF 36 h (am_wI h408 47 1 (nI 3)) := kF_w (by omega) f415
  have f422 : scq 36 69 h (am_wI h408 47 1 (nI 3)) := scq_w (by omega) f416
  generalize am_wI h408 47 1 (nI 3) = h417 at f418 f419 f420 f421 f422 ⊢
  refine am_goX 3 (show (Value.ref 47).category = 1 ∧ am_sh h417 47 = some (2, 0) ∧ pz_S 2 (some .boolean) am_r113 1 Q 43 [(0, .ref 47), (1, .ref 36)] [.int (h417.1 47 2), .ref 47] h417 from ⟨rfl, ex_47 f418, ?_⟩)
  rw [show h417.1 47 2 = nI n from f420]
  refine am_goX 3 (show am_sh h417 47 = some (2, 0) ∧ narrow (am_fty 2 2) (.int ((nI n) - (Int32.ofInt 1))) = .int ((nI n) - (Int32.ofInt 1)) ∧ fits (am_fty 2 2) (.int ((nI n) - (Int32.ofInt 1))) = true ∧ pz_S 2 (some .boolean) am_r113 1 Q 48 [(0, .ref 47), (1, .ref 36)] [] (am_wI h417 47 2 ((nI n) - (Int32.ofInt 1))) from ⟨ex_47 f418, rfl, rfl, ?_⟩)
  have f424 : ex_P (am_wI h417 47 2 ((nI n) - (Int32.ofInt 1))) := f418
  have f425 : (am_wI h417 47 2 ((nI n) - (Int32.ofInt 1))).1 47 1 = nI 3 := (em_wn _ _ (by omega)).trans f419
  have f426 : (am_wI h417 47 2 ((nI n) - (Int32.ofInt 1))).1 47 2 = nI (n - 1) := (em_we _ _ _ _).trans ((dn_s (by omega) rfl rfl))
  have f427 : kF 36 h (am_wI h417 47 2 ((nI n) - (Int32.ofInt 1))) := kF_w (by omega) f421
  have f428 : scq 36 69 h (am_wI h417 47 2 ((nI n) - (Int32.ofInt 1))) := scq_w (by omega) f422
  generalize am_wI h417 47 2 ((nI n) - (Int32.ofInt 1)) = h423 at f424 f425 f426 f427 f428 ⊢
  exact am_goX 2 (show (∃ ty, (some .boolean) = some ty ∧ narrow ty (.int (Int32.ofInt 1)) = .int (Int32.ofInt 1)) ∧ h423.2.2.2.2 = 175 ∧ _ from ⟨⟨.boolean, rfl, rfl⟩, ex_175 f424, hQ _ f424 f427.1 f427.2 f425 f426 f428⟩)
theorem q_113_5 (hn0 : 0 < n) (hn : n ≤ 16) (hP : ex_P h) (e1 : h.1 47 1 = nI 5) (e2 : h.1 47 2 = nI n) (hQ : ∀ h1, ex_P h1 → h1.2 = h.2 → (∀ o k, ¬ o = 47 → ¬ (36 ≤ o ∧ o ≤ 40) → h1.1 o k = h.1 o k) → h1.1 47 1 = nI 4 → h1.1 47 2 = nI (n - 1) → scq 36 74 h h1 → Q (some (.int (Int32.ofInt 1))) h1) : am_call am_cod 2 113 [.ref 47, .ref 36] h Q := by
  refine pz_call (n := 113) (nL := 2) (rt := (some .boolean)) (rows := am_r113) (d := 1) (by decide +kernel) (by decide +kernel) rfl (by funext pc; rfl) (ex_175 hP) (by exact Nat.le_of_ble_eq_true rfl) ?_
  have hX := kF_0 (D := 36) (h := h)
  refine am_goX 2 (show am_sh h 47 = some (2, 0) ∧ pz_S 2 (some .boolean) am_r113 1 Q 4 [(0, .ref 47), (1, .ref 36)] [.int (h.1 47 2)] h from ⟨ex_47 hP, ?_⟩)
  rw [show h.1 47 2 = nI n from e2]
  refine am_goX 1 (show (¬ (nI n) = 0 → pz_S 2 (some .boolean) am_r113 1 Q 9 [(0, .ref 47), (1, .ref 36)] [] h) ∧ (¬ ¬ (nI n) = 0 → pz_S 2 (some .boolean) am_r113 1 Q 7 [(0, .ref 47), (1, .ref 36)] [] h) from ⟨fun _ => ?_, fun hz => absurd (nI_n0 hn0 (by omega)) hz⟩)
  refine am_goX 3 (show am_sh h 47 = some (2, 0) ∧ pz_S 2 (some .boolean) am_r113 1 Q 14 [(0, .ref 47), (1, .ref 36)] [am_rf (h.2.2.1 47 0), .ref 36] h from ⟨ex_47 hP, ?_⟩)
  rw [show am_rf (h.2.2.1 47 0) = .ref 48 from congrArg am_rf (ex_r47_0 hP)]
  refine am_goX 2 (show am_sh h 47 = some (2, 0) ∧ pz_S 2 (some .boolean) am_r113 1 Q 18 [(0, .ref 47), (1, .ref 36)] [.int (h.1 47 1), .ref 48, .ref 36] h from ⟨ex_47 hP, ?_⟩)
  rw [show h.1 47 1 = nI 5 from e1]
  refine am_goX 1 (show ∃ jj nn : Nat, (am_sh h 48 = some (16, nn) ∨ am_sh h 48 = some (17, nn)) ∧ jj < nn ∧ nI 5 = nI jj ∧ pz_S 2 (some .boolean) am_r113 1 Q 19 [(0, .ref 47), (1, .ref 36)] [am_rf (h.2.2.1 48 jj), .ref 36] h from ⟨5, 16, Or.inr (ex_48 hP), by decide, rfl, ?_⟩)
  rw [show am_rf (h.2.2.1 48 5) = .ref 74 from congrArg am_rf (ex_r48_5 hP)]
  refine am_goX 1 (show am_rc h 36 6 ∧ 0 ≤ 8 ∧ h.2.2.2.2 + am_al 99 ≤ 175 ∧ am_call am_cod 1 99 [.ref 36, .ref 74] h (fun vv h' => pz_S 2 (some .boolean) am_r113 1 Q 22 [(0, .ref 47), (1, .ref 36)] (vv.toList ++ []) h') from ⟨Or.inl ⟨by decide, ex_36 hP⟩, by decide, ex_lim hP rfl, am_call.up (q_99 stO_36 stO_74 (by decide) hP (fun h429 f430 f431 f432 f433 => ?_)) (by decide)⟩)
  have f434 : h429.1 47 1 = nI 5 := (f432 47 1 (by omega)).trans e1
  have f435 : h429.1 47 2 = nI n := (f432 47 2 (by omega)).trans e2
  have f436 : kF 36 h h429 := kF_c hX f431 f432
  have f437 : scq 36 74 h h429 := scq_b hX (fun a u1 u2 => by omega) f433
  refine am_goX 3 (show am_sh h429 47 = some (2, 0) ∧ pz_S 2 (some .boolean) am_r113 1 Q 27 [(0, .ref 47), (1, .ref 36)] [.int (h429.1 47 1), .ref 47] h429 from ⟨ex_47 f430, ?_⟩)
  rw [show h429.1 47 1 = nI 5 from f434]
  refine am_goX 6 (show ¬ ((Int8.ofInt 16).toInt32) = 0 ∧ pz_S 2 (some .boolean) am_r113 1 Q 35 [(0, .ref 47), (1, .ref 36)] [.int ((((nI 5) + ((Int8.ofInt 16).toInt32)) - (Int32.ofInt 1)) - (((nI 5) + ((Int8.ofInt 16).toInt32)) - (Int32.ofInt 1)) / ((Int8.ofInt 16).toInt32) * ((Int8.ofInt 16).toInt32)), .ref 47] h429 from ⟨by decide, ?_⟩)
  rw [show (((nI 5) + ((Int8.ofInt 16).toInt32)) - (Int32.ofInt 1)) - (((nI 5) + ((Int8.ofInt 16).toInt32)) - (Int32.ofInt 1)) / ((Int8.ofInt 16).toInt32) * ((Int8.ofInt 16).toInt32) = nI 4 from (by decide)]
  refine am_goX 1 (show am_sh h429 47 = some (2, 0) ∧ narrow (am_fty 2 1) (.int (nI 4)) = .int (nI 4) ∧ fits (am_fty 2 1) (.int (nI 4)) = true ∧ pz_S 2 (some .boolean) am_r113 1 Q 38 [(0, .ref 47), (1, .ref 36)] [] (am_wI h429 47 1 (nI 4)) from ⟨ex_47 f430, rfl, rfl, ?_⟩)
  have f439 : ex_P (am_wI h429 47 1 (nI 4)) := f430
  have f440 : (am_wI h429 47 1 (nI 4)).1 47 1 = nI 4 := (em_we _ _ _ _).trans (rfl)
  have f441 : (am_wI h429 47 1 (nI 4)).1 47 2 = nI n := (em_wn _ _ (by omega)).trans f435
  have f442 : kF 36 h (am_wI h429 47 1 (nI 4)) := kF_w (by omega) f436
  have f443 : scq 36 74 h (am_wI h429 47 1 (nI 4)) := scq_w (by omega) f437
  generalize am_wI h429 47 1 (nI 4) = h438 at f439 f440 f441 f442 f443 ⊢
  refine am_goX 3 (show (Value.ref 47).category = 1 ∧ am_sh h438 47 = some (2, 0) ∧ pz_S 2 (some .boolean) am_r113 1 Q 43 [(0, .ref 47), (1, .ref 36)] [.int (h438.1 47 2), .ref 47] h438 from ⟨rfl, ex_47 f439, ?_⟩)
  rw [show h438.1 47 2 = nI n from f441]
  refine am_goX 3 (show am_sh h438 47 = some (2, 0) ∧ narrow (am_fty 2 2) (.int ((nI n) - (Int32.ofInt 1))) = .int ((nI n) - (Int32.ofInt 1)) ∧ fits (am_fty 2 2) (.int ((nI n) - (Int32.ofInt 1))) = true ∧ pz_S 2 (some .boolean) am_r113 1 Q 48 [(0, .ref 47), (1, .ref 36)] [] (am_wI h438 47 2 ((nI n) - (Int32.ofInt 1))) from ⟨ex_47 f439, rfl, rfl, ?_⟩)
  have f445 : ex_P (am_wI h438 47 2 ((nI n) - (Int32.ofInt 1))) := f439
  have f446 : (am_wI h438 47 2 ((nI n) - (Int32.ofInt 1))).1 47 1 = nI 4 := (em_wn _ _ (by omega)).trans f440
  have f447 : (am_wI h438 47 2 ((nI n) - (Int32.ofInt 1))).1 47 2 = nI (n - 1) := (em_we _ _ _ _).trans ((dn_s (by omega) rfl rfl))
  have f448 : kF 36 h (am_wI h438 47 2 ((nI n) - (Int32.ofInt 1))) := kF_w (by omega) f442
  have f449 : scq 36 74 h (am_wI h438 47 2 ((nI n) - (Int32.ofInt 1))) := scq_w (by omega) f443
  generalize am_wI h438 47 2 ((nI n) - (Int32.ofInt 1)) = h444 at f445 f446 f447 f448 f449 ⊢
  exact am_goX 2 (show (∃ ty, (some .boolean) = some ty ∧ narrow ty (.int (Int32.ofInt 1)) = .int (Int32.ofInt 1)) ∧ h444.2.2.2.2 = 175 ∧ _ from ⟨⟨.boolean, rfl, rfl⟩, ex_175 f445, hQ _ f445 f448.1 f448.2 f446 f447 f449⟩)
theorem q_113_6 (hn0 : 0 < n) (hn : n ≤ 16) (hP : ex_P h) (e1 : h.1 47 1 = nI 6) (e2 : h.1 47 2 = nI n) (hQ : ∀ h1, ex_P h1 → h1.2 = h.2 → (∀ o k, ¬ o = 47 → ¬ (36 ≤ o ∧ o ≤ 40) → h1.1 o k = h.1 o k) → h1.1 47 1 = nI 5 → h1.1 47 2 = nI (n - 1) → scq 36 79 h h1 → Q (some (.int (Int32.ofInt 1))) h1) : am_call am_cod 2 113 [.ref 47, .ref 36] h Q := by
  refine pz_call (n := 113) (nL := 2) (rt := (some .boolean)) (rows := am_r113) (d := 1) (by decide +kernel) (by decide +kernel) rfl (by funext pc; rfl) (ex_175 hP) (by exact Nat.le_of_ble_eq_true rfl) ?_
  have hX := kF_0 (D := 36) (h := h)
  refine am_goX 2 (show am_sh h 47 = some (2, 0) ∧ pz_S 2 (some .boolean) am_r113 1 Q 4 [(0, .ref 47), (1, .ref 36)] [.int (h.1 47 2)] h from ⟨ex_47 hP, ?_⟩)
  rw [show h.1 47 2 = nI n from e2]
  refine am_goX 1 (show (¬ (nI n) = 0 → pz_S 2 (some .boolean) am_r113 1 Q 9 [(0, .ref 47), (1, .ref 36)] [] h) ∧ (¬ ¬ (nI n) = 0 → pz_S 2 (some .boolean) am_r113 1 Q 7 [(0, .ref 47), (1, .ref 36)] [] h) from ⟨fun _ => ?_, fun hz => absurd (nI_n0 hn0 (by omega)) hz⟩)
  refine am_goX 3 (show am_sh h 47 = some (2, 0) ∧ pz_S 2 (some .boolean) am_r113 1 Q 14 [(0, .ref 47), (1, .ref 36)] [am_rf (h.2.2.1 47 0), .ref 36] h from ⟨ex_47 hP, ?_⟩)
  rw [show am_rf (h.2.2.1 47 0) = .ref 48 from congrArg am_rf (ex_r47_0 hP)]
  refine am_goX 2 (show am_sh h 47 = some (2, 0) ∧ pz_S 2 (some .boolean) am_r113 1 Q 18 [(0, .ref 47), (1, .ref 36)] [.int (h.1 47 1), .ref 48, .ref 36] h from ⟨ex_47 hP, ?_⟩)
  rw [show h.1 47 1 = nI 6 from e1]
  refine am_goX 1 (show ∃ jj nn : Nat, (am_sh h 48 = some (16, nn) ∨ am_sh h 48 = some (17, nn)) ∧ jj < nn ∧ nI 6 = nI jj ∧ pz_S 2 (some .boolean) am_r113 1 Q 19 [(0, .ref 47), (1, .ref 36)] [am_rf (h.2.2.1 48 jj), .ref 36] h from ⟨6, 16, Or.inr (ex_48 hP), by decide, rfl, ?_⟩)
  rw [show am_rf (h.2.2.1 48 6) = .ref 79 from congrArg am_rf (ex_r48_6 hP)]
  refine am_goX 1 (show am_rc h 36 6 ∧ 0 ≤ 8 ∧ h.2.2.2.2 + am_al 99 ≤ 175 ∧ am_call am_cod 1 99 [.ref 36, .ref 79] h (fun vv h' => pz_S 2 (some .boolean) am_r113 1 Q 22 [(0, .ref 47), (1, .ref 36)] (vv.toList ++ []) h') from ⟨Or.inl ⟨by decide, ex_36 hP⟩, by decide, ex_lim hP rfl, am_call.up (q_99 stO_36 stO_79 (by decide) hP (fun h450 f451 f452 f453 f454 => ?_)) (by decide)⟩)
  have f455 : h450.1 47 1 = nI 6 := (f453 47 1 (by omega)).trans e1
  have f456 : h450.1 47 2 = nI n := (f453 47 2 (by omega)).trans e2
  have f457 : kF 36 h h450 := kF_c hX f452 f453
  have f458 : scq 36 79 h h450 := scq_b hX (fun a u1 u2 => by omega) f454
  refine am_goX 3 (show am_sh h450 47 = some (2, 0) ∧ pz_S 2 (some .boolean) am_r113 1 Q 27 [(0, .ref 47), (1, .ref 36)] [.int (h450.1 47 1), .ref 47] h450 from ⟨ex_47 f451, ?_⟩)
  rw [show h450.1 47 1 = nI 6 from f455]
  refine am_goX 6 (show ¬ ((Int8.ofInt 16).toInt32) = 0 ∧ pz_S 2 (some .boolean) am_r113 1 Q 35 [(0, .ref 47), (1, .ref 36)] [.int ((((nI 6) + ((Int8.ofInt 16).toInt32)) - (Int32.ofInt 1)) - (((nI 6) + ((Int8.ofInt 16).toInt32)) - (Int32.ofInt 1)) / ((Int8.ofInt 16).toInt32) * ((Int8.ofInt 16).toInt32)), .ref 47] h450 from ⟨by decide, ?_⟩)
  rw [show (((nI 6) + ((Int8.ofInt 16).toInt32)) - (Int32.ofInt 1)) - (((nI 6) + ((Int8.ofInt 16).toInt32)) - (Int32.ofInt 1)) / ((Int8.ofInt 16).toInt32) * ((Int8.ofInt 16).toInt32) = nI 5 from (by decide)]
  refine am_goX 1 (show am_sh h450 47 = some (2, 0) ∧ narrow (am_fty 2 1) (.int (nI 5)) = .int (nI 5) ∧ fits (am_fty 2 1) (.int (nI 5)) = true ∧ pz_S 2 (some .boolean) am_r113 1 Q 38 [(0, .ref 47), (1, .ref 36)] [] (am_wI h450 47 1 (nI 5)) from ⟨ex_47 f451, rfl, rfl, ?_⟩)
  have f460 : ex_P (am_wI h450 47 1 (nI 5)) := f451
  have f461 : (am_wI h450 47 1 (nI 5)).1 47 1 = nI 5 := (em_we _ _ _ _).trans (rfl)
  have f462 : (am_wI h450 47 1 (nI 5)).1 47 2 = nI n := (em_wn _ _ (by omega)).trans f456
  have f463 : kF 36 h (am_wI h450 47 1 (nI 5)) := kF_w (by omega) f457
  have f464 : scq 36 79 h (am_wI h450 47 1 (nI 5)) := scq_w (by omega) f458
  generalize am_wI h450 47 1 (nI 5) = h459 at f460 f461 f462 f463 f464 ⊢
  refine am_goX 3 (show (Value.ref 47).category = 1 ∧ am_sh h459 47 = some (2, 0) ∧ pz_S 2 (some .boolean) am_r113 1 Q 43 [(0, .ref 47), (1, .ref 36)] [.int (h459.1 47 2), .ref 47] h459 from ⟨rfl, ex_47 f460, ?_⟩)
  rw [show h459.1 47 2 = nI n from f462]
  refine am_goX 3 (show am_sh h459 47 = some (2, 0) ∧ narrow (am_fty 2 2) (.int ((nI n) - (Int32.ofInt 1))) = .int ((nI n) - (Int32.ofInt 1)) ∧ fits (am_fty 2 2) (.int ((nI n) - (Int32.ofInt 1))) = true ∧ pz_S 2 (some .boolean) am_r113 1 Q 48 [(0, .ref 47), (1, .ref 36)] [] (am_wI h459 47 2 ((nI n) - (Int32.ofInt 1))) from ⟨ex_47 f460, rfl, rfl, ?_⟩)
  have f466 : ex_P (am_wI h459 47 2 ((nI n) - (Int32.ofInt 1))) := f460
  have f467 : (am_wI h459 47 2 ((nI n) - (Int32.ofInt 1))).1 47 1 = nI 5 := (em_wn _ _ (by omega)).trans f461
  have f468 : (am_wI h459 47 2 ((nI n) - (Int32.ofInt 1))).1 47 2 = nI (n - 1) := (em_we _ _ _ _).trans ((dn_s (by omega) rfl rfl))
  have f469 : kF 36 h (am_wI h459 47 2 ((nI n) - (Int32.ofInt 1))) := kF_w (by omega) f463
  have f470 : scq 36 79 h (am_wI h459 47 2 ((nI n) - (Int32.ofInt 1))) := scq_w (by omega) f464
  generalize am_wI h459 47 2 ((nI n) - (Int32.ofInt 1)) = h465 at f466 f467 f468 f469 f470 ⊢
  exact am_goX 2 (show (∃ ty, (some .boolean) = some ty ∧ narrow ty (.int (Int32.ofInt 1)) = .int (Int32.ofInt 1)) ∧ h465.2.2.2.2 = 175 ∧ _ from ⟨⟨.boolean, rfl, rfl⟩, ex_175 f466, hQ _ f466 f469.1 f469.2 f467 f468 f470⟩)
theorem q_113_7 (hn0 : 0 < n) (hn : n ≤ 16) (hP : ex_P h) (e1 : h.1 47 1 = nI 7) (e2 : h.1 47 2 = nI n) (hQ : ∀ h1, ex_P h1 → h1.2 = h.2 → (∀ o k, ¬ o = 47 → ¬ (36 ≤ o ∧ o ≤ 40) → h1.1 o k = h.1 o k) → h1.1 47 1 = nI 6 → h1.1 47 2 = nI (n - 1) → scq 36 84 h h1 → Q (some (.int (Int32.ofInt 1))) h1) : am_call am_cod 2 113 [.ref 47, .ref 36] h Q := by
  refine pz_call (n := 113) (nL := 2) (rt := (some .boolean)) (rows := am_r113) (d := 1) (by decide +kernel) (by decide +kernel) rfl (by funext pc; rfl) (ex_175 hP) (by exact Nat.le_of_ble_eq_true rfl) ?_
  have hX := kF_0 (D := 36) (h := h)
  refine am_goX 2 (show am_sh h 47 = some (2, 0) ∧ pz_S 2 (some .boolean) am_r113 1 Q 4 [(0, .ref 47), (1, .ref 36)] [.int (h.1 47 2)] h from ⟨ex_47 hP, ?_⟩)
  rw [show h.1 47 2 = nI n from e2]
  refine am_goX 1 (show (¬ (nI n) = 0 → pz_S 2 (some .boolean) am_r113 1 Q 9 [(0, .ref 47), (1, .ref 36)] [] h) ∧ (¬ ¬ (nI n) = 0 → pz_S 2 (some .boolean) am_r113 1 Q 7 [(0, .ref 47), (1, .ref 36)] [] h) from ⟨fun _ => ?_, fun hz => absurd (nI_n0 hn0 (by omega)) hz⟩)
  refine am_goX 3 (show am_sh h 47 = some (2, 0) ∧ pz_S 2 (some .boolean) am_r113 1 Q 14 [(0, .ref 47), (1, .ref 36)] [am_rf (h.2.2.1 47 0), .ref 36] h from ⟨ex_47 hP, ?_⟩)
  rw [show am_rf (h.2.2.1 47 0) = .ref 48 from congrArg am_rf (ex_r47_0 hP)]
  refine am_goX 2 (show am_sh h 47 = some (2, 0) ∧ pz_S 2 (some .boolean) am_r113 1 Q 18 [(0, .ref 47), (1, .ref 36)] [.int (h.1 47 1), .ref 48, .ref 36] h from ⟨ex_47 hP, ?_⟩)
  rw [show h.1 47 1 = nI 7 from e1]
  refine am_goX 1 (show ∃ jj nn : Nat, (am_sh h 48 = some (16, nn) ∨ am_sh h 48 = some (17, nn)) ∧ jj < nn ∧ nI 7 = nI jj ∧ pz_S 2 (some .boolean) am_r113 1 Q 19 [(0, .ref 47), (1, .ref 36)] [am_rf (h.2.2.1 48 jj), .ref 36] h from ⟨7, 16, Or.inr (ex_48 hP), by decide, rfl, ?_⟩)
  rw [show am_rf (h.2.2.1 48 7) = .ref 84 from congrArg am_rf (ex_r48_7 hP)]
  refine am_goX 1 (show am_rc h 36 6 ∧ 0 ≤ 8 ∧ h.2.2.2.2 + am_al 99 ≤ 175 ∧ am_call am_cod 1 99 [.ref 36, .ref 84] h (fun vv h' => pz_S 2 (some .boolean) am_r113 1 Q 22 [(0, .ref 47), (1, .ref 36)] (vv.toList ++ []) h') from ⟨Or.inl ⟨by decide, ex_36 hP⟩, by decide, ex_lim hP rfl, am_call.up (q_99 stO_36 stO_84 (by decide) hP (fun h471 f472 f473 f474 f475 => ?_)) (by decide)⟩)
  have f476 : h471.1 47 1 = nI 7 := (f474 47 1 (by omega)).trans e1
  have f477 : h471.1 47 2 = nI n := (f474 47 2 (by omega)).trans e2
  have f478 : kF 36 h h471 := kF_c hX f473 f474
  have f479 : scq 36 84 h h471 := scq_b hX (fun a u1 u2 => by omega) f475
  refine am_goX 3 (show am_sh h471 47 = some (2, 0) ∧ pz_S 2 (some .boolean) am_r113 1 Q 27 [(0, .ref 47), (1, .ref 36)] [.int (h471.1 47 1), .ref 47] h471 from ⟨ex_47 f472, ?_⟩)
  rw [show h471.1 47 1 = nI 7 from f476]
  refine am_goX 6 (show ¬ ((Int8.ofInt 16).toInt32) = 0 ∧ pz_S 2 (some .boolean) am_r113 1 Q 35 [(0, .ref 47), (1, .ref 36)] [.int ((((nI 7) + ((Int8.ofInt 16).toInt32)) - (Int32.ofInt 1)) - (((nI 7) + ((Int8.ofInt 16).toInt32)) - (Int32.ofInt 1)) / ((Int8.ofInt 16).toInt32) * ((Int8.ofInt 16).toInt32)), .ref 47] h471 from ⟨by decide, ?_⟩)
  rw [show (((nI 7) + ((Int8.ofInt 16).toInt32)) - (Int32.ofInt 1)) - (((nI 7) + ((Int8.ofInt 16).toInt32)) - (Int32.ofInt 1)) / ((Int8.ofInt 16).toInt32) * ((Int8.ofInt 16).toInt32) = nI 6 from (by decide)]
  refine am_goX 1 (show am_sh h471 47 = some (2, 0) ∧ narrow (am_fty 2 1) (.int (nI 6)) = .int (nI 6) ∧ fits (am_fty 2 1) (.int (nI 6)) = true ∧ pz_S 2 (some .boolean) am_r113 1 Q 38 [(0, .ref 47), (1, .ref 36)] [] (am_wI h471 47 1 (nI 6)) from ⟨ex_47 f472, rfl, rfl, ?_⟩)
  have f481 : ex_P (am_wI h471 47 1 (nI 6)) := f472
  have f482 : (am_wI h471 47 1 (nI 6)).1 47 1 = nI 6 := (em_we _ _ _ _).trans (rfl)
  have f483 : (am_wI h471 47 1 (nI 6)).1 47 2 = nI n := (em_wn _ _ (by omega)).trans f477
  have f484 : kF 36 h (am_wI h471 47 1 (nI 6)) := kF_w (by omega) f478
  have f485 : scq 36 84 h (am_wI h471 47 1 (nI 6)) := scq_w (by omega) f479
  generalize am_wI h471 47 1 (nI 6) = h480 at f481 f482 f483 f484 f485 ⊢
  refine am_goX 3 (show (Value.ref 47).category = 1 ∧ am_sh h480 47 = some (2, 0) ∧ pz_S 2 (some .boolean) am_r113 1 Q 43 [(0, .ref 47), (1, .ref 36)] [.int (h480.1 47 2), .ref 47] h480 from ⟨rfl, ex_47 f481, ?_⟩)
  rw [show h480.1 47 2 = nI n from f483]
  refine am_goX 3 (show am_sh h480 47 = some (2, 0) ∧ narrow (am_fty 2 2) (.int ((nI n) - (Int32.ofInt 1))) = .int ((nI n) - (Int32.ofInt 1)) ∧ fits (am_fty 2 2) (.int ((nI n) - (Int32.ofInt 1))) = true ∧ pz_S 2 (some .boolean) am_r113 1 Q 48 [(0, .ref 47), (1, .ref 36)] [] (am_wI h480 47 2 ((nI n) - (Int32.ofInt 1))) from ⟨ex_47 f481, rfl, rfl, ?_⟩)
  have f487 : ex_P (am_wI h480 47 2 ((nI n) - (Int32.ofInt 1))) := f481
  have f488 : (am_wI h480 47 2 ((nI n) - (Int32.ofInt 1))).1 47 1 = nI 6 := (em_wn _ _ (by omega)).trans f482
  have f489 : (am_wI h480 47 2 ((nI n) - (Int32.ofInt 1))).1 47 2 = nI (n - 1) := (em_we _ _ _ _).trans ((dn_s (by omega) rfl rfl))
  have f490 : kF 36 h (am_wI h480 47 2 ((nI n) - (Int32.ofInt 1))) := kF_w (by omega) f484
  have f491 : scq 36 84 h (am_wI h480 47 2 ((nI n) - (Int32.ofInt 1))) := scq_w (by omega) f485
  generalize am_wI h480 47 2 ((nI n) - (Int32.ofInt 1)) = h486 at f487 f488 f489 f490 f491 ⊢
  exact am_goX 2 (show (∃ ty, (some .boolean) = some ty ∧ narrow ty (.int (Int32.ofInt 1)) = .int (Int32.ofInt 1)) ∧ h486.2.2.2.2 = 175 ∧ _ from ⟨⟨.boolean, rfl, rfl⟩, ex_175 f487, hQ _ f487 f490.1 f490.2 f488 f489 f491⟩)
theorem q_113_8 (hn0 : 0 < n) (hn : n ≤ 16) (hP : ex_P h) (e1 : h.1 47 1 = nI 8) (e2 : h.1 47 2 = nI n) (hQ : ∀ h1, ex_P h1 → h1.2 = h.2 → (∀ o k, ¬ o = 47 → ¬ (36 ≤ o ∧ o ≤ 40) → h1.1 o k = h.1 o k) → h1.1 47 1 = nI 7 → h1.1 47 2 = nI (n - 1) → scq 36 89 h h1 → Q (some (.int (Int32.ofInt 1))) h1) : am_call am_cod 2 113 [.ref 47, .ref 36] h Q := by
  refine pz_call (n := 113) (nL := 2) (rt := (some .boolean)) (rows := am_r113) (d := 1) (by decide +kernel) (by decide +kernel) rfl (by funext pc; rfl) (ex_175 hP) (by exact Nat.le_of_ble_eq_true rfl) ?_
  have hX := kF_0 (D := 36) (h := h)
  refine am_goX 2 (show am_sh h 47 = some (2, 0) ∧ pz_S 2 (some .boolean) am_r113 1 Q 4 [(0, .ref 47), (1, .ref 36)] [.int (h.1 47 2)] h from ⟨ex_47 hP, ?_⟩)
  rw [show h.1 47 2 = nI n from e2]
  refine am_goX 1 (show (¬ (nI n) = 0 → pz_S 2 (some .boolean) am_r113 1 Q 9 [(0, .ref 47), (1, .ref 36)] [] h) ∧ (¬ ¬ (nI n) = 0 → pz_S 2 (some .boolean) am_r113 1 Q 7 [(0, .ref 47), (1, .ref 36)] [] h) from ⟨fun _ => ?_, fun hz => absurd (nI_n0 hn0 (by omega)) hz⟩)
  refine am_goX 3 (show am_sh h 47 = some (2, 0) ∧ pz_S 2 (some .boolean) am_r113 1 Q 14 [(0, .ref 47), (1, .ref 36)] [am_rf (h.2.2.1 47 0), .ref 36] h from ⟨ex_47 hP, ?_⟩)
  rw [show am_rf (h.2.2.1 47 0) = .ref 48 from congrArg am_rf (ex_r47_0 hP)]
  refine am_goX 2 (show am_sh h 47 = some (2, 0) ∧ pz_S 2 (some .boolean) am_r113 1 Q 18 [(0, .ref 47), (1, .ref 36)] [.int (h.1 47 1), .ref 48, .ref 36] h from ⟨ex_47 hP, ?_⟩)
  rw [show h.1 47 1 = nI 8 from e1]
  refine am_goX 1 (show ∃ jj nn : Nat, (am_sh h 48 = some (16, nn) ∨ am_sh h 48 = some (17, nn)) ∧ jj < nn ∧ nI 8 = nI jj ∧ pz_S 2 (some .boolean) am_r113 1 Q 19 [(0, .ref 47), (1, .ref 36)] [am_rf (h.2.2.1 48 jj), .ref 36] h from ⟨8, 16, Or.inr (ex_48 hP), by decide, rfl, ?_⟩)
  rw [show am_rf (h.2.2.1 48 8) = .ref 89 from congrArg am_rf (ex_r48_8 hP)]
  refine am_goX 1 (show am_rc h 36 6 ∧ 0 ≤ 8 ∧ h.2.2.2.2 + am_al 99 ≤ 175 ∧ am_call am_cod 1 99 [.ref 36, .ref 89] h (fun vv h' => pz_S 2 (some .boolean) am_r113 1 Q 22 [(0, .ref 47), (1, .ref 36)] (vv.toList ++ []) h') from ⟨Or.inl ⟨by decide, ex_36 hP⟩, by decide, ex_lim hP rfl, am_call.up (q_99 stO_36 stO_89 (by decide) hP (fun h492 f493 f494 f495 f496 => ?_)) (by decide)⟩)
  have f497 : h492.1 47 1 = nI 8 := (f495 47 1 (by omega)).trans e1
  have f498 : h492.1 47 2 = nI n := (f495 47 2 (by omega)).trans e2
  have f499 : kF 36 h h492 := kF_c hX f494 f495
  have f500 : scq 36 89 h h492 := scq_b hX (fun a u1 u2 => by omega) f496
  refine am_goX 3 (show am_sh h492 47 = some (2, 0) ∧ pz_S 2 (some .boolean) am_r113 1 Q 27 [(0, .ref 47), (1, .ref 36)] [.int (h492.1 47 1), .ref 47] h492 from ⟨ex_47 f493, ?_⟩)
  rw [show h492.1 47 1 = nI 8 from f497]
  refine am_goX 6 (show ¬ ((Int8.ofInt 16).toInt32) = 0 ∧ pz_S 2 (some .boolean) am_r113 1 Q 35 [(0, .ref 47), (1, .ref 36)] [.int ((((nI 8) + ((Int8.ofInt 16).toInt32)) - (Int32.ofInt 1)) - (((nI 8) + ((Int8.ofInt 16).toInt32)) - (Int32.ofInt 1)) / ((Int8.ofInt 16).toInt32) * ((Int8.ofInt 16).toInt32)), .ref 47] h492 from ⟨by decide, ?_⟩)
  rw [show (((nI 8) + ((Int8.ofInt 16).toInt32)) - (Int32.ofInt 1)) - (((nI 8) + ((Int8.ofInt 16).toInt32)) - (Int32.ofInt 1)) / ((Int8.ofInt 16).toInt32) * ((Int8.ofInt 16).toInt32) = nI 7 from (by decide)]
  refine am_goX 1 (show am_sh h492 47 = some (2, 0) ∧ narrow (am_fty 2 1) (.int (nI 7)) = .int (nI 7) ∧ fits (am_fty 2 1) (.int (nI 7)) = true ∧ pz_S 2 (some .boolean) am_r113 1 Q 38 [(0, .ref 47), (1, .ref 36)] [] (am_wI h492 47 1 (nI 7)) from ⟨ex_47 f493, rfl, rfl, ?_⟩)
  have f502 : ex_P (am_wI h492 47 1 (nI 7)) := f493
  have f503 : (am_wI h492 47 1 (nI 7)).1 47 1 = nI 7 := (em_we _ _ _ _).trans (rfl)
  have f504 : (am_wI h492 47 1 (nI 7)).1 47 2 = nI n := (em_wn _ _ (by omega)).trans f498
  have f505 : kF 36 h (am_wI h492 47 1 (nI 7)) := kF_w (by omega) f499
  have f506 : scq 36 89 h (am_wI h492 47 1 (nI 7)) := scq_w (by omega) f500
  generalize am_wI h492 47 1 (nI 7) = h501 at f502 f503 f504 f505 f506 ⊢
  refine am_goX 3 (show (Value.ref 47).category = 1 ∧ am_sh h501 47 = some (2, 0) ∧ pz_S 2 (some .boolean) am_r113 1 Q 43 [(0, .ref 47), (1, .ref 36)] [.int (h501.1 47 2), .ref 47] h501 from ⟨rfl, ex_47 f502, ?_⟩)
  rw [show h501.1 47 2 = nI n from f504]
  refine am_goX 3 (show am_sh h501 47 = some (2, 0) ∧ narrow (am_fty 2 2) (.int ((nI n) - (Int32.ofInt 1))) = .int ((nI n) - (Int32.ofInt 1)) ∧ fits (am_fty 2 2) (.int ((nI n) - (Int32.ofInt 1))) = true ∧ pz_S 2 (some .boolean) am_r113 1 Q 48 [(0, .ref 47), (1, .ref 36)] [] (am_wI h501 47 2 ((nI n) - (Int32.ofInt 1))) from ⟨ex_47 f502, rfl, rfl, ?_⟩)
  have f508 : ex_P (am_wI h501 47 2 ((nI n) - (Int32.ofInt 1))) := f502
  have f509 : (am_wI h501 47 2 ((nI n) - (Int32.ofInt 1))).1 47 1 = nI 7 := (em_wn _ _ (by omega)).trans f503
  have f510 : (am_wI h501 47 2 ((nI n) - (Int32.ofInt 1))).1 47 2 = nI (n - 1) := (em_we _ _ _ _).trans ((dn_s (by omega) rfl rfl))
  have f511 : kF 36 h (am_wI h501 47 2 ((nI n) - (Int32.ofInt 1))) := kF_w (by omega) f505
  have f512 : scq 36 89 h (am_wI h501 47 2 ((nI n) - (Int32.ofInt 1))) := scq_w (by omega) f506
  generalize am_wI h501 47 2 ((nI n) - (Int32.ofInt 1)) = h507 at f508 f509 f510 f511 f512 ⊢
  exact am_goX 2 (show (∃ ty, (some .boolean) = some ty ∧ narrow ty (.int (Int32.ofInt 1)) = .int (Int32.ofInt 1)) ∧ h507.2.2.2.2 = 175 ∧ _ from ⟨⟨.boolean, rfl, rfl⟩, ex_175 f508, hQ _ f508 f511.1 f511.2 f509 f510 f512⟩)
theorem q_113_9 (hn0 : 0 < n) (hn : n ≤ 16) (hP : ex_P h) (e1 : h.1 47 1 = nI 9) (e2 : h.1 47 2 = nI n) (hQ : ∀ h1, ex_P h1 → h1.2 = h.2 → (∀ o k, ¬ o = 47 → ¬ (36 ≤ o ∧ o ≤ 40) → h1.1 o k = h.1 o k) → h1.1 47 1 = nI 8 → h1.1 47 2 = nI (n - 1) → scq 36 94 h h1 → Q (some (.int (Int32.ofInt 1))) h1) : am_call am_cod 2 113 [.ref 47, .ref 36] h Q := by
  refine pz_call (n := 113) (nL := 2) (rt := (some .boolean)) (rows := am_r113) (d := 1) (by decide +kernel) (by decide +kernel) rfl (by funext pc; rfl) (ex_175 hP) (by exact Nat.le_of_ble_eq_true rfl) ?_
  have hX := kF_0 (D := 36) (h := h)
  refine am_goX 2 (show am_sh h 47 = some (2, 0) ∧ pz_S 2 (some .boolean) am_r113 1 Q 4 [(0, .ref 47), (1, .ref 36)] [.int (h.1 47 2)] h from ⟨ex_47 hP, ?_⟩)
  rw [show h.1 47 2 = nI n from e2]
  refine am_goX 1 (show (¬ (nI n) = 0 → pz_S 2 (some .boolean) am_r113 1 Q 9 [(0, .ref 47), (1, .ref 36)] [] h) ∧ (¬ ¬ (nI n) = 0 → pz_S 2 (some .boolean) am_r113 1 Q 7 [(0, .ref 47), (1, .ref 36)] [] h) from ⟨fun _ => ?_, fun hz => absurd (nI_n0 hn0 (by omega)) hz⟩)
  refine am_goX 3 (show am_sh h 47 = some (2, 0) ∧ pz_S 2 (some .boolean) am_r113 1 Q 14 [(0, .ref 47), (1, .ref 36)] [am_rf (h.2.2.1 47 0), .ref 36] h from ⟨ex_47 hP, ?_⟩)
  rw [show am_rf (h.2.2.1 47 0) = .ref 48 from congrArg am_rf (ex_r47_0 hP)]
  refine am_goX 2 (show am_sh h 47 = some (2, 0) ∧ pz_S 2 (some .boolean) am_r113 1 Q 18 [(0, .ref 47), (1, .ref 36)] [.int (h.1 47 1), .ref 48, .ref 36] h from ⟨ex_47 hP, ?_⟩)
  rw [show h.1 47 1 = nI 9 from e1]
  refine am_goX 1 (show ∃ jj nn : Nat, (am_sh h 48 = some (16, nn) ∨ am_sh h 48 = some (17, nn)) ∧ jj < nn ∧ nI 9 = nI jj ∧ pz_S 2 (some .boolean) am_r113 1 Q 19 [(0, .ref 47), (1, .ref 36)] [am_rf (h.2.2.1 48 jj), .ref 36] h from ⟨9, 16, Or.inr (ex_48 hP), by decide, rfl, ?_⟩)
  rw [show am_rf (h.2.2.1 48 9) = .ref 94 from congrArg am_rf (ex_r48_9 hP)]
  refine am_goX 1 (show am_rc h 36 6 ∧ 0 ≤ 8 ∧ h.2.2.2.2 + am_al 99 ≤ 175 ∧ am_call am_cod 1 99 [.ref 36, .ref 94] h (fun vv h' => pz_S 2 (some .boolean) am_r113 1 Q 22 [(0, .ref 47), (1, .ref 36)] (vv.toList ++ []) h') from ⟨Or.inl ⟨by decide, ex_36 hP⟩, by decide, ex_lim hP rfl, am_call.up (q_99 stO_36 stO_94 (by decide) hP (fun h513 f514 f515 f516 f517 => ?_)) (by decide)⟩)
  have f518 : h513.1 47 1 = nI 9 := (f516 47 1 (by omega)).trans e1
  have f519 : h513.1 47 2 = nI n := (f516 47 2 (by omega)).trans e2
  have f520 : kF 36 h h513 := kF_c hX f515 f516
  have f521 : scq 36 94 h h513 := scq_b hX (fun a u1 u2 => by omega) f517
  refine am_goX 3 (show am_sh h513 47 = some (2, 0) ∧ pz_S 2 (some .boolean) am_r113 1 Q 27 [(0, .ref 47), (1, .ref 36)] [.int (h513.1 47 1), .ref 47] h513 from ⟨ex_47 f514, ?_⟩)
  rw [show h513.1 47 1 = nI 9 from f518]
  refine am_goX 6 (show ¬ ((Int8.ofInt 16).toInt32) = 0 ∧ pz_S 2 (some .boolean) am_r113 1 Q 35 [(0, .ref 47), (1, .ref 36)] [.int ((((nI 9) + ((Int8.ofInt 16).toInt32)) - (Int32.ofInt 1)) - (((nI 9) + ((Int8.ofInt 16).toInt32)) - (Int32.ofInt 1)) / ((Int8.ofInt 16).toInt32) * ((Int8.ofInt 16).toInt32)), .ref 47] h513 from ⟨by decide, ?_⟩)
  rw [show (((nI 9) + ((Int8.ofInt 16).toInt32)) - (Int32.ofInt 1)) - (((nI 9) + ((Int8.ofInt 16).toInt32)) - (Int32.ofInt 1)) / ((Int8.ofInt 16).toInt32) * ((Int8.ofInt 16).toInt32) = nI 8 from (by decide)]
  refine am_goX 1 (show am_sh h513 47 = some (2, 0) ∧ narrow (am_fty 2 1) (.int (nI 8)) = .int (nI 8) ∧ fits (am_fty 2 1) (.int (nI 8)) = true ∧ pz_S 2 (some .boolean) am_r113 1 Q 38 [(0, .ref 47), (1, .ref 36)] [] (am_wI h513 47 1 (nI 8)) from ⟨ex_47 f514, rfl, rfl, ?_⟩)
  have f523 : ex_P (am_wI h513 47 1 (nI 8)) := f514
  have f524 : (am_wI h513 47 1 (nI 8)).1 47 1 = nI 8 := (em_we _ _ _ _).trans (rfl)
  have f525 : (am_wI h513 47 1 (nI 8)).1 47 2 = nI n := (em_wn _ _ (by omega)).trans f519
  have f526 : kF 36 h (am_wI h513 47 1 (nI 8)) := kF_w (by omega) f520
  have f527 : scq 36 94 h (am_wI h513 47 1 (nI 8)) := scq_w (by omega) f521
  generalize am_wI h513 47 1 (nI 8) = h522 at f523 f524 f525 f526 f527 ⊢
  refine am_goX 3 (show (Value.ref 47).category = 1 ∧ am_sh h522 47 = some (2, 0) ∧ pz_S 2 (some .boolean) am_r113 1 Q 43 [(0, .ref 47), (1, .ref 36)] [.int (h522.1 47 2), .ref 47] h522 from ⟨rfl, ex_47 f523, ?_⟩)
  rw [show h522.1 47 2 = nI n from f525]
  refine am_goX 3 (show am_sh h522 47 = some (2, 0) ∧ narrow (am_fty 2 2) (.int ((nI n) - (Int32.ofInt 1))) = .int ((nI n) - (Int32.ofInt 1)) ∧ fits (am_fty 2 2) (.int ((nI n) - (Int32.ofInt 1))) = true ∧ pz_S 2 (some .boolean) am_r113 1 Q 48 [(0, .ref 47), (1, .ref 36)] [] (am_wI h522 47 2 ((nI n) - (Int32.ofInt 1))) from ⟨ex_47 f523, rfl, rfl, ?_⟩)
  have f529 : ex_P (am_wI h522 47 2 ((nI n) - (Int32.ofInt 1))) := f523
  have f530 : (am_wI h522 47 2 ((nI n) - (Int32.ofInt 1))).1 47 1 = nI 8 := (em_wn _ _ (by omega)).trans f524
  have f531 : (am_wI h522 47 2 ((nI n) - (Int32.ofInt 1))).1 47 2 = nI (n - 1) := (em_we _ _ _ _).trans ((dn_s (by omega) rfl rfl))
  have f532 : kF 36 h (am_wI h522 47 2 ((nI n) - (Int32.ofInt 1))) := kF_w (by omega) f526
  have f533 : scq 36 94 h (am_wI h522 47 2 ((nI n) - (Int32.ofInt 1))) := scq_w (by omega) f527
  generalize am_wI h522 47 2 ((nI n) - (Int32.ofInt 1)) = h528 at f529 f530 f531 f532 f533 ⊢
  exact am_goX 2 (show (∃ ty, (some .boolean) = some ty ∧ narrow ty (.int (Int32.ofInt 1)) = .int (Int32.ofInt 1)) ∧ h528.2.2.2.2 = 175 ∧ _ from ⟨⟨.boolean, rfl, rfl⟩, ex_175 f529, hQ _ f529 f532.1 f532.2 f530 f531 f533⟩)
theorem q_113_10 (hn0 : 0 < n) (hn : n ≤ 16) (hP : ex_P h) (e1 : h.1 47 1 = nI 10) (e2 : h.1 47 2 = nI n) (hQ : ∀ h1, ex_P h1 → h1.2 = h.2 → (∀ o k, ¬ o = 47 → ¬ (36 ≤ o ∧ o ≤ 40) → h1.1 o k = h.1 o k) → h1.1 47 1 = nI 9 → h1.1 47 2 = nI (n - 1) → scq 36 99 h h1 → Q (some (.int (Int32.ofInt 1))) h1) : am_call am_cod 2 113 [.ref 47, .ref 36] h Q := by
  refine pz_call (n := 113) (nL := 2) (rt := (some .boolean)) (rows := am_r113) (d := 1) (by decide +kernel) (by decide +kernel) rfl (by funext pc; rfl) (ex_175 hP) (by exact Nat.le_of_ble_eq_true rfl) ?_
  have hX := kF_0 (D := 36) (h := h)
  refine am_goX 2 (show am_sh h 47 = some (2, 0) ∧ pz_S 2 (some .boolean) am_r113 1 Q 4 [(0, .ref 47), (1, .ref 36)] [.int (h.1 47 2)] h from ⟨ex_47 hP, ?_⟩)
  rw [show h.1 47 2 = nI n from e2]
  refine am_goX 1 (show (¬ (nI n) = 0 → pz_S 2 (some .boolean) am_r113 1 Q 9 [(0, .ref 47), (1, .ref 36)] [] h) ∧ (¬ ¬ (nI n) = 0 → pz_S 2 (some .boolean) am_r113 1 Q 7 [(0, .ref 47), (1, .ref 36)] [] h) from ⟨fun _ => ?_, fun hz => absurd (nI_n0 hn0 (by omega)) hz⟩)
  refine am_goX 3 (show am_sh h 47 = some (2, 0) ∧ pz_S 2 (some .boolean) am_r113 1 Q 14 [(0, .ref 47), (1, .ref 36)] [am_rf (h.2.2.1 47 0), .ref 36] h from ⟨ex_47 hP, ?_⟩)
  rw [show am_rf (h.2.2.1 47 0) = .ref 48 from congrArg am_rf (ex_r47_0 hP)]
  refine am_goX 2 (show am_sh h 47 = some (2, 0) ∧ pz_S 2 (some .boolean) am_r113 1 Q 18 [(0, .ref 47), (1, .ref 36)] [.int (h.1 47 1), .ref 48, .ref 36] h from ⟨ex_47 hP, ?_⟩)
  rw [show h.1 47 1 = nI 10 from e1]
  refine am_goX 1 (show ∃ jj nn : Nat, (am_sh h 48 = some (16, nn) ∨ am_sh h 48 = some (17, nn)) ∧ jj < nn ∧ nI 10 = nI jj ∧ pz_S 2 (some .boolean) am_r113 1 Q 19 [(0, .ref 47), (1, .ref 36)] [am_rf (h.2.2.1 48 jj), .ref 36] h from ⟨10, 16, Or.inr (ex_48 hP), by decide, rfl, ?_⟩)
  rw [show am_rf (h.2.2.1 48 10) = .ref 99 from congrArg am_rf (ex_r48_10 hP)]
  refine am_goX 1 (show am_rc h 36 6 ∧ 0 ≤ 8 ∧ h.2.2.2.2 + am_al 99 ≤ 175 ∧ am_call am_cod 1 99 [.ref 36, .ref 99] h (fun vv h' => pz_S 2 (some .boolean) am_r113 1 Q 22 [(0, .ref 47), (1, .ref 36)] (vv.toList ++ []) h') from ⟨Or.inl ⟨by decide, ex_36 hP⟩, by decide, ex_lim hP rfl, am_call.up (q_99 stO_36 stO_99 (by decide) hP (fun h534 f535 f536 f537 f538 => ?_)) (by decide)⟩)
  have f539 : h534.1 47 1 = nI 10 := (f537 47 1 (by omega)).trans e1
  have f540 : h534.1 47 2 = nI n := (f537 47 2 (by omega)).trans e2
  have f541 : kF 36 h h534 := kF_c hX f536 f537
  have f542 : scq 36 99 h h534 := scq_b hX (fun a u1 u2 => by omega) f538
  refine am_goX 3 (show am_sh h534 47 = some (2, 0) ∧ pz_S 2 (some .boolean) am_r113 1 Q 27 [(0, .ref 47), (1, .ref 36)] [.int (h534.1 47 1), .ref 47] h534 from ⟨ex_47 f535, ?_⟩)
  rw [show h534.1 47 1 = nI 10 from f539]
  refine am_goX 6 (show ¬ ((Int8.ofInt 16).toInt32) = 0 ∧ pz_S 2 (some .boolean) am_r113 1 Q 35 [(0, .ref 47), (1, .ref 36)] [.int ((((nI 10) + ((Int8.ofInt 16).toInt32)) - (Int32.ofInt 1)) - (((nI 10) + ((Int8.ofInt 16).toInt32)) - (Int32.ofInt 1)) / ((Int8.ofInt 16).toInt32) * ((Int8.ofInt 16).toInt32)), .ref 47] h534 from ⟨by decide, ?_⟩)
  rw [show (((nI 10) + ((Int8.ofInt 16).toInt32)) - (Int32.ofInt 1)) - (((nI 10) + ((Int8.ofInt 16).toInt32)) - (Int32.ofInt 1)) / ((Int8.ofInt 16).toInt32) * ((Int8.ofInt 16).toInt32) = nI 9 from (by decide)]
  refine am_goX 1 (show am_sh h534 47 = some (2, 0) ∧ narrow (am_fty 2 1) (.int (nI 9)) = .int (nI 9) ∧ fits (am_fty 2 1) (.int (nI 9)) = true ∧ pz_S 2 (some .boolean) am_r113 1 Q 38 [(0, .ref 47), (1, .ref 36)] [] (am_wI h534 47 1 (nI 9)) from ⟨ex_47 f535, rfl, rfl, ?_⟩)
  have f544 : ex_P (am_wI h534 47 1 (nI 9)) := f535
  have f545 : (am_wI h534 47 1 (nI 9)).1 47 1 = nI 9 := (em_we _ _ _ _).trans (rfl)
  have f546 : (am_wI h534 47 1 (nI 9)).1 47 2 = nI n := (em_wn _ _ (by omega)).trans f540
  have f547 : kF 36 h (am_wI h534 47 1 (nI 9)) := kF_w (by omega) f541
  have f548 : scq 36 99 h (am_wI h534 47 1 (nI 9)) := scq_w (by omega) f542
  generalize am_wI h534 47 1 (nI 9) = h543 at f544 f545 f546 f547 f548 ⊢
  refine am_goX 3 (show (Value.ref 47).category = 1 ∧ am_sh h543 47 = some (2, 0) ∧ pz_S 2 (some .boolean) am_r113 1 Q 43 [(0, .ref 47), (1, .ref 36)] [.int (h543.1 47 2), .ref 47] h543 from ⟨rfl, ex_47 f544, ?_⟩)
  rw [show h543.1 47 2 = nI n from f546]
  refine am_goX 3 (show am_sh h543 47 = some (2, 0) ∧ narrow (am_fty 2 2) (.int ((nI n) - (Int32.ofInt 1))) = .int ((nI n) - (Int32.ofInt 1)) ∧ fits (am_fty 2 2) (.int ((nI n) - (Int32.ofInt 1))) = true ∧ pz_S 2 (some .boolean) am_r113 1 Q 48 [(0, .ref 47), (1, .ref 36)] [] (am_wI h543 47 2 ((nI n) - (Int32.ofInt 1))) from ⟨ex_47 f544, rfl, rfl, ?_⟩)
  have f550 : ex_P (am_wI h543 47 2 ((nI n) - (Int32.ofInt 1))) := f544
  have f551 : (am_wI h543 47 2 ((nI n) - (Int32.ofInt 1))).1 47 1 = nI 9 := (em_wn _ _ (by omega)).trans f545
  have f552 : (am_wI h543 47 2 ((nI n) - (Int32.ofInt 1))).1 47 2 = nI (n - 1) := (em_we _ _ _ _).trans ((dn_s (by omega) rfl rfl))
  have f553 : kF 36 h (am_wI h543 47 2 ((nI n) - (Int32.ofInt 1))) := kF_w (by omega) f547
  have f554 : scq 36 99 h (am_wI h543 47 2 ((nI n) - (Int32.ofInt 1))) := scq_w (by omega) f548
  generalize am_wI h543 47 2 ((nI n) - (Int32.ofInt 1)) = h549 at f550 f551 f552 f553 f554 ⊢
  exact am_goX 2 (show (∃ ty, (some .boolean) = some ty ∧ narrow ty (.int (Int32.ofInt 1)) = .int (Int32.ofInt 1)) ∧ h549.2.2.2.2 = 175 ∧ _ from ⟨⟨.boolean, rfl, rfl⟩, ex_175 f550, hQ _ f550 f553.1 f553.2 f551 f552 f554⟩)
theorem q_113_11 (hn0 : 0 < n) (hn : n ≤ 16) (hP : ex_P h) (e1 : h.1 47 1 = nI 11) (e2 : h.1 47 2 = nI n) (hQ : ∀ h1, ex_P h1 → h1.2 = h.2 → (∀ o k, ¬ o = 47 → ¬ (36 ≤ o ∧ o ≤ 40) → h1.1 o k = h.1 o k) → h1.1 47 1 = nI 10 → h1.1 47 2 = nI (n - 1) → scq 36 104 h h1 → Q (some (.int (Int32.ofInt 1))) h1) : am_call am_cod 2 113 [.ref 47, .ref 36] h Q := by
  refine pz_call (n := 113) (nL := 2) (rt := (some .boolean)) (rows := am_r113) (d := 1) (by decide +kernel) (by decide +kernel) rfl (by funext pc; rfl) (ex_175 hP) (by exact Nat.le_of_ble_eq_true rfl) ?_
  have hX := kF_0 (D := 36) (h := h)
  refine am_goX 2 (show am_sh h 47 = some (2, 0) ∧ pz_S 2 (some .boolean) am_r113 1 Q 4 [(0, .ref 47), (1, .ref 36)] [.int (h.1 47 2)] h from ⟨ex_47 hP, ?_⟩)
  rw [show h.1 47 2 = nI n from e2]
  refine am_goX 1 (show (¬ (nI n) = 0 → pz_S 2 (some .boolean) am_r113 1 Q 9 [(0, .ref 47), (1, .ref 36)] [] h) ∧ (¬ ¬ (nI n) = 0 → pz_S 2 (some .boolean) am_r113 1 Q 7 [(0, .ref 47), (1, .ref 36)] [] h) from ⟨fun _ => ?_, fun hz => absurd (nI_n0 hn0 (by omega)) hz⟩)
  refine am_goX 3 (show am_sh h 47 = some (2, 0) ∧ pz_S 2 (some .boolean) am_r113 1 Q 14 [(0, .ref 47), (1, .ref 36)] [am_rf (h.2.2.1 47 0), .ref 36] h from ⟨ex_47 hP, ?_⟩)
  rw [show am_rf (h.2.2.1 47 0) = .ref 48 from congrArg am_rf (ex_r47_0 hP)]
  refine am_goX 2 (show am_sh h 47 = some (2, 0) ∧ pz_S 2 (some .boolean) am_r113 1 Q 18 [(0, .ref 47), (1, .ref 36)] [.int (h.1 47 1), .ref 48, .ref 36] h from ⟨ex_47 hP, ?_⟩)
  rw [show h.1 47 1 = nI 11 from e1]
  refine am_goX 1 (show ∃ jj nn : Nat, (am_sh h 48 = some (16, nn) ∨ am_sh h 48 = some (17, nn)) ∧ jj < nn ∧ nI 11 = nI jj ∧ pz_S 2 (some .boolean) am_r113 1 Q 19 [(0, .ref 47), (1, .ref 36)] [am_rf (h.2.2.1 48 jj), .ref 36] h from ⟨11, 16, Or.inr (ex_48 hP), by decide, rfl, ?_⟩)
  rw [show am_rf (h.2.2.1 48 11) = .ref 104 from congrArg am_rf (ex_r48_11 hP)]
  refine am_goX 1 (show am_rc h 36 6 ∧ 0 ≤ 8 ∧ h.2.2.2.2 + am_al 99 ≤ 175 ∧ am_call am_cod 1 99 [.ref 36, .ref 104] h (fun vv h' => pz_S 2 (some .boolean) am_r113 1 Q 22 [(0, .ref 47), (1, .ref 36)] (vv.toList ++ []) h') from ⟨Or.inl ⟨by decide, ex_36 hP⟩, by decide, ex_lim hP rfl, am_call.up (q_99 stO_36 stO_104 (by decide) hP (fun h555 f556 f557 f558 f559 => ?_)) (by decide)⟩)
  have f560 : h555.1 47 1 = nI 11 := (f558 47 1 (by omega)).trans e1
  have f561 : h555.1 47 2 = nI n := (f558 47 2 (by omega)).trans e2
  have f562 : kF 36 h h555 := kF_c hX f557 f558
  have f563 : scq 36 104 h h555 := scq_b hX (fun a u1 u2 => by omega) f559
  refine am_goX 3 (show am_sh h555 47 = some (2, 0) ∧ pz_S 2 (some .boolean) am_r113 1 Q 27 [(0, .ref 47), (1, .ref 36)] [.int (h555.1 47 1), .ref 47] h555 from ⟨ex_47 f556, ?_⟩)
  rw [show h555.1 47 1 = nI 11 from f560]
  refine am_goX 6 (show ¬ ((Int8.ofInt 16).toInt32) = 0 ∧ pz_S 2 (some .boolean) am_r113 1 Q 35 [(0, .ref 47), (1, .ref 36)] [.int ((((nI 11) + ((Int8.ofInt 16).toInt32)) - (Int32.ofInt 1)) - (((nI 11) + ((Int8.ofInt 16).toInt32)) - (Int32.ofInt 1)) / ((Int8.ofInt 16).toInt32) * ((Int8.ofInt 16).toInt32)), .ref 47] h555 from ⟨by decide, ?_⟩)
  rw [show (((nI 11) + ((Int8.ofInt 16).toInt32)) - (Int32.ofInt 1)) - (((nI 11) + ((Int8.ofInt 16).toInt32)) - (Int32.ofInt 1)) / ((Int8.ofInt 16).toInt32) * ((Int8.ofInt 16).toInt32) = nI 10 from (by decide)]
  refine am_goX 1 (show am_sh h555 47 = some (2, 0) ∧ narrow (am_fty 2 1) (.int (nI 10)) = .int (nI 10) ∧ fits (am_fty 2 1) (.int (nI 10)) = true ∧ pz_S 2 (some .boolean) am_r113 1 Q 38 [(0, .ref 47), (1, .ref 36)] [] (am_wI h555 47 1 (nI 10)) from ⟨ex_47 f556, rfl, rfl, ?_⟩)
  have f565 : ex_P (am_wI h555 47 1 (nI 10)) := f556
  have f566 : (am_wI h555 47 1 (nI 10)).1 47 1 = nI 10 := (em_we _ _ _ _).trans (rfl)
  have f567 : (am_wI h555 47 1 (nI 10)).1 47 2 = nI n := (em_wn _ _ (by omega)).trans f561
  have f568 : kF 36 h (am_wI h555 47 1 (nI 10)) := kF_w (by omega) f562
  have f569 : scq 36 104 h (am_wI h555 47 1 (nI 10)) := scq_w (by omega) f563
  generalize am_wI h555 47 1 (nI 10) = h564 at f565 f566 f567 f568 f569 ⊢
  refine am_goX 3 (show (Value.ref 47).category = 1 ∧ am_sh h564 47 = some (2, 0) ∧ pz_S 2 (some .boolean) am_r113 1 Q 43 [(0, .ref 47), (1, .ref 36)] [.int (h564.1 47 2), .ref 47] h564 from ⟨rfl, ex_47 f565, ?_⟩)
  rw [show h564.1 47 2 = nI n from f567]
  refine am_goX 3 (show am_sh h564 47 = some (2, 0) ∧ narrow (am_fty 2 2) (.int ((nI n) - (Int32.ofInt 1))) = .int ((nI n) - (Int32.ofInt 1)) ∧ fits (am_fty 2 2) (.int ((nI n) - (Int32.ofInt 1))) = true ∧ pz_S 2 (some .boolean) am_r113 1 Q 48 [(0, .ref 47), (1, .ref 36)] [] (am_wI h564 47 2 ((nI n) - (Int32.ofInt 1))) from ⟨ex_47 f565, rfl, rfl, ?_⟩)
  have f571 : ex_P (am_wI h564 47 2 ((nI n) - (Int32.ofInt 1))) := f565
  have f572 : (am_wI h564 47 2 ((nI n) - (Int32.ofInt 1))).1 47 1 = nI 10 := (em_wn _ _ (by omega)).trans f566
  have f573 : (am_wI h564 47 2 ((nI n) - (Int32.ofInt 1))).1 47 2 = nI (n - 1) := (em_we _ _ _ _).trans ((dn_s (by omega) rfl rfl))
  have f574 : kF 36 h (am_wI h564 47 2 ((nI n) - (Int32.ofInt 1))) := kF_w (by omega) f568
  have f575 : scq 36 104 h (am_wI h564 47 2 ((nI n) - (Int32.ofInt 1))) := scq_w (by omega) f569
  generalize am_wI h564 47 2 ((nI n) - (Int32.ofInt 1)) = h570 at f571 f572 f573 f574 f575 ⊢
  exact am_goX 2 (show (∃ ty, (some .boolean) = some ty ∧ narrow ty (.int (Int32.ofInt 1)) = .int (Int32.ofInt 1)) ∧ h570.2.2.2.2 = 175 ∧ _ from ⟨⟨.boolean, rfl, rfl⟩, ex_175 f571, hQ _ f571 f574.1 f574.2 f572 f573 f575⟩)
theorem q_113_12 (hn0 : 0 < n) (hn : n ≤ 16) (hP : ex_P h) (e1 : h.1 47 1 = nI 12) (e2 : h.1 47 2 = nI n) (hQ : ∀ h1, ex_P h1 → h1.2 = h.2 → (∀ o k, ¬ o = 47 → ¬ (36 ≤ o ∧ o ≤ 40) → h1.1 o k = h.1 o k) → h1.1 47 1 = nI 11 → h1.1 47 2 = nI (n - 1) → scq 36 109 h h1 → Q (some (.int (Int32.ofInt 1))) h1) : am_call am_cod 2 113 [.ref 47, .ref 36] h Q := by
  refine pz_call (n := 113) (nL := 2) (rt := (some .boolean)) (rows := am_r113) (d := 1) (by decide +kernel) (by decide +kernel) rfl (by funext pc; rfl) (ex_175 hP) (by exact Nat.le_of_ble_eq_true rfl) ?_
  have hX := kF_0 (D := 36) (h := h)
  refine am_goX 2 (show am_sh h 47 = some (2, 0) ∧ pz_S 2 (some .boolean) am_r113 1 Q 4 [(0, .ref 47), (1, .ref 36)] [.int (h.1 47 2)] h from ⟨ex_47 hP, ?_⟩)
  rw [show h.1 47 2 = nI n from e2]
  refine am_goX 1 (show (¬ (nI n) = 0 → pz_S 2 (some .boolean) am_r113 1 Q 9 [(0, .ref 47), (1, .ref 36)] [] h) ∧ (¬ ¬ (nI n) = 0 → pz_S 2 (some .boolean) am_r113 1 Q 7 [(0, .ref 47), (1, .ref 36)] [] h) from ⟨fun _ => ?_, fun hz => absurd (nI_n0 hn0 (by omega)) hz⟩)
  refine am_goX 3 (show am_sh h 47 = some (2, 0) ∧ pz_S 2 (some .boolean) am_r113 1 Q 14 [(0, .ref 47), (1, .ref 36)] [am_rf (h.2.2.1 47 0), .ref 36] h from ⟨ex_47 hP, ?_⟩)
  rw [show am_rf (h.2.2.1 47 0) = .ref 48 from congrArg am_rf (ex_r47_0 hP)]
  refine am_goX 2 (show am_sh h 47 = some (2, 0) ∧ pz_S 2 (some .boolean) am_r113 1 Q 18 [(0, .ref 47), (1, .ref 36)] [.int (h.1 47 1), .ref 48, .ref 36] h from ⟨ex_47 hP, ?_⟩)
  rw [show h.1 47 1 = nI 12 from e1]
  refine am_goX 1 (show ∃ jj nn : Nat, (am_sh h 48 = some (16, nn) ∨ am_sh h 48 = some (17, nn)) ∧ jj < nn ∧ nI 12 = nI jj ∧ pz_S 2 (some .boolean) am_r113 1 Q 19 [(0, .ref 47), (1, .ref 36)] [am_rf (h.2.2.1 48 jj), .ref 36] h from ⟨12, 16, Or.inr (ex_48 hP), by decide, rfl, ?_⟩)
  rw [show am_rf (h.2.2.1 48 12) = .ref 109 from congrArg am_rf (ex_r48_12 hP)]
  refine am_goX 1 (show am_rc h 36 6 ∧ 0 ≤ 8 ∧ h.2.2.2.2 + am_al 99 ≤ 175 ∧ am_call am_cod 1 99 [.ref 36, .ref 109] h (fun vv h' => pz_S 2 (some .boolean) am_r113 1 Q 22 [(0, .ref 47), (1, .ref 36)] (vv.toList ++ []) h') from ⟨Or.inl ⟨by decide, ex_36 hP⟩, by decide, ex_lim hP rfl, am_call.up (q_99 stO_36 stO_109 (by decide) hP (fun h576 f577 f578 f579 f580 => ?_)) (by decide)⟩)
  have f581 : h576.1 47 1 = nI 12 := (f579 47 1 (by omega)).trans e1
  have f582 : h576.1 47 2 = nI n := (f579 47 2 (by omega)).trans e2
  have f583 : kF 36 h h576 := kF_c hX f578 f579
  have f584 : scq 36 109 h h576 := scq_b hX (fun a u1 u2 => by omega) f580
  refine am_goX 3 (show am_sh h576 47 = some (2, 0) ∧ pz_S 2 (some .boolean) am_r113 1 Q 27 [(0, .ref 47), (1, .ref 36)] [.int (h576.1 47 1), .ref 47] h576 from ⟨ex_47 f577, ?_⟩)
  rw [show h576.1 47 1 = nI 12 from f581]
  refine am_goX 6 (show ¬ ((Int8.ofInt 16).toInt32) = 0 ∧ pz_S 2 (some .boolean) am_r113 1 Q 35 [(0, .ref 47), (1, .ref 36)] [.int ((((nI 12) + ((Int8.ofInt 16).toInt32)) - (Int32.ofInt 1)) - (((nI 12) + ((Int8.ofInt 16).toInt32)) - (Int32.ofInt 1)) / ((Int8.ofInt 16).toInt32) * ((Int8.ofInt 16).toInt32)), .ref 47] h576 from ⟨by decide, ?_⟩)
  rw [show (((nI 12) + ((Int8.ofInt 16).toInt32)) - (Int32.ofInt 1)) - (((nI 12) + ((Int8.ofInt 16).toInt32)) - (Int32.ofInt 1)) / ((Int8.ofInt 16).toInt32) * ((Int8.ofInt 16).toInt32) = nI 11 from (by decide)]
  refine am_goX 1 (show am_sh h576 47 = some (2, 0) ∧ narrow (am_fty 2 1) (.int (nI 11)) = .int (nI 11) ∧ fits (am_fty 2 1) (.int (nI 11)) = true ∧ pz_S 2 (some .boolean) am_r113 1 Q 38 [(0, .ref 47), (1, .ref 36)] [] (am_wI h576 47 1 (nI 11)) from ⟨ex_47 f577, rfl, rfl, ?_⟩)
  have f586 : ex_P (am_wI h576 47 1 (nI 11)) := f577
  have f587 : (am_wI h576 47 1 (nI 11)).1 47 1 = nI 11 := (em_we _ _ _ _).trans (rfl)
  have f588 : (am_wI h576 47 1 (nI 11)).1 47 2 = nI n := (em_wn _ _ (by omega)).trans f582
  have f589 : kF 36 h (am_wI h576 47 1 (nI 11)) := kF_w (by omega) f583
  have f590 : scq 36 109 h (am_wI h576 47 1 (nI 11)) := scq_w (by omega) f584
  generalize am_wI h576 47 1 (nI 11) = h585 at f586 f587 f588 f589 f590 ⊢
  refine am_goX 3 (show (Value.ref 47).category = 1 ∧ am_sh h585 47 = some (2, 0) ∧ pz_S 2 (some .boolean) am_r113 1 Q 43 [(0, .ref 47), (1, .ref 36)] [.int (h585.1 47 2), .ref 47] h585 from ⟨rfl, ex_47 f586, ?_⟩)
  rw [show h585.1 47 2 = nI n from f588]
  refine am_goX 3 (show am_sh h585 47 = some (2, 0) ∧ narrow (am_fty 2 2) (.int ((nI n) - (Int32.ofInt 1))) = .int ((nI n) - (Int32.ofInt 1)) ∧ fits (am_fty 2 2) (.int ((nI n) - (Int32.ofInt 1))) = true ∧ pz_S 2 (some .boolean) am_r113 1 Q 48 [(0, .ref 47), (1, .ref 36)] [] (am_wI h585 47 2 ((nI n) - (Int32.ofInt 1))) from ⟨ex_47 f586, rfl, rfl, ?_⟩)
  have f592 : ex_P (am_wI h585 47 2 ((nI n) - (Int32.ofInt 1))) := f586
  have f593 : (am_wI h585 47 2 ((nI n) - (Int32.ofInt 1))).1 47 1 = nI 11 := (em_wn _ _ (by omega)).trans f587
  have f594 : (am_wI h585 47 2 ((nI n) - (Int32.ofInt 1))).1 47 2 = nI (n - 1) := (em_we _ _ _ _).trans ((dn_s (by omega) rfl rfl))
  have f595 : kF 36 h (am_wI h585 47 2 ((nI n) - (Int32.ofInt 1))) := kF_w (by omega) f589
  have f596 : scq 36 109 h (am_wI h585 47 2 ((nI n) - (Int32.ofInt 1))) := scq_w (by omega) f590
  generalize am_wI h585 47 2 ((nI n) - (Int32.ofInt 1)) = h591 at f592 f593 f594 f595 f596 ⊢
  exact am_goX 2 (show (∃ ty, (some .boolean) = some ty ∧ narrow ty (.int (Int32.ofInt 1)) = .int (Int32.ofInt 1)) ∧ h591.2.2.2.2 = 175 ∧ _ from ⟨⟨.boolean, rfl, rfl⟩, ex_175 f592, hQ _ f592 f595.1 f595.2 f593 f594 f596⟩)
theorem q_113_13 (hn0 : 0 < n) (hn : n ≤ 16) (hP : ex_P h) (e1 : h.1 47 1 = nI 13) (e2 : h.1 47 2 = nI n) (hQ : ∀ h1, ex_P h1 → h1.2 = h.2 → (∀ o k, ¬ o = 47 → ¬ (36 ≤ o ∧ o ≤ 40) → h1.1 o k = h.1 o k) → h1.1 47 1 = nI 12 → h1.1 47 2 = nI (n - 1) → scq 36 114 h h1 → Q (some (.int (Int32.ofInt 1))) h1) : am_call am_cod 2 113 [.ref 47, .ref 36] h Q := by
  refine pz_call (n := 113) (nL := 2) (rt := (some .boolean)) (rows := am_r113) (d := 1) (by decide +kernel) (by decide +kernel) rfl (by funext pc; rfl) (ex_175 hP) (by exact Nat.le_of_ble_eq_true rfl) ?_
  have hX := kF_0 (D := 36) (h := h)
  refine am_goX 2 (show am_sh h 47 = some (2, 0) ∧ pz_S 2 (some .boolean) am_r113 1 Q 4 [(0, .ref 47), (1, .ref 36)] [.int (h.1 47 2)] h from ⟨ex_47 hP, ?_⟩)
  rw [show h.1 47 2 = nI n from e2]
  refine am_goX 1 (show (¬ (nI n) = 0 → pz_S 2 (some .boolean) am_r113 1 Q 9 [(0, .ref 47), (1, .ref 36)] [] h) ∧ (¬ ¬ (nI n) = 0 → pz_S 2 (some .boolean) am_r113 1 Q 7 [(0, .ref 47), (1, .ref 36)] [] h) from ⟨fun _ => ?_, fun hz => absurd (nI_n0 hn0 (by omega)) hz⟩)
  refine am_goX 3 (show am_sh h 47 = some (2, 0) ∧ pz_S 2 (some .boolean) am_r113 1 Q 14 [(0, .ref 47), (1, .ref 36)] [am_rf (h.2.2.1 47 0), .ref 36] h from ⟨ex_47 hP, ?_⟩)
  rw [show am_rf (h.2.2.1 47 0) = .ref 48 from congrArg am_rf (ex_r47_0 hP)]
  refine am_goX 2 (show am_sh h 47 = some (2, 0) ∧ pz_S 2 (some .boolean) am_r113 1 Q 18 [(0, .ref 47), (1, .ref 36)] [.int (h.1 47 1), .ref 48, .ref 36] h from ⟨ex_47 hP, ?_⟩)
  rw [show h.1 47 1 = nI 13 from e1]
  refine am_goX 1 (show ∃ jj nn : Nat, (am_sh h 48 = some (16, nn) ∨ am_sh h 48 = some (17, nn)) ∧ jj < nn ∧ nI 13 = nI jj ∧ pz_S 2 (some .boolean) am_r113 1 Q 19 [(0, .ref 47), (1, .ref 36)] [am_rf (h.2.2.1 48 jj), .ref 36] h from ⟨13, 16, Or.inr (ex_48 hP), by decide, rfl, ?_⟩)
  rw [show am_rf (h.2.2.1 48 13) = .ref 114 from congrArg am_rf (ex_r48_13 hP)]
  refine am_goX 1 (show am_rc h 36 6 ∧ 0 ≤ 8 ∧ h.2.2.2.2 + am_al 99 ≤ 175 ∧ am_call am_cod 1 99 [.ref 36, .ref 114] h (fun vv h' => pz_S 2 (some .boolean) am_r113 1 Q 22 [(0, .ref 47), (1, .ref 36)] (vv.toList ++ []) h') from ⟨Or.inl ⟨by decide, ex_36 hP⟩, by decide, ex_lim hP rfl, am_call.up (q_99 stO_36 stO_114 (by decide) hP (fun h597 f598 f599 f600 f601 => ?_)) (by decide)⟩)
  have f602 : h597.1 47 1 = nI 13 := (f600 47 1 (by omega)).trans e1
  have f603 : h597.1 47 2 = nI n := (f600 47 2 (by omega)).trans e2
  have f604 : kF 36 h h597 := kF_c hX f599 f600
  have f605 : scq 36 114 h h597 := scq_b hX (fun a u1 u2 => by omega) f601
  refine am_goX 3 (show am_sh h597 47 = some (2, 0) ∧ pz_S 2 (some .boolean) am_r113 1 Q 27 [(0, .ref 47), (1, .ref 36)] [.int (h597.1 47 1), .ref 47] h597 from ⟨ex_47 f598, ?_⟩)
  rw [show h597.1 47 1 = nI 13 from f602]
  refine am_goX 6 (show ¬ ((Int8.ofInt 16).toInt32) = 0 ∧ pz_S 2 (some .boolean) am_r113 1 Q 35 [(0, .ref 47), (1, .ref 36)] [.int ((((nI 13) + ((Int8.ofInt 16).toInt32)) - (Int32.ofInt 1)) - (((nI 13) + ((Int8.ofInt 16).toInt32)) - (Int32.ofInt 1)) / ((Int8.ofInt 16).toInt32) * ((Int8.ofInt 16).toInt32)), .ref 47] h597 from ⟨by decide, ?_⟩)
  rw [show (((nI 13) + ((Int8.ofInt 16).toInt32)) - (Int32.ofInt 1)) - (((nI 13) + ((Int8.ofInt 16).toInt32)) - (Int32.ofInt 1)) / ((Int8.ofInt 16).toInt32) * ((Int8.ofInt 16).toInt32) = nI 12 from (by decide)]
  refine am_goX 1 (show am_sh h597 47 = some (2, 0) ∧ narrow (am_fty 2 1) (.int (nI 12)) = .int (nI 12) ∧ fits (am_fty 2 1) (.int (nI 12)) = true ∧ pz_S 2 (some .boolean) am_r113 1 Q 38 [(0, .ref 47), (1, .ref 36)] [] (am_wI h597 47 1 (nI 12)) from ⟨ex_47 f598, rfl, rfl, ?_⟩)
  have f607 : ex_P (am_wI h597 47 1 (nI 12)) := f598
  have f608 : (am_wI h597 47 1 (nI 12)).1 47 1 = nI 12 := (em_we _ _ _ _).trans (rfl)
  have f609 : (am_wI h597 47 1 (nI 12)).1 47 2 = nI n := (em_wn _ _ (by omega)).trans f603
  have f610 : kF 36 h (am_wI h597 47 1 (nI 12)) := kF_w (by omega) f604
  have f611 : scq 36 114 h (am_wI h597 47 1 (nI 12)) := scq_w (by omega) f605
  generalize am_wI h597 47 1 (nI 12) = h606 at f607 f608 f609 f610 f611 ⊢
  refine am_goX 3 (show (Value.ref 47).category = 1 ∧ am_sh h606 47 = some (2, 0) ∧ pz_S 2 (some .boolean) am_r113 1 Q 43 [(0, .ref 47), (1, .ref 36)] [.int (h606.1 47 2), .ref 47] h606 from ⟨rfl, ex_47 f607, ?_⟩)
  rw [show h606.1 47 2 = nI n from f609]
  refine am_goX 3 (show am_sh h606 47 = some (2, 0) ∧ narrow (am_fty 2 2) (.int ((nI n) - (Int32.ofInt 1))) = .int ((nI n) - (Int32.ofInt 1)) ∧ fits (am_fty 2 2) (.int ((nI n) - (Int32.ofInt 1))) = true ∧ pz_S 2 (some .boolean) am_r113 1 Q 48 [(0, .ref 47), (1, .ref 36)] [] (am_wI h606 47 2 ((nI n) - (Int32.ofInt 1))) from ⟨ex_47 f607, rfl, rfl, ?_⟩)
  have f613 : ex_P (am_wI h606 47 2 ((nI n) - (Int32.ofInt 1))) := f607
  have f614 : (am_wI h606 47 2 ((nI n) - (Int32.ofInt 1))).1 47 1 = nI 12 := (em_wn _ _ (by omega)).trans f608
  have f615 : (am_wI h606 47 2 ((nI n) - (Int32.ofInt 1))).1 47 2 = nI (n - 1) := (em_we _ _ _ _).trans ((dn_s (by omega) rfl rfl))
  have f616 : kF 36 h (am_wI h606 47 2 ((nI n) - (Int32.ofInt 1))) := kF_w (by omega) f610
  have f617 : scq 36 114 h (am_wI h606 47 2 ((nI n) - (Int32.ofInt 1))) := scq_w (by omega) f611
  generalize am_wI h606 47 2 ((nI n) - (Int32.ofInt 1)) = h612 at f613 f614 f615 f616 f617 ⊢
  exact am_goX 2 (show (∃ ty, (some .boolean) = some ty ∧ narrow ty (.int (Int32.ofInt 1)) = .int (Int32.ofInt 1)) ∧ h612.2.2.2.2 = 175 ∧ _ from ⟨⟨.boolean, rfl, rfl⟩, ex_175 f613, hQ _ f613 f616.1 f616.2 f614 f615 f617⟩)
theorem q_113_14 (hn0 : 0 < n) (hn : n ≤ 16) (hP : ex_P h) (e1 : h.1 47 1 = nI 14) (e2 : h.1 47 2 = nI n) (hQ : ∀ h1, ex_P h1 → h1.2 = h.2 → (∀ o k, ¬ o = 47 → ¬ (36 ≤ o ∧ o ≤ 40) → h1.1 o k = h.1 o k) → h1.1 47 1 = nI 13 → h1.1 47 2 = nI (n - 1) → scq 36 119 h h1 → Q (some (.int (Int32.ofInt 1))) h1) : am_call am_cod 2 113 [.ref 47, .ref 36] h Q := by
  refine pz_call (n := 113) (nL := 2) (rt := (some .boolean)) (rows := am_r113) (d := 1) (by decide +kernel) (by decide +kernel) rfl (by funext pc; rfl) (ex_175 hP) (by exact Nat.le_of_ble_eq_true rfl) ?_
  have hX := kF_0 (D := 36) (h := h)
  refine am_goX 2 (show am_sh h 47 = some (2, 0) ∧ pz_S 2 (some .boolean) am_r113 1 Q 4 [(0, .ref 47), (1, .ref 36)] [.int (h.1 47 2)] h from ⟨ex_47 hP, ?_⟩)
  rw [show h.1 47 2 = nI n from e2]
  refine am_goX 1 (show (¬ (nI n) = 0 → pz_S 2 (some .boolean) am_r113 1 Q 9 [(0, .ref 47), (1, .ref 36)] [] h) ∧ (¬ ¬ (nI n) = 0 → pz_S 2 (some .boolean) am_r113 1 Q 7 [(0, .ref 47), (1, .ref 36)] [] h) from ⟨fun _ => ?_, fun hz => absurd (nI_n0 hn0 (by omega)) hz⟩)
  refine am_goX 3 (show am_sh h 47 = some (2, 0) ∧ pz_S 2 (some .boolean) am_r113 1 Q 14 [(0, .ref 47), (1, .ref 36)] [am_rf (h.2.2.1 47 0), .ref 36] h from ⟨ex_47 hP, ?_⟩)
  rw [show am_rf (h.2.2.1 47 0) = .ref 48 from congrArg am_rf (ex_r47_0 hP)]
  refine am_goX 2 (show am_sh h 47 = some (2, 0) ∧ pz_S 2 (some .boolean) am_r113 1 Q 18 [(0, .ref 47), (1, .ref 36)] [.int (h.1 47 1), .ref 48, .ref 36] h from ⟨ex_47 hP, ?_⟩)
  rw [show h.1 47 1 = nI 14 from e1]
  refine am_goX 1 (show ∃ jj nn : Nat, (am_sh h 48 = some (16, nn) ∨ am_sh h 48 = some (17, nn)) ∧ jj < nn ∧ nI 14 = nI jj ∧ pz_S 2 (some .boolean) am_r113 1 Q 19 [(0, .ref 47), (1, .ref 36)] [am_rf (h.2.2.1 48 jj), .ref 36] h from ⟨14, 16, Or.inr (ex_48 hP), by decide, rfl, ?_⟩)
  rw [show am_rf (h.2.2.1 48 14) = .ref 119 from congrArg am_rf (ex_r48_14 hP)]
  refine am_goX 1 (show am_rc h 36 6 ∧ 0 ≤ 8 ∧ h.2.2.2.2 + am_al 99 ≤ 175 ∧ am_call am_cod 1 99 [.ref 36, .ref 119] h (fun vv h' => pz_S 2 (some .boolean) am_r113 1 Q 22 [(0, .ref 47), (1, .ref 36)] (vv.toList ++ []) h') from ⟨Or.inl ⟨by decide, ex_36 hP⟩, by decide, ex_lim hP rfl, am_call.up (q_99 stO_36 stO_119 (by decide) hP (fun h618 f619 f620 f621 f622 => ?_)) (by decide)⟩)
  have f623 : h618.1 47 1 = nI 14 := (f621 47 1 (by omega)).trans e1
  have f624 : h618.1 47 2 = nI n := (f621 47 2 (by omega)).trans e2
  have f625 : kF 36 h h618 := kF_c hX f620 f621
  have f626 : scq 36 119 h h618 := scq_b hX (fun a u1 u2 => by omega) f622
  refine am_goX 3 (show am_sh h618 47 = some (2, 0) ∧ pz_S 2 (some .boolean) am_r113 1 Q 27 [(0, .ref 47), (1, .ref 36)] [.int (h618.1 47 1), .ref 47] h618 from ⟨ex_47 f619, ?_⟩)
  rw [show h618.1 47 1 = nI 14 from f623]
  refine am_goX 6 (show ¬ ((Int8.ofInt 16).toInt32) = 0 ∧ pz_S 2 (some .boolean) am_r113 1 Q 35 [(0, .ref 47), (1, .ref 36)] [.int ((((nI 14) + ((Int8.ofInt 16).toInt32)) - (Int32.ofInt 1)) - (((nI 14) + ((Int8.ofInt 16).toInt32)) - (Int32.ofInt 1)) / ((Int8.ofInt 16).toInt32) * ((Int8.ofInt 16).toInt32)), .ref 47] h618 from ⟨by decide, ?_⟩)
  rw [show (((nI 14) + ((Int8.ofInt 16).toInt32)) - (Int32.ofInt 1)) - (((nI 14) + ((Int8.ofInt 16).toInt32)) - (Int32.ofInt 1)) / ((Int8.ofInt 16).toInt32) * ((Int8.ofInt 16).toInt32) = nI 13 from (by decide)]
  refine am_goX 1 (show am_sh h618 47 = some (2, 0) ∧ narrow (am_fty 2 1) (.int (nI 13)) = .int (nI 13) ∧ fits (am_fty 2 1) (.int (nI 13)) = true ∧ pz_S 2 (some .boolean) am_r113 1 Q 38 [(0, .ref 47), (1, .ref 36)] [] (am_wI h618 47 1 (nI 13)) from ⟨ex_47 f619, rfl, rfl, ?_⟩)
  have f628 : ex_P (am_wI h618 47 1 (nI 13)) := f619
  have f629 : (am_wI h618 47 1 (nI 13)).1 47 1 = nI 13 := (em_we _ _ _ _).trans (rfl)
  have f630 : (am_wI h618 47 1 (nI 13)).1 47 2 = nI n := (em_wn _ _ (by omega)).trans f624
  have f631 : kF 36 h (am_wI h618 47 1 (nI 13)) := kF_w (by omega) f625
  have f632 : scq 36 119 h (am_wI h618 47 1 (nI 13)) := scq_w (by omega) f626
  generalize am_wI h618 47 1 (nI 13) = h627 at f628 f629 f630 f631 f632 ⊢
  refine am_goX 3 (show (Value.ref 47).category = 1 ∧ am_sh h627 47 = some (2, 0) ∧ pz_S 2 (some .boolean) am_r113 1 Q 43 [(0, .ref 47), (1, .ref 36)] [.int (h627.1 47 2), .ref 47] h627 from ⟨rfl, ex_47 f628, ?_⟩)
  rw [show h627.1 47 2 = nI n from f630]
  refine am_goX 3 (show am_sh h627 47 = some (2, 0) ∧ narrow (am_fty 2 2) (.int ((nI n) - (Int32.ofInt 1))) = .int ((nI n) - (Int32.ofInt 1)) ∧ fits (am_fty 2 2) (.int ((nI n) - (Int32.ofInt 1))) = true ∧ pz_S 2 (some .boolean) am_r113 1 Q 48 [(0, .ref 47), (1, .ref 36)] [] (am_wI h627 47 2 ((nI n) - (Int32.ofInt 1))) from ⟨ex_47 f628, rfl, rfl, ?_⟩)
  have f634 : ex_P (am_wI h627 47 2 ((nI n) - (Int32.ofInt 1))) := f628
  have f635 : (am_wI h627 47 2 ((nI n) - (Int32.ofInt 1))).1 47 1 = nI 13 := (em_wn _ _ (by omega)).trans f629
  have f636 : (am_wI h627 47 2 ((nI n) - (Int32.ofInt 1))).1 47 2 = nI (n - 1) := (em_we _ _ _ _).trans ((dn_s (by omega) rfl rfl))
  have f637 : kF 36 h (am_wI h627 47 2 ((nI n) - (Int32.ofInt 1))) := kF_w (by omega) f631
  have f638 : scq 36 119 h (am_wI h627 47 2 ((nI n) - (Int32.ofInt 1))) := scq_w (by omega) f632
  generalize am_wI h627 47 2 ((nI n) - (Int32.ofInt 1)) = h633 at f634 f635 f636 f637 f638 ⊢
  exact am_goX 2 (show (∃ ty, (some .boolean) = some ty ∧ narrow ty (.int (Int32.ofInt 1)) = .int (Int32.ofInt 1)) ∧ h633.2.2.2.2 = 175 ∧ _ from ⟨⟨.boolean, rfl, rfl⟩, ex_175 f634, hQ _ f634 f637.1 f637.2 f635 f636 f638⟩)
theorem q_113_15 (hn0 : 0 < n) (hn : n ≤ 16) (hP : ex_P h) (e1 : h.1 47 1 = nI 15) (e2 : h.1 47 2 = nI n) (hQ : ∀ h1, ex_P h1 → h1.2 = h.2 → (∀ o k, ¬ o = 47 → ¬ (36 ≤ o ∧ o ≤ 40) → h1.1 o k = h.1 o k) → h1.1 47 1 = nI 14 → h1.1 47 2 = nI (n - 1) → scq 36 124 h h1 → Q (some (.int (Int32.ofInt 1))) h1) : am_call am_cod 2 113 [.ref 47, .ref 36] h Q := by
  refine pz_call (n := 113) (nL := 2) (rt := (some .boolean)) (rows := am_r113) (d := 1) (by decide +kernel) (by decide +kernel) rfl (by funext pc; rfl) (ex_175 hP) (by exact Nat.le_of_ble_eq_true rfl) ?_
  have hX := kF_0 (D := 36) (h := h)
  refine am_goX 2 (show am_sh h 47 = some (2, 0) ∧ pz_S 2 (some .boolean) am_r113 1 Q 4 [(0, .ref 47), (1, .ref 36)] [.int (h.1 47 2)] h from ⟨ex_47 hP, ?_⟩)
  rw [show h.1 47 2 = nI n from e2]
  refine am_goX 1 (show (¬ (nI n) = 0 → pz_S 2 (some .boolean) am_r113 1 Q 9 [(0, .ref 47), (1, .ref 36)] [] h) ∧ (¬ ¬ (nI n) = 0 → pz_S 2 (some .boolean) am_r113 1 Q 7 [(0, .ref 47), (1, .ref 36)] [] h) from ⟨fun _ => ?_, fun hz => absurd (nI_n0 hn0 (by omega)) hz⟩)
  refine am_goX 3 (show am_sh h 47 = some (2, 0) ∧ pz_S 2 (some .boolean) am_r113 1 Q 14 [(0, .ref 47), (1, .ref 36)] [am_rf (h.2.2.1 47 0), .ref 36] h from ⟨ex_47 hP, ?_⟩)
  rw [show am_rf (h.2.2.1 47 0) = .ref 48 from congrArg am_rf (ex_r47_0 hP)]
  refine am_goX 2 (show am_sh h 47 = some (2, 0) ∧ pz_S 2 (some .boolean) am_r113 1 Q 18 [(0, .ref 47), (1, .ref 36)] [.int (h.1 47 1), .ref 48, .ref 36] h from ⟨ex_47 hP, ?_⟩)
  rw [show h.1 47 1 = nI 15 from e1]
  refine am_goX 1 (show ∃ jj nn : Nat, (am_sh h 48 = some (16, nn) ∨ am_sh h 48 = some (17, nn)) ∧ jj < nn ∧ nI 15 = nI jj ∧ pz_S 2 (some .boolean) am_r113 1 Q 19 [(0, .ref 47), (1, .ref 36)] [am_rf (h.2.2.1 48 jj), .ref 36] h from ⟨15, 16, Or.inr (ex_48 hP), by decide, rfl, ?_⟩)
  rw [show am_rf (h.2.2.1 48 15) = .ref 124 from congrArg am_rf (ex_r48_15 hP)]
  refine am_goX 1 (show am_rc h 36 6 ∧ 0 ≤ 8 ∧ h.2.2.2.2 + am_al 99 ≤ 175 ∧ am_call am_cod 1 99 [.ref 36, .ref 124] h (fun vv h' => pz_S 2 (some .boolean) am_r113 1 Q 22 [(0, .ref 47), (1, .ref 36)] (vv.toList ++ []) h') from ⟨Or.inl ⟨by decide, ex_36 hP⟩, by decide, ex_lim hP rfl, am_call.up (q_99 stO_36 stO_124 (by decide) hP (fun h639 f640 f641 f642 f643 => ?_)) (by decide)⟩)
  have f644 : h639.1 47 1 = nI 15 := (f642 47 1 (by omega)).trans e1
  have f645 : h639.1 47 2 = nI n := (f642 47 2 (by omega)).trans e2
  have f646 : kF 36 h h639 := kF_c hX f641 f642
  have f647 : scq 36 124 h h639 := scq_b hX (fun a u1 u2 => by omega) f643
  refine am_goX 3 (show am_sh h639 47 = some (2, 0) ∧ pz_S 2 (some .boolean) am_r113 1 Q 27 [(0, .ref 47), (1, .ref 36)] [.int (h639.1 47 1), .ref 47] h639 from ⟨ex_47 f640, ?_⟩)
  rw [show h639.1 47 1 = nI 15 from f644]
  refine am_goX 6 (show ¬ ((Int8.ofInt 16).toInt32) = 0 ∧ pz_S 2 (some .boolean) am_r113 1 Q 35 [(0, .ref 47), (1, .ref 36)] [.int ((((nI 15) + ((Int8.ofInt 16).toInt32)) - (Int32.ofInt 1)) - (((nI 15) + ((Int8.ofInt 16).toInt32)) - (Int32.ofInt 1)) / ((Int8.ofInt 16).toInt32) * ((Int8.ofInt 16).toInt32)), .ref 47] h639 from ⟨by decide, ?_⟩)
  rw [show (((nI 15) + ((Int8.ofInt 16).toInt32)) - (Int32.ofInt 1)) - (((nI 15) + ((Int8.ofInt 16).toInt32)) - (Int32.ofInt 1)) / ((Int8.ofInt 16).toInt32) * ((Int8.ofInt 16).toInt32) = nI 14 from (by decide)]
  refine am_goX 1 (show am_sh h639 47 = some (2, 0) ∧ narrow (am_fty 2 1) (.int (nI 14)) = .int (nI 14) ∧ fits (am_fty 2 1) (.int (nI 14)) = true ∧ pz_S 2 (some .boolean) am_r113 1 Q 38 [(0, .ref 47), (1, .ref 36)] [] (am_wI h639 47 1 (nI 14)) from ⟨ex_47 f640, rfl, rfl, ?_⟩)
  have f649 : ex_P (am_wI h639 47 1 (nI 14)) := f640
  have f650 : (am_wI h639 47 1 (nI 14)).1 47 1 = nI 14 := (em_we _ _ _ _).trans (rfl)
  have f651 : (am_wI h639 47 1 (nI 14)).1 47 2 = nI n := (em_wn _ _ (by omega)).trans f645
  have f652 : kF 36 h (am_wI h639 47 1 (nI 14)) := kF_w (by omega) f646
  have f653 : scq 36 124 h (am_wI h639 47 1 (nI 14)) := scq_w (by omega) f647
  generalize am_wI h639 47 1 (nI 14) = h648 at f649 f650 f651 f652 f653 ⊢
  refine am_goX 3 (show (Value.ref 47).category = 1 ∧ am_sh h648 47 = some (2, 0) ∧ pz_S 2 (some .boolean) am_r113 1 Q 43 [(0, .ref 47), (1, .ref 36)] [.int (h648.1 47 2), .ref 47] h648 from ⟨rfl, ex_47 f649, ?_⟩)
  rw [show h648.1 47 2 = nI n from f651]
  refine am_goX 3 (show am_sh h648 47 = some (2, 0) ∧ narrow (am_fty 2 2) (.int ((nI n) - (Int32.ofInt 1))) = .int ((nI n) - (Int32.ofInt 1)) ∧ fits (am_fty 2 2) (.int ((nI n) - (Int32.ofInt 1))) = true ∧ pz_S 2 (some .boolean) am_r113 1 Q 48 [(0, .ref 47), (1, .ref 36)] [] (am_wI h648 47 2 ((nI n) - (Int32.ofInt 1))) from ⟨ex_47 f649, rfl, rfl, ?_⟩)
  have f655 : ex_P (am_wI h648 47 2 ((nI n) - (Int32.ofInt 1))) := f649
  have f656 : (am_wI h648 47 2 ((nI n) - (Int32.ofInt 1))).1 47 1 = nI 14 := (em_wn _ _ (by omega)).trans f650
  have f657 : (am_wI h648 47 2 ((nI n) - (Int32.ofInt 1))).1 47 2 = nI (n - 1) := (em_we _ _ _ _).trans ((dn_s (by omega) rfl rfl))
  have f658 : kF 36 h (am_wI h648 47 2 ((nI n) - (Int32.ofInt 1))) := kF_w (by omega) f652
  have f659 : scq 36 124 h (am_wI h648 47 2 ((nI n) - (Int32.ofInt 1))) := scq_w (by omega) f653
  generalize am_wI h648 47 2 ((nI n) - (Int32.ofInt 1)) = h654 at f655 f656 f657 f658 f659 ⊢
  exact am_goX 2 (show (∃ ty, (some .boolean) = some ty ∧ narrow ty (.int (Int32.ofInt 1)) = .int (Int32.ofInt 1)) ∧ h654.2.2.2.2 = 175 ∧ _ from ⟨⟨.boolean, rfl, rfl⟩, ex_175 f655, hQ _ f655 f658.1 f658.2 f656 f657 f659⟩)
theorem q_98 {q : Nat} (hq : q < 16) (hn : n ≤ 16) (hP : ex_P h) (e1 : h.1 47 1 = nI q) (e2 : h.1 47 2 = nI n) (hQ : ∀ h1, ex_P h1 → h1.2 = h.2 → (∀ o k, ¬ o = 47 → ¬ (49 + 5 * ((q + 1) % 16) ≤ o ∧ o ≤ 49 + 5 * ((q + 1) % 16) + 4) → h1.1 o k = h.1 o k) → h1.1 47 1 = nI ((q + 1) % 16) → h1.1 47 2 = nI (min (n + 1) 16) → scq (49 + 5 * ((q + 1) % 16)) 36 h h1 → Q none h1) : am_call am_cod 2 98 [.ref 47, .ref 36] h Q := by
  have w : q = 0 ∨ q = 1 ∨ q = 2 ∨ q = 3 ∨ q = 4 ∨ q = 5 ∨ q = 6 ∨ q = 7 ∨ q = 8 ∨ q = 9 ∨ q = 10 ∨ q = 11 ∨ q = 12 ∨ q = 13 ∨ q = 14 ∨ q = 15 := by omega
  rcases w with rfl | rfl | rfl | rfl | rfl | rfl | rfl | rfl | rfl | rfl | rfl | rfl | rfl | rfl | rfl | rfl
  · exact q_98_0 hn hP e1 e2 hQ
  · exact q_98_1 hn hP e1 e2 hQ
  · exact q_98_2 hn hP e1 e2 hQ
  · exact q_98_3 hn hP e1 e2 hQ
  · exact q_98_4 hn hP e1 e2 hQ
  · exact q_98_5 hn hP e1 e2 hQ
  · exact q_98_6 hn hP e1 e2 hQ
  · exact q_98_7 hn hP e1 e2 hQ
  · exact q_98_8 hn hP e1 e2 hQ
  · exact q_98_9 hn hP e1 e2 hQ
  · exact q_98_10 hn hP e1 e2 hQ
  · exact q_98_11 hn hP e1 e2 hQ
  · exact q_98_12 hn hP e1 e2 hQ
  · exact q_98_13 hn hP e1 e2 hQ
  · exact q_98_14 hn hP e1 e2 hQ
  · exact q_98_15 hn hP e1 e2 hQ
theorem q_113 {q : Nat} (hq : q < 16) (hn0 : 0 < n) (hn : n ≤ 16) (hP : ex_P h) (e1 : h.1 47 1 = nI q) (e2 : h.1 47 2 = nI n) (hQ : ∀ h1, ex_P h1 → h1.2 = h.2 → (∀ o k, ¬ o = 47 → ¬ (36 ≤ o ∧ o ≤ 40) → h1.1 o k = h.1 o k) → h1.1 47 1 = nI ((q + 15) % 16) → h1.1 47 2 = nI (n - 1) → scq 36 (49 + 5 * q) h h1 → Q (some (.int (Int32.ofInt 1))) h1) : am_call am_cod 2 113 [.ref 47, .ref 36] h Q := by
  have w : q = 0 ∨ q = 1 ∨ q = 2 ∨ q = 3 ∨ q = 4 ∨ q = 5 ∨ q = 6 ∨ q = 7 ∨ q = 8 ∨ q = 9 ∨ q = 10 ∨ q = 11 ∨ q = 12 ∨ q = 13 ∨ q = 14 ∨ q = 15 := by omega
  rcases w with rfl | rfl | rfl | rfl | rfl | rfl | rfl | rfl | rfl | rfl | rfl | rfl | rfl | rfl | rfl | rfl
  · exact q_113_0 hn0 hn hP e1 e2 hQ
  · exact q_113_1 hn0 hn hP e1 e2 hQ
  · exact q_113_2 hn0 hn hP e1 e2 hQ
  · exact q_113_3 hn0 hn hP e1 e2 hQ
  · exact q_113_4 hn0 hn hP e1 e2 hQ
  · exact q_113_5 hn0 hn hP e1 e2 hQ
  · exact q_113_6 hn0 hn hP e1 e2 hQ
  · exact q_113_7 hn0 hn hP e1 e2 hQ
  · exact q_113_8 hn0 hn hP e1 e2 hQ
  · exact q_113_9 hn0 hn hP e1 e2 hQ
  · exact q_113_10 hn0 hn hP e1 e2 hQ
  · exact q_113_11 hn0 hn hP e1 e2 hQ
  · exact q_113_12 hn0 hn hP e1 e2 hQ
  · exact q_113_13 hn0 hn hP e1 e2 hQ
  · exact q_113_14 hn0 hn hP e1 e2 hQ
  · exact q_113_15 hn0 hn hP e1 e2 hQ
theorem q_113z (hP : ex_P h) (e2 : h.1 47 2 = nI 0) (hQ : Q (some (.int (Int32.ofInt 0))) h) : am_call am_cod 2 113 [.ref 47, .ref 36] h Q := by
  refine pz_call (n := 113) (nL := 2) (rt := (some .boolean)) (rows := am_r113) (d := 1) (by decide +kernel) (by decide +kernel) rfl (by funext pc; rfl) (ex_175 hP) (by exact Nat.le_of_ble_eq_true rfl) ?_
  refine am_goX 2 (show am_sh h 47 = some (2, 0) ∧ pz_S 2 (some .boolean) am_r113 1 Q 4 [(0, .ref 47), (1, .ref 36)] [.int (h.1 47 2)] h from ⟨ex_47 hP, ?_⟩)
  rw [show h.1 47 2 = nI 0 from e2]
  refine am_goX 1 (show (¬ (nI 0) = 0 → pz_S 2 (some .boolean) am_r113 1 Q 9 [(0, .ref 47), (1, .ref 36)] [] h) ∧ (¬ ¬ (nI 0) = 0 → pz_S 2 (some .boolean) am_r113 1 Q 7 [(0, .ref 47), (1, .ref 36)] [] h) from ⟨fun hz => absurd hz (by decide), fun _ => ?_⟩)
  exact am_goX 2 (show (∃ ty, (some .boolean) = some ty ∧ narrow ty (.int (Int32.ofInt 0)) = .int (Int32.ofInt 0)) ∧ h.2.2.2.2 = 175 ∧ _ from ⟨⟨.boolean, rfl, rfl⟩, ex_175 hP, hQ⟩)
end
section
/-! HISTORY AND MARKS AS VALUES -/
variable {h h0 : am_H} {Q : am_Q} {C : sp_C} {x y w z : Int32} {s u : dS} {D S n : Nat}
theorem sv2_231 : am_r231.all (fun q => sv2_ok q.2) = true := by decide +kernel
theorem q_232l {A B K : Nat} (hA : A + K ≤ 1127) (hB : B + K ≤ 1127) (hd : A + K ≤ B ∨ B + K ≤ A) : ∀ (m i : Nat) (h : am_H), i + m = K → ex_P h → (∀ j, j < i → h.1 170 (B + j) = h.1 170 (A + j)) → (∀ h1, ex_P h1 → h1.2 = h.2 → (∀ o k, ¬ (o = 170 ∧ B ≤ k ∧ k < B + K) → h1.1 o k = h.1 o k) → (∀ j, j < K → h1.1 170 (B + j) = h.1 170 (A + j)) → Q none h1) → pz_S 5 none am_r232 0 Q 3 [(4, .int (nI i)), (0, .ref 154), (1, .int (nI A)), (2, .int (nI B)), (3, .int (nI K))] [] h := by
  intro m
  induction m with
  | zero =>
    intro i h hi hP hj hQ
    refine am_goX 3 (show ((nI K) ≤ (nI i) → pz_S 5 none am_r232 0 Q 33 [(4, .int (nI i)), (0, .ref 154), (1, .int (nI A)), (2, .int (nI B)), (3, .int (nI K))] [] h) ∧ (¬ ((nI K) ≤ (nI i)) → pz_S 5 none am_r232 0 Q 9 [(4, .int (nI i)), (0, .ref 154), (1, .int (nI A)), (2, .int (nI B)), (3, .int (nI K))] [] h) from ⟨fun _ => ?_, fun hz => absurd (show nI K ≤ nI i from nI_le (by omega) (by omega)) hz⟩)
    exact am_goX 1 (show (none : Option FieldType) = none ∧ h.2.2.2.2 = 175 ∧ _ from ⟨rfl, ex_175 hP, hQ _ hP rfl (fun _ _ _ => rfl) (fun j hj1 => hj j (by omega))⟩)
  | succ m ih =>
    intro i h hi hP hj hQ
    refine am_goX 3 (show ((nI K) ≤ (nI i) → pz_S 5 none am_r232 0 Q 33 [(4, .int (nI i)), (0, .ref 154), (1, .int (nI A)), (2, .int (nI B)), (3, .int (nI K))] [] h) ∧ (¬ ((nI K) ≤ (nI i)) → pz_S 5 none am_r232 0 Q 9 [(4, .int (nI i)), (0, .ref 154), (1, .int (nI A)), (2, .int (nI B)), (3, .int (nI K))] [] h) from ⟨fun hz => absurd hz (show ¬ nI K ≤ nI i by rw [nI_leI (by omega) (by omega)]; omega), fun _ => ?_⟩)
    refine am_goX 2 (show am_sh h 154 = some (11, 0) ∧ pz_S 5 none am_r232 0 Q 13 [(4, .int (nI i)), (0, .ref 154), (1, .int (nI A)), (2, .int (nI B)), (3, .int (nI K))] [am_rf (h.2.2.1 154 24)] h from ⟨ex_154 hP, ?_⟩)
    rw [ex_r154_24 (h := h) hP]
    refine am_goX 5 (show am_sh h 154 = some (11, 0) ∧ pz_S 5 none am_r232 0 Q 21 [(4, .int (nI i)), (0, .ref 154), (1, .int (nI A)), (2, .int (nI B)), (3, .int (nI K))] [am_rf (h.2.2.1 154 24), .int ((nI B) + (nI i)), .ref 170] h from ⟨ex_154 hP, ?_⟩)
    rw [ex_r154_24 (h := h) hP]
    refine am_goX 4 (show ∃ jj nn : Nat, am_sh h 170 = some (13, nn) ∧ jj < nn ∧ ((nI A) + (nI i)) = nI jj ∧ pz_S 5 none am_r232 0 Q 26 [(4, .int (nI i)), (0, .ref 154), (1, .int (nI A)), (2, .int (nI B)), (3, .int (nI K))] [.int (h.1 170 jj), .int ((nI B) + (nI i)), .ref 170] h from ⟨(A + i), 1127, ex_170 hP, by omega, nI_add A i, ?_⟩)
    refine am_goX 1 (show ∃ jj nn : Nat, am_so h 170 = some (13, nn) ∧ jj < nn ∧ ((nI B) + (nI i)) = nI jj ∧ pz_S 5 none am_r232 0 Q 27 [(4, .int (nI i)), (0, .ref 154), (1, .int (nI A)), (2, .int (nI B)), (3, .int (nI K))] [] (am_wI h 170 jj (h.1 170 (A + i))) from ⟨B + i, 1127, ex_w170 hP, by omega, nI_add B i, ?_⟩)
    refine am_goX 2 (show 4 < 5 ∧ pz_S 5 none am_r232 0 Q 3 [(4, .int ((nI i) + Int32.ofInt 1)), (0, .ref 154), (1, .int (nI A)), (2, .int (nI B)), (3, .int (nI K))] [] (am_wI h 170 (B + i) (h.1 170 (A + i))) from ⟨by decide, ?_⟩)
    rw [xw_i1]
    refine ih (i + 1) _ (by omega) hP (fun j hj1 => ?_) (fun h1 p1 p2 p3 p4 => hQ h1 p1 p2 (fun o k hn => (p3 o k hn).trans (em_wn _ _ (by omega))) (fun j hj1 => (p4 j hj1).trans (em_wn _ _ (by omega))))
    by_cases ej : j = i
    · rw [ej, em_we, em_wn _ _ (by omega)]
    · rw [em_wn _ _ (by omega), em_wn _ _ (by omega)]
      exact hj j (by omega)
theorem q_232 {A B K : Nat} {x y z : Int32} (hx : x = nI A) (hy : y = nI B) (hz : z = nI K) (hA : A + K ≤ 1127) (hB : B + K ≤ 1127) (hd : A + K ≤ B ∨ B + K ≤ A) (hP : ex_P h) (hQ : ∀ h1, ex_P h1 → h1.2 = h.2 → (∀ o k, ¬ (o = 170 ∧ B ≤ k ∧ k < B + K) → h1.1 o k = h.1 o k) → (∀ j, j < K → h1.1 170 (B + j) = h.1 170 (A + j)) → Q none h1) : am_call am_cod 1 232 [.ref 154, .int x, .int y, .int z] h Q := by
  rw [hx, hy, hz]
  refine pz_call (n := 232) (nL := 5) (rt := none) (rows := am_r232) (d := 0) (by decide +kernel) (by decide +kernel) rfl (by funext pc; rfl) (ex_175 hP) (by exact Nat.le_of_ble_eq_true rfl) ?_
  refine am_goX 2 (show 4 < 5 ∧ pz_S 5 none am_r232 0 Q 3 [(4, .int (Int32.ofInt 0)), (0, .ref 154), (1, .int (nI A)), (2, .int (nI B)), (3, .int (nI K))] [] h from ⟨by decide, ?_⟩)
  exact q_232l hA hB hd K 0 h (Nat.zero_add K) hP (fun j hj => absurd hj (Nat.not_lt_zero j)) hQ
abbrev dH : Type := Nat × (Nat → dS)
abbrev dMk : Type := (Nat → Bool) × (Nat → dS) × (Nat → Nat)
/-- the class's history is H -/
def hC (H : dH) (h : am_H) : Prop := H.1 ≤ 16 ∧ h.1 47 2 = nI H.1 ∧ ∃ q, q < 16 ∧ h.1 47 1 = nI q ∧ ∀ j, j < H.1 → sC (49 + 5 * ((q + 16 - j) % 16)) (H.2 j) h
/-- the reference's history is H -/
def hL (P : Nat) (H : dH) (h : am_H) : Prop := H.1 ≤ 16 ∧ h.1 154 25 = nI H.1 ∧ ∀ j, j < H.1 → sR (245 + 49 * (H.1 - 1 - j)) P (H.2 j) h
/-- the class's marks are M -/
def mC (M : dMk) (h : am_H) : Prop := ∀ m, m < 4 → h.1 (130 + 6 * m) 0 = (bif M.1 m then 1 else 0) ∧ (M.1 m = true → sC (131 + 6 * m) (M.2.1 m) h ∧ h.1 (130 + 6 * m) 2 = nI (M.2.2 m))
/-- the reference's marks are M -/
def mL (P : Nat) (M : dMk) (h : am_H) : Prop := ∀ m, m < 4 → h.1 171 m = (bif M.1 m then 1 else 0) ∧ (M.1 m = true → sR (49 + 49 * m) P (M.2.1 m) h ∧ h.1 170 (73 + 49 * m) = nI (M.2.2 m))
abbrev hP1 (H : dH) (s : dS) : dH := (min (H.1 + 1) 16, fun j => if j = 0 then s else H.2 (j - 1))
abbrev hP0 (H : dH) : dH := (H.1 - 1, fun j => H.2 (j + 1))
theorem hC_fr {H : dH} {h g : am_H} (e : ∀ a k, 47 ≤ a → a ≤ 128 → g.1 a k = h.1 a k) (l : hC H h) : hC H g := by
  obtain ⟨a1, a2, q, a3, a4, a5⟩ := l
  exact ⟨a1, (e _ _ (by omega) (by omega)).trans a2, q, a3, (e _ _ (by omega) (by omega)).trans a4, fun j hj => sC_fr (fun a k u1 u2 => e a k (by omega) (by omega)) (a5 j hj)⟩
theorem mC_fr {M : dMk} {h g : am_H} (e : ∀ a k, 130 ≤ a → a ≤ 153 → g.1 a k = h.1 a k) (l : mC M h) : mC M g := fun m hm =>
  ⟨(e _ _ (by omega) (by omega)).trans (l m hm).1, fun z => ⟨sC_fr (fun a k u1 u2 => e a k (by omega) (by omega)) ((l m hm).2 z).1, (e _ _ (by omega) (by omega)).trans ((l m hm).2 z).2⟩⟩
theorem sR_fr {b P : Nat} {s : dS} {h g : am_H} (e : ∀ k, b ≤ k → k < b + 24 → g.1 170 k = h.1 170 k) (hP : P ≤ 6) (l : sR b P s h) : sR b P s g := sR_x e hP l
theorem sR_cp {A B P : Nat} {s : dS} {h g : am_H} (e : ∀ j, j < 24 → g.1 170 (B + j) = h.1 170 (A + j)) (hP : P ≤ 6) (l : sR A P s h) : sR B P s g := by
  obtain ⟨⟨a1, a2⟩, a3, a4, a5⟩ := l
  refine ⟨⟨(e 0 (by omega)).trans a1, (e 1 (by omega)).trans a2⟩, fun i hi => ?_, fun i hi => ?_, fun i hi => ⟨?_, ?_⟩⟩
  · have w := e (2 + i) (by omega)
    rw [← Nat.add_assoc, ← Nat.add_assoc] at w
    exact w.trans (a3 i hi)
  · have w := e (8 + i) (by omega)
    rw [← Nat.add_assoc, ← Nat.add_assoc] at w
    exact w.trans (a4 i hi)
  · have w := e (14 + i) (by omega)
    rw [← Nat.add_assoc, ← Nat.add_assoc] at w
    exact w.trans (a5 i hi).1
  · have w := e (19 + i) (by omega)
    rw [← Nat.add_assoc, ← Nat.add_assoc] at w
    exact w.trans (a5 i hi).2
theorem hL_fr {P : Nat} {H : dH} {h g : am_H} (hP : P ≤ 6) (e1 : g.1 154 25 = h.1 154 25) (e : ∀ k, 245 ≤ k → k < 1029 → g.1 170 k = h.1 170 k) (l : hL P H h) : hL P H g :=
  ⟨l.1, e1.trans l.2.1, fun j hj => sR_fr (fun k u1 u2 => e k (by omega) (by have := l.1; omega)) hP (l.2.2 j hj)⟩
theorem mL_fr {P : Nat} {M : dMk} {h g : am_H} (hP : P ≤ 6) (e1 : ∀ m, m < 4 → g.1 171 m = h.1 171 m) (e : ∀ k, 49 ≤ k → k < 245 → g.1 170 k = h.1 170 k) (l : mL P M h) : mL P M g := fun m hm =>
  ⟨(e1 m hm).trans (l m hm).1, fun z => ⟨sR_fr (fun k u1 u2 => e k (by omega) (by omega)) hP ((l m hm).2 z).1, (e _ (by omega) (by omega)).trans ((l m hm).2 z).2⟩⟩
/-- the class keeps -/
theorem k_98 {H : dH} (hP : ex_P h) (hS : sC 36 s h) (hH : hC H h) (hQ : ∀ h1, ex_P h1 → h1.2 = h.2 → (∀ o k, ¬ (47 ≤ o ∧ o ≤ 128) → h1.1 o k = h.1 o k) → hC (hP1 H s) h1 → Q none h1) : am_call am_cod 2 98 [.ref 47, .ref 36] h Q := by
  obtain ⟨hn, e2, q, hq, e1, hj⟩ := hH
  refine q_98 hq hn hP e1 e2 (fun h1 p1 p2 p3 p4 p5 p6 => hQ h1 p1 p2 (fun o k n1 => p3 o k (by omega) (by omega)) ⟨Nat.min_le_right _ _, p5, (q + 1) % 16, by omega, p4, fun j hj1 => ?_⟩)
  have hj1 : j < min (H.1 + 1) 16 := hj1
  show sC _ (if j = 0 then s else H.2 (j - 1)) h1
  by_cases ej : j = 0
  · rw [if_pos ej, ej, show ((q + 1) % 16 + 16 - 0) % 16 = (q + 1) % 16 by omega]
    exact sC_cp p6 hS
  · rw [if_neg ej, show ((q + 1) % 16 + 16 - j) % 16 = (q + 16 - (j - 1)) % 16 by omega]
    exact sC_fr (fun a k u1 u2 => p3 a k (by omega) (by omega)) (hj (j - 1) (by omega))
theorem k_113 {H : dH} (h0 : 0 < H.1) (hP : ex_P h) (hH : hC H h) (hQ : ∀ h1, ex_P h1 → h1.2 = h.2 → (∀ o k, ¬ (o = 47) → ¬ (36 ≤ o ∧ o ≤ 40) → h1.1 o k = h.1 o k) → hC (hP0 H) h1 → sC 36 (H.2 0) h1 → Q (some (.int (Int32.ofInt 1))) h1) : am_call am_cod 2 113 [.ref 47, .ref 36] h Q := by
  obtain ⟨hn, e2, q, hq, e1, hj⟩ := hH
  refine q_113 hq h0 hn hP e1 e2 (fun h1 p1 p2 p3 p4 p5 p6 => hQ h1 p1 p2 p3 ⟨Nat.le_trans (Nat.sub_le _ _) hn, p5, (q + 15) % 16, by omega, p4, fun j hj1 => ?_⟩ ?_)
  · have hj1 : j < H.1 - 1 := hj1
    rw [show ((q + 15) % 16 + 16 - j) % 16 = (q + 16 - (j + 1)) % 16 by omega]
    exact sC_fr (fun a k u1 u2 => p3 a k (by omega) (by omega)) (hj (j + 1) (by omega))
  · have w := hj 0 h0
    rw [show (q + 16 - 0) % 16 = q by omega] at w
    exact sC_cp p6 w
theorem k_113z {H : dH} (h0 : H.1 = 0) (hP : ex_P h) (hH : hC H h) (hQ : Q (some (.int (Int32.ofInt 0))) h) : am_call am_cod 2 113 [.ref 47, .ref 36] h Q := q_113z hP (by rw [hH.2.1, h0]) hQ
/-! the reference keeps -/
def rF (h0 h : am_H) : Prop := h.2 = h0.2 ∧ ∀ o k, ¬ (o = 154 ∧ k = 25) → ¬ (o = 170 ∧ 245 ≤ k ∧ k < 1029) → h.1 o k = h0.1 o k
theorem rF_0 {h : am_H} : rF h h := ⟨rfl, fun _ _ _ _ => rfl⟩
theorem rF_w {v : Int32} {h0 h : am_H} (l : rF h0 h) : rF h0 (am_wI h 154 25 v) := ⟨l.1, fun a j n1 n2 => (em_wn _ _ (fun z => n1 z)).trans (l.2 a j n1 n2)⟩
def shf (k : Nat) (h0 h : am_H) : Prop := h.2 = h0.2 ∧ (∀ o q, ¬ (o = 170 ∧ 245 ≤ q ∧ q < 1029) → h.1 o q = h0.1 o q) ∧ ∀ b i, i < 24 → 5 ≤ b → b < 21 → h.1 170 (49 * b + i) = h0.1 170 (49 * (if b + 1 < 5 + k then b + 1 else b) + i)
theorem shf_1 {h : am_H} : shf 1 h h := ⟨rfl, fun _ _ _ => rfl, fun b i _ h5 _ => by rw [if_neg (by omega)]⟩
theorem shf_s {k : Nat} {h0 h h1 : am_H} (l : shf k h0 h) (h1k : 1 ≤ k) (hk : k < 16) (p2 : h1.2 = h.2) (p3 : ∀ o q, ¬ (o = 170 ∧ 49 * ((5 + k) - 1) ≤ q ∧ q < 49 * ((5 + k) - 1) + 24) → h1.1 o q = h.1 o q) (p4 : ∀ j, j < 24 → h1.1 170 (49 * ((5 + k) - 1) + j) = h.1 170 (49 * (5 + k) + j)) : shf (k + 1) h0 h1 := by
  obtain ⟨l1, l2, l3⟩ := l
  refine ⟨p2.trans l1, fun o q n1 => (p3 o q (by omega)).trans (l2 o q n1), fun b i hi h5 hb => ?_⟩
  by_cases e : b = 4 + k
  · have w := p4 i hi
    rw [show (5 + k) - 1 = b by omega] at w
    rw [w, l3 (5 + k) i hi (by omega) (by omega), if_neg (by omega), if_pos (by omega), show b + 1 = 5 + k by omega]
  · rw [p3 170 (49 * b + i) (by omega), l3 b i hi h5 hb]
    by_cases e2 : b + 1 < 5 + k
    · rw [if_pos e2, if_pos (by omega)]
    · rw [if_neg e2, if_neg (by omega)]
theorem q_231l {h0 : am_H} : ∀ (m k : Nat) (h : am_H), k + m = 16 → 1 ≤ k → ex_P h → shf k h0 h → (∀ h1, ex_P h1 → shf 16 h0 h1 → pz_S 2 none am_r231 1 Q 43 [(0, .ref 154)] [] h1) → pz_S 2 none am_r231 1 Q 11 [(1, .int (nI k)), (0, .ref 154)] [] h := by
  intro m
  induction m with
  | zero =>
    intro k h hk h1k hP hF hZ
    obtain rfl : k = 16 := by omega
    refine am_goX 3 (show (((Int8.ofInt 16).toInt32) ≤ (nI 16) → pz_S 2 none am_r231 1 Q 43 [(1, .int (nI 16)), (0, .ref 154)] [] h) ∧ (¬ (((Int8.ofInt 16).toInt32) ≤ (nI 16)) → pz_S 2 none am_r231 1 Q 17 [(1, .int (nI 16)), (0, .ref 154)] [] h) from ⟨fun _ => ?_, fun hz => absurd (by decide) hz⟩)
    exact sv_S2 sv2_231 (by intro q hq; simp only [List.mem_cons, List.not_mem_nil, or_false] at hq; rcases hq with rfl <;> rfl) (hZ _ hP hF)
  | succ m ih =>
    intro k h hk h1k hP hF hZ
    refine am_goX 3 (show (((Int8.ofInt 16).toInt32) ≤ (nI k) → pz_S 2 none am_r231 1 Q 43 [(1, .int (nI k)), (0, .ref 154)] [] h) ∧ (¬ (((Int8.ofInt 16).toInt32) ≤ (nI k)) → pz_S 2 none am_r231 1 Q 17 [(1, .int (nI k)), (0, .ref 154)] [] h) from ⟨fun hz => absurd hz (show ¬ (nI 16 ≤ nI k) by rw [nI_leI (by omega) (by omega)]; omega), fun _ => ?_⟩)
    refine am_goX 14 (show pz_S 2 none am_r231 1 Q 34 [(1, .int (nI k)), (0, .ref 154)] [.int ((Int8.ofInt 24).toInt32), .int (((Int8.ofInt 49).toInt32) * (((Int32.ofInt 5) + (nI k)) - (Int32.ofInt 1))), .int (((Int8.ofInt 49).toInt32) * ((Int32.ofInt 5) + (nI k))), .ref 154] h from ?_)
    rw [show ((Int8.ofInt 49).toInt32) * ((Int32.ofInt 5) + (nI k)) = nI (49 * (5 + k)) from (dn_m (show (Int8.ofInt 49).toInt32 = nI 49 by decide) (dn_a rfl rfl))]
    rw [show ((Int8.ofInt 49).toInt32) * (((Int32.ofInt 5) + (nI k)) - (Int32.ofInt 1)) = nI (49 * ((5 + k) - 1)) from (dn_m (show (Int8.ofInt 49).toInt32 = nI 49 by decide) (dn_s (by omega) (dn_a rfl rfl) rfl))]
    rw [show (Int8.ofInt 24).toInt32 = nI 24 from (show (Int8.ofInt 24).toInt32 = nI 24 by decide)]
    refine am_goX 1 (show am_rc h 154 11 ∧ 0 ≤ 8 ∧ h.2.2.2.2 + am_al 232 ≤ 175 ∧ am_call am_cod 1 232 [.ref 154, .int (nI (49 * (5 + k))), .int (nI (49 * ((5 + k) - 1))), .int (nI 24)] h (fun vv h' => pz_S 2 none am_r231 1 Q 37 [(1, .int (nI k)), (0, .ref 154)] (vv.toList ++ []) h') from ⟨Or.inl ⟨by decide, ex_154 hP⟩, by decide, ex_lim hP rfl, am_call.up (q_232 (A := (49 * (5 + k))) (B := (49 * ((5 + k) - 1))) (K := 24) rfl rfl rfl (by omega) (by omega) (by omega) hP (fun h1 f2 f3 f4 f5 => ?_)) (by decide)⟩)
    have f6 : shf (k + 1) h0 h1 := shf_s hF h1k (by omega) f3 f4 f5
    refine am_goX 2 (show 1 < 2 ∧ pz_S 2 none am_r231 1 Q 11 [(1, .int ((nI k) + (Int32.ofInt 1))), (0, .ref 154)] [] h1 from ⟨by decide, ?_⟩)
    rw [show (nI k) + (Int32.ofInt 1) = nI (k + 1) from (dn_a rfl rfl)]
    exact sv_S2 sv2_231 (by intro q hq; simp only [List.mem_cons, List.not_mem_nil, or_false] at hq; rcases hq with rfl | rfl <;> rfl) (ih (k + 1) _ (by omega) (by omega) f2 f6 hZ)
theorem q_231a (hn : n < 16) (hP : ex_P h) (e1 : h.1 154 25 = nI n) (hQ : ∀ h1, ex_P h1 → rF h h1 → h1.1 154 25 = nI (n + 1) → (∀ j, j < 24 → h1.1 170 (49 * (5 + n) + j) = h.1 170 (0 + j)) → (∀ o k, ¬ (o = 154 ∧ k = 25) → ¬ (o = 170 ∧ 49 * (5 + n) ≤ k ∧ k < 49 * (5 + n) + 24) → h1.1 o k = h.1 o k) → Q none h1) : am_call am_cod 2 231 [.ref 154] h Q := by
  refine pz_call (n := 231) (nL := 2) (rt := none) (rows := am_r231) (d := 1) (by decide +kernel) (by decide +kernel) rfl (by funext pc; rfl) (ex_175 hP) (by exact Nat.le_of_ble_eq_true rfl) ?_
  have hX := rF_0 (h := h)
  refine am_goX 2 (show am_sh h 154 = some (11, 0) ∧ pz_S 2 none am_r231 1 Q 4 [(0, .ref 154)] [.int (h.1 154 25)] h from ⟨ex_154 hP, ?_⟩)
  rw [show h.1 154 25 = nI n from e1]
  refine am_goX 2 (show (¬ (nI n) = ((Int8.ofInt 16).toInt32) → pz_S 2 none am_r231 1 Q 53 [(0, .ref 154)] [] h) ∧ (¬ ¬ (nI n) = ((Int8.ofInt 16).toInt32) → pz_S 2 none am_r231 1 Q 9 [(0, .ref 154)] [] h) from ⟨fun _ => ?_, fun hz => absurd (show ¬ nI n = nI 16 from fun w => by have := nI_inj2 (by omega) (by omega) w; omega) hz⟩)
  refine am_goX 6 (show am_sh h 154 = some (11, 0) ∧ pz_S 2 none am_r231 1 Q 62 [(0, .ref 154)] [.int (h.1 154 25), .int (Int32.ofInt 5), .int ((Int8.ofInt 49).toInt32), .int (Int32.ofInt 0), .ref 154] h from ⟨ex_154 hP, ?_⟩)
  rw [show h.1 154 25 = nI n from e1]
  refine am_goX 3 (show pz_S 2 none am_r231 1 Q 66 [(0, .ref 154)] [.int ((Int8.ofInt 24).toInt32), .int (((Int8.ofInt 49).toInt32) * ((Int32.ofInt 5) + (nI n))), .int (Int32.ofInt 0), .ref 154] h from ?_)
  rw [show Int32.ofInt 0 = nI 0 from rfl]
  rw [show ((Int8.ofInt 49).toInt32) * ((Int32.ofInt 5) + (nI n)) = nI (49 * (5 + n)) from (dn_m (show (Int8.ofInt 49).toInt32 = nI 49 by decide) (dn_a rfl rfl))]
  rw [show (Int8.ofInt 24).toInt32 = nI 24 from (show (Int8.ofInt 24).toInt32 = nI 24 by decide)]
  refine am_goX 1 (show am_rc h 154 11 ∧ 0 ≤ 8 ∧ h.2.2.2.2 + am_al 232 ≤ 175 ∧ am_call am_cod 1 232 [.ref 154, .int (nI 0), .int (nI (49 * (5 + n))), .int (nI 24)] h (fun vv h' => pz_S 2 none am_r231 1 Q 69 [(0, .ref 154)] (vv.toList ++ []) h') from ⟨Or.inl ⟨by decide, ex_154 hP⟩, by decide, ex_lim hP rfl, am_call.up (q_232 (A := 0) (B := (49 * (5 + n))) (K := 24) rfl rfl rfl (by omega) (by omega) (by omega) hP (fun h7 f8 f9 f10 f11 => ?_)) (by decide)⟩)
  have f12 : h7.1 154 25 = nI n := (f10 154 25 (by omega)).trans e1
  have f13 : rF h h7 := ⟨f9.trans hX.1, fun a j n1 n2 => (f10 a j (by omega)).trans (hX.2 a j n1 n2)⟩
  have f14 : ∀ j, j < 24 → h7.1 170 ((49 * (5 + n)) + j) = h.1 170 (0 + j) := fun j hj => (f11 j hj).trans (hX.2 _ _ (by omega) (by omega))
  have f15 : ∀ o k, ¬ (o = 154 ∧ k = 25) → ¬ (o = 170 ∧ (49 * (5 + n)) ≤ k ∧ k < (49 * (5 + n)) + 24) → h7.1 o k = h.1 o k := fun o k n1 n2 => (f10 o k n2)
  refine am_goX 3 (show (Value.ref 154).category = 1 ∧ am_sh h7 154 = some (11, 0) ∧ pz_S 2 none am_r231 1 Q 74 [(0, .ref 154)] [.int (h7.1 154 25), .ref 154] h7 from ⟨rfl, ex_154 f8, ?_⟩)
  rw [show h7.1 154 25 = nI n from f12]
  refine am_goX 3 (show am_sh h7 154 = some (11, 0) ∧ narrow (am_fty 11 25) (.int ((nI n) + (Int32.ofInt 1))) = .int ((nI n) + (Int32.ofInt 1)) ∧ fits (am_fty 11 25) (.int ((nI n) + (Int32.ofInt 1))) = true ∧ pz_S 2 none am_r231 1 Q 79 [(0, .ref 154)] [] (am_wI h7 154 25 ((nI n) + (Int32.ofInt 1))) from ⟨ex_154 f8, rfl, rfl, ?_⟩)
  have f17 : ex_P (am_wI h7 154 25 ((nI n) + (Int32.ofInt 1))) := f8
  have f18 : (am_wI h7 154 25 ((nI n) + (Int32.ofInt 1))).1 154 25 = nI (n + 1) := (em_we _ _ _ _).trans ((dn_a rfl rfl))
  have f19 : rF h (am_wI h7 154 25 ((nI n) + (Int32.ofInt 1))) := rF_w f13
  have f20 : ∀ j, j < 24 → (am_wI h7 154 25 ((nI n) + (Int32.ofInt 1))).1 170 ((49 * (5 + n)) + j) = h.1 170 (0 + j) := fun j hj => (em_wn _ _ (by omega)).trans (f14 j hj)
  have f21 : ∀ o k, ¬ (o = 154 ∧ k = 25) → ¬ (o = 170 ∧ (49 * (5 + n)) ≤ k ∧ k < (49 * (5 + n)) + 24) → (am_wI h7 154 25 ((nI n) + (Int32.ofInt 1))).1 o k = h.1 o k := fun o k n1 n2 => (em_wn _ _ (fun z => n1 z)).trans (f15 o k n1 n2)
  generalize am_wI h7 154 25 ((nI n) + (Int32.ofInt 1)) = h16 at f17 f18 f19 f20 f21 ⊢
  exact am_goX 1 (show (none : Option FieldType) = none ∧ h16.2.2.2.2 = 175 ∧ _ from ⟨rfl, ex_175 f17, hQ _ f17 f19 f18 f20 f21⟩)
theorem q_231b (hP : ex_P h) (e1 : h.1 154 25 = nI 16) (hQ : ∀ h1, ex_P h1 → rF h h1 → h1.1 154 25 = nI 16 → (∀ j, j < 24 → h1.1 170 (980 + j) = h.1 170 (0 + j)) → (∀ b i, i < 24 → 5 ≤ b → b < 20 → h1.1 170 (49 * b + i) = h.1 170 (49 * (b + 1) + i)) → Q none h1) : am_call am_cod 2 231 [.ref 154] h Q := by
  refine pz_call (n := 231) (nL := 2) (rt := none) (rows := am_r231) (d := 1) (by decide +kernel) (by decide +kernel) rfl (by funext pc; rfl) (ex_175 hP) (by exact Nat.le_of_ble_eq_true rfl) ?_
  have hX := rF_0 (h := h)
  refine am_goX 2 (show am_sh h 154 = some (11, 0) ∧ pz_S 2 none am_r231 1 Q 4 [(0, .ref 154)] [.int (h.1 154 25)] h from ⟨ex_154 hP, ?_⟩)
  rw [show h.1 154 25 = nI 16 from e1]
  refine am_goX 2 (show (¬ (nI 16) = ((Int8.ofInt 16).toInt32) → pz_S 2 none am_r231 1 Q 53 [(0, .ref 154)] [] h) ∧ (¬ ¬ (nI 16) = ((Int8.ofInt 16).toInt32) → pz_S 2 none am_r231 1 Q 9 [(0, .ref 154)] [] h) from ⟨fun hz => absurd hz (by decide), fun _ => ?_⟩)
  refine am_goX 2 (show 1 < 2 ∧ pz_S 2 none am_r231 1 Q 11 [(1, .int (Int32.ofInt 1)), (0, .ref 154)] [] h from ⟨by decide, ?_⟩)
  refine q_231l 15 1 _ (by omega) (by omega) hP (shf_1 (h := h)) (fun h22 f23 f24 => ?_)
  have f25 : h22.1 154 25 = nI 16 := (f24.2.1 154 25 (by omega)).trans e1
  have f26 : rF h h22 := ⟨f24.1, fun a j n1 n2 => f24.2.1 a j n2⟩
  have f27 : ∀ b i, i < 24 → 5 ≤ b → b < 20 → h22.1 170 (49 * b + i) = h.1 170 (49 * (b + 1) + i) := fun b i u1 u2 u3 => by rw [f24.2.2 b i u1 u2 (by omega), if_pos (by omega)]
  refine am_goX 3 (show (Value.ref 154).category = 1 ∧ am_sh h22 154 = some (11, 0) ∧ pz_S 2 none am_r231 1 Q 48 [(0, .ref 154)] [.int (h22.1 154 25), .ref 154] h22 from ⟨rfl, ex_154 f23, ?_⟩)
  rw [show h22.1 154 25 = nI 16 from f25]
  refine am_goX 3 (show am_sh h22 154 = some (11, 0) ∧ narrow (am_fty 11 25) (.int ((nI 16) - (Int32.ofInt 1))) = .int ((nI 16) - (Int32.ofInt 1)) ∧ fits (am_fty 11 25) (.int ((nI 16) - (Int32.ofInt 1))) = true ∧ pz_S 2 none am_r231 1 Q 53 [(0, .ref 154)] [] (am_wI h22 154 25 ((nI 16) - (Int32.ofInt 1))) from ⟨ex_154 f23, rfl, rfl, ?_⟩)
  have f29 : ex_P (am_wI h22 154 25 ((nI 16) - (Int32.ofInt 1))) := f23
  have f30 : (am_wI h22 154 25 ((nI 16) - (Int32.ofInt 1))).1 154 25 = nI (16 - 1) := (em_we _ _ _ _).trans ((dn_s (by omega) rfl rfl))
  have f31 : rF h (am_wI h22 154 25 ((nI 16) - (Int32.ofInt 1))) := rF_w f26
  have f32 : ∀ b i, i < 24 → 5 ≤ b → b < 20 → (am_wI h22 154 25 ((nI 16) - (Int32.ofInt 1))).1 170 (49 * b + i) = h.1 170 (49 * (b + 1) + i) := fun b i u1 u2 u3 => (em_wn _ _ (by omega)).trans (f27 b i u1 u2 u3)
  generalize am_wI h22 154 25 ((nI 16) - (Int32.ofInt 1)) = h28 at f29 f30 f31 f32 ⊢
  refine am_goX 6 (show am_sh h28 154 = some (11, 0) ∧ pz_S 2 none am_r231 1 Q 62 [(0, .ref 154)] [.int (h28.1 154 25), .int (Int32.ofInt 5), .int ((Int8.ofInt 49).toInt32), .int (Int32.ofInt 0), .ref 154] h28 from ⟨ex_154 f29, ?_⟩)
  rw [show h28.1 154 25 = nI (16 - 1) from f30]
  refine am_goX 3 (show pz_S 2 none am_r231 1 Q 66 [(0, .ref 154)] [.int ((Int8.ofInt 24).toInt32), .int (((Int8.ofInt 49).toInt32) * ((Int32.ofInt 5) + (nI (16 - 1)))), .int (Int32.ofInt 0), .ref 154] h28 from ?_)
  rw [show Int32.ofInt 0 = nI 0 from rfl]
  rw [show ((Int8.ofInt 49).toInt32) * ((Int32.ofInt 5) + (nI (16 - 1))) = nI (49 * (5 + (16 - 1))) from (dn_m (show (Int8.ofInt 49).toInt32 = nI 49 by decide) (dn_a rfl rfl))]
  rw [show (Int8.ofInt 24).toInt32 = nI 24 from (show (Int8.ofInt 24).toInt32 = nI 24 by decide)]
  refine am_goX 1 (show am_rc h28 154 11 ∧ 0 ≤ 8 ∧ h28.2.2.2.2 + am_al 232 ≤ 175 ∧ am_call am_cod 1 232 [.ref 154, .int (nI 0), .int (nI (49 * (5 + (16 - 1)))), .int (nI 24)] h28 (fun vv h' => pz_S 2 none am_r231 1 Q 69 [(0, .ref 154)] (vv.toList ++ []) h') from ⟨Or.inl ⟨by decide, ex_154 f29⟩, by decide, ex_lim f29 rfl, am_call.up (q_232 (A := 0) (B := (49 * (5 + (16 - 1)))) (K := 24) rfl rfl rfl (by omega) (by omega) (by omega) f29 (fun h33 f34 f35 f36 f37 => ?_)) (by decide)⟩)
  have f38 : h33.1 154 25 = nI (16 - 1) := (f36 154 25 (by omega)).trans f30
  have f39 : rF h h33 := ⟨f35.trans f31.1, fun a j n1 n2 => (f36 a j (by omega)).trans (f31.2 a j n1 n2)⟩
  have f40 : ∀ j, j < 24 → h33.1 170 (980 + j) = h.1 170 (0 + j) := fun j hj => (f37 j hj).trans (f31.2 _ _ (by omega) (by omega))
  have f41 : ∀ b i, i < 24 → 5 ≤ b → b < 20 → h33.1 170 (49 * b + i) = h.1 170 (49 * (b + 1) + i) := fun b i u1 u2 u3 => (f36 _ _ (by omega)).trans (f32 b i u1 u2 u3)
  refine am_goX 3 (show (Value.ref 154).category = 1 ∧ am_sh h33 154 = some (11, 0) ∧ pz_S 2 none am_r231 1 Q 74 [(0, .ref 154)] [.int (h33.1 154 25), .ref 154] h33 from ⟨rfl, ex_154 f34, ?_⟩)
  rw [show h33.1 154 25 = nI (16 - 1) from f38]
  refine am_goX 3 (show am_sh h33 154 = some (11, 0) ∧ narrow (am_fty 11 25) (.int ((nI (16 - 1)) + (Int32.ofInt 1))) = .int ((nI (16 - 1)) + (Int32.ofInt 1)) ∧ fits (am_fty 11 25) (.int ((nI (16 - 1)) + (Int32.ofInt 1))) = true ∧ pz_S 2 none am_r231 1 Q 79 [(0, .ref 154)] [] (am_wI h33 154 25 ((nI (16 - 1)) + (Int32.ofInt 1))) from ⟨ex_154 f34, rfl, rfl, ?_⟩)
  have f43 : ex_P (am_wI h33 154 25 ((nI (16 - 1)) + (Int32.ofInt 1))) := f34
  have f44 : (am_wI h33 154 25 ((nI (16 - 1)) + (Int32.ofInt 1))).1 154 25 = nI ((16 - 1) + 1) := (em_we _ _ _ _).trans ((dn_a rfl rfl))
  have f45 : rF h (am_wI h33 154 25 ((nI (16 - 1)) + (Int32.ofInt 1))) := rF_w f39
  have f46 : ∀ j, j < 24 → (am_wI h33 154 25 ((nI (16 - 1)) + (Int32.ofInt 1))).1 170 (980 + j) = h.1 170 (0 + j) := fun j hj => (em_wn _ _ (by omega)).trans (f40 j hj)
  have f47 : ∀ b i, i < 24 → 5 ≤ b → b < 20 → (am_wI h33 154 25 ((nI (16 - 1)) + (Int32.ofInt 1))).1 170 (49 * b + i) = h.1 170 (49 * (b + 1) + i) := fun b i u1 u2 u3 => (em_wn _ _ (by omega)).trans (f41 b i u1 u2 u3)
  generalize am_wI h33 154 25 ((nI (16 - 1)) + (Int32.ofInt 1)) = h42 at f43 f44 f45 f46 f47 ⊢
  exact am_goX 1 (show (none : Option FieldType) = none ∧ h42.2.2.2.2 = 175 ∧ _ from ⟨rfl, ex_175 f43, hQ _ f43 f45 f44 f46 f47⟩)
theorem k_231 {P : Nat} {H : dH} (h6 : P ≤ 6) (hP : ex_P h) (hS : sR 0 P s h) (hH : hL P H h) (hQ : ∀ h1, ex_P h1 → rF h h1 → hL P (hP1 H s) h1 → Q none h1) : am_call am_cod 2 231 [.ref 154] h Q := by
  obtain ⟨hn, e1, hj⟩ := hH
  by_cases hlt : H.1 < 16
  · refine q_231a hlt hP e1 (fun h1 p1 p2 p3 p4 p5 => hQ h1 p1 p2 ⟨Nat.min_le_right _ _, ?_, fun j hj1 => ?_⟩)
    · show h1.1 154 25 = nI (min (H.1 + 1) 16)
      rw [p3, Nat.min_eq_left (by omega)]
    · have hj1 : j < min (H.1 + 1) 16 := hj1
      show sR (245 + 49 * (min (H.1 + 1) 16 - 1 - j)) P (if j = 0 then s else H.2 (j - 1)) h1
      rw [Nat.min_eq_left (show H.1 + 1 ≤ 16 by omega)]
      by_cases ej : j = 0
      · rw [if_pos ej, ej, show 245 + 49 * (H.1 + 1 - 1 - 0) = 49 * (5 + H.1) by omega]
        exact sR_cp p4 h6 hS
      · rw [if_neg ej, show H.1 + 1 - 1 - j = H.1 - 1 - (j - 1) by omega]
        exact sR_fr (fun k u1 u2 => p5 170 k (by omega) (by omega)) h6 (hj (j - 1) (by omega))
  · have e16 : H.1 = 16 := by omega
    refine q_231b hP (by rw [e1, e16]) (fun h1 p1 p2 p3 p4 p5 => hQ h1 p1 p2 ⟨Nat.min_le_right _ _, ?_, fun j hj1 => ?_⟩)
    · show h1.1 154 25 = nI (min (H.1 + 1) 16)
      rw [p3, Nat.min_eq_right (by omega)]
    · have hj1 : j < min (H.1 + 1) 16 := hj1
      show sR (245 + 49 * (min (H.1 + 1) 16 - 1 - j)) P (if j = 0 then s else H.2 (j - 1)) h1
      rw [Nat.min_eq_right (show 16 ≤ H.1 + 1 by omega)]
      by_cases ej : j = 0
      · rw [if_pos ej, ej]
        exact sR_cp (B := 980) p4 h6 hS
      · rw [if_neg ej]
        have w := hj (j - 1) (by omega)
        rw [e16] at w
        refine sR_cp (A := 245 + 49 * (16 - 1 - (j - 1))) (fun i hi => ?_) h6 w
        have z := p5 (5 + (16 - 1 - j)) i hi (by omega) (by omega)
        rw [show 49 * (5 + (16 - 1 - j)) + i = 245 + 49 * (16 - 1 - j) + i by omega, show 49 * (5 + (16 - 1 - j) + 1) + i = 245 + 49 * (16 - 1 - (j - 1)) + i by omega] at z
        exact z
end
