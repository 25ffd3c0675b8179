/-! COVER: what both answer -/
theorem jT_cn2 {T : Nat → Int32} {sz : Nat} {h g g2 : am_H} {C : sp_C} (hc : cI C) (p : cnC T sz h g) (k : kr kr_14 h g) (r : cnR (tt T sz) g g2) (j1 : jC C h) (j2 : tR C h) : ∃ C', cI C' ∧ jC C' g2 ∧ tR C' g2 := by
  rcases jC_cn p j1 with ⟨F, e, q⟩ | ⟨s, e, q⟩
  · rcases r.2 with ⟨F', e', w⟩ | ⟨s', e', w⟩
    · exact ⟨C, hc, jC_k q (kr_sub (by decide +kernel) r.1), tR_k (tR_k j2 (kr_sub (by decide +kernel) k)) (kr_sub (by decide +kernel) w)⟩
    · rw [e] at e'
      cases e'
  · rcases r.2 with ⟨F', e', w⟩ | ⟨s', e', w1, -, -⟩
    · rw [e] at e'
      cases e'
    · rw [e] at e'
      cases e'
      exact ⟨s.2, cI_canton e, jC_k q (kr_sub (by decide +kernel) r.1), w1⟩
def ax (C : sp_C) (x : Int32) (i k m : Nat) : Bool := (List.range' k m).any (fun e => sp_bit x (nI e) && sp_bit (dG C e) (nI i))
theorem d_167_b {C : sp_C} {x : Int32} (hc : cI C) : ∀ (m k : Nat) (a : Int32), k + m = dE C → bN a < 2 ^ dP C → bN (d_167_4 C x m k a) < 2 ^ dP C ∧ ∀ i, i < 6 → sp_bit (d_167_4 C x m k a) (nI i) = (sp_bit a (nI i) || ax C x i k m) := by
  intro m
  induction m with
  | zero => exact fun k a _ ha => ⟨ha, fun i hi => by rw [show ax C x i k 0 = false from rfl, Bool.or_false]; rfl⟩
  | succ m ih =>
    intro k a hk ha
    have hG := (hc.2.2.1 k (by omega)).2.2
    have ho : bN (a ||| dG C k) < 2 ^ dP C := by
      rw [bN_or]
      exact Nat.or_lt_two_pow ha hG
    have hax : ∀ i, ax C x i k (m + 1) = ((sp_bit x (nI k) && sp_bit (dG C k) (nI i)) || ax C x i (k + 1) m) := fun i => rfl
    show bN (d_167_4 C x m (k + 1) (if (d_65 x (nI k)) = 0 then a else a ||| (dG C k))) < _ ∧ ∀ i, i < 6 → sp_bit (d_167_4 C x m (k + 1) (if (d_65 x (nI k)) = 0 then a else a ||| (dG C k))) (nI i) = _
    cases hb : sp_bit x (nI k) with
    | false =>
      rw [if_pos (by rw [d_65_b]; exact hb)]
      obtain ⟨i1, i2⟩ := ih (k + 1) a (by omega) ha
      exact ⟨i1, fun i hi => by rw [i2 i hi, hax, hb, Bool.false_and, Bool.false_or]⟩
    | true =>
      rw [if_neg (by rw [d_65_b, hb]; decide)]
      obtain ⟨i1, i2⟩ := ih (k + 1) _ (by omega) ho
      refine ⟨i1, fun i hi => ?_⟩
      rw [i2 i hi, hax, hb, Bool.true_and, sp_bit_tg (x := a ||| dG C k) (by omega), bN_or, Nat.testBit_or, ← sp_bit_tg (by omega), ← sp_bit_tg (by omega), Bool.or_assoc]
theorem z6 : ∀ i, i < 6 → sp_bit (Int32.ofInt 0) (nI i) = false := by decide +kernel
theorem zP (n : Nat) : bN (Int32.ofInt 0) < 2 ^ n := by
  rw [show bN (Int32.ofInt 0) = 0 by decide]
  exact Nat.two_pow_pos _
theorem b6_eq {x y : Int32} {P : Nat} (hP : P ≤ 6) (hx : bN x < 2 ^ P) (hy : bN y < 2 ^ P) (hb : ∀ i, i < P → sp_bit x (nI i) = sp_bit y (nI i)) : x = y := by
  refine bN_inj (Nat.eq_of_testBit_eq fun i => ?_)
  by_cases hi : i < P
  · rw [← sp_bit_tg (by omega), ← sp_bit_tg (by omega)]
    exact hb i hi
  · have h2 : 2 ^ P ≤ 2 ^ i := Nat.pow_le_pow_right (i := P) (j := i) (show 2 > 0 by decide) (by omega)
    rw [Nat.testBit_lt_two_pow (Nat.lt_of_lt_of_le hx h2), Nat.testBit_lt_two_pow (Nat.lt_of_lt_of_le hy h2)]
theorem vb : ∀ n, n ≤ 5 → ∀ e, e < n → sp_bit (nI (2 ^ n - 1)) (nI e) = true := by decide +kernel
/-- who is to come to something -/
def aA (C : sp_C) (i : Nat) : Bool := (List.range' 0 (dE C)).any (fun e => sp_bit (dG C e) (nI i))
theorem ax_V {C : sp_C} (h5 : dE C ≤ 5) (i : Nat) : ax C (nI (dV C)) i 0 (dE C) = aA C i := by
  unfold ax aA
  refine Bool.eq_iff_iff.mpr ?_
  simp only [List.any_eq_true, List.mem_range'_1, Bool.and_eq_true]
  refine ⟨fun ⟨e, he, _, h2⟩ => ⟨e, he, h2⟩, fun ⟨e, he, h2⟩ => ⟨e, he, ?_, h2⟩⟩
  exact vb (dE C) h5 e (by omega)
theorem ax_A {C : sp_C} {x : Int32} {i : Nat} (h : ax C x i 0 (dE C) = true) : aA C i = true := by
  unfold ax at h
  unfold aA
  simp only [List.any_eq_true, Bool.and_eq_true] at h ⊢
  obtain ⟨e, he, _, h2⟩ := h
  exact ⟨e, he, h2⟩
theorem dB_A {C : sp_C} (h5 : dE C ≤ 5) {p : Nat} : (dB C p = 0) ↔ aA C p = false := by
  obtain ⟨i1, i2⟩ := dB_b (C := C) (p := p) h5
  refine ⟨fun h => ?_, fun h => ?_⟩
  · cases hx : aA C p with
    | false => rfl
    | true =>
      unfold aA at hx
      simp only [List.any_eq_true, List.mem_range'_1] at hx
      obtain ⟨e, he, h2⟩ := hx
      have w := i2 e (by omega)
      rw [h, h2, decide_eq_true (by omega), Bool.and_self, show (0 : Int32) = Int32.ofInt 0 from rfl, z6 e (by omega)] at w
      cases w
  · refine b5_eq i1 (by decide) (fun e he => ?_)
    rw [i2 e he, show (0 : Int32) = Int32.ofInt 0 from rfl, z6 e (by omega)]
    by_cases hl : e < dE C
    · rw [decide_eq_true hl, Bool.true_and]
      cases hx : sp_bit (dG C e) (nI p) with
      | false => rfl
      | true =>
        have : aA C p = true := by
          unfold aA
          simp only [List.any_eq_true, List.mem_range'_1]
          exact ⟨e, by omega, hx⟩
        rw [h] at this
        cases this
    · rw [decide_eq_false hl, Bool.false_and]
theorem dB_n {C : sp_C} (h5 : dE C ≤ 5) {p : Nat} {x : Int32} : (dB C p &&& x = 0) ↔ ax C x p 0 (dE C) = false := by
  obtain ⟨i1, i2⟩ := dB_b (C := C) (p := p) h5
  have hb : ∀ e, e < 5 → sp_bit (dB C p &&& x) (nI e) = (sp_bit (dB C p) (nI e) && sp_bit x (nI e)) := fun e he => by
    rw [sp_bit_tg (by omega), sp_bit_tg (by omega), sp_bit_tg (by omega), bN_and, Nat.testBit_and]
  refine ⟨fun h => ?_, fun h => ?_⟩
  · cases hx : ax C x p 0 (dE C) with
    | false => rfl
    | true =>
      unfold ax at hx
      simp only [List.any_eq_true, List.mem_range'_1, Bool.and_eq_true] at hx
      obtain ⟨e, he, h1, h2⟩ := hx
      have w := hb e (by omega)
      rw [h, i2 e (by omega), h2, h1, decide_eq_true (by omega), show (0 : Int32) = Int32.ofInt 0 from rfl, z6 e (by omega)] at w
      cases w
  · refine b5_eq ?_ (by decide) (fun e he => ?_)
    · rw [bN_and]
      exact Nat.lt_of_le_of_lt Nat.and_le_left i1
    · rw [hb e he, i2 e he, show (0 : Int32) = Int32.ofInt 0 from rfl, z6 e (by omega)]
      by_cases hl : e < dE C
      · rw [decide_eq_true hl, Bool.true_and]
        cases hx : (sp_bit (dG C e) (nI p) && sp_bit x (nI e)) with
        | false => rfl
        | true =>
          have : ax C x p 0 (dE C) = true := by
            unfold ax
            simp only [List.any_eq_true, List.mem_range'_1, Bool.and_eq_true]
            rw [Bool.and_eq_true] at hx
            exact ⟨e, by omega, hx.2, hx.1⟩
          rw [h] at this
          cases this
      · rw [decide_eq_false hl, Bool.false_and, Bool.false_and]
theorem and_true_iff_ {a b : Prop} (h : (a ∧ True) ↔ b) : a ↔ b := ⟨fun x => h.mp ⟨x, trivial⟩, fun x => (h.mpr x).1⟩
/-- all who are to come to something are to come to one of these -/
def aV (C : sp_C) (x : Int32) : Prop := ∀ p, p < dP C → aA C p = true → ax C x p 0 (dE C) = true
theorem aV_c {C : sp_C} (hc : cI C) (x : Int32) : (d_167 C x = d_167 C (nI (dV C))) ↔ aV C x := by
  obtain ⟨i1, i2⟩ := d_167_b (x := x) hc (dE C) 0 (Int32.ofInt 0) (by omega) (zP _)
  obtain ⟨j1, j2⟩ := d_167_b (x := nI (dV C)) hc (dE C) 0 (Int32.ofInt 0) (by omega) (zP _)
  have h6 := hc.1.1
  refine ⟨fun h p hp ha => ?_, fun h => ?_⟩
  · have e1 := i2 p (by omega)
    have e2 := j2 p (by omega)
    rw [show d_167_4 C x (dE C) 0 (Int32.ofInt 0) = d_167_4 C (nI (dV C)) (dE C) 0 (Int32.ofInt 0) from h, e2, z6 p (by omega), Bool.false_or, Bool.false_or, ax_V hc.1.2, ha] at e1
    exact e1.symm
  · refine b6_eq h6 i1 j1 (fun p hp => ?_)
    rw [show sp_bit (d_167 C x) (nI p) = _ from i2 p (by omega), show sp_bit (d_167 C (nI (dV C))) (nI p) = _ from j2 p (by omega), ax_V hc.1.2]
    congr 1
    cases ha : aA C p with
    | true => exact h p hp ha
    | false =>
      cases hx : ax C x p 0 (dE C) with
      | false => rfl
      | true =>
        rw [ax_A hx] at ha
        cases ha
theorem aV_r {C : sp_C} (hc : cI C) (n : Nat) : ∀ (m k : Nat) (a : Int32), k + m = dP C → ((¬ d_283_24 C n m k a = 0) ↔ (¬ (m = 0 ∧ a = 0) ∧ (¬ (0 < m ∧ a = 0)) ∧ ∀ p, k ≤ p → p < dP C → aA C p = true → ax C (nI n) p 0 (dE C) = true)) := by
  intro m
  induction m with
  | zero =>
    intro k a hk
    refine ⟨fun h => ⟨fun w => h w.2, fun w => absurd w.1 (by omega), fun p h1 h2 => by omega⟩, fun h w => h.1 ⟨rfl, w⟩⟩
  | succ m ih =>
    intro k a hk
    rw [d_283_24]
    by_cases ha : a = 0
    · rw [if_pos ha]
      refine ⟨fun h => ?_, fun h => absurd ⟨Nat.succ_pos m, ha⟩ h.2.1⟩
      have := (ih (k + 1) (Int32.ofInt 0) (by omega)).mp h
      rcases Nat.eq_zero_or_pos m with w | w
      · exact absurd ⟨w, rfl⟩ this.1
      · exact absurd ⟨w, rfl⟩ this.2.1
    · rw [if_neg ha]
      have go : (¬ d_283_24 C n m (k + 1) (Int32.ofInt 1) = 0) ↔ ∀ p, k + 1 ≤ p → p < dP C → aA C p = true → ax C (nI n) p 0 (dE C) = true := by
        rw [ih (k + 1) _ (by omega)]
        exact ⟨fun h => h.2.2, fun h => ⟨fun w => absurd w.2 (by decide), fun w => absurd w.2 (by decide), h⟩⟩
      have no : ¬ ¬ d_283_24 C n m (k + 1) (Int32.ofInt 0) = 0 := fun h => by
        have := (ih (k + 1) (Int32.ofInt 0) (by omega)).mp h
        rcases Nat.eq_zero_or_pos m with w | w
        · exact absurd ⟨w, rfl⟩ this.1
        · exact absurd ⟨w, rfl⟩ this.2.1
      have fin : ∀ (v : Prop), ((∀ p, k + 1 ≤ p → p < dP C → aA C p = true → ax C (nI n) p 0 (dE C) = true) ∧ v ↔ ∀ p, k ≤ p → p < dP C → aA C p = true → ax C (nI n) p 0 (dE C) = true) → (((∀ p, k + 1 ≤ p → p < dP C → aA C p = true → ax C (nI n) p 0 (dE C) = true) ∧ v) ↔ (¬ (m + 1 = 0 ∧ a = 0) ∧ ¬ (0 < m + 1 ∧ a = 0) ∧ ∀ p, k ≤ p → p < dP C → aA C p = true → ax C (nI n) p 0 (dE C) = true)) := fun v h => by
        rw [h]
        exact ⟨fun q => ⟨fun w => ha w.2, fun w => ha w.2, q⟩, fun q => q.2.2⟩
      by_cases h1 : dB C k = 0
      · rw [if_pos h1, go]
        refine (and_true_iff_ (fin True ?_))
        refine ⟨fun q p h2 h3 h4 => ?_, fun q => ⟨fun p h2 h3 h4 => q p (by omega) h3 h4, trivial⟩⟩
        by_cases ep : p = k
        · rw [ep, (dB_A hc.1.2).mp h1] at h4
          cases h4
        · exact q.1 p (by omega) h3 h4
      · rw [if_neg h1]
        by_cases h2 : (dB C k) &&& (nI n) = 0
        · rw [if_pos h2]
          refine ⟨fun h => absurd h no, fun h => ?_⟩
          have w := h.2.2 k (Nat.le_refl _) (by omega) (by
            cases hx : aA C k with
            | true => rfl
            | false => exact absurd ((dB_A hc.1.2).mpr hx) h1)
          rw [(dB_n hc.1.2).mp h2] at w
          cases w
        · rw [if_neg h2, go]
          refine (and_true_iff_ (fin True ?_))
          refine ⟨fun q p h3 h4 h5 => ?_, fun q => ⟨fun p h3 h4 h5 => q p (by omega) h4 h5, trivial⟩⟩
          by_cases ep : p = k
          · rw [ep]
            cases hx : ax C (nI n) k 0 (dE C) with
            | true => rfl
            | false => exact absurd ((dB_n hc.1.2).mpr hx) h2
          · exact q.1 p (by omega) h4 h5
theorem pcV : ∀ n, n ≤ 5 → ∀ k, k < 2 ^ n - 1 → ¬ d_69 (nI (2 ^ n - 1)) ≤ d_69 (nI k) ∧ d_235 (nI k) ≤ d_235 (nI (2 ^ n - 1)) := by decide +kernel
/-- both covers -/
theorem cover_l {C : sp_C} (hc : cI C) : ∀ (m k : Nat) (a1 a2 : Int32), k + m = dV C → ((a1 = Int32.ofInt (-1) ∧ a2 = nI (dV C)) ∨ (∃ j, j < k ∧ a1 = nI j ∧ a2 = nI j)) → d_166_16 C m k a2 = d_283_9 C (m + 1) k a1 := by
  have h5 := hc.1.2
  have h31 := (dV_31 (C := C) h5).1
  have vR : ∀ n : Nat, (¬ d_283_24 C n (dP C) 0 (Int32.ofInt 1) = 0) ↔ aV C (nI n) := fun n => by
    rw [aV_r hc n (dP C) 0 _ (by omega)]
    exact ⟨fun h p hp ha => h.2.2 p (Nat.zero_le _) hp ha, fun h => ⟨fun w => absurd w.2 (by decide), fun w => absurd w.2 (by decide), fun p _ hp ha => h p hp ha⟩⟩
  have pc : ∀ k, k < dV C → ¬ d_69 (nI (dV C)) ≤ d_69 (nI k) ∧ d_235 (nI k) ≤ d_235 (nI (dV C)) := pcV (dE C) h5
  have vV : ¬ d_283_24 C (dV C) (dP C) 0 (Int32.ofInt 1) = 0 := (vR _).mpr (fun p _ ha => by rw [ax_V h5]; exact ha)
  intro m
  induction m with
  | zero =>
    intro k a1 a2 hk hR
    have ek : k = dV C := by omega
    subst ek
    show a2 = d_283_9 C (0 + 1) (dV C) a1
    rw [d_283_9, if_neg vV]
    show a2 = (if a1 < 0 then nI (dV C) else _)
    rcases hR with ⟨rfl, rfl⟩ | ⟨j, hj, rfl, rfl⟩
    · rw [if_pos (by decide)]
    · rw [if_neg (nI_pos (by omega)), if_pos (pc j hj).2]
  | succ m ih =>
    intro k a1 a2 hk hR
    rw [d_166_16, d_283_9]
    have hv : (d_167 C (nI k) = d_167 C (nI (dV C))) ↔ ¬ d_283_24 C k (dP C) 0 (Int32.ofInt 1) = 0 := (aV_c hc _).trans (vR k).symm
    have hb : ∀ j, j < 64 → d_69 (nI j) = d_235 (nI j) := by decide +kernel
    by_cases h1 : d_283_24 C k (dP C) 0 (Int32.ofInt 1) = 0
    · rw [if_pos h1]
      have h2 : ¬ d_167 C (nI k) = d_167 C (nI (dV C)) := fun w => hv.mp w h1
      rw [if_pos h2, show (if d_69 a2 ≤ d_69 (nI k) then a2 else a2) = a2 by split <;> rfl]
      exact ih (k + 1) a1 a2 (by omega) (hR.imp id (fun ⟨j, hj, q⟩ => ⟨j, by omega, q⟩))
    · rw [if_neg h1, if_neg (show ¬ ¬ d_167 C (nI k) = d_167 C (nI (dV C)) from fun w => w (hv.mpr h1))]
      rcases hR with ⟨rfl, rfl⟩ | ⟨j, hj, rfl, rfl⟩
      · rw [if_neg (pc k (by omega)).1, if_pos (by decide)]
        exact ih (k + 1) _ _ (by omega) (Or.inr ⟨k, by omega, rfl, rfl⟩)
      · rw [if_neg (show ¬ nI j < 0 from nI_pos (by omega)), hb j (by omega), hb k (by omega)]
        by_cases h3 : d_235 (nI j) ≤ d_235 (nI k)
        · rw [if_pos h3]
          exact ih (k + 1) _ _ (by omega) (Or.inr ⟨j, by omega, rfl, rfl⟩)
        · rw [if_neg h3]
          exact ih (k + 1) _ _ (by omega) (Or.inr ⟨k, by omega, rfl, rfl⟩)
theorem cover_e {C : sp_C} (hc : cI C) : d_166 C = d_283 C := cover_l hc (dV C) 0 _ _ (by omega) (Or.inl ⟨rfl, rfl⟩)
theorem q_166 {h : am_H} {C : sp_C} (hI : iv_I h) (hc : cI C) (j : jC C h) : am_call am_cod 60 166 [.ref 0] h (fun v _ => v = some (.int (d_166 C))) := by
  have hP := iv_P hI
  obtain ⟨c, c1, c2, c3⟩ := j
  rcases c1 with rfl | rfl
  · exact am_call.up (d_166_t6 hP c3 c2 rfl) (by decide)
  · exact am_call.up (d_166_t17 hP c3 c2 rfl) (by decide)
theorem q_283 {h : am_H} {C : sp_C} (hI : iv_I h) (hc : cI C) (j : tR C h) : am_call am_cod 60 283 [.ref 154] h (fun v _ => v = some (.int (d_166 C))) := by
  rw [cover_e hc]
  exact am_call.up (d_283_r (iv_P hI) j (fun _ => rfl)) (by decide)
