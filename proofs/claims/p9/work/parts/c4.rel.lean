/-! THE TOLD CANTON OF BOTH BETWEEN CALLS -/
theorem iv_P {h : am_H} (hI : iv_I h) : ex_P h := by
  obtain ⟨N, hN, hW, -⟩ := hI
  exact ex_G hW.1 hW.2.1
theorem kr_sub {R S : ag_M} (hs : S.all (fun s => R.any (fun r => Nat.beq r.1 s.1 && (Nat.ble r.2.1 s.2.1 && Nat.ble s.2.2 r.2.2))) = true) {h h' : am_H} (k : kr R h h') : kr S h h' := fun o q e => k o q (by
  unfold ag_atM at e ⊢
  obtain ⟨s, s1, s2⟩ := List.any_eq_true.mp e
  obtain ⟨r, r1, r2⟩ := List.any_eq_true.mp (List.all_eq_true.mp hs s s1)
  refine List.any_eq_true.mpr ⟨r, r1, ?_⟩
  have s2 : (Nat.beq s.1 o && (Nat.ble s.2.1 q && Nat.ble q s.2.2)) = true := s2
  show (Nat.beq r.1 o && (Nat.ble r.2.1 q && Nat.ble q r.2.2)) = true
  rw [Bool.and_eq_true, Bool.and_eq_true] at s2 r2 ⊢
  have a1 := Nat.eq_of_beq_eq_true s2.1
  have a2 := Nat.eq_of_beq_eq_true r2.1
  have b1 := Nat.le_of_ble_eq_true s2.2.1
  have b2 := Nat.le_of_ble_eq_true s2.2.2
  have c1 := Nat.le_of_ble_eq_true r2.2.1
  have c2 := Nat.le_of_ble_eq_true r2.2.2
  exact ⟨by rw [a2, a1]; exact Nat.beq_refl o, Nat.ble_eq_true_of_le (by omega), Nat.ble_eq_true_of_le (by omega)⟩)
def kr_V : ag_M := [(0, 3, 3), (6, 0, 11), (8, 0, 5), (9, 0, 5), (12, 0, 4), (13, 0, 4), (14, 2, 2), (15, 0, 999), (17, 0, 11), (19, 0, 5), (20, 0, 5), (23, 0, 4), (24, 0, 4), (25, 2, 2), (26, 0, 999)]
def kr_T : ag_M := [(160, 0, 39), (161, 0, 1099), (162, 0, 1099)]
/-- the class's told canton is C -/
def jC (C : sp_C) (h : am_H) : Prop := ∃ c, (c = 6 ∨ c = 17) ∧ h.2.2.1 0 3 = some c ∧ c_v c C h
theorem c_v_x {c : Nat} {C : sp_C} {h g : am_H} (e0 : g.1 c 0 = h.1 c 0) (e4 : g.1 c 4 = h.1 c 4) (e10 : g.1 c 10 = h.1 c 10) (e2 : ∀ i, i < 6 → g.1 (c + 2) i = h.1 (c + 2) i ∧ g.1 (c + 3) i = h.1 (c + 3) i) (e6 : ∀ i, i < 5 → g.1 (c + 6) i = h.1 (c + 6) i ∧ g.1 (c + 7) i = h.1 (c + 7) i) (e8 : g.1 (c + 8) 2 = h.1 (c + 8) 2) (e9 : ∀ i, i < 1000 → g.1 (c + 9) i = h.1 (c + 9) i) (l : c_v c C h) : c_v c C g := by
  obtain ⟨⟨a1, a2, a3⟩, ⟨b1, b2, b3⟩, ⟨d1, d2⟩, f1, f2, f3⟩ := l
  refine ⟨⟨e0.trans a1, a2, fun i hi => ?_⟩, ⟨e4.trans b1, b2, fun i hi => ?_⟩, ⟨e10.trans d1, d2⟩, e8.trans f1, f2, fun i hi => (e9 i (by omega)).trans (f3 i hi)⟩
  · rw [(e2 i (by omega)).1, (e2 i (by omega)).2]; exact a3 i hi
  · rw [(e6 i (by omega)).1, (e6 i (by omega)).2]; exact b3 i hi
theorem jC_k {C : sp_C} {h g : am_H} (j : jC C h) (k : kr kr_V h g) : jC C g := by
  obtain ⟨c, c1, c2, c3⟩ := j
  refine ⟨c, c1, (k 0 3 (by decide +kernel)).2.2.trans c2, ?_⟩
  rcases c1 with rfl | rfl
  · exact c_v_x (k 6 0 (by decide +kernel)).1 (k 6 4 (by decide +kernel)).1 (k 6 10 (by decide +kernel)).1 (fun i hi => ⟨(k 8 i (kr_at (a := 0) (b := 5) (by decide +kernel) (Nat.zero_le _) (by omega))).1, (k 9 i (kr_at (a := 0) (b := 5) (by decide +kernel) (Nat.zero_le _) (by omega))).1⟩) (fun i hi => ⟨(k 12 i (kr_at (a := 0) (b := 4) (by decide +kernel) (Nat.zero_le _) (by omega))).1, (k 13 i (kr_at (a := 0) (b := 4) (by decide +kernel) (Nat.zero_le _) (by omega))).1⟩) (k 14 2 (by decide +kernel)).1 (fun i hi => (k 15 i (kr_at (a := 0) (b := 999) (by decide +kernel) (Nat.zero_le _) (by omega))).1) c3
  · exact c_v_x (k 17 0 (by decide +kernel)).1 (k 17 4 (by decide +kernel)).1 (k 17 10 (by decide +kernel)).1 (fun i hi => ⟨(k 19 i (kr_at (a := 0) (b := 5) (by decide +kernel) (Nat.zero_le _) (by omega))).1, (k 20 i (kr_at (a := 0) (b := 5) (by decide +kernel) (Nat.zero_le _) (by omega))).1⟩) (fun i hi => ⟨(k 23 i (kr_at (a := 0) (b := 4) (by decide +kernel) (Nat.zero_le _) (by omega))).1, (k 24 i (kr_at (a := 0) (b := 4) (by decide +kernel) (Nat.zero_le _) (by omega))).1⟩) (k 25 2 (by decide +kernel)).1 (fun i hi => (k 26 i (kr_at (a := 0) (b := 999) (by decide +kernel) (Nat.zero_le _) (by omega))).1) c3
theorem tR_k {C : sp_C} {h g : am_H} (j : tR C h) (k : kr kr_T h g) : tR C g := by
  obtain ⟨⟨a1, a2, a3⟩, ⟨b1, b2, b3⟩, c3, ⟨d1, d2⟩, e1, e2, e3, e4, e5⟩ := j
  have w : ∀ q, q ≤ 39 → g.1 160 q = h.1 160 q := fun q hq => (k 160 q (kr_at (a := 0) (b := 39) (by decide +kernel) (Nat.zero_le _) hq)).1
  have w1 : ∀ q, q ≤ 1099 → g.1 161 q = h.1 161 q := fun q hq => (k 161 q (kr_at (a := 0) (b := 1099) (by decide +kernel) (Nat.zero_le _) hq)).1
  have w2 : ∀ q, q ≤ 1099 → g.1 162 q = h.1 162 q := fun q hq => (k 162 q (kr_at (a := 0) (b := 1099) (by decide +kernel) (Nat.zero_le _) hq)).1
  refine ⟨⟨?_, a2, fun i hi => ?_⟩, ⟨?_, b2, fun i hi => ?_⟩, fun p q hp hq => ?_, ⟨?_, d2⟩, e1, fun j hj => ?_, fun w => ?_, e4, ?_⟩
  · rw [w _ (by omega)]; exact a1
  · rw [w _ (by omega), w _ (by omega)]; exact a3 i hi
  · rw [w _ (by omega)]; exact b1
  · rw [w _ (by omega), w _ (by omega)]; exact b3 i hi
  · rw [w _ (by omega)]; exact c3 p q hp hq
  · rw [w _ (by omega)]; exact d1
  · rw [w1 _ (by omega), w2 _ (by omega)]; exact e2 j hj
  · rw [w1 _ (by omega)]; exact e3 w
  · rw [w _ (by omega)]; exact e5
theorem c_v_q {c d : Nat} {C : sp_C} {h g : am_H} (hc : (c = 6 ∧ d = 17) ∨ (c = 17 ∧ d = 6)) (w : ∀ o k, ¬ c_in c o → g.1 o k = h.1 o k ∧ g.2.1 o k = h.2.1 o k) (l : c_v d C h) : c_v d C g := by
  have n : ∀ o k, d ≤ o → o ≤ d + 10 → g.1 o k = h.1 o k := fun o k h1 h2 => (w o k (by unfold c_in; omega)).1
  exact c_v_x (n _ _ (by omega) (by omega)) (n _ _ (by omega) (by omega)) (n _ _ (by omega) (by omega)) (fun i _ => ⟨n _ _ (by omega) (by omega), n _ _ (by omega) (by omega)⟩) (fun i _ => ⟨n _ _ (by omega) (by omega), n _ _ (by omega) (by omega)⟩) (n _ _ (by omega) (by omega)) (fun i _ => n _ _ (by omega) (by omega)) l
/-- what canton makes of it: the old one, or the one that was read -/
theorem jC_cn {T : Nat → Int32} {sz : Nat} {h g : am_H} {C : sp_C} (p : cnC T sz h g) (j : jC C h) : (∃ F, sp_canton (tt T sz) = .inl F ∧ jC C g) ∨ (∃ s, sp_canton (tt T sz) = .inr s ∧ jC s.2 g) := by
  rcases p with ⟨F, e, c, d, hc, ht, e2, w⟩ | ⟨s, e, c, hc, ht, l, -⟩
  · obtain ⟨b, b1, b2, b3⟩ := j
    have eb : b = d := Option.some.inj (b2.symm.trans ht)
    subst eb
    exact Or.inl ⟨F, e, b, b1, by rw [e2]; exact b2, c_v_q hc w b3⟩
  · exact Or.inr ⟨s, e, c, hc, ht, (c_c_v l).1⟩
theorem jT_cn {T : Nat → Int32} {sz : Nat} {h g g2 : am_H} {C : sp_C} (p : cnC T sz h g) (k : kr kr_14 h g) (r : cnR (tt T sz) g g2) (j1 : jC C h) (j2 : tR C h) : ∃ C', jC C' g2 ∧ tR C' g2 := by
  rcases jC_cn p j1 with ⟨F, e, q⟩ | ⟨s, e, q⟩
  · rcases r.2 with ⟨F', e', w⟩ | ⟨s', e', w⟩
    · exact ⟨C, jC_k q (kr_sub (by decide +kernel) r.1), tR_k (tR_k j2 (kr_sub (by decide +kernel) k)) (kr_sub (by decide +kernel) w)⟩
    · rw [e] at e'
      cases e'
  · rcases r.2 with ⟨F', e', w⟩ | ⟨s', e', w1, -, -⟩
    · rw [e] at e'
      cases e'
    · rw [e] at e'
      cases e'
      exact ⟨s.2, jC_k q (kr_sub (by decide +kernel) r.1), w1⟩
