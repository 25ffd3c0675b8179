/-! THE WHOLE RELATION OF STATES -/
def sH (C : sp_C) (D : Nat) (H : dH) : Prop := ∀ j, j < H.1 → sI C D (H.2 j)
def sM (C : sp_C) (D : Nat) (M : dMk) : Prop := ∀ m, m < 4 → M.1 m = true → sI C D (M.2.1 m) ∧ M.2.2 m ≤ 8
def KC (C : sp_C) (s : dS) (H : dH) (M : dMk) (x : Nat) (h : am_H) : Prop := ∃ c, (c = 6 ∨ c = 17) ∧ h.2.2.1 0 3 = some c ∧ c_v c C h ∧ c_d c C h ∧ sC 36 s h ∧ hC H h ∧ mC M h ∧ h.1 0 12 = nI x
def KR (C : sp_C) (s : dS) (H : dH) (M : dMk) (x : Nat) (h : am_H) : Prop := tR C h ∧ (∀ e, e < dE C → h.1 172 e = dW C e) ∧ sR 0 (dP C) s h ∧ hL (dP C) H h ∧ mL (dP C) M h ∧ h.1 170 24 = nI x
def KI (C : sp_C) (D : Nat) (s : dS) (H : dH) (M : dMk) (x : Nat) : Prop := cI C ∧ sI C D s ∧ sH C D H ∧ sM C D M ∧ x ≤ 8
theorem sI_up {C : sp_C} {D E : Nat} {s : dS} (h : D ≤ E) (l : sI C D s) : sI C E s := by
  obtain ⟨⟨d, h1, h2⟩, h3⟩ := l
  exact ⟨⟨d, by omega, h2⟩, h3⟩
theorem KI_up {C : sp_C} {D E : Nat} {s : dS} {H : dH} {M : dMk} {x : Nat} (h : D ≤ E) (l : KI C D s H M x) : KI C E s H M x := ⟨l.1, sI_up h l.2.1, fun j hj => sI_up h (l.2.2.1 j hj), fun m hm z => ⟨sI_up h (l.2.2.2.1 m hm z).1, (l.2.2.2.1 m hm z).2⟩, l.2.2.2.2⟩
def kr_K : ag_M := [(0, 3, 3), (0, 12, 12), (6, 0, 11), (8, 0, 5), (9, 0, 5), (11, 0, 4), (12, 0, 4), (13, 0, 4), (14, 2, 2), (15, 0, 999), (17, 0, 11), (19, 0, 5), (20, 0, 5), (22, 0, 4), (23, 0, 4), (24, 0, 4), (25, 2, 2), (26, 0, 999), (36, 0, 1), (37, 0, 5), (38, 0, 5), (39, 0, 4), (40, 0, 4), (49, 0, 1), (50, 0, 5), (51, 0, 5), (52, 0, 4), (53, 0, 4), (54, 0, 1), (55, 0, 5), (56, 0, 5), (57, 0, 4), (58, 0, 4), (59, 0, 1), (60, 0, 5), (61, 0, 5), (62, 0, 4), (63, 0, 4), (64, 0, 1), (65, 0, 5), (66, 0, 5), (67, 0, 4), (68, 0, 4), (69, 0, 1), (70, 0, 5), (71, 0, 5), (72, 0, 4), (73, 0, 4), (74, 0, 1), (75, 0, 5), (76, 0, 5), (77, 0, 4), (78, 0, 4), (79, 0, 1), (80, 0, 5), (81, 0, 5), (82, 0, 4), (83, 0, 4), (84, 0, 1), (85, 0, 5), (86, 0, 5), (87, 0, 4), (88, 0, 4), (89, 0, 1), (90, 0, 5), (91, 0, 5), (92, 0, 4), (93, 0, 4), (94, 0, 1), (95, 0, 5), (96, 0, 5), (97, 0, 4), (98, 0, 4), (99, 0, 1), (100, 0, 5), (101, 0, 5), (102, 0, 4), (103, 0, 4), (104, 0, 1), (105, 0, 5), (106, 0, 5), (107, 0, 4), (108, 0, 4), (109, 0, 1), (110, 0, 5), (111, 0, 5), (112, 0, 4), (113, 0, 4), (114, 0, 1), (115, 0, 5), (116, 0, 5), (117, 0, 4), (118, 0, 4), (119, 0, 1), (120, 0, 5), (121, 0, 5), (122, 0, 4), (123, 0, 4), (124, 0, 1), (125, 0, 5), (126, 0, 5), (127, 0, 4), (128, 0, 4), (131, 0, 1), (132, 0, 5), (133, 0, 5), (134, 0, 4), (135, 0, 4), (137, 0, 1), (138, 0, 5), (139, 0, 5), (140, 0, 4), (141, 0, 4), (143, 0, 1), (144, 0, 5), (145, 0, 5), (146, 0, 4), (147, 0, 4), (149, 0, 1), (150, 0, 5), (151, 0, 5), (152, 0, 4), (153, 0, 4), (47, 1, 2), (130, 0, 0), (130, 2, 2), (136, 0, 0), (136, 2, 2), (142, 0, 0), (142, 2, 2), (148, 0, 0), (148, 2, 2)]
def kr_L : ag_M := [(160, 0, 39), (161, 0, 1099), (162, 0, 1099), (154, 25, 25), (170, 0, 1028), (171, 0, 3), (172, 0, 4)]
def kcB (R : ag_M) (o a b : Nat) : Bool := R.any (fun r => Nat.beq r.1 o && (Nat.ble r.2.1 a && Nat.ble b r.2.2))
theorem kc {R : ag_M} {o a b q : Nat} {h g : am_H} (c : kcB R o a b = true) (k : kr R h g) (h1 : a ≤ q) (h2 : q ≤ b) : g.1 o q = h.1 o q := (k o q (by
  obtain ⟨r, r1, r2⟩ := List.any_eq_true.mp c
  rw [Bool.and_eq_true, Bool.and_eq_true] at r2
  unfold ag_atM
  refine List.any_eq_true.mpr ⟨r, r1, ?_⟩
  have e1 := Nat.eq_of_beq_eq_true r2.1
  have e2 := Nat.le_of_ble_eq_true r2.2.1
  have e3 := Nat.le_of_ble_eq_true r2.2.2
  show (Nat.beq r.1 o && (Nat.ble r.2.1 q && Nat.ble q r.2.2)) = true
  rw [Bool.and_eq_true, Bool.and_eq_true, e1]
  exact ⟨Nat.beq_refl o, Nat.ble_eq_true_of_le (by omega), Nat.ble_eq_true_of_le (by omega)⟩)).1
def kc5 (R : ag_M) (o : Nat) : Bool := kcB R o 0 1 && (kcB R (o + 1) 0 5 && (kcB R (o + 2) 0 5 && (kcB R (o + 3) 0 4 && kcB R (o + 4) 0 4)))
theorem sC_k {R : ag_M} {o : Nat} {s : dS} {h g : am_H} (c : kc5 R o = true) (k : kr R h g) (l : sC o s h) : sC o s g := by
  unfold kc5 at c
  rw [Bool.and_eq_true, Bool.and_eq_true, Bool.and_eq_true, Bool.and_eq_true] at c
  obtain ⟨c0, c1, c2, c3, c4⟩ := c
  obtain ⟨⟨a1, a2⟩, a3, a4⟩ := l
  exact ⟨⟨(kc c0 k (by omega) (by omega)).trans a1, (kc c0 k (by omega) (by omega)).trans a2⟩, fun i hi => ⟨(kc c1 k (by omega) (by omega)).trans (a3 i hi).1, (kc c2 k (by omega) (by omega)).trans (a3 i hi).2⟩, fun i hi => ⟨(kc c3 k (by omega) (by omega)).trans (a4 i hi).1, (kc c4 k (by omega) (by omega)).trans (a4 i hi).2⟩⟩
theorem kc_r : ∀ q, q < 16 → kc5 kr_K (49 + 5 * q) = true := by decide +kernel
theorem kc_m : ∀ m, m < 4 → kc5 kr_K (131 + 6 * m) = true ∧ kcB kr_K (130 + 6 * m) 0 0 = true ∧ kcB kr_K (130 + 6 * m) 2 2 = true := by decide +kernel
theorem hC_k {H : dH} {h g : am_H} (k : kr kr_K h g) (l : hC H h) : hC H g := by
  obtain ⟨a1, a2, q, a3, a4, a5⟩ := l
  exact ⟨a1, (kc (a := 1) (b := 2) (by decide +kernel) k (by decide) (by decide)).trans a2, q, a3, (kc (a := 1) (b := 2) (by decide +kernel) k (by decide) (by decide)).trans a4, fun j hj => sC_k (kc_r _ (by omega)) k (a5 j hj)⟩
theorem mC_k {M : dMk} {h g : am_H} (k : kr kr_K h g) (l : mC M h) : mC M g := fun m hm =>
  ⟨(kc (kc_m m hm).2.1 k (Nat.le_refl _) (Nat.le_refl _)).trans (l m hm).1, fun z => ⟨sC_k (kc_m m hm).1 k ((l m hm).2 z).1, (kc (kc_m m hm).2.2 k (Nat.le_refl _) (Nat.le_refl _)).trans ((l m hm).2 z).2⟩⟩
theorem c_v_k {c : Nat} {C : sp_C} {h g : am_H} (hc : c = 6 ∨ c = 17) (k : kr kr_K h g) (l : c_v c C h) : c_v c C g := by
  rcases hc with rfl | rfl
  · exact c_v_x (kc (a := 0) (b := 11) (by decide +kernel) k (by decide) (by decide)) (kc (a := 0) (b := 11) (by decide +kernel) k (by decide) (by decide)) (kc (a := 0) (b := 11) (by decide +kernel) k (by decide) (by decide)) (fun i hi => ⟨(kc (a := 0) (b := 5) (by decide +kernel) k (Nat.zero_le _) (by omega)), (kc (a := 0) (b := 5) (by decide +kernel) k (Nat.zero_le _) (by omega))⟩) (fun i hi => ⟨(kc (a := 0) (b := 4) (by decide +kernel) k (Nat.zero_le _) (by omega)), (kc (a := 0) (b := 4) (by decide +kernel) k (Nat.zero_le _) (by omega))⟩) (kc (a := 2) (b := 2) (by decide +kernel) k (by decide) (by decide)) (fun i hi => (kc (a := 0) (b := 999) (by decide +kernel) k (Nat.zero_le _) (by omega))) l
  · exact c_v_x (kc (a := 0) (b := 11) (by decide +kernel) k (by decide) (by decide)) (kc (a := 0) (b := 11) (by decide +kernel) k (by decide) (by decide)) (kc (a := 0) (b := 11) (by decide +kernel) k (by decide) (by decide)) (fun i hi => ⟨(kc (a := 0) (b := 5) (by decide +kernel) k (Nat.zero_le _) (by omega)), (kc (a := 0) (b := 5) (by decide +kernel) k (Nat.zero_le _) (by omega))⟩) (fun i hi => ⟨(kc (a := 0) (b := 4) (by decide +kernel) k (Nat.zero_le _) (by omega)), (kc (a := 0) (b := 4) (by decide +kernel) k (Nat.zero_le _) (by omega))⟩) (kc (a := 2) (b := 2) (by decide +kernel) k (by decide) (by decide)) (fun i hi => (kc (a := 0) (b := 999) (by decide +kernel) k (Nat.zero_le _) (by omega))) l
theorem c_d_k {c : Nat} {C : sp_C} {h g : am_H} (hc : c = 6 ∨ c = 17) (k : kr kr_K h g) (b : dE C ≤ 5) (l : c_d c C h) : c_d c C g := fun i hi => by
  rcases hc with rfl | rfl
  · exact (kc (a := 0) (b := 4) (by decide +kernel) k (by omega) (by omega)).trans (l i hi)
  · exact (kc (a := 0) (b := 4) (by decide +kernel) k (by omega) (by omega)).trans (l i hi)
theorem KC_k {C : sp_C} {s : dS} {H : dH} {M : dMk} {x : Nat} {h g : am_H} (j : KC C s H M x h) (k : kr kr_K h g) : KC C s H M x g := by
  obtain ⟨c, c1, c2, c3, c4, c5, c6, c7, c8⟩ := j
  exact ⟨c, c1, (k 0 3 (kr_at (a := 3) (b := 3) (by decide +kernel) (by decide) (by decide))).2.2.trans c2, c_v_k c1 k c3, c_d_k c1 k c3.2.1.2.1 c4, sC_k (by decide +kernel) k c5, hC_k k c6, mC_k k c7, (kc (a := 12) (b := 12) (by decide +kernel) k (by decide) (by decide)).trans c8⟩
theorem KR_k {C : sp_C} {s : dS} {H : dH} {M : dMk} {x : Nat} {h g : am_H} (j : KR C s H M x h) (k : kr kr_L h g) : KR C s H M x g := by
  obtain ⟨r1, r2, r3, r4, r5, r6⟩ := j
  have h6 : dP C ≤ 6 := r1.1.2.1
  have h5 : dE C ≤ 5 := r1.2.1.2.1
  have w : ∀ q, q ≤ 1028 → g.1 170 q = h.1 170 q := fun q hq => kc (a := 0) (b := 1028) (by decide +kernel) k (Nat.zero_le _) hq
  exact ⟨tR_k r1 (kr_sub (by decide +kernel) k), fun e he => (kc (a := 0) (b := 4) (by decide +kernel) k (by omega) (by omega)).trans (r2 e he), sR_fr (fun q u1 u2 => w q (by omega)) h6 r3, hL_fr h6 (kc (a := 25) (b := 25) (by decide +kernel) k (by decide) (by decide)) (fun q u1 u2 => w q (by omega)) r4, mL_fr h6 (fun m hm => kc (a := 0) (b := 3) (by decide +kernel) k (by omega) (by omega)) (fun q u1 u2 => w q (by omega)) r5, (w 24 (by decide)).trans r6⟩
/-- the state of a fresh canton; its lots as they lie -/
def s00 (f : Nat → Int32) : dS := (0, 0, f, fun _ => 0, fun _ => 0, fun _ => 0)
theorem sI_00 {C : sp_C} {D : Nat} {f : Nat → Int32} (hc : cI C) (hf : ∀ p, p < dP C → f p = dL C p) : sI C D (s00 f) := by
  have z : bN 0 < 2 ^ dP C := by
    rw [show bN 0 = 0 by decide]
    exact Nat.two_pow_pos _
  refine ⟨⟨0, Nat.zero_le _, rfl⟩, fun p hp => ?_, fun i => ⟨z, fun _ => rfl⟩, fun e _ => ⟨rfl, rfl⟩, fun e => z⟩
  obtain ⟨l, l1, l2⟩ := (hc.2.1 p hp).2
  exact ⟨l, l1, (hf p hp).trans l2⟩
/-- what the cantons make of it -/
theorem K_cn {D : Nat} {T : Nat → Int32} {sz : Nat} {h g g2 : am_H} {C : sp_C} {s : dS} {H : dH} {M : dMk} {x : Nat} (i : KI C D s H M x) (p : cnC T sz h g) (k : kr kr_14 h g) (r : cnR (tt T sz) g g2) (j1 : KC C s H M x h) (j2 : KR C s H M x h) : ∃ C' s' H' M' x', KI C' D s' H' M' x' ∧ KC C' s' H' M' x' g2 ∧ KR C' s' H' M' x' g2 := by
  have j2g := KR_k j2 (kr_sub (by decide +kernel) k)
  rcases p with ⟨F, e, c, d, hc, ht, e2, w⟩ | ⟨s1, e, c, hc, ht, l, b⟩
  · rcases r.2 with ⟨F', e', w'⟩ | ⟨s', e', w'⟩
    · obtain ⟨d', c1, c2, c3, c4, c5, c6, c7, c8⟩ := j1
      have eb : d' = d := Option.some.inj (c2.symm.trans ht)
      subst eb
      have w1 : ∀ a q, ¬ a = 1 → ¬ (c ≤ a ∧ a ≤ c + 10) → g.1 a q = h.1 a q := fun a q n1 n2 => (w a q (by unfold c_in; omega)).1
      have jg : KC C s H M x g := ⟨d', c1, by rw [e2]; exact c2, c_v_q hc w c3, fun q hq => (w1 _ _ (by omega) (by omega)).trans (c4 q hq), sC_fr (fun a q u1 u2 => w1 a q (by omega) (by omega)) c5, hC_fr (fun a q u1 u2 => w1 a q (by omega) (by omega)) c6, mC_fr (fun a q u1 u2 => w1 a q (by omega) (by omega)) c7, (w1 _ _ (by omega) (by omega)).trans c8⟩
      exact ⟨C, s, H, M, x, i, KC_k jg (kr_sub (by decide +kernel) r.1), KR_k j2g (kr_sub (by decide +kernel) w')⟩
    · rw [e] at e'
      cases e'
  · rcases r.2 with ⟨F', e', w'⟩ | ⟨s', e', w1, -, w3⟩
    · rw [e] at e'
      cases e'
    · rw [e] at e'
      cases e'
      obtain ⟨b1, b2, b3, ⟨ww, -, -, -⟩, ⟨b5, b6, -⟩, b8⟩ := b
      obtain ⟨-, -, -, -, -, -, ⟨-, -, q, hq, hq1, -⟩, -, -⟩ := j1
      obtain ⟨lv, ld⟩ := c_c_v l
      have hcI := cI_canton e
      have hf : ∀ p, p < dP s1.2 → g.1 37 p = dL s1.2 p := fun p hp => (b2 p (by have := hcI.1.1; omega)).1.trans (lv.1.2.2 p hp).2
      have jg : KC s1.2 (s00 (g.1 37)) (0, fun _ => s00 (g.1 37)) (fun _ => false, fun _ => s00 (g.1 37), fun _ => 0) 0 g := ⟨c, hc, ht, lv, ld, ⟨b1, fun i hi => ⟨rfl, (b2 i hi).2⟩, b3⟩, ⟨Nat.zero_le _, b5, q, hq, (kc (a := 1) (b := 1) (by decide +kernel) k (by decide) (by decide)).trans hq1, fun j hj => absurd hj (Nat.not_lt_zero j)⟩, fun m hm => ⟨b8 m hm, fun z => by cases z⟩, b6⟩
      obtain ⟨v1, v2, v3, v4, v5, v6⟩ := w3
      have h6 := hcI.1.1
      refine ⟨s1.2, _, _, _, 0, ⟨hcI, sI_00 hcI hf, fun j hj => absurd hj (Nat.not_lt_zero j), fun m hm z => (by cases z), Nat.zero_le _⟩, KC_k jg (kr_sub (by decide +kernel) r.1), w1, v6, ⟨⟨?_, ?_⟩, fun i hi => ?_, fun i hi => ?_, fun i hi => ⟨?_, ?_⟩⟩, ⟨Nat.zero_le _, v4, fun j hj => absurd hj (Nat.not_lt_zero j)⟩, fun m hm => ⟨v5 m hm, fun z => by cases z⟩, v2⟩
      · rw [v1 _ (by omega), if_neg (by omega)]; rfl
      · rw [v1 _ (by omega), if_neg (by omega)]; rfl
      · have hi' : i < s1.2.1.1 := hi
        rw [v1 _ (by omega), if_pos (by omega)]
        show dL s1.2 (0 + 2 + i - 2) = g.1 37 i
        rw [show 0 + 2 + i - 2 = i by omega, hf i hi]
      · rw [v1 _ (by omega), if_neg (by have : s1.2.1.1 ≤ 6 := h6; omega)]; rfl
      · rw [v1 _ (by omega), if_neg (by have : s1.2.1.1 ≤ 6 := h6; omega)]; rfl
      · rw [v1 _ (by omega), if_neg (by have : s1.2.1.1 ≤ 6 := h6; omega)]; rfl
theorem K_s {ρ : Nat → Int32} {h : am_H} (hR : ae_R ρ 0 ae_H0 h) : ∃ C s H M x, KI C 0 s H M x ∧ KC C s H M x h ∧ KR C s H M x h := by
  have z : ∀ o k, o < 175 → ¬ (o = 0 ∧ k = 13) → ¬ (o = 160 ∧ k = 3) → h.1 o k = 0 := fun o k h1 h2 h3 => by
    rcases iv_int (k := k) hR h1 with ⟨w, -, -⟩ | ⟨w1, w2, -⟩ | ⟨w1, w2, -⟩
    · exact w
    · exact absurd ⟨w1, w2⟩ h2
    · exact absurd ⟨w1, w2⟩ h3
  have y3 : h.1 160 3 = Int32.ofInt (-1) := by
    rcases iv_int (o := 160) (k := 3) hR (by decide) with ⟨-, -, w⟩ | ⟨w, -, -⟩ | ⟨-, -, w⟩
    · exact absurd ⟨rfl, rfl⟩ w
    · exact absurd w (by decide)
    · rw [w]; rfl
  have n : ∀ i, ¬ i < 0 := Nat.not_lt_zero
  have cv : c_v 6 sp_C0 h := ⟨⟨z 6 0 (by decide) (by decide) (by decide), by decide, fun i hi => absurd hi (n i)⟩, ⟨z 6 4 (by decide) (by decide) (by decide), by decide, fun i hi => absurd hi (n i)⟩, ⟨z 6 10 (by decide) (by decide) (by decide), fun _ => rfl, (by show sp_28 0; unfold sp_28; decide)⟩, z 14 2 (by decide) (by decide) (by decide), by decide, fun i hi => absurd hi (n i)⟩
  have ct : tR sp_C0 h := ⟨⟨z 160 0 (by decide) (by decide) (by decide), by decide, fun i hi => absurd hi (n i)⟩, ⟨z 160 1 (by decide) (by decide) (by decide), by decide, fun i hi => absurd hi (n i)⟩, fun p e hp he => (by
    rw [z 160 (6 + 3 * p) (by decide) (by omega) (by omega)]
    refine ⟨?_, by decide⟩
    have key : ∀ e, e < 5 → sp_bit 0 (nI e) = false := by decide +kernel
    rw [key e he]
    show false = (decide (e < 0) && _)
    rw [decide_eq_false (n e)]
    rfl), ⟨z 160 2 (by decide) (by decide) (by decide), fun _ => rfl, (by show sp_28 0; unfold sp_28; decide)⟩, by decide, fun j hj => absurd hj (n j), fun w => absurd w (by decide), fun _ => rfl, y3⟩
  refine ⟨sp_C0, s00 (fun _ => 0), (0, fun _ => s00 (fun _ => 0)), (fun _ => false, fun _ => s00 (fun _ => 0), fun _ => 0), 0, ⟨cI_0, sI_00 cI_0 (fun p hp => absurd hp (n p)), fun j hj => absurd hj (n j), fun m hm w => (by cases w), Nat.zero_le _⟩, ⟨6, Or.inl rfl, (iv_c0 hR).1, cv, fun i hi => absurd hi (n i), ⟨⟨z _ _ (by decide) (by decide) (by decide), z _ _ (by decide) (by decide) (by decide)⟩, fun i hi => ⟨z _ _ (by decide) (by omega) (by omega), z _ _ (by decide) (by omega) (by omega)⟩, fun i hi => ⟨z _ _ (by decide) (by omega) (by omega), z _ _ (by decide) (by omega) (by omega)⟩⟩, ⟨Nat.zero_le _, z _ _ (by decide) (by decide) (by decide), 0, by decide, z _ _ (by decide) (by decide) (by decide), fun j hj => absurd hj (n j)⟩, fun m hm => ⟨z _ _ (by omega) (by omega) (by omega), fun w => (by cases w)⟩, z _ _ (by decide) (by decide) (by decide)⟩, ct, fun e he => absurd he (n e), ⟨⟨z _ _ (by decide) (by decide) (by decide), z _ _ (by decide) (by decide) (by decide)⟩, fun i hi => absurd hi (n i), fun i hi => z _ _ (by decide) (by omega) (by omega), fun i hi => ⟨z _ _ (by decide) (by omega) (by omega), z _ _ (by decide) (by omega) (by omega)⟩⟩, ⟨Nat.zero_le _, z _ _ (by decide) (by decide) (by decide), fun j hj => absurd hj (n j)⟩, fun m hm => ⟨z _ _ (by decide) (by omega) (by omega), fun w => (by cases w)⟩, z _ _ (by decide) (by decide) (by decide)⟩
/-! A DAY KEEPS STATES WELL FORMED -/
theorem sI_m {C : sp_C} {D : Nat} {s : dS} {x : Int32} (hs : sI C D s) (hx : bN x < 2 ^ dP C) (h6 : dP C ≤ 6) : sI C D (d_108_s s x) := by
  obtain ⟨h1, h2, h3, h4, h5⟩ := hs
  unfold d_108_s
  rw [in108]
  refine ⟨h1, h2, fun i => ?_, h4, h5⟩
  show bN (if 0 ≤ i ∧ i < 0 + 6 ∧ sp_bit x (nI i) = true then s.2.2.2.1 i ||| (x &&& (((Int32.ofInt 1) <<< ((nI i) &&& 31)) ^^^ (Int32.ofInt (-1)))) else s.2.2.2.1 i) < 2 ^ dP C ∧ (dP C ≤ i → (if 0 ≤ i ∧ i < 0 + 6 ∧ sp_bit x (nI i) = true then s.2.2.2.1 i ||| (x &&& (((Int32.ofInt 1) <<< ((nI i) &&& 31)) ^^^ (Int32.ofInt (-1)))) else s.2.2.2.1 i) = 0)
  by_cases hc : 0 ≤ i ∧ i < 0 + 6 ∧ sp_bit x (nI i) = true
  · rw [if_pos hc]
    refine ⟨?_, fun hi => ?_⟩
    · rw [bN_or, bN_and]
      exact Nat.or_lt_two_pow (h3 i).1 (Nat.lt_of_le_of_lt Nat.and_le_left hx)
    · have hb := hc.2.2
      rw [sp_bit_tg (by omega), Nat.testBit_lt_two_pow (Nat.lt_of_lt_of_le hx (Nat.pow_le_pow_right (by decide) hi))] at hb
      cases hb
  · rw [if_neg hc]
    exact h3 i
theorem sI_h {C : sp_C} {D k : Nat} {s : dS} {v : Int32} (hs : sI C D s) (hk : k < dE C) : sI C D (sSH s k v) := by
  obtain ⟨h1, h2, h3, h4, h5⟩ := hs
  refine ⟨h1, h2, h3, fun e he => ⟨?_, (h4 e he).2⟩, h5⟩
  show (if e = k then v else s.2.2.2.2.1 e) = 0
  rw [if_neg (by omega)]
  exact (h4 e he).1
theorem sI_100 {C : sp_C} {D : Nat} : ∀ (m k : Nat) (a : Int32) (s : dS), k + m = dE C → dP C ≤ 6 → sI C D s → sI C D (d_100_21 C m k a s).2 := by
  intro m
  induction m with
  | zero => exact fun k a s _ _ hs => hs
  | succ m ih =>
    intro k a s hk h6 hs
    rw [d_100_21]
    have hm := sI_m hs (hs.2.2.2.2 k) h6
    by_cases hn : (d_69 ((d_108_s s (s.2.2.2.2.2 k)).2.2.2.2.2 k)) < (dN C k)
    · rw [if_pos hn]
      exact ih (k + 1) _ _ (by omega) h6 hm
    · rw [if_neg hn]
      exact ih (k + 1) _ _ (by omega) h6 (sI_h hm (by omega))
/-- a day keeps it -/
theorem sI_day {C : sp_C} {D : Nat} {s : dS} {w : Int32} (hc : cI C) (hs : sI C D s) : sI C (D + 1) (d_100_s C s w) := by
  have h6 := hc.1.1
  have h5 := hc.1.2
  have z : bN (Int32.ofInt 0) < 2 ^ dP C := by
    rw [show bN (Int32.ofInt 0) = 0 by decide]
    exact Nat.two_pow_pos _
  unfold d_100_s
  refine sI_100 (dE C) 0 _ _ (by omega) h6 ?_
  obtain ⟨h1, h2, h3, h4, h5'⟩ := sI_d hs
  unfold d_101_s
  rw [in25, in2]
  refine ⟨h1, h2, h3, fun e he => ⟨(h4 e he).1, ?_⟩, fun e => ?_⟩
  · show (if e < dE C then _ else (if 0 ≤ e ∧ e < 0 + dE C then Int32.ofInt 0 else (sSD s _).2.2.2.2.2 e)) = 0
    rw [if_neg (by omega), if_neg (by omega)]
    exact (h4 e he).2
  · show bN (if e < dE C then cf C _ w e (dP C) 0 (if 0 ≤ e ∧ e < 0 + dE C then Int32.ofInt 0 else _) else (if 0 ≤ e ∧ e < 0 + dE C then Int32.ofInt 0 else (sSD s _).2.2.2.2.2 e)) < 2 ^ dP C
    by_cases he : e < dE C
    · rw [if_pos he, if_pos (by omega)]
      exact cf_lt h6 h5 he _ _ _ (by omega) z
    · rw [if_neg he, if_neg (by omega)]
      exact h5' e
