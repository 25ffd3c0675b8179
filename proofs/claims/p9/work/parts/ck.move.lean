/-! MOVE KEEPS THE WHOLE RELATION -/
def kr_Km : ag_M := [(0, 3, 3), (0, 12, 12), (6, 0, 11), (8, 0, 5), (9, 0, 5), (12, 0, 4), (13, 0, 4), (14, 2, 2), (15, 0, 999), (17, 0, 11), (19, 0, 5), (20, 0, 5), (23, 0, 4), (24, 0, 4), (25, 2, 2), (26, 0, 999), (36, 0, 1), (37, 0, 5), (38, 0, 5), (39, 0, 4), (40, 0, 4), (49, 0, 1), (50, 0, 5), (51, 0, 5), (52, 0, 4), (53, 0, 4), (54, 0, 1), (55, 0, 5), (56, 0, 5), (57, 0, 4), (58, 0, 4), (59, 0, 1), (60, 0, 5), (61, 0, 5), (62, 0, 4), (63, 0, 4), (64, 0, 1), (65, 0, 5), (66, 0, 5), (67, 0, 4), (68, 0, 4), (69, 0, 1), (70, 0, 5), (71, 0, 5), (72, 0, 4), (73, 0, 4), (74, 0, 1), (75, 0, 5), (76, 0, 5), (77, 0, 4), (78, 0, 4), (79, 0, 1), (80, 0, 5), (81, 0, 5), (82, 0, 4), (83, 0, 4), (84, 0, 1), (85, 0, 5), (86, 0, 5), (87, 0, 4), (88, 0, 4), (89, 0, 1), (90, 0, 5), (91, 0, 5), (92, 0, 4), (93, 0, 4), (94, 0, 1), (95, 0, 5), (96, 0, 5), (97, 0, 4), (98, 0, 4), (99, 0, 1), (100, 0, 5), (101, 0, 5), (102, 0, 4), (103, 0, 4), (104, 0, 1), (105, 0, 5), (106, 0, 5), (107, 0, 4), (108, 0, 4), (109, 0, 1), (110, 0, 5), (111, 0, 5), (112, 0, 4), (113, 0, 4), (114, 0, 1), (115, 0, 5), (116, 0, 5), (117, 0, 4), (118, 0, 4), (119, 0, 1), (120, 0, 5), (121, 0, 5), (122, 0, 4), (123, 0, 4), (124, 0, 1), (125, 0, 5), (126, 0, 5), (127, 0, 4), (128, 0, 4), (131, 0, 1), (132, 0, 5), (133, 0, 5), (134, 0, 4), (135, 0, 4), (137, 0, 1), (138, 0, 5), (139, 0, 5), (140, 0, 4), (141, 0, 4), (143, 0, 1), (144, 0, 5), (145, 0, 5), (146, 0, 4), (147, 0, 4), (149, 0, 1), (150, 0, 5), (151, 0, 5), (152, 0, 4), (153, 0, 4), (47, 1, 2), (130, 0, 0), (130, 2, 2), (136, 0, 0), (136, 2, 2), (142, 0, 0), (142, 2, 2), (148, 0, 0), (148, 2, 2)]
def kr_Lm : ag_M := [(160, 0, 39), (161, 0, 1099), (162, 0, 1099), (154, 25, 25), (170, 0, 1028), (171, 0, 3)]
theorem kcm_r : ∀ q, q < 16 → kc5 kr_Km (49 + 5 * q) = true := by decide +kernel
theorem kcm_m : ∀ m, m < 4 → kc5 kr_Km (131 + 6 * m) = true ∧ kcB kr_Km (130 + 6 * m) 0 0 = true ∧ kcB kr_Km (130 + 6 * m) 2 2 = true := by decide +kernel
theorem c_v_km {c : Nat} {C : sp_C} {h g : am_H} (hc : c = 6 ∨ c = 17) (k : kr kr_Km h g) (l : c_v c C h) : c_v c C g := by
  rcases hc with rfl | rfl
  · exact c_v_x (kc (a := 0) (b := 11) (by decide +kernel) k (by decide) (by decide)) (kc (a := 0) (b := 11) (by decide +kernel) k (by decide) (by decide)) (kc (a := 0) (b := 11) (by decide +kernel) k (by decide) (by decide)) (fun i hi => ⟨(kc (a := 0) (b := 5) (by decide +kernel) k (Nat.zero_le _) (by omega)), (kc (a := 0) (b := 5) (by decide +kernel) k (Nat.zero_le _) (by omega))⟩) (fun i hi => ⟨(kc (a := 0) (b := 4) (by decide +kernel) k (Nat.zero_le _) (by omega)), (kc (a := 0) (b := 4) (by decide +kernel) k (Nat.zero_le _) (by omega))⟩) (kc (a := 2) (b := 2) (by decide +kernel) k (by decide) (by decide)) (fun i hi => (kc (a := 0) (b := 999) (by decide +kernel) k (Nat.zero_le _) (by omega))) l
  · exact c_v_x (kc (a := 0) (b := 11) (by decide +kernel) k (by decide) (by decide)) (kc (a := 0) (b := 11) (by decide +kernel) k (by decide) (by decide)) (kc (a := 0) (b := 11) (by decide +kernel) k (by decide) (by decide)) (fun i hi => ⟨(kc (a := 0) (b := 5) (by decide +kernel) k (Nat.zero_le _) (by omega)), (kc (a := 0) (b := 5) (by decide +kernel) k (Nat.zero_le _) (by omega))⟩) (fun i hi => ⟨(kc (a := 0) (b := 4) (by decide +kernel) k (Nat.zero_le _) (by omega)), (kc (a := 0) (b := 4) (by decide +kernel) k (Nat.zero_le _) (by omega))⟩) (kc (a := 2) (b := 2) (by decide +kernel) k (by decide) (by decide)) (fun i hi => (kc (a := 0) (b := 999) (by decide +kernel) k (Nat.zero_le _) (by omega))) l
theorem KC_km {C : sp_C} {s : dS} {H : dH} {M : dMk} {x : Nat} {h g : am_H} (j : KC C s H M x h) (k : kr kr_Km h g) (w : ∀ c, h.2.2.1 0 3 = some c → c_d c C g) : KC C s H M x g := by
  obtain ⟨c, c1, c2, c3, c4, c5, c6, c7, c8⟩ := j
  refine ⟨c, c1, (k 0 3 (kr_at (a := 3) (b := 3) (by decide +kernel) (by decide) (by decide))).2.2.trans c2, c_v_km c1 k c3, w c c2, sC_k (by decide +kernel) k c5, ?_, fun m hm => ?_, (kc (a := 12) (b := 12) (by decide +kernel) k (by decide) (by decide)).trans c8⟩
  · obtain ⟨a1, a2, q, a3, a4, a5⟩ := c6
    exact ⟨a1, (kc (a := 1) (b := 2) (by decide +kernel) k (by decide) (by decide)).trans a2, q, a3, (kc (a := 1) (b := 2) (by decide +kernel) k (by decide) (by decide)).trans a4, fun j hj => sC_k (kcm_r _ (by omega)) k (a5 j hj)⟩
  · exact ⟨(kc (kcm_m m hm).2.1 k (Nat.le_refl _) (Nat.le_refl _)).trans (c7 m hm).1, fun z => ⟨sC_k (kcm_m m hm).1 k ((c7 m hm).2 z).1, (kc (kcm_m m hm).2.2 k (Nat.le_refl _) (Nat.le_refl _)).trans ((c7 m hm).2 z).2⟩⟩
theorem KR_km {C : sp_C} {s : dS} {H : dH} {M : dMk} {x : Nat} {h g : am_H} (j : KR C s H M x h) (k : kr kr_Lm h g) (w : ∀ e, e < dE C → g.1 172 e = dW C e) : KR C s H M x g := by
  obtain ⟨r1, r2, r3, r4, r5, r6⟩ := j
  have h6 : dP C ≤ 6 := r1.1.2.1
  have w0 : ∀ q, q ≤ 1028 → g.1 170 q = h.1 170 q := fun q hq => kc (a := 0) (b := 1028) (by decide +kernel) k (Nat.zero_le _) hq
  exact ⟨tR_k r1 (kr_sub (by decide +kernel) k), w, sR_fr (fun q u1 u2 => w0 q (by omega)) h6 r3, hL_fr h6 (kc (a := 25) (b := 25) (by decide +kernel) k (by decide) (by decide)) (fun q u1 u2 => w0 q (by omega)) r4, mL_fr h6 (fun m hm => kc (a := 0) (b := 3) (by decide +kernel) k (by omega) (by omega)) (fun q u1 u2 => w0 q (by omega)) r5, (w0 24 (by decide)).trans r6⟩
theorem KC_jC {C : sp_C} {s : dS} {H : dH} {M : dMk} {x : Nat} {h : am_H} (j : KC C s H M x h) : jC C h := by
  obtain ⟨c, c1, c2, c3, -⟩ := j
  exact ⟨c, c1, c2, c3⟩
theorem c_d_of {c e : Nat} {C : sp_C} {h : am_H} (w : ∀ i, i < dE C → ¬ i = e → h.1 (c + 5) i = dW C i) (k : h.1 (c + 5) e = dW C e) : c_d c C h := fun i hi => by
  by_cases ei : i = e
  · rw [ei]; exact k
  · exact w i hi ei
theorem m_131 {h : am_H} {C : sp_C} {D : Nat} {s : dS} {H : dH} {M : dMk} {x : Nat} (hI : iv_I h) (i : KI C D s H M x) (j : KC C s H M x h) (a : Int32) : am_call am_cod 60 131 [.ref 0, .int a] h (fun _ g => ∀ c, h.2.2.1 0 3 = some c → c_d c C g) := by
  have hP := iv_P hI
  have hc := i.1
  have h5 := hc.1.2
  obtain ⟨c, c1, c2, c3, c4, c5, -, -, -⟩ := j
  rcases c_93 h5 a with e | ⟨p, hp, rfl⟩
  · rcases c1 with rfl | rfl
    · exact am_call.up (d_131_xA6 hP hc c3 c4 c2 c5 (sC_ex 41 h) e (fun g1 p1 p2 p3 p4 p5 p6 p7 c' e' => by obtain rfl := Option.some.inj (c2.symm.trans e'); exact p4)) (by decide)
    · exact am_call.up (d_131_xA17 hP hc c3 c4 c2 c5 (sC_ex 41 h) e (fun g1 p1 p2 p3 p4 p5 p6 p7 c' e' => by obtain rfl := Option.some.inj (c2.symm.trans e'); exact p4)) (by decide)
  · rcases c1 with rfl | rfl
    · exact am_call.up (d_131_A6 (e := p) (kv := dW C p) (kw := dW C p) hP hc c3 c2 c5 (sC_ex 41 h) (fun i hi _ => c4 i hi) (c4 p hp) hp rfl (fun g1 p1 p2 p3 p4 p5 p6 p7 p8 c' e' => by obtain rfl := Option.some.inj (c2.symm.trans e'); exact c_d_of (c := 6) p7 p8)) (by decide)
    · exact am_call.up (d_131_A17 (e := p) (kv := dW C p) (kw := dW C p) hP hc c3 c2 c5 (sC_ex 41 h) (fun i hi _ => c4 i hi) (c4 p hp) hp rfl (fun g1 p1 p2 p3 p4 p5 p6 p7 p8 c' e' => by obtain rfl := Option.some.inj (c2.symm.trans e'); exact c_d_of (c := 17) p7 p8)) (by decide)
theorem m_257 {h : am_H} {C : sp_C} {D : Nat} {s : dS} {H : dH} {M : dMk} {x : Nat} (hI : iv_I h) (i : KI C D s H M x) (j : KR C s H M x h) (a : Int32) : am_call am_cod 60 257 [.ref 154, .int a] h (fun _ g => ∀ e, e < dE C → g.1 172 e = dW C e) := by
  have hP := iv_P hI
  have hc := i.1
  have h5 := hc.1.2
  obtain ⟨r1, r2, r3, -, -, -⟩ := j
  rcases c_93 h5 a with e | ⟨p, hp, rfl⟩
  · exact am_call.up (d_257_xr hP hc r1 r2 r3 (sR_ex 1029 (dP C) h) e (fun g1 p1 p2 p3 p4 p5 p6 => p4)) (by decide)
  · exact am_call.up (d_257_r (e := p) (kv := dW C p) hP hc r1 r3 (sR_ex 1029 (dP C) h) (fun i hi _ => r2 i hi) (r2 p hp) hp (fun g1 p1 p2 p3 p4 p5 p6 p7 i hi => by
      by_cases ei : i = p
      · rw [ei]; exact p7
      · exact p6 i hi ei)) (by decide)
