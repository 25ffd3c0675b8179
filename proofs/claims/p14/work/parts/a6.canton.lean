section
/-! THE CLASS'S READERS OF A CANTON, EXACTLY (17) -/
variable {h h0 : am_H} {sz a : Nat} {T : Nat → Int32} {Q : am_Q} {s : sp_S}
theorem ex_17 {h : am_H} (hP : ex_P h) : am_sh h 17 = some (0, 0) := (ex_so hP (by decide +kernel)).2
theorem ex_18 {h : am_H} (hP : ex_P h) : am_sh h 18 = some (14, 6) := (ex_so hP (by decide +kernel)).2
theorem ex_w18 {h : am_H} (hP : ex_P h) : am_so h 18 = some (14, 6) := (ex_so hP (by decide +kernel)).1
theorem ex_19 {h : am_H} (hP : ex_P h) : am_sh h 19 = some (13, 6) := (ex_so hP (by decide +kernel)).2
theorem ex_w19 {h : am_H} (hP : ex_P h) : am_so h 19 = some (13, 6) := (ex_so hP (by decide +kernel)).1
theorem ex_20 {h : am_H} (hP : ex_P h) : am_sh h 20 = some (13, 6) := (ex_so hP (by decide +kernel)).2
theorem ex_w20 {h : am_H} (hP : ex_P h) : am_so h 20 = some (13, 6) := (ex_so hP (by decide +kernel)).1
theorem ex_21 {h : am_H} (hP : ex_P h) : am_sh h 21 = some (14, 5) := (ex_so hP (by decide +kernel)).2
theorem ex_w21 {h : am_H} (hP : ex_P h) : am_so h 21 = some (14, 5) := (ex_so hP (by decide +kernel)).1
theorem ex_22 {h : am_H} (hP : ex_P h) : am_sh h 22 = some (13, 5) := (ex_so hP (by decide +kernel)).2
theorem ex_w22 {h : am_H} (hP : ex_P h) : am_so h 22 = some (13, 5) := (ex_so hP (by decide +kernel)).1
theorem ex_23 {h : am_H} (hP : ex_P h) : am_sh h 23 = some (13, 5) := (ex_so hP (by decide +kernel)).2
theorem ex_w23 {h : am_H} (hP : ex_P h) : am_so h 23 = some (13, 5) := (ex_so hP (by decide +kernel)).1
theorem ex_24 {h : am_H} (hP : ex_P h) : am_sh h 24 = some (13, 5) := (ex_so hP (by decide +kernel)).2
theorem ex_w24 {h : am_H} (hP : ex_P h) : am_so h 24 = some (13, 5) := (ex_so hP (by decide +kernel)).1
theorem ex_r17_1 {h : am_H} (hP : ex_P h) : h.2.2.1 17 1 = some 18 := hP.2 17 1 18 (by decide +kernel)
theorem ex_r17_2 {h : am_H} (hP : ex_P h) : h.2.2.1 17 2 = some 19 := hP.2 17 2 19 (by decide +kernel)
theorem ex_r17_3 {h : am_H} (hP : ex_P h) : h.2.2.1 17 3 = some 20 := hP.2 17 3 20 (by decide +kernel)
theorem ex_r17_5 {h : am_H} (hP : ex_P h) : h.2.2.1 17 5 = some 21 := hP.2 17 5 21 (by decide +kernel)
theorem ex_r17_6 {h : am_H} (hP : ex_P h) : h.2.2.1 17 6 = some 22 := hP.2 17 6 22 (by decide +kernel)
theorem ex_r17_7 {h : am_H} (hP : ex_P h) : h.2.2.1 17 7 = some 23 := hP.2 17 7 23 (by decide +kernel)
theorem ex_r17_8 {h : am_H} (hP : ex_P h) : h.2.2.1 17 8 = some 24 := hP.2 17 8 24 (by decide +kernel)
theorem ex_r17_12 {h : am_H} (hP : ex_P h) : h.2.2.1 17 12 = some 25 := hP.2 17 12 25 (by decide +kernel)
theorem c_55l_17 {C : sp_C} {v w : Int64} (l : cr h0 17 T sz (a, C) h) (hw : cwk v w) : ∀ (m i : Nat), i + m = C.1.1 → Q (some (.int (sp_o (sp_fd C.1.2.1 v m i)))) h → pz_S 4 (some .int) am_r55 0 Q 2 [(3, .int (nI i)), (0, .ref 17), (1, .long w)] [] h := by
  have hP := c_P l.1
  have a1 : h.1 17 0 = nI C.1.1 := l.2.1.1.1
  have a2 : C.1.1 ≤ 6 := l.2.1.1.2.1
  intro m
  induction m with
  | zero =>
    intro i hi hQ
    refine am_goX 3 (show am_sh h 17 = some (0, 0) ∧ pz_S 4 (some .int) am_r55 0 Q 7 [(3, .int (nI i)), (0, .ref 17), (1, .long w)] [.int (h.1 17 0), .int (nI i)] h from ⟨ex_17 hP, ?_⟩)
    rw [a1]
    refine am_goX 1 (show ((nI C.1.1) ≤ (nI i) → pz_S 4 (some .int) am_r55 0 Q 29 [(3, .int (nI i)), (0, .ref 17), (1, .long w)] [] h) ∧ (¬ ((nI C.1.1) ≤ (nI i)) → pz_S 4 (some .int) am_r55 0 Q 10 [(3, .int (nI i)), (0, .ref 17), (1, .long w)] [] h) from ⟨fun hc => ?_, fun hc => ?_⟩)
    · exact am_goX 2 (show (∃ ty, (some .int) = some ty ∧ narrow ty (.int ((Int32.ofInt (-1)))) = .int ((Int32.ofInt (-1)))) ∧ h.2.2.2.2 = 175 ∧ _ from ⟨⟨.int, rfl, rfl⟩, ex_175 hP, hQ⟩)
    · exact absurd (nI_le (by omega) (by omega)) hc
  | succ m ih =>
    intro i hi hQ
    refine am_goX 3 (show am_sh h 17 = some (0, 0) ∧ pz_S 4 (some .int) am_r55 0 Q 7 [(3, .int (nI i)), (0, .ref 17), (1, .long w)] [.int (h.1 17 0), .int (nI i)] h from ⟨ex_17 hP, ?_⟩)
    rw [a1]
    refine am_goX 1 (show ((nI C.1.1) ≤ (nI i) → pz_S 4 (some .int) am_r55 0 Q 29 [(3, .int (nI i)), (0, .ref 17), (1, .long w)] [] h) ∧ (¬ ((nI C.1.1) ≤ (nI i)) → pz_S 4 (some .int) am_r55 0 Q 10 [(3, .int (nI i)), (0, .ref 17), (1, .long w)] [] h) from ⟨fun hc => ?_, fun hc => ?_⟩)
    · rw [nI_leI (by omega) (by omega)] at hc
      omega
    clear hc
    unfold sp_fd at hQ
    have hj := (l.2.1.1.2.2 i (show i < C.1.1 by omega)).1
    refine am_goX 2 (show am_sh h 17 = some (0, 0) ∧ pz_S 4 (some .int) am_r55 0 Q 14 [(3, .int (nI i)), (0, .ref 17), (1, .long w)] [am_rf (h.2.2.1 17 1)] h from ⟨ex_17 hP, ?_⟩)
    rw [ex_r17_1 (h := h) hP]
    refine am_goX 2 (show ∃ jj nn : Nat, am_sh h 18 = some (14, nn) ∧ jj < nn ∧ (nI i) = nI jj ∧ pz_S 4 (some .int) am_r55 0 Q 16 [(3, .int (nI i)), (0, .ref 17), (1, .long w)] [.long (h.2.1 18 jj)] h from ⟨i, 6, ex_18 hP, by omega, rfl, ?_⟩)
    refine am_goX 3 (show (¬ (lg_cmp ((h.2.1 18 i)) (w)) = 0 → pz_S 4 (some .int) am_r55 0 Q 23 [(3, .int (nI i)), (0, .ref 17), (1, .long w)] [] h) ∧ (¬ ¬ (lg_cmp ((h.2.1 18 i)) (w)) = 0 → pz_S 4 (some .int) am_r55 0 Q 21 [(3, .int (nI i)), (0, .ref 17), (1, .long w)] [] h) from ⟨fun hc => ?_, fun hc => ?_⟩)
    · rw [decide_eq_false (fun e => hc ((pz_cmp _ _).mpr ((cwk_inj hj hw).mp e)))] at hQ
      refine am_goX 2 (show 3 < 4 ∧ pz_S 4 (some .int) am_r55 0 Q 2 [(3, .int ((nI i) + Int32.ofInt 1)), (0, .ref 17), (1, .long w)] [] h from ⟨by decide, ?_⟩)
      rw [xw_i1]
      exact ih (i + 1) (by omega) hQ
    · rw [decide_eq_true ((cwk_inj hj hw).mpr ((pz_cmp _ _).mp (Decidable.not_not.mp hc)))] at hQ
      exact am_goX 2 (show (∃ ty, (some .int) = some ty ∧ narrow ty (.int ((nI i))) = .int ((nI i))) ∧ h.2.2.2.2 = 175 ∧ _ from ⟨⟨.int, rfl, rfl⟩, ex_175 hP, hQ⟩)
theorem c_55_17 {v w : Int64} (l : cr h0 17 T sz s h) (hw : cwk v w) (hQ : Q (some (.int (sp_o (sp_pf s.2 v)))) h) : am_call am_cod 1 55 [.ref 17, .long w] h Q := by
  have hP := c_P l.1
  refine pz_call (n := 55) (nL := 4) (rt := (some .int)) (rows := am_r55) (d := 0) (by decide +kernel) (by decide +kernel) rfl (by funext pc; rfl) (ex_175 hP) (by exact Nat.le_of_ble_eq_true rfl) ?_
  refine am_goX 2 (show 3 < 4 ∧ pz_S 4 (some .int) am_r55 0 Q 2 [(3, .int (Int32.ofInt 0)), (0, .ref 17), (1, .long w)] [] h from ⟨by decide, ?_⟩)
  exact c_55l_17 (a := s.1) (C := s.2) l hw s.2.1.1 0 (Nat.zero_add _) hQ
theorem c_56l_17 {C : sp_C} {v w : Int64} (l : cr h0 17 T sz (a, C) h) (hw : cwk v w) : ∀ (m i : Nat), i + m = C.2.1.1 → Q (some (.int (sp_o (sp_fd C.2.1.2.1 v m i)))) h → pz_S 4 (some .int) am_r56 0 Q 2 [(3, .int (nI i)), (0, .ref 17), (1, .long w)] [] h := by
  have hP := c_P l.1
  have a1 : h.1 17 4 = nI C.2.1.1 := l.2.1.2.1.1
  have a2 : C.2.1.1 ≤ 5 := l.2.1.2.1.2.1
  intro m
  induction m with
  | zero =>
    intro i hi hQ
    refine am_goX 3 (show am_sh h 17 = some (0, 0) ∧ pz_S 4 (some .int) am_r56 0 Q 7 [(3, .int (nI i)), (0, .ref 17), (1, .long w)] [.int (h.1 17 4), .int (nI i)] h from ⟨ex_17 hP, ?_⟩)
    rw [a1]
    refine am_goX 1 (show ((nI C.2.1.1) ≤ (nI i) → pz_S 4 (some .int) am_r56 0 Q 29 [(3, .int (nI i)), (0, .ref 17), (1, .long w)] [] h) ∧ (¬ ((nI C.2.1.1) ≤ (nI i)) → pz_S 4 (some .int) am_r56 0 Q 10 [(3, .int (nI i)), (0, .ref 17), (1, .long w)] [] h) from ⟨fun hc => ?_, fun hc => ?_⟩)
    · exact am_goX 2 (show (∃ ty, (some .int) = some ty ∧ narrow ty (.int ((Int32.ofInt (-1)))) = .int ((Int32.ofInt (-1)))) ∧ h.2.2.2.2 = 175 ∧ _ from ⟨⟨.int, rfl, rfl⟩, ex_175 hP, hQ⟩)
    · exact absurd (nI_le (by omega) (by omega)) hc
  | succ m ih =>
    intro i hi hQ
    refine am_goX 3 (show am_sh h 17 = some (0, 0) ∧ pz_S 4 (some .int) am_r56 0 Q 7 [(3, .int (nI i)), (0, .ref 17), (1, .long w)] [.int (h.1 17 4), .int (nI i)] h from ⟨ex_17 hP, ?_⟩)
    rw [a1]
    refine am_goX 1 (show ((nI C.2.1.1) ≤ (nI i) → pz_S 4 (some .int) am_r56 0 Q 29 [(3, .int (nI i)), (0, .ref 17), (1, .long w)] [] h) ∧ (¬ ((nI C.2.1.1) ≤ (nI i)) → pz_S 4 (some .int) am_r56 0 Q 10 [(3, .int (nI i)), (0, .ref 17), (1, .long w)] [] h) from ⟨fun hc => ?_, fun hc => ?_⟩)
    · rw [nI_leI (by omega) (by omega)] at hc
      omega
    clear hc
    unfold sp_fd at hQ
    have hj := (l.2.1.2.1.2.2 i (show i < C.2.1.1 by omega)).1
    refine am_goX 2 (show am_sh h 17 = some (0, 0) ∧ pz_S 4 (some .int) am_r56 0 Q 14 [(3, .int (nI i)), (0, .ref 17), (1, .long w)] [am_rf (h.2.2.1 17 5)] h from ⟨ex_17 hP, ?_⟩)
    rw [ex_r17_5 (h := h) hP]
    refine am_goX 2 (show ∃ jj nn : Nat, am_sh h 21 = some (14, nn) ∧ jj < nn ∧ (nI i) = nI jj ∧ pz_S 4 (some .int) am_r56 0 Q 16 [(3, .int (nI i)), (0, .ref 17), (1, .long w)] [.long (h.2.1 21 jj)] h from ⟨i, 5, ex_21 hP, by omega, rfl, ?_⟩)
    refine am_goX 3 (show (¬ (lg_cmp ((h.2.1 21 i)) (w)) = 0 → pz_S 4 (some .int) am_r56 0 Q 23 [(3, .int (nI i)), (0, .ref 17), (1, .long w)] [] h) ∧ (¬ ¬ (lg_cmp ((h.2.1 21 i)) (w)) = 0 → pz_S 4 (some .int) am_r56 0 Q 21 [(3, .int (nI i)), (0, .ref 17), (1, .long w)] [] h) from ⟨fun hc => ?_, fun hc => ?_⟩)
    · rw [decide_eq_false (fun e => hc ((pz_cmp _ _).mpr ((cwk_inj hj hw).mp e)))] at hQ
      refine am_goX 2 (show 3 < 4 ∧ pz_S 4 (some .int) am_r56 0 Q 2 [(3, .int ((nI i) + Int32.ofInt 1)), (0, .ref 17), (1, .long w)] [] h from ⟨by decide, ?_⟩)
      rw [xw_i1]
      exact ih (i + 1) (by omega) hQ
    · rw [decide_eq_true ((cwk_inj hj hw).mpr ((pz_cmp _ _).mp (Decidable.not_not.mp hc)))] at hQ
      exact am_goX 2 (show (∃ ty, (some .int) = some ty ∧ narrow ty (.int ((nI i))) = .int ((nI i))) ∧ h.2.2.2.2 = 175 ∧ _ from ⟨⟨.int, rfl, rfl⟩, ex_175 hP, hQ⟩)
theorem c_56_17 {v w : Int64} (l : cr h0 17 T sz s h) (hw : cwk v w) (hQ : Q (some (.int (sp_o (sp_ef s.2 v)))) h) : am_call am_cod 1 56 [.ref 17, .long w] h Q := by
  have hP := c_P l.1
  refine pz_call (n := 56) (nL := 4) (rt := (some .int)) (rows := am_r56) (d := 0) (by decide +kernel) (by decide +kernel) rfl (by funext pc; rfl) (ex_175 hP) (by exact Nat.le_of_ble_eq_true rfl) ?_
  refine am_goX 2 (show 3 < 4 ∧ pz_S 4 (some .int) am_r56 0 Q 2 [(3, .int (Int32.ofInt 0)), (0, .ref 17), (1, .long w)] [] h from ⟨by decide, ?_⟩)
  exact c_56l_17 (a := s.1) (C := s.2) l hw s.2.2.1.1 0 (Nat.zero_add _) hQ
theorem c_53_17 (l : cr h0 17 T sz s h) (hQ : ∀ v h1, cres h0 17 T sz (sp_fn (tt T sz) s) v h1 → Q v h1) : am_call am_cod 6 53 [.ref 3, .ref 17] h Q := by
  have hP := c_P l.1
  refine pz_call (n := 53) (nL := 3) (rt := (some .boolean)) (rows := am_r53) (d := 5) (by decide +kernel) (by decide +kernel) rfl (by funext pc; rfl) (ex_175 hP) (by exact Nat.le_of_ble_eq_true rfl) ?_
  refine am_goX 2 (show am_sh h 3 = some (1, 0) ∧ pz_S 3 (some .boolean) am_r53 5 Q 4 [(0, .ref 3), (1, .ref 17)] [am_rf (h.2.2.1 3 0)] h from ⟨ex_3 (c_P l.1), ?_⟩)
  rw [ex_r3_0 (h := h) (c_P l.1)]
  refine am_goX 1 (show am_rc h 1 7 ∧ 0 ≤ 8 ∧ h.2.2.2.2 + am_al 54 ≤ 175 ∧ am_call am_cod 5 54 [.ref 1] h (fun vv h' => pz_S 3 (some .boolean) am_r53 5 Q 7 [(0, .ref 3), (1, .ref 17)] (vv.toList ++ []) h') from ⟨Or.inl ⟨by decide, ex_1 (c_P l.1)⟩, by decide, ex_lim (c_P l.1) rfl, am_call.up (c_isn l.1 ?_) (by decide)⟩)
  cases e1 : sp_n (tt T sz) s.1 with
  | true =>
    refine am_goX 1 (show (¬ (pz_b (true)) = 0 → pz_S 3 (some .boolean) am_r53 5 Q 19 [(0, .ref 3), (1, .ref 17)] [] h) ∧ (¬ ¬ (pz_b (true)) = 0 → pz_S 3 (some .boolean) am_r53 5 Q 10 [(0, .ref 3), (1, .ref 17)] [] h) from ⟨fun _ => ?_, fun hz => absurd (by decide) hz⟩)
    refine am_goX 3 (show am_sh h 3 = some (1, 0) ∧ pz_S 3 (some .boolean) am_r53 5 Q 24 [(0, .ref 3), (1, .ref 17)] [am_rf (h.2.2.1 3 0), .ref 17] h from ⟨ex_3 (c_P l.1), ?_⟩)
    rw [ex_r3_0 (h := h) (c_P l.1)]
    refine am_goX 2 (show am_sh h 1 = some (7, 0) ∧ am_rc h 17 0 ∧ 0 ≤ 8 ∧ h.2.2.2.2 + am_al 55 ≤ 175 ∧ am_call am_cod 5 55 [.ref 17, .long (h.2.1 1 5)] h (fun vv h' => pz_S 3 (some .boolean) am_r53 5 Q 30 [(0, .ref 3), (1, .ref 17)] (vv.toList ++ []) h') from ⟨ex_1 (c_P l.1), Or.inl ⟨by decide, ex_17 (c_P l.1)⟩, by decide, ex_lim (c_P l.1) rfl, am_call.up (c_55_17 (v := (tt T sz s.1).2.1) l (c_wd l.1 (sp_nk e1)) ?_) (by decide)⟩)
    cases e2 : sp_pf s.2 (tt T sz s.1).2.1 with
    | none =>
      refine am_goX 2 (show (¬ (Int32.ofInt (-1)) = (Int32.ofInt (-1)) → pz_S 3 (some .boolean) am_r53 5 Q 49 [(0, .ref 3), (1, .ref 17)] [] h) ∧ (¬ ¬ (Int32.ofInt (-1)) = (Int32.ofInt (-1)) → pz_S 3 (some .boolean) am_r53 5 Q 34 [(0, .ref 3), (1, .ref 17)] [] h) from ⟨fun hz => absurd hz (by decide), fun _ => ?_⟩)
      refine am_goX 3 (show am_sh h 3 = some (1, 0) ∧ pz_S 3 (some .boolean) am_r53 5 Q 39 [(0, .ref 3), (1, .ref 17)] [am_rf (h.2.2.1 3 0), .ref 17] h from ⟨ex_3 (c_P l.1), ?_⟩)
      rw [ex_r3_0 (h := h) (c_P l.1)]
      refine am_goX 2 (show am_sh h 1 = some (7, 0) ∧ am_rc h 17 0 ∧ 0 ≤ 8 ∧ h.2.2.2.2 + am_al 56 ≤ 175 ∧ am_call am_cod 5 56 [.ref 17, .long (h.2.1 1 5)] h (fun vv h' => pz_S 3 (some .boolean) am_r53 5 Q 45 [(0, .ref 3), (1, .ref 17)] (vv.toList ++ []) h') from ⟨ex_1 (c_P l.1), Or.inl ⟨by decide, ex_17 (c_P l.1)⟩, by decide, ex_lim (c_P l.1) rfl, am_call.up (c_56_17 (v := (tt T sz s.1).2.1) l (c_wd l.1 (sp_nk e1)) ?_) (by decide)⟩)
      cases e5 : sp_ef s.2 (tt T sz s.1).2.1 with
      | none =>
        refine am_goX 2 (show ((Int32.ofInt (-1)) = (Int32.ofInt (-1)) → pz_S 3 (some .boolean) am_r53 5 Q 53 [(0, .ref 3), (1, .ref 17)] [] h) ∧ (¬ ((Int32.ofInt (-1)) = (Int32.ofInt (-1))) → pz_S 3 (some .boolean) am_r53 5 Q 49 [(0, .ref 3), (1, .ref 17)] [] h) from ⟨fun _ => ?_, fun hz => absurd (by decide) hz⟩)
        refine am_goX 4 (show 2 < 3 ∧ ((Int32.ofInt 0) = 0 → pz_S 3 (some .boolean) am_r53 5 Q 70 [(2, .int (Int32.ofInt 0)), (0, .ref 3), (1, .ref 17)] [] h) ∧ (¬ ((Int32.ofInt 0) = 0) → pz_S 3 (some .boolean) am_r53 5 Q 59 [(2, .int (Int32.ofInt 0)), (0, .ref 3), (1, .ref 17)] [] h) from ⟨by decide, fun _ => ?_, fun hz => absurd (by decide) hz⟩)
        exact am_goX 3 (show (∃ ty, (some .boolean) = some ty ∧ narrow ty (.int ((Int32.ofInt 1))) = .int ((Int32.ofInt 1))) ∧ h.2.2.2.2 = 175 ∧ _ from ⟨⟨.boolean, rfl, rfl⟩, ex_175 (c_P l.1), hQ _ _ (cres_inr (s' := s) (by simp only [sp_fn, sp_b, sp_f, cond_true, cond_false, e1, e2, e5, Option.isSome_some, Option.isSome_none, Bool.true_or, Bool.or_true, Bool.or_false, Bool.false_or]) rfl l)⟩)
      | some p6 =>
        have w7 := cr_ef (a := s.1) (C := s.2) l e5
        refine am_goX 2 (show ((nI p6) = (Int32.ofInt (-1)) → pz_S 3 (some .boolean) am_r53 5 Q 53 [(0, .ref 3), (1, .ref 17)] [] h) ∧ (¬ ((nI p6) = (Int32.ofInt (-1))) → pz_S 3 (some .boolean) am_r53 5 Q 49 [(0, .ref 3), (1, .ref 17)] [] h) from ⟨fun hz => absurd hz (nI_m1 (by omega)), fun _ => ?_⟩)
        refine am_goX 5 (show 2 < 3 ∧ ((Int32.ofInt 1) = 0 → pz_S 3 (some .boolean) am_r53 5 Q 70 [(2, .int (Int32.ofInt 1)), (0, .ref 3), (1, .ref 17)] [] h) ∧ (¬ ((Int32.ofInt 1) = 0) → pz_S 3 (some .boolean) am_r53 5 Q 59 [(2, .int (Int32.ofInt 1)), (0, .ref 3), (1, .ref 17)] [] h) from ⟨by decide, fun hz => absurd hz (by decide), fun _ => ?_⟩)
        refine am_goX 2 (show am_sh h 3 = some (1, 0) ∧ pz_S 3 (some .boolean) am_r53 5 Q 63 [(2, .int (Int32.ofInt 1)), (0, .ref 3), (1, .ref 17)] [am_rf (h.2.2.1 3 0)] h from ⟨ex_3 (c_P l.1), ?_⟩)
        rw [ex_r3_0 (h := h) (c_P l.1)]
        refine am_goX 2 (show am_rc h 1 7 ∧ 0 ≤ 8 ∧ h.2.2.2.2 + am_al 52 ≤ 175 ∧ am_call am_cod 5 52 [.ref 1, .int (Int32.ofInt 3)] h (fun vv h' => pz_S 3 (some .boolean) am_r53 5 Q 67 [(2, .int (Int32.ofInt 1)), (0, .ref 3), (1, .ref 17)] (vv.toList ++ []) h') from ⟨Or.inl ⟨by decide, ex_1 (c_P l.1)⟩, by decide, ex_lim (c_P l.1) rfl, am_call.up (c_refuse l.1 ?_) (by decide)⟩)
        have x8 := cr_x (s := s) (k := (Int32.ofInt 3)) (by decide) l (by decide)
        refine am_goX 1 (show ((Int32.ofInt 0) = 0 → pz_S 3 (some .boolean) am_r53 5 Q 74 [(2, .int (Int32.ofInt 1)), (0, .ref 3), (1, .ref 17)] [] (am_wI h 1 7 (sp_ft (tt T sz) s.1 (Int32.ofInt 3)))) ∧ (¬ ((Int32.ofInt 0) = 0) → pz_S 3 (some .boolean) am_r53 5 Q 70 [(2, .int (Int32.ofInt 1)), (0, .ref 3), (1, .ref 17)] [] (am_wI h 1 7 (sp_ft (tt T sz) s.1 (Int32.ofInt 3)))) from ⟨fun _ => ?_, fun hz => absurd (by decide) hz⟩)
        exact am_goX 2 (show (∃ ty, (some .boolean) = some ty ∧ narrow ty (.int ((Int32.ofInt 0))) = .int ((Int32.ofInt 0))) ∧ (am_wI h 1 7 (sp_ft (tt T sz) s.1 (Int32.ofInt 3))).2.2.2.2 = 175 ∧ _ from ⟨⟨.boolean, rfl, rfl⟩, ex_175 x8.1, hQ _ _ (cres_inl (F := sp_ft (tt T sz) s.1 (Int32.ofInt 3)) (by simp only [sp_fn, sp_b, sp_f, cond_true, cond_false, e1, e2, e5, Option.isSome_some, Option.isSome_none, Bool.true_or, Bool.or_true, Bool.or_false, Bool.false_or]) rfl x8)⟩)
    | some p3 =>
      have w4 := cr_pf (a := s.1) (C := s.2) l e2
      refine am_goX 2 (show (¬ (nI p3) = (Int32.ofInt (-1)) → pz_S 3 (some .boolean) am_r53 5 Q 49 [(0, .ref 3), (1, .ref 17)] [] h) ∧ (¬ ¬ (nI p3) = (Int32.ofInt (-1)) → pz_S 3 (some .boolean) am_r53 5 Q 34 [(0, .ref 3), (1, .ref 17)] [] h) from ⟨fun _ => ?_, fun hz => absurd (nI_m1 (by omega)) hz⟩)
      refine am_goX 5 (show 2 < 3 ∧ ((Int32.ofInt 1) = 0 → pz_S 3 (some .boolean) am_r53 5 Q 70 [(2, .int (Int32.ofInt 1)), (0, .ref 3), (1, .ref 17)] [] h) ∧ (¬ ((Int32.ofInt 1) = 0) → pz_S 3 (some .boolean) am_r53 5 Q 59 [(2, .int (Int32.ofInt 1)), (0, .ref 3), (1, .ref 17)] [] h) from ⟨by decide, fun hz => absurd hz (by decide), fun _ => ?_⟩)
      refine am_goX 2 (show am_sh h 3 = some (1, 0) ∧ pz_S 3 (some .boolean) am_r53 5 Q 63 [(2, .int (Int32.ofInt 1)), (0, .ref 3), (1, .ref 17)] [am_rf (h.2.2.1 3 0)] h from ⟨ex_3 (c_P l.1), ?_⟩)
      rw [ex_r3_0 (h := h) (c_P l.1)]
      refine am_goX 2 (show am_rc h 1 7 ∧ 0 ≤ 8 ∧ h.2.2.2.2 + am_al 52 ≤ 175 ∧ am_call am_cod 5 52 [.ref 1, .int (Int32.ofInt 3)] h (fun vv h' => pz_S 3 (some .boolean) am_r53 5 Q 67 [(2, .int (Int32.ofInt 1)), (0, .ref 3), (1, .ref 17)] (vv.toList ++ []) h') from ⟨Or.inl ⟨by decide, ex_1 (c_P l.1)⟩, by decide, ex_lim (c_P l.1) rfl, am_call.up (c_refuse l.1 ?_) (by decide)⟩)
      have x9 := cr_x (s := s) (k := (Int32.ofInt 3)) (by decide) l (by decide)
      refine am_goX 1 (show ((Int32.ofInt 0) = 0 → pz_S 3 (some .boolean) am_r53 5 Q 74 [(2, .int (Int32.ofInt 1)), (0, .ref 3), (1, .ref 17)] [] (am_wI h 1 7 (sp_ft (tt T sz) s.1 (Int32.ofInt 3)))) ∧ (¬ ((Int32.ofInt 0) = 0) → pz_S 3 (some .boolean) am_r53 5 Q 70 [(2, .int (Int32.ofInt 1)), (0, .ref 3), (1, .ref 17)] [] (am_wI h 1 7 (sp_ft (tt T sz) s.1 (Int32.ofInt 3)))) from ⟨fun _ => ?_, fun hz => absurd (by decide) hz⟩)
      exact am_goX 2 (show (∃ ty, (some .boolean) = some ty ∧ narrow ty (.int ((Int32.ofInt 0))) = .int ((Int32.ofInt 0))) ∧ (am_wI h 1 7 (sp_ft (tt T sz) s.1 (Int32.ofInt 3))).2.2.2.2 = 175 ∧ _ from ⟨⟨.boolean, rfl, rfl⟩, ex_175 x9.1, hQ _ _ (cres_inl (F := sp_ft (tt T sz) s.1 (Int32.ofInt 3)) (by simp only [sp_fn, sp_b, sp_f, cond_true, cond_false, e1, e2, Option.isSome_some, Option.isSome_none, Bool.true_or, Bool.or_true, Bool.or_false, Bool.false_or]) rfl x9)⟩)
  | false =>
    refine am_goX 1 (show (¬ (pz_b (false)) = 0 → pz_S 3 (some .boolean) am_r53 5 Q 19 [(0, .ref 3), (1, .ref 17)] [] h) ∧ (¬ ¬ (pz_b (false)) = 0 → pz_S 3 (some .boolean) am_r53 5 Q 10 [(0, .ref 3), (1, .ref 17)] [] h) from ⟨fun hz => absurd hz (by decide), fun _ => ?_⟩)
    refine am_goX 2 (show am_sh h 3 = some (1, 0) ∧ pz_S 3 (some .boolean) am_r53 5 Q 14 [(0, .ref 3), (1, .ref 17)] [am_rf (h.2.2.1 3 0)] h from ⟨ex_3 (c_P l.1), ?_⟩)
    rw [ex_r3_0 (h := h) (c_P l.1)]
    refine am_goX 2 (show am_rc h 1 7 ∧ 0 ≤ 8 ∧ h.2.2.2.2 + am_al 52 ≤ 175 ∧ am_call am_cod 5 52 [.ref 1, .int (Int32.ofInt 1)] h (fun vv h' => pz_S 3 (some .boolean) am_r53 5 Q 18 [(0, .ref 3), (1, .ref 17)] (vv.toList ++ []) h') from ⟨Or.inl ⟨by decide, ex_1 (c_P l.1)⟩, by decide, ex_lim (c_P l.1) rfl, am_call.up (c_refuse l.1 ?_) (by decide)⟩)
    have x10 := cr_x (s := s) (k := (Int32.ofInt 1)) (by decide) l (by decide)
    exact am_goX 1 (show (∃ ty, (some .boolean) = some ty ∧ narrow ty (.int ((Int32.ofInt 0))) = .int ((Int32.ofInt 0))) ∧ (am_wI h 1 7 (sp_ft (tt T sz) s.1 (Int32.ofInt 1))).2.2.2.2 = 175 ∧ _ from ⟨⟨.boolean, rfl, rfl⟩, ex_175 x10.1, hQ _ _ (cres_inl (F := sp_ft (tt T sz) s.1 (Int32.ofInt 1)) (by simp only [sp_fn, sp_b, sp_f, cond_true, cond_false, e1, Option.isSome_some, Option.isSome_none, Bool.true_or, Bool.or_true, Bool.or_false, Bool.false_or]) rfl x10)⟩)
theorem c_57_17 (l : cr h0 17 T sz s h) (hQ : Q (some (.int (sp_ko (sp_kd (tt T sz) s.1)))) h) : am_call am_cod 6 57 [.ref 3] h Q := by
  have hP := c_P l.1
  unfold sp_kd at hQ
  refine pz_call (n := 57) (nL := 1) (rt := (some .int)) (rows := am_r57) (d := 5) (by decide +kernel) (by decide +kernel) rfl (by funext pc; rfl) (ex_175 hP) (by exact Nat.le_of_ble_eq_true rfl) ?_
  refine am_goX 2 (show am_sh h 3 = some (1, 0) ∧ pz_S 1 (some .int) am_r57 5 Q 4 [(0, .ref 3)] [am_rf (h.2.2.1 3 0)] h from ⟨ex_3 (c_P l.1), ?_⟩)
  rw [ex_r3_0 (h := h) (c_P l.1)]
  refine am_goX 2 (show am_rc h 1 7 ∧ 0 ≤ 8 ∧ h.2.2.2.2 + am_al 44 ≤ 175 ∧ am_call am_cod 5 44 [.ref 1, .ref (4000000 + 3)] h (fun vv h' => pz_S 1 (some .int) am_r57 5 Q 9 [(0, .ref 3)] (vv.toList ++ []) h') from ⟨Or.inl ⟨by decide, ex_1 (c_P l.1)⟩, by decide, ex_lim (c_P l.1) rfl, am_call.up (c_isw (by decide) wq_3 l.1 ?_) (by decide)⟩)
  cases e11 : sp_w (tt T sz) s.1 30596128 with
  | true =>
    refine am_goX 1 (show ((pz_b (true)) = 0 → pz_S 1 (some .int) am_r57 5 Q 14 [(0, .ref 3)] [] h) ∧ (¬ ((pz_b (true)) = 0) → pz_S 1 (some .int) am_r57 5 Q 12 [(0, .ref 3)] [] h) from ⟨fun hz => absurd hz (by decide), fun _ => ?_⟩)
    refine am_goX 1 (show pz_S 1 (some .int) am_r57 5 Q 13 [(0, .ref 3)] [.int (Int32.ofInt 0)] h from ?_)
    simp only [e11, cond_true, cond_false] at hQ
    exact am_goX 1 (show (∃ ty, (some .int) = some ty ∧ narrow ty (.int ((Int32.ofInt 0))) = .int ((Int32.ofInt 0))) ∧ h.2.2.2.2 = 175 ∧ _ from ⟨⟨.int, rfl, rfl⟩, ex_175 (c_P l.1), hQ⟩)
  | false =>
    refine am_goX 1 (show ((pz_b (false)) = 0 → pz_S 1 (some .int) am_r57 5 Q 14 [(0, .ref 3)] [] h) ∧ (¬ ((pz_b (false)) = 0) → pz_S 1 (some .int) am_r57 5 Q 12 [(0, .ref 3)] [] h) from ⟨fun _ => ?_, fun hz => absurd (by decide) hz⟩)
    refine am_goX 2 (show am_sh h 3 = some (1, 0) ∧ pz_S 1 (some .int) am_r57 5 Q 18 [(0, .ref 3)] [am_rf (h.2.2.1 3 0)] h from ⟨ex_3 (c_P l.1), ?_⟩)
    rw [ex_r3_0 (h := h) (c_P l.1)]
    refine am_goX 2 (show am_rc h 1 7 ∧ 0 ≤ 8 ∧ h.2.2.2.2 + am_al 44 ≤ 175 ∧ am_call am_cod 5 44 [.ref 1, .ref (4000000 + 4)] h (fun vv h' => pz_S 1 (some .int) am_r57 5 Q 23 [(0, .ref 3)] (vv.toList ++ []) h') from ⟨Or.inl ⟨by decide, ex_1 (c_P l.1)⟩, by decide, ex_lim (c_P l.1) rfl, am_call.up (c_isw (by decide) wq_4 l.1 ?_) (by decide)⟩)
    cases e12 : sp_w (tt T sz) s.1 43567634 with
    | true =>
      refine am_goX 1 (show ((pz_b (true)) = 0 → pz_S 1 (some .int) am_r57 5 Q 28 [(0, .ref 3)] [] h) ∧ (¬ ((pz_b (true)) = 0) → pz_S 1 (some .int) am_r57 5 Q 26 [(0, .ref 3)] [] h) from ⟨fun hz => absurd hz (by decide), fun _ => ?_⟩)
      refine am_goX 1 (show pz_S 1 (some .int) am_r57 5 Q 27 [(0, .ref 3)] [.int (Int32.ofInt 1)] h from ?_)
      simp only [e11, e12, cond_true, cond_false] at hQ
      exact am_goX 1 (show (∃ ty, (some .int) = some ty ∧ narrow ty (.int ((Int32.ofInt 1))) = .int ((Int32.ofInt 1))) ∧ h.2.2.2.2 = 175 ∧ _ from ⟨⟨.int, rfl, rfl⟩, ex_175 (c_P l.1), hQ⟩)
    | false =>
      refine am_goX 1 (show ((pz_b (false)) = 0 → pz_S 1 (some .int) am_r57 5 Q 28 [(0, .ref 3)] [] h) ∧ (¬ ((pz_b (false)) = 0) → pz_S 1 (some .int) am_r57 5 Q 26 [(0, .ref 3)] [] h) from ⟨fun _ => ?_, fun hz => absurd (by decide) hz⟩)
      refine am_goX 2 (show am_sh h 3 = some (1, 0) ∧ pz_S 1 (some .int) am_r57 5 Q 32 [(0, .ref 3)] [am_rf (h.2.2.1 3 0)] h from ⟨ex_3 (c_P l.1), ?_⟩)
      rw [ex_r3_0 (h := h) (c_P l.1)]
      refine am_goX 2 (show am_rc h 1 7 ∧ 0 ≤ 8 ∧ h.2.2.2.2 + am_al 44 ≤ 175 ∧ am_call am_cod 5 44 [.ref 1, .ref (4000000 + 5)] h (fun vv h' => pz_S 1 (some .int) am_r57 5 Q 37 [(0, .ref 3)] (vv.toList ++ []) h') from ⟨Or.inl ⟨by decide, ex_1 (c_P l.1)⟩, by decide, ex_lim (c_P l.1) rfl, am_call.up (c_isw (by decide) wq_5 l.1 ?_) (by decide)⟩)
      cases e13 : sp_w (tt T sz) s.1 37900956 with
      | true =>
        refine am_goX 1 (show ((pz_b (true)) = 0 → pz_S 1 (some .int) am_r57 5 Q 42 [(0, .ref 3)] [] h) ∧ (¬ ((pz_b (true)) = 0) → pz_S 1 (some .int) am_r57 5 Q 40 [(0, .ref 3)] [] h) from ⟨fun hz => absurd hz (by decide), fun _ => ?_⟩)
        refine am_goX 1 (show pz_S 1 (some .int) am_r57 5 Q 41 [(0, .ref 3)] [.int (Int32.ofInt 2)] h from ?_)
        simp only [e11, e12, e13, cond_true, cond_false] at hQ
        exact am_goX 1 (show (∃ ty, (some .int) = some ty ∧ narrow ty (.int ((Int32.ofInt 2))) = .int ((Int32.ofInt 2))) ∧ h.2.2.2.2 = 175 ∧ _ from ⟨⟨.int, rfl, rfl⟩, ex_175 (c_P l.1), hQ⟩)
      | false =>
        refine am_goX 1 (show ((pz_b (false)) = 0 → pz_S 1 (some .int) am_r57 5 Q 42 [(0, .ref 3)] [] h) ∧ (¬ ((pz_b (false)) = 0) → pz_S 1 (some .int) am_r57 5 Q 40 [(0, .ref 3)] [] h) from ⟨fun _ => ?_, fun hz => absurd (by decide) hz⟩)
        refine am_goX 2 (show am_sh h 3 = some (1, 0) ∧ pz_S 1 (some .int) am_r57 5 Q 46 [(0, .ref 3)] [am_rf (h.2.2.1 3 0)] h from ⟨ex_3 (c_P l.1), ?_⟩)
        rw [ex_r3_0 (h := h) (c_P l.1)]
        refine am_goX 2 (show am_rc h 1 7 ∧ 0 ≤ 8 ∧ h.2.2.2.2 + am_al 44 ≤ 175 ∧ am_call am_cod 5 44 [.ref 1, .ref (4000000 + 6)] h (fun vv h' => pz_S 1 (some .int) am_r57 5 Q 51 [(0, .ref 3)] (vv.toList ++ []) h') from ⟨Or.inl ⟨by decide, ex_1 (c_P l.1)⟩, by decide, ex_lim (c_P l.1) rfl, am_call.up (c_isw (by decide) wq_6 l.1 ?_) (by decide)⟩)
        cases e14 : sp_w (tt T sz) s.1 488058286 with
        | true =>
          refine am_goX 1 (show ((pz_b (true)) = 0 → pz_S 1 (some .int) am_r57 5 Q 58 [(0, .ref 3)] [] h) ∧ (¬ ((pz_b (true)) = 0) → pz_S 1 (some .int) am_r57 5 Q 54 [(0, .ref 3)] [] h) from ⟨fun hz => absurd hz (by decide), fun _ => ?_⟩)
          refine am_goX 2 (show pz_S 1 (some .int) am_r57 5 Q 59 [(0, .ref 3)] [.int (Int32.ofInt 3)] h from ?_)
          simp only [e11, e12, e13, e14, cond_true, cond_false] at hQ
          exact am_goX 1 (show (∃ ty, (some .int) = some ty ∧ narrow ty (.int ((Int32.ofInt 3))) = .int ((Int32.ofInt 3))) ∧ h.2.2.2.2 = 175 ∧ _ from ⟨⟨.int, rfl, rfl⟩, ex_175 (c_P l.1), hQ⟩)
        | false =>
          refine am_goX 1 (show ((pz_b (false)) = 0 → pz_S 1 (some .int) am_r57 5 Q 58 [(0, .ref 3)] [] h) ∧ (¬ ((pz_b (false)) = 0) → pz_S 1 (some .int) am_r57 5 Q 54 [(0, .ref 3)] [] h) from ⟨fun _ => ?_, fun hz => absurd (by decide) hz⟩)
          refine am_goX 1 (show pz_S 1 (some .int) am_r57 5 Q 59 [(0, .ref 3)] [.int (Int32.ofInt (-1))] h from ?_)
          simp only [e11, e12, e13, e14, cond_true, cond_false] at hQ
          exact am_goX 1 (show (∃ ty, (some .int) = some ty ∧ narrow ty (.int ((Int32.ofInt (-1)))) = .int ((Int32.ofInt (-1)))) ∧ h.2.2.2.2 = 175 ∧ _ from ⟨⟨.int, rfl, rfl⟩, ex_175 (c_P l.1), hQ⟩)
theorem c_51_17 (hn : ¬ (tt T sz s.1).1 = 0) (l : cr h0 17 T sz s h) (hQ : ∀ v h1, cres h0 17 T sz (sp_person (tt T sz) s) v h1 → Q v h1) : am_call am_cod 7 51 [.ref 3, .ref 17] h Q := by
  have hP := c_P l.1
  have a1 : h.1 17 0 = nI s.2.1.1 := l.2.1.1.1
  have a2 : s.2.1.1 ≤ 6 := l.2.1.1.2.1
  refine pz_call (n := 51) (nL := 4) (rt := (some .boolean)) (rows := am_r51) (d := 6) (by decide +kernel) (by decide +kernel) rfl (by funext pc; rfl) (ex_175 hP) (by exact Nat.le_of_ble_eq_true rfl) ?_
  refine am_goX 5 (show am_sh h 17 = some (0, 0) ∧ 2 < 4 ∧ pz_S 4 (some .boolean) am_r51 6 Q 8 [(2, .int (h.1 17 0)), (0, .ref 3), (1, .ref 17)] [.int (Int8.ofInt 6).toInt32, .int (h.1 17 0)] h from ⟨ex_17 (c_P l.1), by decide, ?_⟩)
  rw [a1]
  cases e15 : Nat.ble 6 s.2.1.1 with
  | true =>
    refine am_goX 1 (show ((nI s.2.1.1) < (Int8.ofInt 6).toInt32 → pz_S 4 (some .boolean) am_r51 6 Q 20 [(2, .int (nI s.2.1.1)), (0, .ref 3), (1, .ref 17)] [] h) ∧ (¬ ((nI s.2.1.1) < (Int8.ofInt 6).toInt32) → pz_S 4 (some .boolean) am_r51 6 Q 11 [(2, .int (nI s.2.1.1)), (0, .ref 3), (1, .ref 17)] [] h) from ⟨fun hz => absurd hz (i6 e15 a2), fun _ => ?_⟩)
    refine am_goX 2 (show am_sh h 3 = some (1, 0) ∧ pz_S 4 (some .boolean) am_r51 6 Q 15 [(2, .int (nI s.2.1.1)), (0, .ref 3), (1, .ref 17)] [am_rf (h.2.2.1 3 0)] h from ⟨ex_3 (c_P l.1), ?_⟩)
    rw [ex_r3_0 (h := h) (c_P l.1)]
    refine am_goX 2 (show am_rc h 1 7 ∧ 0 ≤ 8 ∧ h.2.2.2.2 + am_al 52 ≤ 175 ∧ am_call am_cod 6 52 [.ref 1, .int (Int32.ofInt 5)] h (fun vv h' => pz_S 4 (some .boolean) am_r51 6 Q 19 [(2, .int (nI s.2.1.1)), (0, .ref 3), (1, .ref 17)] (vv.toList ++ []) h') from ⟨Or.inl ⟨by decide, ex_1 (c_P l.1)⟩, by decide, ex_lim (c_P l.1) rfl, am_call.up (c_refuse l.1 ?_) (by decide)⟩)
    have x16 := cr_x (s := s) (k := (Int32.ofInt 5)) (by decide) l (by decide)
    exact am_goX 1 (show (∃ ty, (some .boolean) = some ty ∧ narrow ty (.int ((Int32.ofInt 0))) = .int ((Int32.ofInt 0))) ∧ (am_wI h 1 7 (sp_ft (tt T sz) s.1 (Int32.ofInt 5))).2.2.2.2 = 175 ∧ _ from ⟨⟨.boolean, rfl, rfl⟩, ex_175 x16.1, hQ _ _ (cres_inl (F := sp_ft (tt T sz) s.1 (Int32.ofInt 5)) (by simp only [sp_person, sp_b, sp_f, cond_true, cond_false, e15, Option.isSome_some, Option.isSome_none, Bool.true_or, Bool.or_true, Bool.or_false, Bool.false_or]) rfl x16)⟩)
  | false =>
    refine am_goX 1 (show ((nI s.2.1.1) < (Int8.ofInt 6).toInt32 → pz_S 4 (some .boolean) am_r51 6 Q 20 [(2, .int (nI s.2.1.1)), (0, .ref 3), (1, .ref 17)] [] h) ∧ (¬ ((nI s.2.1.1) < (Int8.ofInt 6).toInt32) → pz_S 4 (some .boolean) am_r51 6 Q 11 [(2, .int (nI s.2.1.1)), (0, .ref 3), (1, .ref 17)] [] h) from ⟨fun _ => ?_, fun hz => absurd (j6 e15) hz⟩)
    have hlt := j6n e15
    refine am_goX 2 (show am_sh h 3 = some (1, 0) ∧ pz_S 4 (some .boolean) am_r51 6 Q 24 [(2, .int (nI s.2.1.1)), (0, .ref 3), (1, .ref 17)] [am_rf (h.2.2.1 3 0)] h from ⟨ex_3 (c_P l.1), ?_⟩)
    rw [ex_r3_0 (h := h) (c_P l.1)]
    refine am_goX 1 (show am_rc h 1 7 ∧ 0 ≤ 8 ∧ h.2.2.2.2 + am_al 18 ≤ 175 ∧ am_call am_cod 6 18 [.ref 1] h (fun vv h' => pz_S 4 (some .boolean) am_r51 6 Q 27 [(2, .int (nI s.2.1.1)), (0, .ref 3), (1, .ref 17)] (vv.toList ++ []) h') from ⟨Or.inl ⟨by decide, ex_1 (c_P l.1)⟩, by decide, ex_lim (c_P l.1) rfl, am_call.up (c_step l.1 (hn) (fun h17 m18 f19 => ?_)) (by decide)⟩)
    have l20 : cr h0 17 T sz (s.1 + 1, s.2) h17 := cr_fr (a := s.1) (C := s.2) (by decide) l m18 (Nat.le_succ _) f19
    refine am_goX 3 (show am_rc h17 3 1 ∧ 0 ≤ 8 ∧ h17.2.2.2.2 + am_al 53 ≤ 175 ∧ am_call am_cod 6 53 [.ref 3, .ref 17] h17 (fun vv h' => pz_S 4 (some .boolean) am_r51 6 Q 32 [(2, .int (nI s.2.1.1)), (0, .ref 3), (1, .ref 17)] (vv.toList ++ []) h') from ⟨Or.inl ⟨by decide, ex_3 (c_P l20.1)⟩, by decide, ex_lim (c_P l20.1) rfl, am_call.up (c_53_17 (s := (s.1 + 1, s.2)) l20 (fun v21 h22 x23 => ?_)) (by decide)⟩)
    rcases cres_cs x23 with ⟨F25, e27, rfl, y28⟩ | ⟨t26, e27, rfl, y28⟩
    ·
      refine am_goX 1 (show (¬ 0 = 0 → pz_S 4 (some .boolean) am_r51 6 Q 37 [(2, .int (nI s.2.1.1)), (0, .ref 3), (1, .ref 17)] [] h22) ∧ (¬ ¬ 0 = 0 → pz_S 4 (some .boolean) am_r51 6 Q 35 [(2, .int (nI s.2.1.1)), (0, .ref 3), (1, .ref 17)] [] h22) from ⟨fun hz => absurd hz (by decide), fun _ => ?_⟩)
      exact am_goX 2 (show (∃ ty, (some .boolean) = some ty ∧ narrow ty (.int ((Int32.ofInt 0))) = .int ((Int32.ofInt 0))) ∧ h22.2.2.2.2 = 175 ∧ _ from ⟨⟨.boolean, rfl, rfl⟩, ex_175 y28.1, hQ _ _ (cres_inl (F := F25) (by simp only [sp_person, sp_b, sp_f, cond_true, cond_false, e15, e27, Option.isSome_some, Option.isSome_none, Bool.true_or, Bool.or_true, Bool.or_false, Bool.false_or]) rfl y28)⟩)
    ·
      obtain ⟨rfl, k29⟩ := sp_fn_inr e27
      refine am_goX 1 (show (¬ 1 = 0 → pz_S 4 (some .boolean) am_r51 6 Q 37 [(2, .int (nI s.2.1.1)), (0, .ref 3), (1, .ref 17)] [] h22) ∧ (¬ ¬ 1 = 0 → pz_S 4 (some .boolean) am_r51 6 Q 35 [(2, .int (nI s.2.1.1)), (0, .ref 3), (1, .ref 17)] [] h22) from ⟨fun _ => ?_, fun hz => absurd (by decide) hz⟩)
      refine am_goX 2 (show am_sh h22 17 = some (0, 0) ∧ pz_S 4 (some .boolean) am_r51 6 Q 41 [(2, .int (nI s.2.1.1)), (0, .ref 3), (1, .ref 17)] [am_rf (h22.2.2.1 17 1)] h22 from ⟨ex_17 (c_P y28.1), ?_⟩)
      rw [ex_r17_1 (h := h22) (c_P y28.1)]
      refine am_goX 3 (show am_sh h22 3 = some (1, 0) ∧ pz_S 4 (some .boolean) am_r51 6 Q 46 [(2, .int (nI s.2.1.1)), (0, .ref 3), (1, .ref 17)] [am_rf (h22.2.2.1 3 0), .int (nI s.2.1.1), .ref 18] h22 from ⟨ex_3 (c_P y28.1), ?_⟩)
      rw [ex_r3_0 (h := h22) (c_P y28.1)]
      refine am_goX 2 (show am_sh h22 1 = some (7, 0) ∧ ∃ jj nn : Nat, am_so h22 18 = some (14, nn) ∧ jj < nn ∧ (nI s.2.1.1) = nI jj ∧ pz_S 4 (some .boolean) am_r51 6 Q 50 [(2, .int (nI s.2.1.1)), (0, .ref 3), (1, .ref 17)] [] (am_wL h22 18 jj (h22.2.1 1 5)) from ⟨ex_1 (c_P y28.1), s.2.1.1, 6, ex_w18 (c_P y28.1), by omega, rfl, ?_⟩)
      have l30 : cr h0 17 T sz (s.1 + 1, s.2) (am_wL h22 18 (s.2.1.1) (h22.2.1 1 5)) := cr_wg (by decide) y28 (Or.inl ⟨rfl, Nat.le_refl _⟩)
      have x1 : cwk (tt T sz (s.1 + 1)).2.1 ((am_wL h22 18 (s.2.1.1) (h22.2.1 1 5)).2.1 18 (s.2.1.1)) := by
        rw [ex_lq]
        exact c_wd y28.1 (sp_nk k29)
      refine am_goX 2 (show am_sh (am_wL h22 18 (s.2.1.1) (h22.2.1 1 5)) 3 = some (1, 0) ∧ pz_S 4 (some .boolean) am_r51 6 Q 54 [(2, .int (nI s.2.1.1)), (0, .ref 3), (1, .ref 17)] [am_rf ((am_wL h22 18 (s.2.1.1) (h22.2.1 1 5)).2.2.1 3 0)] (am_wL h22 18 (s.2.1.1) (h22.2.1 1 5)) from ⟨ex_3 (c_P l30.1), ?_⟩)
      rw [ex_r3_0 (h := am_wL h22 18 (s.2.1.1) (h22.2.1 1 5)) (c_P l30.1)]
      refine am_goX 1 (show am_rc (am_wL h22 18 (s.2.1.1) (h22.2.1 1 5)) 1 7 ∧ 0 ≤ 8 ∧ (am_wL h22 18 (s.2.1.1) (h22.2.1 1 5)).2.2.2.2 + am_al 18 ≤ 175 ∧ am_call am_cod 6 18 [.ref 1] (am_wL h22 18 (s.2.1.1) (h22.2.1 1 5)) (fun vv h' => pz_S 4 (some .boolean) am_r51 6 Q 57 [(2, .int (nI s.2.1.1)), (0, .ref 3), (1, .ref 17)] (vv.toList ++ []) h') from ⟨Or.inl ⟨by decide, ex_1 (c_P l30.1)⟩, by decide, ex_lim (c_P l30.1) rfl, am_call.up (c_step l30.1 (sp_nn k29) (fun h31 m32 f33 => ?_)) (by decide)⟩)
      have l34 : cr h0 17 T sz (s.1 + 1 + 1, s.2) h31 := cr_fr (a := (s.1 + 1)) (C := s.2) (by decide) l30 m32 (Nat.le_succ _) f33
      have x1 := fr1_W f33 (by decide) x1
      refine am_goX 2 (show am_rc h31 3 1 ∧ 0 ≤ 8 ∧ h31.2.2.2.2 + am_al 57 ≤ 175 ∧ am_call am_cod 6 57 [.ref 3] h31 (fun vv h' => pz_S 4 (some .boolean) am_r51 6 Q 61 [(2, .int (nI s.2.1.1)), (0, .ref 3), (1, .ref 17)] (vv.toList ++ []) h') from ⟨Or.inl ⟨by decide, ex_3 (c_P l34.1)⟩, by decide, ex_lim (c_P l34.1) rfl, am_call.up (c_57_17 l34 ?_) (by decide)⟩)
      cases e35 : sp_kd (tt T sz) (s.1 + 1 + 1) with
      | none =>
        refine am_goX 4 (show 3 < 4 ∧ (¬ (Int32.ofInt (-1)) = (Int32.ofInt (-1)) → pz_S 4 (some .boolean) am_r51 6 Q 76 [(3, .int (Int32.ofInt (-1))), (2, .int (nI s.2.1.1)), (0, .ref 3), (1, .ref 17)] [] h31) ∧ (¬ ¬ (Int32.ofInt (-1)) = (Int32.ofInt (-1)) → pz_S 4 (some .boolean) am_r51 6 Q 67 [(3, .int (Int32.ofInt (-1))), (2, .int (nI s.2.1.1)), (0, .ref 3), (1, .ref 17)] [] h31) from ⟨by decide, fun hz => absurd hz (by decide), fun _ => ?_⟩)
        refine am_goX 2 (show am_sh h31 3 = some (1, 0) ∧ pz_S 4 (some .boolean) am_r51 6 Q 71 [(3, .int (Int32.ofInt (-1))), (2, .int (nI s.2.1.1)), (0, .ref 3), (1, .ref 17)] [am_rf (h31.2.2.1 3 0)] h31 from ⟨ex_3 (c_P l34.1), ?_⟩)
        rw [ex_r3_0 (h := h31) (c_P l34.1)]
        refine am_goX 2 (show am_rc h31 1 7 ∧ 0 ≤ 8 ∧ h31.2.2.2.2 + am_al 52 ≤ 175 ∧ am_call am_cod 6 52 [.ref 1, .int (Int32.ofInt 1)] h31 (fun vv h' => pz_S 4 (some .boolean) am_r51 6 Q 75 [(3, .int (Int32.ofInt (-1))), (2, .int (nI s.2.1.1)), (0, .ref 3), (1, .ref 17)] (vv.toList ++ []) h') from ⟨Or.inl ⟨by decide, ex_1 (c_P l34.1)⟩, by decide, ex_lim (c_P l34.1) rfl, am_call.up (c_refuse l34.1 ?_) (by decide)⟩)
        have x38 := cr_x (s := (s.1 + 1 + 1, s.2)) (k := (Int32.ofInt 1)) (by decide) l34 (by decide)
        exact am_goX 1 (show (∃ ty, (some .boolean) = some ty ∧ narrow ty (.int ((Int32.ofInt 0))) = .int ((Int32.ofInt 0))) ∧ (am_wI h31 1 7 (sp_ft (tt T sz) (s.1 + 1 + 1) (Int32.ofInt 1))).2.2.2.2 = 175 ∧ _ from ⟨⟨.boolean, rfl, rfl⟩, ex_175 x38.1, hQ _ _ (cres_inl (F := sp_ft (tt T sz) (s.1 + 1 + 1) (Int32.ofInt 1)) (by simp only [sp_person, sp_b, sp_f, cond_true, cond_false, e15, e27, e35, Option.isSome_some, Option.isSome_none, Bool.true_or, Bool.or_true, Bool.or_false, Bool.false_or]) rfl x38)⟩)
      | some k36 =>
        have w37 := sp_kd_v e35
        refine am_goX 4 (show 3 < 4 ∧ (¬ k36 = (Int32.ofInt (-1)) → pz_S 4 (some .boolean) am_r51 6 Q 76 [(3, .int k36), (2, .int (nI s.2.1.1)), (0, .ref 3), (1, .ref 17)] [] h31) ∧ (¬ ¬ k36 = (Int32.ofInt (-1)) → pz_S 4 (some .boolean) am_r51 6 Q 67 [(3, .int k36), (2, .int (nI s.2.1.1)), (0, .ref 3), (1, .ref 17)] [] h31) from ⟨by decide, fun _ => ?_, fun hz => absurd w37.1 hz⟩)
        refine am_goX 2 (show am_sh h31 17 = some (0, 0) ∧ pz_S 4 (some .boolean) am_r51 6 Q 80 [(3, .int k36), (2, .int (nI s.2.1.1)), (0, .ref 3), (1, .ref 17)] [am_rf (h31.2.2.1 17 2)] h31 from ⟨ex_17 (c_P l34.1), ?_⟩)
        rw [ex_r17_2 (h := h31) (c_P l34.1)]
        refine am_goX 3 (show ∃ jj nn : Nat, am_so h31 19 = some (13, nn) ∧ jj < nn ∧ (nI s.2.1.1) = nI jj ∧ pz_S 4 (some .boolean) am_r51 6 Q 83 [(3, .int k36), (2, .int (nI s.2.1.1)), (0, .ref 3), (1, .ref 17)] [] (am_wI h31 19 jj k36) from ⟨s.2.1.1, 6, ex_w19 (c_P l34.1), by omega, rfl, ?_⟩)
        have l39 : cr h0 17 T sz (s.1 + 1 + 1, s.2) (am_wI h31 19 (s.2.1.1) k36) := cr_wf (by decide) l34 (Or.inl ⟨Or.inl rfl, Nat.le_refl _⟩)
        have x2 : (am_wI h31 19 (s.2.1.1) k36).1 19 (s.2.1.1) = k36 := em_we _ _ _ _
        refine am_goX 2 (show am_sh (am_wI h31 19 (s.2.1.1) k36) 3 = some (1, 0) ∧ pz_S 4 (some .boolean) am_r51 6 Q 87 [(3, .int k36), (2, .int (nI s.2.1.1)), (0, .ref 3), (1, .ref 17)] [am_rf ((am_wI h31 19 (s.2.1.1) k36).2.2.1 3 0)] (am_wI h31 19 (s.2.1.1) k36) from ⟨ex_3 (c_P l39.1), ?_⟩)
        rw [ex_r3_0 (h := am_wI h31 19 (s.2.1.1) k36) (c_P l39.1)]
        refine am_goX 1 (show am_rc (am_wI h31 19 (s.2.1.1) k36) 1 7 ∧ 0 ≤ 8 ∧ (am_wI h31 19 (s.2.1.1) k36).2.2.2.2 + am_al 18 ≤ 175 ∧ am_call am_cod 6 18 [.ref 1] (am_wI h31 19 (s.2.1.1) k36) (fun vv h' => pz_S 4 (some .boolean) am_r51 6 Q 90 [(3, .int k36), (2, .int (nI s.2.1.1)), (0, .ref 3), (1, .ref 17)] (vv.toList ++ []) h') from ⟨Or.inl ⟨by decide, ex_1 (c_P l39.1)⟩, by decide, ex_lim (c_P l39.1) rfl, am_call.up (c_step l39.1 (w37.2) (fun h40 m41 f42 => ?_)) (by decide)⟩)
        have l43 : cr h0 17 T sz (s.1 + 1 + 1 + 1, s.2) h40 := cr_fr (a := (s.1 + 1 + 1)) (C := s.2) (by decide) l39 m41 (Nat.le_succ _) f42
        have x1 := fr1_W f42 (by decide) x1
        have x2 := fr1_I f42 (by decide) x2
        refine am_goX 2 (show am_sh h40 3 = some (1, 0) ∧ pz_S 4 (some .boolean) am_r51 6 Q 94 [(3, .int k36), (2, .int (nI s.2.1.1)), (0, .ref 3), (1, .ref 17)] [am_rf (h40.2.2.1 3 0)] h40 from ⟨ex_3 (c_P l43.1), ?_⟩)
        rw [ex_r3_0 (h := h40) (c_P l43.1)]
        refine am_goX 2 (show am_rc h40 1 7 ∧ 0 ≤ 8 ∧ h40.2.2.2.2 + am_al 58 ≤ 175 ∧ am_call am_cod 6 58 [.ref 1, .ref (4000000 + 7)] h40 (fun vv h' => pz_S 4 (some .boolean) am_r51 6 Q 99 [(3, .int k36), (2, .int (nI s.2.1.1)), (0, .ref 3), (1, .ref 17)] (vv.toList ++ []) h') from ⟨Or.inl ⟨by decide, ex_1 (c_P l43.1)⟩, by decide, ex_lim (c_P l43.1) rfl, am_call.up (c_tW (s := (s.1 + 1 + 1 + 1, s.2)) (by decide) wq_7 (by decide) l43 (fun v44 h45 x46 f47 => ?_)) (by decide)⟩)
        rcases cres_cs x46 with ⟨F48, e50, rfl, y51⟩ | ⟨t49, e50, rfl, y51⟩
        ·
          refine am_goX 1 (show (0 = 0 → pz_S 4 (some .boolean) am_r51 6 Q 114 [(3, .int k36), (2, .int (nI s.2.1.1)), (0, .ref 3), (1, .ref 17)] [] h45) ∧ (¬ (0 = 0) → pz_S 4 (some .boolean) am_r51 6 Q 102 [(3, .int k36), (2, .int (nI s.2.1.1)), (0, .ref 3), (1, .ref 17)] [] h45) from ⟨fun _ => ?_, fun hz => absurd (by decide) hz⟩)
          exact am_goX 2 (show (∃ ty, (some .boolean) = some ty ∧ narrow ty (.int ((Int32.ofInt 0))) = .int ((Int32.ofInt 0))) ∧ h45.2.2.2.2 = 175 ∧ _ from ⟨⟨.boolean, rfl, rfl⟩, ex_175 y51.1, hQ _ _ (cres_inl (F := F48) (by simp only [sp_person, sp_b, sp_f, cond_true, cond_false, e15, e27, e35, e50, Option.isSome_some, Option.isSome_none, Bool.true_or, Bool.or_true, Bool.or_false, Bool.false_or]) rfl y51)⟩)
        ·
          obtain rfl := sp_tW_inr e50
          have x1 := fr1_W f47 (by decide) x1
          have x2 := fr1_I f47 (by decide) x2
          refine am_goX 1 (show (1 = 0 → pz_S 4 (some .boolean) am_r51 6 Q 114 [(3, .int k36), (2, .int (nI s.2.1.1)), (0, .ref 3), (1, .ref 17)] [] h45) ∧ (¬ (1 = 0) → pz_S 4 (some .boolean) am_r51 6 Q 102 [(3, .int k36), (2, .int (nI s.2.1.1)), (0, .ref 3), (1, .ref 17)] [] h45) from ⟨fun hz => absurd hz (by decide), fun _ => ?_⟩)
          refine am_goX 2 (show am_sh h45 3 = some (1, 0) ∧ pz_S 4 (some .boolean) am_r51 6 Q 106 [(3, .int k36), (2, .int (nI s.2.1.1)), (0, .ref 3), (1, .ref 17)] [am_rf (h45.2.2.1 3 0)] h45 from ⟨ex_3 (c_P y51.1), ?_⟩)
          rw [ex_r3_0 (h := h45) (c_P y51.1)]
          refine am_goX 3 (show am_rc h45 1 7 ∧ 0 ≤ 8 ∧ h45.2.2.2.2 + am_al 59 ≤ 175 ∧ am_call am_cod 6 59 [.ref 1, .int (Int32.ofInt 0), .int (Int32.ofInt 4)] h45 (fun vv h' => pz_S 4 (some .boolean) am_r51 6 Q 111 [(3, .int k36), (2, .int (nI s.2.1.1)), (0, .ref 3), (1, .ref 17)] (vv.toList ++ []) h') from ⟨Or.inl ⟨by decide, ex_1 (c_P y51.1)⟩, by decide, ex_lim (c_P y51.1) rfl, am_call.up (c_tN (s := (s.1 + 1 + 1 + 1 + 1, s.2)) (by decide) y51 (fun v52 h53 x54 f55 => ?_)) (by decide)⟩)
          rcases cres_cs x54 with ⟨F56, e58, rfl, y59⟩ | ⟨t57, e58, rfl, y59⟩
          ·
            refine am_goX 1 (show (¬ 0 = 0 → pz_S 4 (some .boolean) am_r51 6 Q 116 [(3, .int k36), (2, .int (nI s.2.1.1)), (0, .ref 3), (1, .ref 17)] [] h53) ∧ (¬ ¬ 0 = 0 → pz_S 4 (some .boolean) am_r51 6 Q 114 [(3, .int k36), (2, .int (nI s.2.1.1)), (0, .ref 3), (1, .ref 17)] [] h53) from ⟨fun hz => absurd hz (by decide), fun _ => ?_⟩)
            exact am_goX 2 (show (∃ ty, (some .boolean) = some ty ∧ narrow ty (.int ((Int32.ofInt 0))) = .int ((Int32.ofInt 0))) ∧ h53.2.2.2.2 = 175 ∧ _ from ⟨⟨.boolean, rfl, rfl⟩, ex_175 y59.1, hQ _ _ (cres_inl (F := F56) (by simp only [sp_person, sp_b, sp_f, cond_true, cond_false, e15, e27, e35, e50, e58, Option.isSome_some, Option.isSome_none, Bool.true_or, Bool.or_true, Bool.or_false, Bool.false_or]) rfl y59)⟩)
          ·
            obtain ⟨rfl, k60, _⟩ := sp_tN_inr e58
            have x1 := fr1_W f55 (by decide) x1
            have x2 := fr1_I f55 (by decide) x2
            refine am_goX 1 (show (¬ 1 = 0 → pz_S 4 (some .boolean) am_r51 6 Q 116 [(3, .int k36), (2, .int (nI s.2.1.1)), (0, .ref 3), (1, .ref 17)] [] h53) ∧ (¬ ¬ 1 = 0 → pz_S 4 (some .boolean) am_r51 6 Q 114 [(3, .int k36), (2, .int (nI s.2.1.1)), (0, .ref 3), (1, .ref 17)] [] h53) from ⟨fun _ => ?_, fun hz => absurd (by decide) hz⟩)
            refine am_goX 2 (show am_sh h53 17 = some (0, 0) ∧ pz_S 4 (some .boolean) am_r51 6 Q 120 [(3, .int k36), (2, .int (nI s.2.1.1)), (0, .ref 3), (1, .ref 17)] [am_rf (h53.2.2.1 17 3)] h53 from ⟨ex_17 (c_P y59.1), ?_⟩)
            rw [ex_r17_3 (h := h53) (c_P y59.1)]
            refine am_goX 3 (show am_sh h53 3 = some (1, 0) ∧ pz_S 4 (some .boolean) am_r51 6 Q 125 [(3, .int k36), (2, .int (nI s.2.1.1)), (0, .ref 3), (1, .ref 17)] [am_rf (h53.2.2.1 3 0), .int (nI s.2.1.1), .ref 20] h53 from ⟨ex_3 (c_P y59.1), ?_⟩)
            rw [ex_r3_0 (h := h53) (c_P y59.1)]
            refine am_goX 1 (show am_sh h53 1 = some (7, 0) ∧ pz_S 4 (some .boolean) am_r51 6 Q 128 [(3, .int k36), (2, .int (nI s.2.1.1)), (0, .ref 3), (1, .ref 17)] [.int (h53.1 1 6), .int (nI s.2.1.1), .ref 20] h53 from ⟨ex_1 (c_P y59.1), ?_⟩)
            rw [c_nv y59.1 k60]
            refine am_goX 1 (show ∃ jj nn : Nat, am_so h53 20 = some (13, nn) ∧ jj < nn ∧ (nI s.2.1.1) = nI jj ∧ pz_S 4 (some .boolean) am_r51 6 Q 129 [(3, .int k36), (2, .int (nI s.2.1.1)), (0, .ref 3), (1, .ref 17)] [] (am_wI h53 20 jj (sp_v (tt T sz) (s.1 + 1 + 1 + 1 + 1))) from ⟨s.2.1.1, 6, ex_w20 (c_P y59.1), by omega, rfl, ?_⟩)
            have l61 : cr h0 17 T sz (s.1 + 1 + 1 + 1 + 1, s.2) (am_wI h53 20 (s.2.1.1) (sp_v (tt T sz) (s.1 + 1 + 1 + 1 + 1))) := cr_wf (by decide) y59 (Or.inl ⟨Or.inr rfl, Nat.le_refl _⟩)
            have x3 : (am_wI h53 20 (s.2.1.1) (sp_v (tt T sz) (s.1 + 1 + 1 + 1 + 1))).1 20 (s.2.1.1) = (sp_v (tt T sz) (s.1 + 1 + 1 + 1 + 1)) := em_we _ _ _ _
            have x2 := (em_wn (o := 20) (k := s.2.1.1) _ ((sp_v (tt T sz) (s.1 + 1 + 1 + 1 + 1))) (by omega)).trans x2
            refine am_goX 2 (show am_sh (am_wI h53 20 (s.2.1.1) (sp_v (tt T sz) (s.1 + 1 + 1 + 1 + 1))) 3 = some (1, 0) ∧ pz_S 4 (some .boolean) am_r51 6 Q 133 [(3, .int k36), (2, .int (nI s.2.1.1)), (0, .ref 3), (1, .ref 17)] [am_rf ((am_wI h53 20 (s.2.1.1) (sp_v (tt T sz) (s.1 + 1 + 1 + 1 + 1))).2.2.1 3 0)] (am_wI h53 20 (s.2.1.1) (sp_v (tt T sz) (s.1 + 1 + 1 + 1 + 1))) from ⟨ex_3 (c_P l61.1), ?_⟩)
            rw [ex_r3_0 (h := am_wI h53 20 (s.2.1.1) (sp_v (tt T sz) (s.1 + 1 + 1 + 1 + 1))) (c_P l61.1)]
            refine am_goX 1 (show am_rc (am_wI h53 20 (s.2.1.1) (sp_v (tt T sz) (s.1 + 1 + 1 + 1 + 1))) 1 7 ∧ 0 ≤ 8 ∧ (am_wI h53 20 (s.2.1.1) (sp_v (tt T sz) (s.1 + 1 + 1 + 1 + 1))).2.2.2.2 + am_al 18 ≤ 175 ∧ am_call am_cod 6 18 [.ref 1] (am_wI h53 20 (s.2.1.1) (sp_v (tt T sz) (s.1 + 1 + 1 + 1 + 1))) (fun vv h' => pz_S 4 (some .boolean) am_r51 6 Q 136 [(3, .int k36), (2, .int (nI s.2.1.1)), (0, .ref 3), (1, .ref 17)] (vv.toList ++ []) h') from ⟨Or.inl ⟨by decide, ex_1 (c_P l61.1)⟩, by decide, ex_lim (c_P l61.1) rfl, am_call.up (c_step l61.1 (sp_kn (by decide) k60) (fun h62 m63 f64 => ?_)) (by decide)⟩)
            have l65 : cr h0 17 T sz (s.1 + 1 + 1 + 1 + 1 + 1, s.2) h62 := cr_fr (a := (s.1 + 1 + 1 + 1 + 1)) (C := s.2) (by decide) l61 m63 (Nat.le_succ _) f64
            have x1 := fr1_W f64 (by decide) x1
            have x2 := fr1_I f64 (by decide) x2
            have x3 := fr1_I f64 (by decide) x3
            refine am_goX 6 (show (Value.ref 17).category = 1 ∧ am_sh h62 17 = some (0, 0) ∧ am_sh h62 17 = some (0, 0) ∧ narrow (am_fty 0 0) (.int (((h62.1 17 0) + (Int32.ofInt 1)))) = .int (((h62.1 17 0) + (Int32.ofInt 1))) ∧ fits (am_fty 0 0) (.int (((h62.1 17 0) + (Int32.ofInt 1)))) = true ∧ pz_S 4 (some .boolean) am_r51 6 Q 146 [(3, .int k36), (2, .int (nI s.2.1.1)), (0, .ref 3), (1, .ref 17)] [] (am_wI h62 17 0 (((h62.1 17 0) + (Int32.ofInt 1)))) from ⟨rfl, ex_17 (c_P l65.1), ex_17 (c_P l65.1), rfl, rfl, ?_⟩)
            rw [show h62.1 17 0 = nI (s.2.1.1) from l65.2.1.1.1, xw_i1]
            have l66 : cr h0 17 T sz (s.1 + 1 + 1 + 1 + 1 + 1, sp_cP s.2 (tt T sz (s.1 + 1)).2.1 k36 (sp_v (tt T sz) (s.1 + 1 + 1 + 1 + 1))) (am_wI h62 17 0 (nI (s.2.1.1 + 1))) := cr_P (by decide) l65 hlt x1 x2 x3
            refine am_goX 2 (show am_sh (am_wI h62 17 0 (nI (s.2.1.1 + 1))) 3 = some (1, 0) ∧ pz_S 4 (some .boolean) am_r51 6 Q 150 [(3, .int k36), (2, .int (nI s.2.1.1)), (0, .ref 3), (1, .ref 17)] [am_rf ((am_wI h62 17 0 (nI (s.2.1.1 + 1))).2.2.1 3 0)] (am_wI h62 17 0 (nI (s.2.1.1 + 1))) from ⟨ex_3 (c_P l66.1), ?_⟩)
            rw [ex_r3_0 (h := am_wI h62 17 0 (nI (s.2.1.1 + 1))) (c_P l66.1)]
            refine am_goX 2 (show am_rc (am_wI h62 17 0 (nI (s.2.1.1 + 1))) 1 7 ∧ 0 ≤ 8 ∧ (am_wI h62 17 0 (nI (s.2.1.1 + 1))).2.2.2.2 + am_al 61 ≤ 175 ∧ am_call am_cod 6 61 [.ref 1, .int (Int8.ofInt 59).toInt32] (am_wI h62 17 0 (nI (s.2.1.1 + 1))) (fun vv h' => pz_S 4 (some .boolean) am_r51 6 Q 155 [(3, .int k36), (2, .int (nI s.2.1.1)), (0, .ref 3), (1, .ref 17)] (vv.toList ++ []) h') from ⟨Or.inl ⟨by decide, ex_1 (c_P l66.1)⟩, by decide, ex_lim (c_P l66.1) rfl, am_call.up (c_tS (s := (s.1 + 1 + 1 + 1 + 1 + 1, sp_cP s.2 (tt T sz (s.1 + 1)).2.1 k36 (sp_v (tt T sz) (s.1 + 1 + 1 + 1 + 1)))) (by decide) l66 (fun v67 h68 x69 f70 => ?_)) (by decide)⟩)
            rcases cres_cs x69 with ⟨F71, e73, rfl, y74⟩ | ⟨t72, e73, rfl, y74⟩
            ·
              exact am_goX 1 (show (∃ ty, (some .boolean) = some ty ∧ narrow ty (.int (0)) = .int (0)) ∧ h68.2.2.2.2 = 175 ∧ _ from ⟨⟨.boolean, rfl, rfl⟩, ex_175 y74.1, hQ _ _ (cres_inl (F := F71) (by simp only [sp_person, sp_b, sp_f, cond_true, cond_false, e15, e27, e35, e50, e58, e73, Option.isSome_some, Option.isSome_none, Bool.true_or, Bool.or_true, Bool.or_false, Bool.false_or]) rfl y74)⟩)
            ·
              obtain rfl := sp_tS_inr e73
              exact am_goX 1 (show (∃ ty, (some .boolean) = some ty ∧ narrow ty (.int (1)) = .int (1)) ∧ h68.2.2.2.2 = 175 ∧ _ from ⟨⟨.boolean, rfl, rfl⟩, ex_175 (c_P y74.1), hQ _ _ (cres_inr (s' := (s.1 + 1 + 1 + 1 + 1 + 1 + 1, (sp_cP s.2 (tt T sz (s.1 + 1)).2.1 k36 (sp_v (tt T sz) (s.1 + 1 + 1 + 1 + 1))))) (by simp only [sp_person, sp_b, sp_f, cond_true, cond_false, e15, e27, e35, e50, e58, e73, Option.isSome_some, Option.isSome_none, Bool.true_or, Bool.or_true, Bool.or_false, Bool.false_or]) rfl y74)⟩)
theorem c_63_17 (hn : ¬ (tt T sz s.1).1 = 0) (l : cr h0 17 T sz s h) (hQ : ∀ v h1, cres h0 17 T sz (sp_event (tt T sz) s) v h1 → Q v h1) : am_call am_cod 7 63 [.ref 3, .ref 17] h Q := by
  have hP := c_P l.1
  have a1 : h.1 17 4 = nI s.2.2.1.1 := l.2.1.2.1.1
  have a2 : s.2.2.1.1 ≤ 5 := l.2.1.2.1.2.1
  refine pz_call (n := 63) (nL := 3) (rt := (some .boolean)) (rows := am_r63) (d := 6) (by decide +kernel) (by decide +kernel) rfl (by funext pc; rfl) (ex_175 hP) (by exact Nat.le_of_ble_eq_true rfl) ?_
  refine am_goX 5 (show am_sh h 17 = some (0, 0) ∧ 2 < 3 ∧ pz_S 3 (some .boolean) am_r63 6 Q 7 [(2, .int (h.1 17 4)), (0, .ref 3), (1, .ref 17)] [.int (Int32.ofInt 5), .int (h.1 17 4)] h from ⟨ex_17 (c_P l.1), by decide, ?_⟩)
  rw [a1]
  cases e75 : Nat.ble 5 s.2.2.1.1 with
  | true =>
    refine am_goX 1 (show ((nI s.2.2.1.1) < (Int32.ofInt 5) → pz_S 3 (some .boolean) am_r63 6 Q 19 [(2, .int (nI s.2.2.1.1)), (0, .ref 3), (1, .ref 17)] [] h) ∧ (¬ ((nI s.2.2.1.1) < (Int32.ofInt 5)) → pz_S 3 (some .boolean) am_r63 6 Q 10 [(2, .int (nI s.2.2.1.1)), (0, .ref 3), (1, .ref 17)] [] h) from ⟨fun hz => absurd hz (i5 e75 a2), fun _ => ?_⟩)
    refine am_goX 2 (show am_sh h 3 = some (1, 0) ∧ pz_S 3 (some .boolean) am_r63 6 Q 14 [(2, .int (nI s.2.2.1.1)), (0, .ref 3), (1, .ref 17)] [am_rf (h.2.2.1 3 0)] h from ⟨ex_3 (c_P l.1), ?_⟩)
    rw [ex_r3_0 (h := h) (c_P l.1)]
    refine am_goX 2 (show am_rc h 1 7 ∧ 0 ≤ 8 ∧ h.2.2.2.2 + am_al 52 ≤ 175 ∧ am_call am_cod 6 52 [.ref 1, .int (Int32.ofInt 5)] h (fun vv h' => pz_S 3 (some .boolean) am_r63 6 Q 18 [(2, .int (nI s.2.2.1.1)), (0, .ref 3), (1, .ref 17)] (vv.toList ++ []) h') from ⟨Or.inl ⟨by decide, ex_1 (c_P l.1)⟩, by decide, ex_lim (c_P l.1) rfl, am_call.up (c_refuse l.1 ?_) (by decide)⟩)
    have x76 := cr_x (s := s) (k := (Int32.ofInt 5)) (by decide) l (by decide)
    exact am_goX 1 (show (∃ ty, (some .boolean) = some ty ∧ narrow ty (.int ((Int32.ofInt 0))) = .int ((Int32.ofInt 0))) ∧ (am_wI h 1 7 (sp_ft (tt T sz) s.1 (Int32.ofInt 5))).2.2.2.2 = 175 ∧ _ from ⟨⟨.boolean, rfl, rfl⟩, ex_175 x76.1, hQ _ _ (cres_inl (F := sp_ft (tt T sz) s.1 (Int32.ofInt 5)) (by simp only [sp_event, sp_b, sp_f, cond_true, cond_false, e75, Option.isSome_some, Option.isSome_none, Bool.true_or, Bool.or_true, Bool.or_false, Bool.false_or]) rfl x76)⟩)
  | false =>
    refine am_goX 1 (show ((nI s.2.2.1.1) < (Int32.ofInt 5) → pz_S 3 (some .boolean) am_r63 6 Q 19 [(2, .int (nI s.2.2.1.1)), (0, .ref 3), (1, .ref 17)] [] h) ∧ (¬ ((nI s.2.2.1.1) < (Int32.ofInt 5)) → pz_S 3 (some .boolean) am_r63 6 Q 10 [(2, .int (nI s.2.2.1.1)), (0, .ref 3), (1, .ref 17)] [] h) from ⟨fun _ => ?_, fun hz => absurd (j5 e75) hz⟩)
    have hlt := j5n e75
    refine am_goX 2 (show am_sh h 3 = some (1, 0) ∧ pz_S 3 (some .boolean) am_r63 6 Q 23 [(2, .int (nI s.2.2.1.1)), (0, .ref 3), (1, .ref 17)] [am_rf (h.2.2.1 3 0)] h from ⟨ex_3 (c_P l.1), ?_⟩)
    rw [ex_r3_0 (h := h) (c_P l.1)]
    refine am_goX 1 (show am_rc h 1 7 ∧ 0 ≤ 8 ∧ h.2.2.2.2 + am_al 18 ≤ 175 ∧ am_call am_cod 6 18 [.ref 1] h (fun vv h' => pz_S 3 (some .boolean) am_r63 6 Q 26 [(2, .int (nI s.2.2.1.1)), (0, .ref 3), (1, .ref 17)] (vv.toList ++ []) h') from ⟨Or.inl ⟨by decide, ex_1 (c_P l.1)⟩, by decide, ex_lim (c_P l.1) rfl, am_call.up (c_step l.1 (hn) (fun h77 m78 f79 => ?_)) (by decide)⟩)
    have l80 : cr h0 17 T sz (s.1 + 1, s.2) h77 := cr_fr (a := s.1) (C := s.2) (by decide) l m78 (Nat.le_succ _) f79
    refine am_goX 3 (show am_rc h77 3 1 ∧ 0 ≤ 8 ∧ h77.2.2.2.2 + am_al 53 ≤ 175 ∧ am_call am_cod 6 53 [.ref 3, .ref 17] h77 (fun vv h' => pz_S 3 (some .boolean) am_r63 6 Q 31 [(2, .int (nI s.2.2.1.1)), (0, .ref 3), (1, .ref 17)] (vv.toList ++ []) h') from ⟨Or.inl ⟨by decide, ex_3 (c_P l80.1)⟩, by decide, ex_lim (c_P l80.1) rfl, am_call.up (c_53_17 (s := (s.1 + 1, s.2)) l80 (fun v81 h82 x83 => ?_)) (by decide)⟩)
    rcases cres_cs x83 with ⟨F85, e87, rfl, y88⟩ | ⟨t86, e87, rfl, y88⟩
    ·
      refine am_goX 1 (show (¬ 0 = 0 → pz_S 3 (some .boolean) am_r63 6 Q 36 [(2, .int (nI s.2.2.1.1)), (0, .ref 3), (1, .ref 17)] [] h82) ∧ (¬ ¬ 0 = 0 → pz_S 3 (some .boolean) am_r63 6 Q 34 [(2, .int (nI s.2.2.1.1)), (0, .ref 3), (1, .ref 17)] [] h82) from ⟨fun hz => absurd hz (by decide), fun _ => ?_⟩)
      exact am_goX 2 (show (∃ ty, (some .boolean) = some ty ∧ narrow ty (.int ((Int32.ofInt 0))) = .int ((Int32.ofInt 0))) ∧ h82.2.2.2.2 = 175 ∧ _ from ⟨⟨.boolean, rfl, rfl⟩, ex_175 y88.1, hQ _ _ (cres_inl (F := F85) (by simp only [sp_event, sp_b, sp_f, cond_true, cond_false, e75, e87, Option.isSome_some, Option.isSome_none, Bool.true_or, Bool.or_true, Bool.or_false, Bool.false_or]) rfl y88)⟩)
    ·
      obtain ⟨rfl, k89⟩ := sp_fn_inr e87
      refine am_goX 1 (show (¬ 1 = 0 → pz_S 3 (some .boolean) am_r63 6 Q 36 [(2, .int (nI s.2.2.1.1)), (0, .ref 3), (1, .ref 17)] [] h82) ∧ (¬ ¬ 1 = 0 → pz_S 3 (some .boolean) am_r63 6 Q 34 [(2, .int (nI s.2.2.1.1)), (0, .ref 3), (1, .ref 17)] [] h82) from ⟨fun _ => ?_, fun hz => absurd (by decide) hz⟩)
      refine am_goX 2 (show am_sh h82 17 = some (0, 0) ∧ pz_S 3 (some .boolean) am_r63 6 Q 40 [(2, .int (nI s.2.2.1.1)), (0, .ref 3), (1, .ref 17)] [am_rf (h82.2.2.1 17 5)] h82 from ⟨ex_17 (c_P y88.1), ?_⟩)
      rw [ex_r17_5 (h := h82) (c_P y88.1)]
      refine am_goX 3 (show am_sh h82 3 = some (1, 0) ∧ pz_S 3 (some .boolean) am_r63 6 Q 45 [(2, .int (nI s.2.2.1.1)), (0, .ref 3), (1, .ref 17)] [am_rf (h82.2.2.1 3 0), .int (nI s.2.2.1.1), .ref 21] h82 from ⟨ex_3 (c_P y88.1), ?_⟩)
      rw [ex_r3_0 (h := h82) (c_P y88.1)]
      refine am_goX 2 (show am_sh h82 1 = some (7, 0) ∧ ∃ jj nn : Nat, am_so h82 21 = some (14, nn) ∧ jj < nn ∧ (nI s.2.2.1.1) = nI jj ∧ pz_S 3 (some .boolean) am_r63 6 Q 49 [(2, .int (nI s.2.2.1.1)), (0, .ref 3), (1, .ref 17)] [] (am_wL h82 21 jj (h82.2.1 1 5)) from ⟨ex_1 (c_P y88.1), s.2.2.1.1, 5, ex_w21 (c_P y88.1), by omega, rfl, ?_⟩)
      have l90 : cr h0 17 T sz (s.1 + 1, s.2) (am_wL h82 21 (s.2.2.1.1) (h82.2.1 1 5)) := cr_wg (by decide) y88 (Or.inr ⟨rfl, Nat.le_refl _⟩)
      have x1 : cwk (tt T sz (s.1 + 1)).2.1 ((am_wL h82 21 (s.2.2.1.1) (h82.2.1 1 5)).2.1 21 (s.2.2.1.1)) := by
        rw [ex_lq]
        exact c_wd y88.1 (sp_nk k89)
      refine am_goX 2 (show am_sh (am_wL h82 21 (s.2.2.1.1) (h82.2.1 1 5)) 3 = some (1, 0) ∧ pz_S 3 (some .boolean) am_r63 6 Q 53 [(2, .int (nI s.2.2.1.1)), (0, .ref 3), (1, .ref 17)] [am_rf ((am_wL h82 21 (s.2.2.1.1) (h82.2.1 1 5)).2.2.1 3 0)] (am_wL h82 21 (s.2.2.1.1) (h82.2.1 1 5)) from ⟨ex_3 (c_P l90.1), ?_⟩)
      rw [ex_r3_0 (h := am_wL h82 21 (s.2.2.1.1) (h82.2.1 1 5)) (c_P l90.1)]
      refine am_goX 1 (show am_rc (am_wL h82 21 (s.2.2.1.1) (h82.2.1 1 5)) 1 7 ∧ 0 ≤ 8 ∧ (am_wL h82 21 (s.2.2.1.1) (h82.2.1 1 5)).2.2.2.2 + am_al 18 ≤ 175 ∧ am_call am_cod 6 18 [.ref 1] (am_wL h82 21 (s.2.2.1.1) (h82.2.1 1 5)) (fun vv h' => pz_S 3 (some .boolean) am_r63 6 Q 56 [(2, .int (nI s.2.2.1.1)), (0, .ref 3), (1, .ref 17)] (vv.toList ++ []) h') from ⟨Or.inl ⟨by decide, ex_1 (c_P l90.1)⟩, by decide, ex_lim (c_P l90.1) rfl, am_call.up (c_step l90.1 (sp_nn k89) (fun h91 m92 f93 => ?_)) (by decide)⟩)
      have l94 : cr h0 17 T sz (s.1 + 1 + 1, s.2) h91 := cr_fr (a := (s.1 + 1)) (C := s.2) (by decide) l90 m92 (Nat.le_succ _) f93
      have x1 := fr1_W f93 (by decide) x1
      refine am_goX 2 (show am_sh h91 3 = some (1, 0) ∧ pz_S 3 (some .boolean) am_r63 6 Q 60 [(2, .int (nI s.2.2.1.1)), (0, .ref 3), (1, .ref 17)] [am_rf (h91.2.2.1 3 0)] h91 from ⟨ex_3 (c_P l94.1), ?_⟩)
      rw [ex_r3_0 (h := h91) (c_P l94.1)]
      refine am_goX 2 (show am_rc h91 1 7 ∧ 0 ≤ 8 ∧ h91.2.2.2.2 + am_al 58 ≤ 175 ∧ am_call am_cod 6 58 [.ref 1, .ref (4000000 + 9)] h91 (fun vv h' => pz_S 3 (some .boolean) am_r63 6 Q 65 [(2, .int (nI s.2.2.1.1)), (0, .ref 3), (1, .ref 17)] (vv.toList ++ []) h') from ⟨Or.inl ⟨by decide, ex_1 (c_P l94.1)⟩, by decide, ex_lim (c_P l94.1) rfl, am_call.up (c_tW (s := (s.1 + 1 + 1, s.2)) (by decide) wq_9 (by decide) l94 (fun v95 h96 x97 f98 => ?_)) (by decide)⟩)
      rcases cres_cs x97 with ⟨F99, e101, rfl, y102⟩ | ⟨t100, e101, rfl, y102⟩
      ·
        refine am_goX 1 (show (0 = 0 → pz_S 3 (some .boolean) am_r63 6 Q 81 [(2, .int (nI s.2.2.1.1)), (0, .ref 3), (1, .ref 17)] [] h96) ∧ (¬ (0 = 0) → pz_S 3 (some .boolean) am_r63 6 Q 68 [(2, .int (nI s.2.2.1.1)), (0, .ref 3), (1, .ref 17)] [] h96) from ⟨fun _ => ?_, fun hz => absurd (by decide) hz⟩)
        exact am_goX 2 (show (∃ ty, (some .boolean) = some ty ∧ narrow ty (.int ((Int32.ofInt 0))) = .int ((Int32.ofInt 0))) ∧ h96.2.2.2.2 = 175 ∧ _ from ⟨⟨.boolean, rfl, rfl⟩, ex_175 y102.1, hQ _ _ (cres_inl (F := F99) (by simp only [sp_event, sp_b, sp_f, cond_true, cond_false, e75, e87, e101, Option.isSome_some, Option.isSome_none, Bool.true_or, Bool.or_true, Bool.or_false, Bool.false_or]) rfl y102)⟩)
      ·
        obtain rfl := sp_tW_inr e101
        have x1 := fr1_W f98 (by decide) x1
        refine am_goX 1 (show (1 = 0 → pz_S 3 (some .boolean) am_r63 6 Q 81 [(2, .int (nI s.2.2.1.1)), (0, .ref 3), (1, .ref 17)] [] h96) ∧ (¬ (1 = 0) → pz_S 3 (some .boolean) am_r63 6 Q 68 [(2, .int (nI s.2.2.1.1)), (0, .ref 3), (1, .ref 17)] [] h96) from ⟨fun hz => absurd hz (by decide), fun _ => ?_⟩)
        refine am_goX 2 (show am_sh h96 3 = some (1, 0) ∧ pz_S 3 (some .boolean) am_r63 6 Q 72 [(2, .int (nI s.2.2.1.1)), (0, .ref 3), (1, .ref 17)] [am_rf (h96.2.2.1 3 0)] h96 from ⟨ex_3 (c_P y102.1), ?_⟩)
        rw [ex_r3_0 (h := h96) (c_P y102.1)]
        refine am_goX 3 (show am_rc h96 1 7 ∧ 0 ≤ 8 ∧ h96.2.2.2.2 + am_al 59 ≤ 175 ∧ am_call am_cod 6 59 [.ref 1, .int (Int32.ofInt 0), .int (Int8.ofInt 6).toInt32] h96 (fun vv h' => pz_S 3 (some .boolean) am_r63 6 Q 78 [(2, .int (nI s.2.2.1.1)), (0, .ref 3), (1, .ref 17)] (vv.toList ++ []) h') from ⟨Or.inl ⟨by decide, ex_1 (c_P y102.1)⟩, by decide, ex_lim (c_P y102.1) rfl, am_call.up (c_tN (s := (s.1 + 1 + 1 + 1, s.2)) (by decide) y102 (fun v103 h104 x105 f106 => ?_)) (by decide)⟩)
        rcases cres_cs x105 with ⟨F107, e109, rfl, y110⟩ | ⟨t108, e109, rfl, y110⟩
        ·
          refine am_goX 1 (show (¬ 0 = 0 → pz_S 3 (some .boolean) am_r63 6 Q 83 [(2, .int (nI s.2.2.1.1)), (0, .ref 3), (1, .ref 17)] [] h104) ∧ (¬ ¬ 0 = 0 → pz_S 3 (some .boolean) am_r63 6 Q 81 [(2, .int (nI s.2.2.1.1)), (0, .ref 3), (1, .ref 17)] [] h104) from ⟨fun hz => absurd hz (by decide), fun _ => ?_⟩)
          exact am_goX 2 (show (∃ ty, (some .boolean) = some ty ∧ narrow ty (.int ((Int32.ofInt 0))) = .int ((Int32.ofInt 0))) ∧ h104.2.2.2.2 = 175 ∧ _ from ⟨⟨.boolean, rfl, rfl⟩, ex_175 y110.1, hQ _ _ (cres_inl (F := F107) (by simp only [sp_event, sp_b, sp_f, cond_true, cond_false, e75, e87, e101, e109, Option.isSome_some, Option.isSome_none, Bool.true_or, Bool.or_true, Bool.or_false, Bool.false_or]) rfl y110)⟩)
        ·
          obtain ⟨rfl, k111, _⟩ := sp_tN_inr e109
          have x1 := fr1_W f106 (by decide) x1
          refine am_goX 1 (show (¬ 1 = 0 → pz_S 3 (some .boolean) am_r63 6 Q 83 [(2, .int (nI s.2.2.1.1)), (0, .ref 3), (1, .ref 17)] [] h104) ∧ (¬ ¬ 1 = 0 → pz_S 3 (some .boolean) am_r63 6 Q 81 [(2, .int (nI s.2.2.1.1)), (0, .ref 3), (1, .ref 17)] [] h104) from ⟨fun _ => ?_, fun hz => absurd (by decide) hz⟩)
          refine am_goX 2 (show am_sh h104 17 = some (0, 0) ∧ pz_S 3 (some .boolean) am_r63 6 Q 87 [(2, .int (nI s.2.2.1.1)), (0, .ref 3), (1, .ref 17)] [am_rf (h104.2.2.1 17 6)] h104 from ⟨ex_17 (c_P y110.1), ?_⟩)
          rw [ex_r17_6 (h := h104) (c_P y110.1)]
          refine am_goX 3 (show am_sh h104 3 = some (1, 0) ∧ pz_S 3 (some .boolean) am_r63 6 Q 92 [(2, .int (nI s.2.2.1.1)), (0, .ref 3), (1, .ref 17)] [am_rf (h104.2.2.1 3 0), .int (nI s.2.2.1.1), .ref 22] h104 from ⟨ex_3 (c_P y110.1), ?_⟩)
          rw [ex_r3_0 (h := h104) (c_P y110.1)]
          refine am_goX 1 (show am_sh h104 1 = some (7, 0) ∧ pz_S 3 (some .boolean) am_r63 6 Q 95 [(2, .int (nI s.2.2.1.1)), (0, .ref 3), (1, .ref 17)] [.int (h104.1 1 6), .int (nI s.2.2.1.1), .ref 22] h104 from ⟨ex_1 (c_P y110.1), ?_⟩)
          rw [c_nv y110.1 k111]
          refine am_goX 1 (show ∃ jj nn : Nat, am_so h104 22 = some (13, nn) ∧ jj < nn ∧ (nI s.2.2.1.1) = nI jj ∧ pz_S 3 (some .boolean) am_r63 6 Q 96 [(2, .int (nI s.2.2.1.1)), (0, .ref 3), (1, .ref 17)] [] (am_wI h104 22 jj (sp_v (tt T sz) (s.1 + 1 + 1 + 1))) from ⟨s.2.2.1.1, 5, ex_w22 (c_P y110.1), by omega, rfl, ?_⟩)
          have l112 : cr h0 17 T sz (s.1 + 1 + 1 + 1, s.2) (am_wI h104 22 (s.2.2.1.1) (sp_v (tt T sz) (s.1 + 1 + 1 + 1))) := cr_wf (by decide) y110 (Or.inr ⟨Or.inl rfl, Nat.le_refl _⟩)
          have x2 : (am_wI h104 22 (s.2.2.1.1) (sp_v (tt T sz) (s.1 + 1 + 1 + 1))).1 22 (s.2.2.1.1) = (sp_v (tt T sz) (s.1 + 1 + 1 + 1)) := em_we _ _ _ _
          refine am_goX 2 (show am_sh (am_wI h104 22 (s.2.2.1.1) (sp_v (tt T sz) (s.1 + 1 + 1 + 1))) 3 = some (1, 0) ∧ pz_S 3 (some .boolean) am_r63 6 Q 100 [(2, .int (nI s.2.2.1.1)), (0, .ref 3), (1, .ref 17)] [am_rf ((am_wI h104 22 (s.2.2.1.1) (sp_v (tt T sz) (s.1 + 1 + 1 + 1))).2.2.1 3 0)] (am_wI h104 22 (s.2.2.1.1) (sp_v (tt T sz) (s.1 + 1 + 1 + 1))) from ⟨ex_3 (c_P l112.1), ?_⟩)
          rw [ex_r3_0 (h := am_wI h104 22 (s.2.2.1.1) (sp_v (tt T sz) (s.1 + 1 + 1 + 1))) (c_P l112.1)]
          refine am_goX 1 (show am_rc (am_wI h104 22 (s.2.2.1.1) (sp_v (tt T sz) (s.1 + 1 + 1 + 1))) 1 7 ∧ 0 ≤ 8 ∧ (am_wI h104 22 (s.2.2.1.1) (sp_v (tt T sz) (s.1 + 1 + 1 + 1))).2.2.2.2 + am_al 18 ≤ 175 ∧ am_call am_cod 6 18 [.ref 1] (am_wI h104 22 (s.2.2.1.1) (sp_v (tt T sz) (s.1 + 1 + 1 + 1))) (fun vv h' => pz_S 3 (some .boolean) am_r63 6 Q 103 [(2, .int (nI s.2.2.1.1)), (0, .ref 3), (1, .ref 17)] (vv.toList ++ []) h') from ⟨Or.inl ⟨by decide, ex_1 (c_P l112.1)⟩, by decide, ex_lim (c_P l112.1) rfl, am_call.up (c_step l112.1 (sp_kn (by decide) k111) (fun h113 m114 f115 => ?_)) (by decide)⟩)
          have l116 : cr h0 17 T sz (s.1 + 1 + 1 + 1 + 1, s.2) h113 := cr_fr (a := (s.1 + 1 + 1 + 1)) (C := s.2) (by decide) l112 m114 (Nat.le_succ _) f115
          have x1 := fr1_W f115 (by decide) x1
          have x2 := fr1_I f115 (by decide) x2
          refine am_goX 2 (show am_sh h113 3 = some (1, 0) ∧ pz_S 3 (some .boolean) am_r63 6 Q 107 [(2, .int (nI s.2.2.1.1)), (0, .ref 3), (1, .ref 17)] [am_rf (h113.2.2.1 3 0)] h113 from ⟨ex_3 (c_P l116.1), ?_⟩)
          rw [ex_r3_0 (h := h113) (c_P l116.1)]
          refine am_goX 2 (show am_rc h113 1 7 ∧ 0 ≤ 8 ∧ h113.2.2.2.2 + am_al 58 ≤ 175 ∧ am_call am_cod 6 58 [.ref 1, .ref (4000000 + 10)] h113 (fun vv h' => pz_S 3 (some .boolean) am_r63 6 Q 112 [(2, .int (nI s.2.2.1.1)), (0, .ref 3), (1, .ref 17)] (vv.toList ++ []) h') from ⟨Or.inl ⟨by decide, ex_1 (c_P l116.1)⟩, by decide, ex_lim (c_P l116.1) rfl, am_call.up (c_tW (s := (s.1 + 1 + 1 + 1 + 1, s.2)) (by decide) wq_10 (by decide) l116 (fun v117 h118 x119 f120 => ?_)) (by decide)⟩)
          rcases cres_cs x119 with ⟨F121, e123, rfl, y124⟩ | ⟨t122, e123, rfl, y124⟩
          ·
            refine am_goX 1 (show (0 = 0 → pz_S 3 (some .boolean) am_r63 6 Q 128 [(2, .int (nI s.2.2.1.1)), (0, .ref 3), (1, .ref 17)] [] h118) ∧ (¬ (0 = 0) → pz_S 3 (some .boolean) am_r63 6 Q 115 [(2, .int (nI s.2.2.1.1)), (0, .ref 3), (1, .ref 17)] [] h118) from ⟨fun _ => ?_, fun hz => absurd (by decide) hz⟩)
            exact am_goX 2 (show (∃ ty, (some .boolean) = some ty ∧ narrow ty (.int ((Int32.ofInt 0))) = .int ((Int32.ofInt 0))) ∧ h118.2.2.2.2 = 175 ∧ _ from ⟨⟨.boolean, rfl, rfl⟩, ex_175 y124.1, hQ _ _ (cres_inl (F := F121) (by simp only [sp_event, sp_b, sp_f, cond_true, cond_false, e75, e87, e101, e109, e123, Option.isSome_some, Option.isSome_none, Bool.true_or, Bool.or_true, Bool.or_false, Bool.false_or]) rfl y124)⟩)
          ·
            obtain rfl := sp_tW_inr e123
            have x1 := fr1_W f120 (by decide) x1
            have x2 := fr1_I f120 (by decide) x2
            refine am_goX 1 (show (1 = 0 → pz_S 3 (some .boolean) am_r63 6 Q 128 [(2, .int (nI s.2.2.1.1)), (0, .ref 3), (1, .ref 17)] [] h118) ∧ (¬ (1 = 0) → pz_S 3 (some .boolean) am_r63 6 Q 115 [(2, .int (nI s.2.2.1.1)), (0, .ref 3), (1, .ref 17)] [] h118) from ⟨fun hz => absurd hz (by decide), fun _ => ?_⟩)
            refine am_goX 2 (show am_sh h118 3 = some (1, 0) ∧ pz_S 3 (some .boolean) am_r63 6 Q 119 [(2, .int (nI s.2.2.1.1)), (0, .ref 3), (1, .ref 17)] [am_rf (h118.2.2.1 3 0)] h118 from ⟨ex_3 (c_P y124.1), ?_⟩)
            rw [ex_r3_0 (h := h118) (c_P y124.1)]
            refine am_goX 3 (show am_rc h118 1 7 ∧ 0 ≤ 8 ∧ h118.2.2.2.2 + am_al 59 ≤ 175 ∧ am_call am_cod 6 59 [.ref 1, .int (Int32.ofInt 1), .int (Int8.ofInt 6).toInt32] h118 (fun vv h' => pz_S 3 (some .boolean) am_r63 6 Q 125 [(2, .int (nI s.2.2.1.1)), (0, .ref 3), (1, .ref 17)] (vv.toList ++ []) h') from ⟨Or.inl ⟨by decide, ex_1 (c_P y124.1)⟩, by decide, ex_lim (c_P y124.1) rfl, am_call.up (c_tN (s := (s.1 + 1 + 1 + 1 + 1 + 1, s.2)) (by decide) y124 (fun v125 h126 x127 f128 => ?_)) (by decide)⟩)
            rcases cres_cs x127 with ⟨F129, e131, rfl, y132⟩ | ⟨t130, e131, rfl, y132⟩
            ·
              refine am_goX 1 (show (¬ 0 = 0 → pz_S 3 (some .boolean) am_r63 6 Q 130 [(2, .int (nI s.2.2.1.1)), (0, .ref 3), (1, .ref 17)] [] h126) ∧ (¬ ¬ 0 = 0 → pz_S 3 (some .boolean) am_r63 6 Q 128 [(2, .int (nI s.2.2.1.1)), (0, .ref 3), (1, .ref 17)] [] h126) from ⟨fun hz => absurd hz (by decide), fun _ => ?_⟩)
              exact am_goX 2 (show (∃ ty, (some .boolean) = some ty ∧ narrow ty (.int ((Int32.ofInt 0))) = .int ((Int32.ofInt 0))) ∧ h126.2.2.2.2 = 175 ∧ _ from ⟨⟨.boolean, rfl, rfl⟩, ex_175 y132.1, hQ _ _ (cres_inl (F := F129) (by simp only [sp_event, sp_b, sp_f, cond_true, cond_false, e75, e87, e101, e109, e123, e131, Option.isSome_some, Option.isSome_none, Bool.true_or, Bool.or_true, Bool.or_false, Bool.false_or]) rfl y132)⟩)
            ·
              obtain ⟨rfl, k133, _⟩ := sp_tN_inr e131
              have x1 := fr1_W f128 (by decide) x1
              have x2 := fr1_I f128 (by decide) x2
              refine am_goX 1 (show (¬ 1 = 0 → pz_S 3 (some .boolean) am_r63 6 Q 130 [(2, .int (nI s.2.2.1.1)), (0, .ref 3), (1, .ref 17)] [] h126) ∧ (¬ ¬ 1 = 0 → pz_S 3 (some .boolean) am_r63 6 Q 128 [(2, .int (nI s.2.2.1.1)), (0, .ref 3), (1, .ref 17)] [] h126) from ⟨fun _ => ?_, fun hz => absurd (by decide) hz⟩)
              refine am_goX 2 (show am_sh h126 17 = some (0, 0) ∧ pz_S 3 (some .boolean) am_r63 6 Q 134 [(2, .int (nI s.2.2.1.1)), (0, .ref 3), (1, .ref 17)] [am_rf (h126.2.2.1 17 7)] h126 from ⟨ex_17 (c_P y132.1), ?_⟩)
              rw [ex_r17_7 (h := h126) (c_P y132.1)]
              refine am_goX 3 (show am_sh h126 3 = some (1, 0) ∧ pz_S 3 (some .boolean) am_r63 6 Q 139 [(2, .int (nI s.2.2.1.1)), (0, .ref 3), (1, .ref 17)] [am_rf (h126.2.2.1 3 0), .int (nI s.2.2.1.1), .ref 23] h126 from ⟨ex_3 (c_P y132.1), ?_⟩)
              rw [ex_r3_0 (h := h126) (c_P y132.1)]
              refine am_goX 1 (show am_sh h126 1 = some (7, 0) ∧ pz_S 3 (some .boolean) am_r63 6 Q 142 [(2, .int (nI s.2.2.1.1)), (0, .ref 3), (1, .ref 17)] [.int (h126.1 1 6), .int (nI s.2.2.1.1), .ref 23] h126 from ⟨ex_1 (c_P y132.1), ?_⟩)
              rw [c_nv y132.1 k133]
              refine am_goX 1 (show ∃ jj nn : Nat, am_so h126 23 = some (13, nn) ∧ jj < nn ∧ (nI s.2.2.1.1) = nI jj ∧ pz_S 3 (some .boolean) am_r63 6 Q 143 [(2, .int (nI s.2.2.1.1)), (0, .ref 3), (1, .ref 17)] [] (am_wI h126 23 jj (sp_v (tt T sz) (s.1 + 1 + 1 + 1 + 1 + 1))) from ⟨s.2.2.1.1, 5, ex_w23 (c_P y132.1), by omega, rfl, ?_⟩)
              have l134 : cr h0 17 T sz (s.1 + 1 + 1 + 1 + 1 + 1, s.2) (am_wI h126 23 (s.2.2.1.1) (sp_v (tt T sz) (s.1 + 1 + 1 + 1 + 1 + 1))) := cr_wf (by decide) y132 (Or.inr ⟨Or.inr (Or.inl rfl), Nat.le_refl _⟩)
              have x3 : (am_wI h126 23 (s.2.2.1.1) (sp_v (tt T sz) (s.1 + 1 + 1 + 1 + 1 + 1))).1 23 (s.2.2.1.1) = (sp_v (tt T sz) (s.1 + 1 + 1 + 1 + 1 + 1)) := em_we _ _ _ _
              have x2 := (em_wn (o := 23) (k := s.2.2.1.1) _ ((sp_v (tt T sz) (s.1 + 1 + 1 + 1 + 1 + 1))) (by omega)).trans x2
              refine am_goX 2 (show am_sh (am_wI h126 23 (s.2.2.1.1) (sp_v (tt T sz) (s.1 + 1 + 1 + 1 + 1 + 1))) 17 = some (0, 0) ∧ pz_S 3 (some .boolean) am_r63 6 Q 147 [(2, .int (nI s.2.2.1.1)), (0, .ref 3), (1, .ref 17)] [am_rf ((am_wI h126 23 (s.2.2.1.1) (sp_v (tt T sz) (s.1 + 1 + 1 + 1 + 1 + 1))).2.2.1 17 8)] (am_wI h126 23 (s.2.2.1.1) (sp_v (tt T sz) (s.1 + 1 + 1 + 1 + 1 + 1))) from ⟨ex_17 (c_P l134.1), ?_⟩)
              rw [ex_r17_8 (h := am_wI h126 23 (s.2.2.1.1) (sp_v (tt T sz) (s.1 + 1 + 1 + 1 + 1 + 1))) (c_P l134.1)]
              refine am_goX 3 (show ∃ jj nn : Nat, am_so (am_wI h126 23 (s.2.2.1.1) (sp_v (tt T sz) (s.1 + 1 + 1 + 1 + 1 + 1))) 24 = some (13, nn) ∧ jj < nn ∧ (nI s.2.2.1.1) = nI jj ∧ pz_S 3 (some .boolean) am_r63 6 Q 150 [(2, .int (nI s.2.2.1.1)), (0, .ref 3), (1, .ref 17)] [] (am_wI (am_wI h126 23 (s.2.2.1.1) (sp_v (tt T sz) (s.1 + 1 + 1 + 1 + 1 + 1))) 24 jj (Int32.ofInt 0)) from ⟨s.2.2.1.1, 5, ex_w24 (c_P l134.1), by omega, rfl, ?_⟩)
              have l135 : cr h0 17 T sz (s.1 + 1 + 1 + 1 + 1 + 1, s.2) (am_wI (am_wI h126 23 (s.2.2.1.1) (sp_v (tt T sz) (s.1 + 1 + 1 + 1 + 1 + 1))) 24 (s.2.2.1.1) (Int32.ofInt 0)) := cr_wf (by decide) l134 (Or.inr ⟨Or.inr (Or.inr rfl), Nat.le_refl _⟩)
              have x4 : (am_wI (am_wI h126 23 (s.2.2.1.1) (sp_v (tt T sz) (s.1 + 1 + 1 + 1 + 1 + 1))) 24 (s.2.2.1.1) (Int32.ofInt 0)).1 24 (s.2.2.1.1) = (Int32.ofInt 0) := em_we _ _ _ _
              have x2 := (em_wn (o := 24) (k := s.2.2.1.1) _ ((Int32.ofInt 0)) (by omega)).trans x2
              have x3 := (em_wn (o := 24) (k := s.2.2.1.1) _ ((Int32.ofInt 0)) (by omega)).trans x3
              refine am_goX 2 (show am_sh (am_wI (am_wI h126 23 (s.2.2.1.1) (sp_v (tt T sz) (s.1 + 1 + 1 + 1 + 1 + 1))) 24 (s.2.2.1.1) (Int32.ofInt 0)) 3 = some (1, 0) ∧ pz_S 3 (some .boolean) am_r63 6 Q 154 [(2, .int (nI s.2.2.1.1)), (0, .ref 3), (1, .ref 17)] [am_rf ((am_wI (am_wI h126 23 (s.2.2.1.1) (sp_v (tt T sz) (s.1 + 1 + 1 + 1 + 1 + 1))) 24 (s.2.2.1.1) (Int32.ofInt 0)).2.2.1 3 0)] (am_wI (am_wI h126 23 (s.2.2.1.1) (sp_v (tt T sz) (s.1 + 1 + 1 + 1 + 1 + 1))) 24 (s.2.2.1.1) (Int32.ofInt 0)) from ⟨ex_3 (c_P l135.1), ?_⟩)
              rw [ex_r3_0 (h := am_wI (am_wI h126 23 (s.2.2.1.1) (sp_v (tt T sz) (s.1 + 1 + 1 + 1 + 1 + 1))) 24 (s.2.2.1.1) (Int32.ofInt 0)) (c_P l135.1)]
              refine am_goX 1 (show am_rc (am_wI (am_wI h126 23 (s.2.2.1.1) (sp_v (tt T sz) (s.1 + 1 + 1 + 1 + 1 + 1))) 24 (s.2.2.1.1) (Int32.ofInt 0)) 1 7 ∧ 0 ≤ 8 ∧ (am_wI (am_wI h126 23 (s.2.2.1.1) (sp_v (tt T sz) (s.1 + 1 + 1 + 1 + 1 + 1))) 24 (s.2.2.1.1) (Int32.ofInt 0)).2.2.2.2 + am_al 18 ≤ 175 ∧ am_call am_cod 6 18 [.ref 1] (am_wI (am_wI h126 23 (s.2.2.1.1) (sp_v (tt T sz) (s.1 + 1 + 1 + 1 + 1 + 1))) 24 (s.2.2.1.1) (Int32.ofInt 0)) (fun vv h' => pz_S 3 (some .boolean) am_r63 6 Q 157 [(2, .int (nI s.2.2.1.1)), (0, .ref 3), (1, .ref 17)] (vv.toList ++ []) h') from ⟨Or.inl ⟨by decide, ex_1 (c_P l135.1)⟩, by decide, ex_lim (c_P l135.1) rfl, am_call.up (c_step l135.1 (sp_kn (by decide) k133) (fun h136 m137 f138 => ?_)) (by decide)⟩)
              have l139 : cr h0 17 T sz (s.1 + 1 + 1 + 1 + 1 + 1 + 1, s.2) h136 := cr_fr (a := (s.1 + 1 + 1 + 1 + 1 + 1)) (C := s.2) (by decide) l135 m137 (Nat.le_succ _) f138
              have x1 := fr1_W f138 (by decide) x1
              have x2 := fr1_I f138 (by decide) x2
              have x3 := fr1_I f138 (by decide) x3
              have x4 := fr1_I f138 (by decide) x4
              refine am_goX 6 (show (Value.ref 17).category = 1 ∧ am_sh h136 17 = some (0, 0) ∧ am_sh h136 17 = some (0, 0) ∧ narrow (am_fty 0 4) (.int (((h136.1 17 4) + (Int32.ofInt 1)))) = .int (((h136.1 17 4) + (Int32.ofInt 1))) ∧ fits (am_fty 0 4) (.int (((h136.1 17 4) + (Int32.ofInt 1)))) = true ∧ pz_S 3 (some .boolean) am_r63 6 Q 167 [(2, .int (nI s.2.2.1.1)), (0, .ref 3), (1, .ref 17)] [] (am_wI h136 17 4 (((h136.1 17 4) + (Int32.ofInt 1)))) from ⟨rfl, ex_17 (c_P l139.1), ex_17 (c_P l139.1), rfl, rfl, ?_⟩)
              rw [show h136.1 17 4 = nI (s.2.2.1.1) from l139.2.1.2.1.1, xw_i1]
              have l140 : cr h0 17 T sz (s.1 + 1 + 1 + 1 + 1 + 1 + 1, sp_cE s.2 (tt T sz (s.1 + 1)).2.1 (sp_v (tt T sz) (s.1 + 1 + 1 + 1)) (sp_v (tt T sz) (s.1 + 1 + 1 + 1 + 1 + 1))) (am_wI h136 17 4 (nI (s.2.2.1.1 + 1))) := cr_E (by decide) l139 hlt x1 x2 x3 x4
              refine am_goX 2 (show am_sh (am_wI h136 17 4 (nI (s.2.2.1.1 + 1))) 3 = some (1, 0) ∧ pz_S 3 (some .boolean) am_r63 6 Q 171 [(2, .int (nI s.2.2.1.1)), (0, .ref 3), (1, .ref 17)] [am_rf ((am_wI h136 17 4 (nI (s.2.2.1.1 + 1))).2.2.1 3 0)] (am_wI h136 17 4 (nI (s.2.2.1.1 + 1))) from ⟨ex_3 (c_P l140.1), ?_⟩)
              rw [ex_r3_0 (h := am_wI h136 17 4 (nI (s.2.2.1.1 + 1))) (c_P l140.1)]
              refine am_goX 2 (show am_rc (am_wI h136 17 4 (nI (s.2.2.1.1 + 1))) 1 7 ∧ 0 ≤ 8 ∧ (am_wI h136 17 4 (nI (s.2.2.1.1 + 1))).2.2.2.2 + am_al 61 ≤ 175 ∧ am_call am_cod 6 61 [.ref 1, .int (Int8.ofInt 59).toInt32] (am_wI h136 17 4 (nI (s.2.2.1.1 + 1))) (fun vv h' => pz_S 3 (some .boolean) am_r63 6 Q 176 [(2, .int (nI s.2.2.1.1)), (0, .ref 3), (1, .ref 17)] (vv.toList ++ []) h') from ⟨Or.inl ⟨by decide, ex_1 (c_P l140.1)⟩, by decide, ex_lim (c_P l140.1) rfl, am_call.up (c_tS (s := (s.1 + 1 + 1 + 1 + 1 + 1 + 1, sp_cE s.2 (tt T sz (s.1 + 1)).2.1 (sp_v (tt T sz) (s.1 + 1 + 1 + 1)) (sp_v (tt T sz) (s.1 + 1 + 1 + 1 + 1 + 1)))) (by decide) l140 (fun v141 h142 x143 f144 => ?_)) (by decide)⟩)
              rcases cres_cs x143 with ⟨F145, e147, rfl, y148⟩ | ⟨t146, e147, rfl, y148⟩
              ·
                exact am_goX 1 (show (∃ ty, (some .boolean) = some ty ∧ narrow ty (.int (0)) = .int (0)) ∧ h142.2.2.2.2 = 175 ∧ _ from ⟨⟨.boolean, rfl, rfl⟩, ex_175 y148.1, hQ _ _ (cres_inl (F := F145) (by simp only [sp_event, sp_b, sp_f, cond_true, cond_false, e75, e87, e101, e109, e123, e131, e147, Option.isSome_some, Option.isSome_none, Bool.true_or, Bool.or_true, Bool.or_false, Bool.false_or]) rfl y148)⟩)
              ·
                obtain rfl := sp_tS_inr e147
                exact am_goX 1 (show (∃ ty, (some .boolean) = some ty ∧ narrow ty (.int (1)) = .int (1)) ∧ h142.2.2.2.2 = 175 ∧ _ from ⟨⟨.boolean, rfl, rfl⟩, ex_175 (c_P y148.1), hQ _ _ (cres_inr (s' := (s.1 + 1 + 1 + 1 + 1 + 1 + 1 + 1, (sp_cE s.2 (tt T sz (s.1 + 1)).2.1 (sp_v (tt T sz) (s.1 + 1 + 1 + 1)) (sp_v (tt T sz) (s.1 + 1 + 1 + 1 + 1 + 1))))) (by simp only [sp_event, sp_b, sp_f, cond_true, cond_false, e75, e87, e101, e109, e123, e131, e147, Option.isSome_some, Option.isSome_none, Bool.true_or, Bool.or_true, Bool.or_false, Bool.false_or]) rfl y148)⟩)
theorem c_64_17 (hn : ¬ (tt T sz s.1).1 = 0) (l : cr h0 17 T sz s h) (hQ : ∀ v h1, cres h0 17 T sz (sp_comes (tt T sz) s) v h1 → Q v h1) : am_call am_cod 7 64 [.ref 3, .ref 17] h Q := by
  have hP := c_P l.1
  refine pz_call (n := 64) (nL := 4) (rt := (some .boolean)) (rows := am_r64) (d := 6) (by decide +kernel) (by decide +kernel) rfl (by funext pc; rfl) (ex_175 hP) (by exact Nat.le_of_ble_eq_true rfl) ?_
  refine am_goX 2 (show am_sh h 3 = some (1, 0) ∧ pz_S 4 (some .boolean) am_r64 6 Q 4 [(0, .ref 3), (1, .ref 17)] [am_rf (h.2.2.1 3 0)] h from ⟨ex_3 (c_P l.1), ?_⟩)
  rw [ex_r3_0 (h := h) (c_P l.1)]
  refine am_goX 1 (show am_rc h 1 7 ∧ 0 ≤ 8 ∧ h.2.2.2.2 + am_al 18 ≤ 175 ∧ am_call am_cod 6 18 [.ref 1] h (fun vv h' => pz_S 4 (some .boolean) am_r64 6 Q 7 [(0, .ref 3), (1, .ref 17)] (vv.toList ++ []) h') from ⟨Or.inl ⟨by decide, ex_1 (c_P l.1)⟩, by decide, ex_lim (c_P l.1) rfl, am_call.up (c_step l.1 (hn) (fun h149 m150 f151 => ?_)) (by decide)⟩)
  have l152 : cr h0 17 T sz (s.1 + 1, s.2) h149 := cr_fr (a := s.1) (C := s.2) (by decide) l m150 (Nat.le_succ _) f151
  refine am_goX 2 (show am_sh h149 3 = some (1, 0) ∧ pz_S 4 (some .boolean) am_r64 6 Q 11 [(0, .ref 3), (1, .ref 17)] [am_rf (h149.2.2.1 3 0)] h149 from ⟨ex_3 (c_P l152.1), ?_⟩)
  rw [ex_r3_0 (h := h149) (c_P l152.1)]
  refine am_goX 1 (show am_rc h149 1 7 ∧ 0 ≤ 8 ∧ h149.2.2.2.2 + am_al 54 ≤ 175 ∧ am_call am_cod 6 54 [.ref 1] h149 (fun vv h' => pz_S 4 (some .boolean) am_r64 6 Q 14 [(0, .ref 3), (1, .ref 17)] (vv.toList ++ []) h') from ⟨Or.inl ⟨by decide, ex_1 (c_P l152.1)⟩, by decide, ex_lim (c_P l152.1) rfl, am_call.up (c_isn l152.1 ?_) (by decide)⟩)
  cases e153 : sp_n (tt T sz) (s.1 + 1) with
  | true =>
    refine am_goX 1 (show (¬ (pz_b (true)) = 0 → pz_S 4 (some .boolean) am_r64 6 Q 26 [(0, .ref 3), (1, .ref 17)] [] h149) ∧ (¬ ¬ (pz_b (true)) = 0 → pz_S 4 (some .boolean) am_r64 6 Q 17 [(0, .ref 3), (1, .ref 17)] [] h149) from ⟨fun _ => ?_, fun hz => absurd (by decide) hz⟩)
    refine am_goX 3 (show am_sh h149 3 = some (1, 0) ∧ pz_S 4 (some .boolean) am_r64 6 Q 31 [(0, .ref 3), (1, .ref 17)] [am_rf (h149.2.2.1 3 0), .ref 17] h149 from ⟨ex_3 (c_P l152.1), ?_⟩)
    rw [ex_r3_0 (h := h149) (c_P l152.1)]
    refine am_goX 2 (show am_sh h149 1 = some (7, 0) ∧ am_rc h149 17 0 ∧ 0 ≤ 8 ∧ h149.2.2.2.2 + am_al 55 ≤ 175 ∧ am_call am_cod 6 55 [.ref 17, .long (h149.2.1 1 5)] h149 (fun vv h' => pz_S 4 (some .boolean) am_r64 6 Q 37 [(0, .ref 3), (1, .ref 17)] (vv.toList ++ []) h') from ⟨ex_1 (c_P l152.1), Or.inl ⟨by decide, ex_17 (c_P l152.1)⟩, by decide, ex_lim (c_P l152.1) rfl, am_call.up (c_55_17 (v := (tt T sz (s.1 + 1)).2.1) l152 (c_wd l152.1 (sp_nk e153)) ?_) (by decide)⟩)
    cases e154 : sp_pf s.2 (tt T sz (s.1 + 1)).2.1 with
    | none =>
      refine am_goX 4 (show 2 < 4 ∧ (¬ (Int32.ofInt (-1)) = (Int32.ofInt (-1)) → pz_S 4 (some .boolean) am_r64 6 Q 52 [(2, .int (Int32.ofInt (-1))), (0, .ref 3), (1, .ref 17)] [] h149) ∧ (¬ ¬ (Int32.ofInt (-1)) = (Int32.ofInt (-1)) → pz_S 4 (some .boolean) am_r64 6 Q 43 [(2, .int (Int32.ofInt (-1))), (0, .ref 3), (1, .ref 17)] [] h149) from ⟨by decide, fun hz => absurd hz (by decide), fun _ => ?_⟩)
      refine am_goX 2 (show am_sh h149 3 = some (1, 0) ∧ pz_S 4 (some .boolean) am_r64 6 Q 47 [(2, .int (Int32.ofInt (-1))), (0, .ref 3), (1, .ref 17)] [am_rf (h149.2.2.1 3 0)] h149 from ⟨ex_3 (c_P l152.1), ?_⟩)
      rw [ex_r3_0 (h := h149) (c_P l152.1)]
      refine am_goX 2 (show am_rc h149 1 7 ∧ 0 ≤ 8 ∧ h149.2.2.2.2 + am_al 52 ≤ 175 ∧ am_call am_cod 6 52 [.ref 1, .int (Int32.ofInt 2)] h149 (fun vv h' => pz_S 4 (some .boolean) am_r64 6 Q 51 [(2, .int (Int32.ofInt (-1))), (0, .ref 3), (1, .ref 17)] (vv.toList ++ []) h') from ⟨Or.inl ⟨by decide, ex_1 (c_P l152.1)⟩, by decide, ex_lim (c_P l152.1) rfl, am_call.up (c_refuse l152.1 ?_) (by decide)⟩)
      have x157 := cr_x (s := (s.1 + 1, s.2)) (k := (Int32.ofInt 2)) (by decide) l152 (by decide)
      exact am_goX 1 (show (∃ ty, (some .boolean) = some ty ∧ narrow ty (.int ((Int32.ofInt 0))) = .int ((Int32.ofInt 0))) ∧ (am_wI h149 1 7 (sp_ft (tt T sz) (s.1 + 1) (Int32.ofInt 2))).2.2.2.2 = 175 ∧ _ from ⟨⟨.boolean, rfl, rfl⟩, ex_175 x157.1, hQ _ _ (cres_inl (F := sp_ft (tt T sz) (s.1 + 1) (Int32.ofInt 2)) (by simp only [sp_comes, sp_b, sp_f, cond_true, cond_false, e153, e154, Option.isSome_some, Option.isSome_none, Bool.true_or, Bool.or_true, Bool.or_false, Bool.false_or]) rfl x157)⟩)
    | some p155 =>
      have w156 := cr_pf (a := (s.1 + 1)) (C := s.2) l152 e154
      refine am_goX 4 (show 2 < 4 ∧ (¬ (nI p155) = (Int32.ofInt (-1)) → pz_S 4 (some .boolean) am_r64 6 Q 52 [(2, .int (nI p155)), (0, .ref 3), (1, .ref 17)] [] h149) ∧ (¬ ¬ (nI p155) = (Int32.ofInt (-1)) → pz_S 4 (some .boolean) am_r64 6 Q 43 [(2, .int (nI p155)), (0, .ref 3), (1, .ref 17)] [] h149) from ⟨by decide, fun _ => ?_, fun hz => absurd (nI_m1 (by omega)) hz⟩)
      refine am_goX 2 (show am_sh h149 3 = some (1, 0) ∧ pz_S 4 (some .boolean) am_r64 6 Q 56 [(2, .int (nI p155)), (0, .ref 3), (1, .ref 17)] [am_rf (h149.2.2.1 3 0)] h149 from ⟨ex_3 (c_P l152.1), ?_⟩)
      rw [ex_r3_0 (h := h149) (c_P l152.1)]
      refine am_goX 1 (show am_rc h149 1 7 ∧ 0 ≤ 8 ∧ h149.2.2.2.2 + am_al 18 ≤ 175 ∧ am_call am_cod 6 18 [.ref 1] h149 (fun vv h' => pz_S 4 (some .boolean) am_r64 6 Q 59 [(2, .int (nI p155)), (0, .ref 3), (1, .ref 17)] (vv.toList ++ []) h') from ⟨Or.inl ⟨by decide, ex_1 (c_P l152.1)⟩, by decide, ex_lim (c_P l152.1) rfl, am_call.up (c_step l152.1 (sp_nn e153) (fun h158 m159 f160 => ?_)) (by decide)⟩)
      have l161 : cr h0 17 T sz (s.1 + 1 + 1, s.2) h158 := cr_fr (a := (s.1 + 1)) (C := s.2) (by decide) l152 m159 (Nat.le_succ _) f160
      refine am_goX 2 (show am_sh h158 3 = some (1, 0) ∧ pz_S 4 (some .boolean) am_r64 6 Q 63 [(2, .int (nI p155)), (0, .ref 3), (1, .ref 17)] [am_rf (h158.2.2.1 3 0)] h158 from ⟨ex_3 (c_P l161.1), ?_⟩)
      rw [ex_r3_0 (h := h158) (c_P l161.1)]
      refine am_goX 1 (show am_rc h158 1 7 ∧ 0 ≤ 8 ∧ h158.2.2.2.2 + am_al 54 ≤ 175 ∧ am_call am_cod 6 54 [.ref 1] h158 (fun vv h' => pz_S 4 (some .boolean) am_r64 6 Q 66 [(2, .int (nI p155)), (0, .ref 3), (1, .ref 17)] (vv.toList ++ []) h') from ⟨Or.inl ⟨by decide, ex_1 (c_P l161.1)⟩, by decide, ex_lim (c_P l161.1) rfl, am_call.up (c_isn l161.1 ?_) (by decide)⟩)
      cases e162 : sp_n (tt T sz) (s.1 + 1 + 1) with
      | true =>
        refine am_goX 1 (show (¬ (pz_b (true)) = 0 → pz_S 4 (some .boolean) am_r64 6 Q 78 [(2, .int (nI p155)), (0, .ref 3), (1, .ref 17)] [] h158) ∧ (¬ ¬ (pz_b (true)) = 0 → pz_S 4 (some .boolean) am_r64 6 Q 69 [(2, .int (nI p155)), (0, .ref 3), (1, .ref 17)] [] h158) from ⟨fun _ => ?_, fun hz => absurd (by decide) hz⟩)
        refine am_goX 3 (show am_sh h158 3 = some (1, 0) ∧ pz_S 4 (some .boolean) am_r64 6 Q 83 [(2, .int (nI p155)), (0, .ref 3), (1, .ref 17)] [am_rf (h158.2.2.1 3 0), .ref 17] h158 from ⟨ex_3 (c_P l161.1), ?_⟩)
        rw [ex_r3_0 (h := h158) (c_P l161.1)]
        refine am_goX 2 (show am_sh h158 1 = some (7, 0) ∧ am_rc h158 17 0 ∧ 0 ≤ 8 ∧ h158.2.2.2.2 + am_al 56 ≤ 175 ∧ am_call am_cod 6 56 [.ref 17, .long (h158.2.1 1 5)] h158 (fun vv h' => pz_S 4 (some .boolean) am_r64 6 Q 89 [(2, .int (nI p155)), (0, .ref 3), (1, .ref 17)] (vv.toList ++ []) h') from ⟨ex_1 (c_P l161.1), Or.inl ⟨by decide, ex_17 (c_P l161.1)⟩, by decide, ex_lim (c_P l161.1) rfl, am_call.up (c_56_17 (v := (tt T sz (s.1 + 1 + 1)).2.1) l161 (c_wd l161.1 (sp_nk e162)) ?_) (by decide)⟩)
        cases e163 : sp_ef s.2 (tt T sz (s.1 + 1 + 1)).2.1 with
        | none =>
          refine am_goX 4 (show 3 < 4 ∧ (¬ (Int32.ofInt (-1)) = (Int32.ofInt (-1)) → pz_S 4 (some .boolean) am_r64 6 Q 104 [(3, .int (Int32.ofInt (-1))), (2, .int (nI p155)), (0, .ref 3), (1, .ref 17)] [] h158) ∧ (¬ ¬ (Int32.ofInt (-1)) = (Int32.ofInt (-1)) → pz_S 4 (some .boolean) am_r64 6 Q 95 [(3, .int (Int32.ofInt (-1))), (2, .int (nI p155)), (0, .ref 3), (1, .ref 17)] [] h158) from ⟨by decide, fun hz => absurd hz (by decide), fun _ => ?_⟩)
          refine am_goX 2 (show am_sh h158 3 = some (1, 0) ∧ pz_S 4 (some .boolean) am_r64 6 Q 99 [(3, .int (Int32.ofInt (-1))), (2, .int (nI p155)), (0, .ref 3), (1, .ref 17)] [am_rf (h158.2.2.1 3 0)] h158 from ⟨ex_3 (c_P l161.1), ?_⟩)
          rw [ex_r3_0 (h := h158) (c_P l161.1)]
          refine am_goX 2 (show am_rc h158 1 7 ∧ 0 ≤ 8 ∧ h158.2.2.2.2 + am_al 52 ≤ 175 ∧ am_call am_cod 6 52 [.ref 1, .int (Int32.ofInt 2)] h158 (fun vv h' => pz_S 4 (some .boolean) am_r64 6 Q 103 [(3, .int (Int32.ofInt (-1))), (2, .int (nI p155)), (0, .ref 3), (1, .ref 17)] (vv.toList ++ []) h') from ⟨Or.inl ⟨by decide, ex_1 (c_P l161.1)⟩, by decide, ex_lim (c_P l161.1) rfl, am_call.up (c_refuse l161.1 ?_) (by decide)⟩)
          have x166 := cr_x (s := (s.1 + 1 + 1, s.2)) (k := (Int32.ofInt 2)) (by decide) l161 (by decide)
          exact am_goX 1 (show (∃ ty, (some .boolean) = some ty ∧ narrow ty (.int ((Int32.ofInt 0))) = .int ((Int32.ofInt 0))) ∧ (am_wI h158 1 7 (sp_ft (tt T sz) (s.1 + 1 + 1) (Int32.ofInt 2))).2.2.2.2 = 175 ∧ _ from ⟨⟨.boolean, rfl, rfl⟩, ex_175 x166.1, hQ _ _ (cres_inl (F := sp_ft (tt T sz) (s.1 + 1 + 1) (Int32.ofInt 2)) (by simp only [sp_comes, sp_b, sp_f, cond_true, cond_false, e153, e154, e162, e163, Option.isSome_some, Option.isSome_none, Bool.true_or, Bool.or_true, Bool.or_false, Bool.false_or]) rfl x166)⟩)
        | some p164 =>
          have w165 := cr_ef (a := (s.1 + 1 + 1)) (C := s.2) l161 e163
          refine am_goX 4 (show 3 < 4 ∧ (¬ (nI p164) = (Int32.ofInt (-1)) → pz_S 4 (some .boolean) am_r64 6 Q 104 [(3, .int (nI p164)), (2, .int (nI p155)), (0, .ref 3), (1, .ref 17)] [] h158) ∧ (¬ ¬ (nI p164) = (Int32.ofInt (-1)) → pz_S 4 (some .boolean) am_r64 6 Q 95 [(3, .int (nI p164)), (2, .int (nI p155)), (0, .ref 3), (1, .ref 17)] [] h158) from ⟨by decide, fun _ => ?_, fun hz => absurd (nI_m1 (by omega)) hz⟩)
          refine am_goX 2 (show am_sh h158 17 = some (0, 0) ∧ pz_S 4 (some .boolean) am_r64 6 Q 108 [(3, .int (nI p164)), (2, .int (nI p155)), (0, .ref 3), (1, .ref 17)] [am_rf (h158.2.2.1 17 8)] h158 from ⟨ex_17 (c_P l161.1), ?_⟩)
          rw [ex_r17_8 (h := h158) (c_P l161.1)]
          refine am_goX 2 (show ∃ jj nn : Nat, am_sh h158 24 = some (13, nn) ∧ jj < nn ∧ (nI p164) = nI jj ∧ pz_S 4 (some .boolean) am_r64 6 Q 110 [(3, .int (nI p164)), (2, .int (nI p155)), (0, .ref 3), (1, .ref 17)] [.int (h158.1 24 jj)] h158 from ⟨p164, 5, ex_24 (c_P l161.1), by omega, rfl, ?_⟩)
          rw [show h158.1 24 p164 = s.2.2.1.2.2.2.2 p164 from (l161.2.1.2.1.2.2 p164 w165.1).2.2.2]
          refine am_goX 2 (show 0 ≤ 8 ∧ h158.2.2.2.2 + am_al 65 ≤ 175 ∧ am_call am_cod 6 65 [.int (s.2.2.1.2.2.2.2 p164), .int (nI p155)] h158 (fun vv h' => pz_S 4 (some .boolean) am_r64 6 Q 114 [(3, .int (nI p164)), (2, .int (nI p155)), (0, .ref 3), (1, .ref 17)] (vv.toList ++ []) h') from ⟨by decide, ex_lim (c_P l161.1) rfl, am_call.up (c_65 (c_P l161.1) ?_) (by decide)⟩)
          cases e167 : sp_bit (s.2.2.1.2.2.2.2 p164) (nI p155) with
          | true =>
            refine am_goX 1 (show ((pz_b (true)) = 0 → pz_S 4 (some .boolean) am_r64 6 Q 126 [(3, .int (nI p164)), (2, .int (nI p155)), (0, .ref 3), (1, .ref 17)] [] h158) ∧ (¬ ((pz_b (true)) = 0) → pz_S 4 (some .boolean) am_r64 6 Q 117 [(3, .int (nI p164)), (2, .int (nI p155)), (0, .ref 3), (1, .ref 17)] [] h158) from ⟨fun hz => absurd hz (by decide), fun _ => ?_⟩)
            refine am_goX 2 (show am_sh h158 3 = some (1, 0) ∧ pz_S 4 (some .boolean) am_r64 6 Q 121 [(3, .int (nI p164)), (2, .int (nI p155)), (0, .ref 3), (1, .ref 17)] [am_rf (h158.2.2.1 3 0)] h158 from ⟨ex_3 (c_P l161.1), ?_⟩)
            rw [ex_r3_0 (h := h158) (c_P l161.1)]
            refine am_goX 2 (show am_rc h158 1 7 ∧ 0 ≤ 8 ∧ h158.2.2.2.2 + am_al 52 ≤ 175 ∧ am_call am_cod 6 52 [.ref 1, .int (Int32.ofInt 3)] h158 (fun vv h' => pz_S 4 (some .boolean) am_r64 6 Q 125 [(3, .int (nI p164)), (2, .int (nI p155)), (0, .ref 3), (1, .ref 17)] (vv.toList ++ []) h') from ⟨Or.inl ⟨by decide, ex_1 (c_P l161.1)⟩, by decide, ex_lim (c_P l161.1) rfl, am_call.up (c_refuse l161.1 ?_) (by decide)⟩)
            have x168 := cr_x (s := (s.1 + 1 + 1, s.2)) (k := (Int32.ofInt 3)) (by decide) l161 (by decide)
            exact am_goX 1 (show (∃ ty, (some .boolean) = some ty ∧ narrow ty (.int ((Int32.ofInt 0))) = .int ((Int32.ofInt 0))) ∧ (am_wI h158 1 7 (sp_ft (tt T sz) (s.1 + 1 + 1) (Int32.ofInt 3))).2.2.2.2 = 175 ∧ _ from ⟨⟨.boolean, rfl, rfl⟩, ex_175 x168.1, hQ _ _ (cres_inl (F := sp_ft (tt T sz) (s.1 + 1 + 1) (Int32.ofInt 3)) (by simp only [sp_comes, sp_b, sp_f, cond_true, cond_false, e153, e154, e162, e163, e167, Option.isSome_some, Option.isSome_none, Bool.true_or, Bool.or_true, Bool.or_false, Bool.false_or]) rfl x168)⟩)
          | false =>
            refine am_goX 1 (show ((pz_b (false)) = 0 → pz_S 4 (some .boolean) am_r64 6 Q 126 [(3, .int (nI p164)), (2, .int (nI p155)), (0, .ref 3), (1, .ref 17)] [] h158) ∧ (¬ ((pz_b (false)) = 0) → pz_S 4 (some .boolean) am_r64 6 Q 117 [(3, .int (nI p164)), (2, .int (nI p155)), (0, .ref 3), (1, .ref 17)] [] h158) from ⟨fun _ => ?_, fun hz => absurd (by decide) hz⟩)
            refine am_goX 2 (show am_sh h158 17 = some (0, 0) ∧ pz_S 4 (some .boolean) am_r64 6 Q 130 [(3, .int (nI p164)), (2, .int (nI p155)), (0, .ref 3), (1, .ref 17)] [am_rf (h158.2.2.1 17 8)] h158 from ⟨ex_17 (c_P l161.1), ?_⟩)
            rw [ex_r17_8 (h := h158) (c_P l161.1)]
            refine am_goX 3 (show (Value.int (nI p164)).category = 1 ∧ (Value.ref 24).category = 1 ∧ ∃ jj nn : Nat, am_sh h158 24 = some (13, nn) ∧ jj < nn ∧ (nI p164) = nI jj ∧ pz_S 4 (some .boolean) am_r64 6 Q 133 [(3, .int (nI p164)), (2, .int (nI p155)), (0, .ref 3), (1, .ref 17)] [.int (h158.1 24 jj), .int (nI p164), .ref 24] h158 from ⟨rfl, rfl, p164, 5, ex_24 (c_P l161.1), by omega, rfl, ?_⟩)
            rw [show h158.1 24 p164 = s.2.2.1.2.2.2.2 p164 from (l161.2.1.2.1.2.2 p164 w165.1).2.2.2]
            refine am_goX 5 (show ∃ jj nn : Nat, am_so h158 24 = some (13, nn) ∧ jj < nn ∧ (nI p164) = nI jj ∧ pz_S 4 (some .boolean) am_r64 6 Q 138 [(3, .int (nI p164)), (2, .int (nI p155)), (0, .ref 3), (1, .ref 17)] [] (am_wI h158 24 jj ((s.2.2.1.2.2.2.2 p164) ||| ((Int32.ofInt 1) <<< ((nI p155) &&& 31)))) from ⟨p164, 5, ex_w24 (c_P l161.1), by omega, rfl, ?_⟩)
            have l169 : cr h0 17 T sz (s.1 + 1 + 1, sp_cG s.2 p164 p155) (am_wI h158 24 (p164) ((s.2.2.1.2.2.2.2 p164) ||| ((Int32.ofInt 1) <<< ((nI p155) &&& 31)))) := cr_G (by decide) l161 w165.1
            refine am_goX 2 (show am_sh (am_wI h158 24 (p164) ((s.2.2.1.2.2.2.2 p164) ||| ((Int32.ofInt 1) <<< ((nI p155) &&& 31)))) 3 = some (1, 0) ∧ pz_S 4 (some .boolean) am_r64 6 Q 142 [(3, .int (nI p164)), (2, .int (nI p155)), (0, .ref 3), (1, .ref 17)] [am_rf ((am_wI h158 24 (p164) ((s.2.2.1.2.2.2.2 p164) ||| ((Int32.ofInt 1) <<< ((nI p155) &&& 31)))).2.2.1 3 0)] (am_wI h158 24 (p164) ((s.2.2.1.2.2.2.2 p164) ||| ((Int32.ofInt 1) <<< ((nI p155) &&& 31)))) from ⟨ex_3 (c_P l169.1), ?_⟩)
            rw [ex_r3_0 (h := am_wI h158 24 (p164) ((s.2.2.1.2.2.2.2 p164) ||| ((Int32.ofInt 1) <<< ((nI p155) &&& 31)))) (c_P l169.1)]
            refine am_goX 1 (show am_rc (am_wI h158 24 (p164) ((s.2.2.1.2.2.2.2 p164) ||| ((Int32.ofInt 1) <<< ((nI p155) &&& 31)))) 1 7 ∧ 0 ≤ 8 ∧ (am_wI h158 24 (p164) ((s.2.2.1.2.2.2.2 p164) ||| ((Int32.ofInt 1) <<< ((nI p155) &&& 31)))).2.2.2.2 + am_al 18 ≤ 175 ∧ am_call am_cod 6 18 [.ref 1] (am_wI h158 24 (p164) ((s.2.2.1.2.2.2.2 p164) ||| ((Int32.ofInt 1) <<< ((nI p155) &&& 31)))) (fun vv h' => pz_S 4 (some .boolean) am_r64 6 Q 145 [(3, .int (nI p164)), (2, .int (nI p155)), (0, .ref 3), (1, .ref 17)] (vv.toList ++ []) h') from ⟨Or.inl ⟨by decide, ex_1 (c_P l169.1)⟩, by decide, ex_lim (c_P l169.1) rfl, am_call.up (c_step l169.1 (sp_nn e162) (fun h170 m171 f172 => ?_)) (by decide)⟩)
            have l173 : cr h0 17 T sz (s.1 + 1 + 1 + 1, (sp_cG s.2 p164 p155)) h170 := cr_fr (a := (s.1 + 1 + 1)) (C := (sp_cG s.2 p164 p155)) (by decide) l169 m171 (Nat.le_succ _) f172
            refine am_goX 2 (show am_sh h170 3 = some (1, 0) ∧ pz_S 4 (some .boolean) am_r64 6 Q 149 [(3, .int (nI p164)), (2, .int (nI p155)), (0, .ref 3), (1, .ref 17)] [am_rf (h170.2.2.1 3 0)] h170 from ⟨ex_3 (c_P l173.1), ?_⟩)
            rw [ex_r3_0 (h := h170) (c_P l173.1)]
            refine am_goX 2 (show am_rc h170 1 7 ∧ 0 ≤ 8 ∧ h170.2.2.2.2 + am_al 61 ≤ 175 ∧ am_call am_cod 6 61 [.ref 1, .int (Int8.ofInt 59).toInt32] h170 (fun vv h' => pz_S 4 (some .boolean) am_r64 6 Q 154 [(3, .int (nI p164)), (2, .int (nI p155)), (0, .ref 3), (1, .ref 17)] (vv.toList ++ []) h') from ⟨Or.inl ⟨by decide, ex_1 (c_P l173.1)⟩, by decide, ex_lim (c_P l173.1) rfl, am_call.up (c_tS (s := (s.1 + 1 + 1 + 1, (sp_cG s.2 p164 p155))) (by decide) l173 (fun v174 h175 x176 f177 => ?_)) (by decide)⟩)
            rcases cres_cs x176 with ⟨F178, e180, rfl, y181⟩ | ⟨t179, e180, rfl, y181⟩
            ·
              exact am_goX 1 (show (∃ ty, (some .boolean) = some ty ∧ narrow ty (.int (0)) = .int (0)) ∧ h175.2.2.2.2 = 175 ∧ _ from ⟨⟨.boolean, rfl, rfl⟩, ex_175 y181.1, hQ _ _ (cres_inl (F := F178) (by simp only [sp_comes, sp_b, sp_f, cond_true, cond_false, e153, e154, e162, e163, e167, e180, Option.isSome_some, Option.isSome_none, Bool.true_or, Bool.or_true, Bool.or_false, Bool.false_or]) rfl y181)⟩)
            ·
              obtain rfl := sp_tS_inr e180
              exact am_goX 1 (show (∃ ty, (some .boolean) = some ty ∧ narrow ty (.int (1)) = .int (1)) ∧ h175.2.2.2.2 = 175 ∧ _ from ⟨⟨.boolean, rfl, rfl⟩, ex_175 (c_P y181.1), hQ _ _ (cres_inr (s' := (s.1 + 1 + 1 + 1 + 1, (sp_cG s.2 p164 p155))) (by simp only [sp_comes, sp_b, sp_f, cond_true, cond_false, e153, e154, e162, e163, e167, e180, Option.isSome_some, Option.isSome_none, Bool.true_or, Bool.or_true, Bool.or_false, Bool.false_or]) rfl y181)⟩)
      | false =>
        refine am_goX 1 (show (¬ (pz_b (false)) = 0 → pz_S 4 (some .boolean) am_r64 6 Q 78 [(2, .int (nI p155)), (0, .ref 3), (1, .ref 17)] [] h158) ∧ (¬ ¬ (pz_b (false)) = 0 → pz_S 4 (some .boolean) am_r64 6 Q 69 [(2, .int (nI p155)), (0, .ref 3), (1, .ref 17)] [] h158) from ⟨fun hz => absurd hz (by decide), fun _ => ?_⟩)
        refine am_goX 2 (show am_sh h158 3 = some (1, 0) ∧ pz_S 4 (some .boolean) am_r64 6 Q 73 [(2, .int (nI p155)), (0, .ref 3), (1, .ref 17)] [am_rf (h158.2.2.1 3 0)] h158 from ⟨ex_3 (c_P l161.1), ?_⟩)
        rw [ex_r3_0 (h := h158) (c_P l161.1)]
        refine am_goX 2 (show am_rc h158 1 7 ∧ 0 ≤ 8 ∧ h158.2.2.2.2 + am_al 52 ≤ 175 ∧ am_call am_cod 6 52 [.ref 1, .int (Int32.ofInt 1)] h158 (fun vv h' => pz_S 4 (some .boolean) am_r64 6 Q 77 [(2, .int (nI p155)), (0, .ref 3), (1, .ref 17)] (vv.toList ++ []) h') from ⟨Or.inl ⟨by decide, ex_1 (c_P l161.1)⟩, by decide, ex_lim (c_P l161.1) rfl, am_call.up (c_refuse l161.1 ?_) (by decide)⟩)
        have x182 := cr_x (s := (s.1 + 1 + 1, s.2)) (k := (Int32.ofInt 1)) (by decide) l161 (by decide)
        exact am_goX 1 (show (∃ ty, (some .boolean) = some ty ∧ narrow ty (.int ((Int32.ofInt 0))) = .int ((Int32.ofInt 0))) ∧ (am_wI h158 1 7 (sp_ft (tt T sz) (s.1 + 1 + 1) (Int32.ofInt 1))).2.2.2.2 = 175 ∧ _ from ⟨⟨.boolean, rfl, rfl⟩, ex_175 x182.1, hQ _ _ (cres_inl (F := sp_ft (tt T sz) (s.1 + 1 + 1) (Int32.ofInt 1)) (by simp only [sp_comes, sp_b, sp_f, cond_true, cond_false, e153, e154, e162, Option.isSome_some, Option.isSome_none, Bool.true_or, Bool.or_true, Bool.or_false, Bool.false_or]) rfl x182)⟩)
  | false =>
    refine am_goX 1 (show (¬ (pz_b (false)) = 0 → pz_S 4 (some .boolean) am_r64 6 Q 26 [(0, .ref 3), (1, .ref 17)] [] h149) ∧ (¬ ¬ (pz_b (false)) = 0 → pz_S 4 (some .boolean) am_r64 6 Q 17 [(0, .ref 3), (1, .ref 17)] [] h149) from ⟨fun hz => absurd hz (by decide), fun _ => ?_⟩)
    refine am_goX 2 (show am_sh h149 3 = some (1, 0) ∧ pz_S 4 (some .boolean) am_r64 6 Q 21 [(0, .ref 3), (1, .ref 17)] [am_rf (h149.2.2.1 3 0)] h149 from ⟨ex_3 (c_P l152.1), ?_⟩)
    rw [ex_r3_0 (h := h149) (c_P l152.1)]
    refine am_goX 2 (show am_rc h149 1 7 ∧ 0 ≤ 8 ∧ h149.2.2.2.2 + am_al 52 ≤ 175 ∧ am_call am_cod 6 52 [.ref 1, .int (Int32.ofInt 1)] h149 (fun vv h' => pz_S 4 (some .boolean) am_r64 6 Q 25 [(0, .ref 3), (1, .ref 17)] (vv.toList ++ []) h') from ⟨Or.inl ⟨by decide, ex_1 (c_P l152.1)⟩, by decide, ex_lim (c_P l152.1) rfl, am_call.up (c_refuse l152.1 ?_) (by decide)⟩)
    have x183 := cr_x (s := (s.1 + 1, s.2)) (k := (Int32.ofInt 1)) (by decide) l152 (by decide)
    exact am_goX 1 (show (∃ ty, (some .boolean) = some ty ∧ narrow ty (.int ((Int32.ofInt 0))) = .int ((Int32.ofInt 0))) ∧ (am_wI h149 1 7 (sp_ft (tt T sz) (s.1 + 1) (Int32.ofInt 1))).2.2.2.2 = 175 ∧ _ from ⟨⟨.boolean, rfl, rfl⟩, ex_175 x183.1, hQ _ _ (cres_inl (F := sp_ft (tt T sz) (s.1 + 1) (Int32.ofInt 1)) (by simp only [sp_comes, sp_b, sp_f, cond_true, cond_false, e153, Option.isSome_some, Option.isSome_none, Bool.true_or, Bool.or_true, Bool.or_false, Bool.false_or]) rfl x183)⟩)
theorem c_68_17 {v : Int32} {D : Nat} (hD : D < 28) (hv : v = nI D) (l : cr h0 17 T sz s h) (hQ : Q (some (.int (pz_b (sp_bit s.2.2.2.1.2 v)))) h) : am_call am_cod 2 68 [.ref 17, .int v] h Q := by
  have hP := c_P l.1
  have d2 : h.1 17 10 = s.2.2.2.1.2 := l.2.1.2.2.1.2.1
  refine pz_call (n := 68) (nL := 2) (rt := (some .boolean)) (rows := am_r68) (d := 1) (by decide +kernel) (by decide +kernel) rfl (by funext pc; rfl) (ex_175 hP) (by exact Nat.le_of_ble_eq_true rfl) ?_
  refine am_goX 5 (show am_sh h 17 = some (0, 0) ∧ ¬ (Int8.ofInt 28).toInt32 = 0 ∧ pz_S 2 (some .boolean) am_r68 1 Q 8 [(0, .ref 17), (1, .int v)] [.int (v - v / (Int8.ofInt 28).toInt32 * (Int8.ofInt 28).toInt32), .int (h.1 17 10)] h from ⟨ex_17 hP, by decide, ?_⟩)
  rw [d2, show v - v / (Int8.ofInt 28).toInt32 * (Int8.ofInt 28).toInt32 = v by rw [hv]; exact sp_bit28 hD]
  refine am_goX 1 (show 0 ≤ 8 ∧ h.2.2.2.2 + am_al 65 ≤ 175 ∧ am_call am_cod 1 65 [.int s.2.2.2.1.2, .int v] h (fun vv h' => pz_S 2 (some .boolean) am_r68 1 Q 11 [(0, .ref 17), (1, .int v)] (vv.toList ++ []) h') from ⟨by decide, ex_lim hP rfl, c_65 hP ?_⟩)
  rcases pz_b_v (sp_bit s.2.2.2.1.2 v) with e | e
  all_goals rw [e] at hQ ⊢
  · exact am_goX 1 (show (∃ ty, some FieldType.boolean = some ty ∧ narrow ty (.int 0) = .int 0) ∧ h.2.2.2.2 = 175 ∧ _ from ⟨⟨_, rfl, rfl⟩, ex_175 hP, hQ⟩)
  · exact am_goX 1 (show (∃ ty, some FieldType.boolean = some ty ∧ narrow ty (.int 1) = .int 1) ∧ h.2.2.2.2 = 175 ∧ _ from ⟨⟨_, rfl, rfl⟩, ex_175 hP, hQ⟩)
theorem c_67_17 (ht : s.2.2.2.1.1 = true) (l : cr h0 17 T sz s h) (hQ : ∀ v h1, cres h0 17 T sz (sp_sd (tt T sz) s) v h1 → Q v h1) : am_call am_cod 7 67 [.ref 3, .ref 17] h Q := by
  have hP := c_P l.1
  have hk := ck_2 T sz s.1
  have d2 : h.1 17 10 = s.2.2.2.1.2 := l.2.1.2.2.1.2.1
  refine pz_call (n := 67) (nL := 3) (rt := (some .boolean)) (rows := am_r67) (d := 6) (by decide +kernel) (by decide +kernel) rfl (by funext pc; rfl) (ex_175 hP) (by exact Nat.le_of_ble_eq_true rfl) ?_
  refine am_goX 2 (show am_sh h 3 = some (1, 0) ∧ pz_S 3 (some .boolean) am_r67 6 Q 4 [(0, .ref 3), (1, .ref 17)] [am_rf (h.2.2.1 3 0)] h from ⟨ex_3 (c_P l.1), ?_⟩)
  rw [ex_r3_0 (h := h) (c_P l.1)]
  refine am_goX 2 (show am_sh h 1 = some (7, 0) ∧ pz_S 3 (some .boolean) am_r67 6 Q 8 [(0, .ref 3), (1, .ref 17)] [.int (Int32.ofInt 2), .int (h.1 1 2)] h from ⟨ex_1 (c_P l.1), ?_⟩)
  rw [c_kd l.1]
  refine am_goX 1 (show (¬ (ck (tt T sz s.1).1) = (Int32.ofInt 2) → pz_S 3 (some .boolean) am_r67 6 Q 27 [(0, .ref 3), (1, .ref 17)] [] h) ∧ (¬ ¬ (ck (tt T sz s.1).1) = (Int32.ofInt 2) → pz_S 3 (some .boolean) am_r67 6 Q 11 [(0, .ref 3), (1, .ref 17)] [] h) from ⟨fun hc => ?_, fun hc => ?_⟩)
  ·
    have e2 : sp_k (tt T sz) s.1 2 = false := by rw [← hk]; exact decide_eq_false hc
    clear hc
    refine am_goX 4 (show 2 < 3 ∧ ((Int32.ofInt 0) = 0 → pz_S 3 (some .boolean) am_r67 6 Q 56 [(2, .int (Int32.ofInt 0)), (0, .ref 3), (1, .ref 17)] [] h) ∧ (¬ ((Int32.ofInt 0) = 0) → pz_S 3 (some .boolean) am_r67 6 Q 33 [(2, .int (Int32.ofInt 0)), (0, .ref 3), (1, .ref 17)] [] h) from ⟨by decide, fun _ => ?_, fun hz => absurd (by decide) hz⟩)
    refine am_goX 2 (show am_sh h 3 = some (1, 0) ∧ pz_S 3 (some .boolean) am_r67 6 Q 60 [(2, .int (Int32.ofInt 0)), (0, .ref 3), (1, .ref 17)] [am_rf (h.2.2.1 3 0)] h from ⟨ex_3 (c_P l.1), ?_⟩)
    rw [ex_r3_0 (h := h) (c_P l.1)]
    refine am_goX 3 (show am_rc h 1 7 ∧ 0 ≤ 8 ∧ h.2.2.2.2 + am_al 59 ≤ 175 ∧ am_call am_cod 6 59 [.ref 1, .int (Int32.ofInt 0), .int (Int8.ofInt 27).toInt32] h (fun vv h' => pz_S 3 (some .boolean) am_r67 6 Q 66 [(2, .int (Int32.ofInt 0)), (0, .ref 3), (1, .ref 17)] (vv.toList ++ []) h') from ⟨Or.inl ⟨by decide, ex_1 (c_P l.1)⟩, by decide, ex_lim (c_P l.1) rfl, am_call.up (c_tN (s := s) (by decide) l (fun v184 h185 x186 f187 => ?_)) (by decide)⟩)
    rcases cres_cs x186 with ⟨F188, e190, rfl, y191⟩ | ⟨t189, e190, rfl, y191⟩
    ·
      simp only [sp_tN, e2, cond_true, cond_false, sp_f, Sum.inl.injEq] at e190
      subst e190
      refine am_goX 1 (show (¬ 0 = 0 → pz_S 3 (some .boolean) am_r67 6 Q 71 [(2, .int (Int32.ofInt 0)), (0, .ref 3), (1, .ref 17)] [] h185) ∧ (¬ ¬ 0 = 0 → pz_S 3 (some .boolean) am_r67 6 Q 69 [(2, .int (Int32.ofInt 0)), (0, .ref 3), (1, .ref 17)] [] h185) from ⟨fun hz => absurd hz (by decide), fun _ => ?_⟩)
      exact am_goX 2 (show (∃ ty, (some .boolean) = some ty ∧ narrow ty (.int ((Int32.ofInt 0))) = .int ((Int32.ofInt 0))) ∧ h185.2.2.2.2 = 175 ∧ _ from ⟨⟨.boolean, rfl, rfl⟩, ex_175 y191.1, hQ _ _ (cres_inl (F := sp_ft (tt T sz) s.1 (Int32.ofInt 1)) (by simp only [sp_sd, sp_tN, sp_b, sp_f, cond_true, cond_false, e2, Option.isSome_some, Option.isSome_none, Bool.true_or, Bool.or_true, Bool.or_false, Bool.false_or]) rfl y191)⟩)
    ·
      simp only [sp_tN, e2, cond_true, cond_false, sp_f] at e190
      cases e190
  ·
    have e2 : sp_k (tt T sz) s.1 2 = true := by rw [← hk]; exact decide_eq_true (Decidable.not_not.mp hc)
    clear hc
    obtain ⟨D, hD, ev, en⟩ := c_nm l.1 e2
    have hi := sp_in28 hD ev
    have enn := c_nv l.1 e2
    refine am_goX 2 (show am_sh h 3 = some (1, 0) ∧ pz_S 3 (some .boolean) am_r67 6 Q 15 [(0, .ref 3), (1, .ref 17)] [am_rf (h.2.2.1 3 0)] h from ⟨ex_3 (c_P l.1), ?_⟩)
    rw [ex_r3_0 (h := h) (c_P l.1)]
    refine am_goX 2 (show am_sh h 1 = some (7, 0) ∧ pz_S 3 (some .boolean) am_r67 6 Q 20 [(0, .ref 3), (1, .ref 17)] [.int (Int8.ofInt 28).toInt32, .int (h.1 1 6)] h from ⟨ex_1 (c_P l.1), ?_⟩)
    rw [en]
    refine am_goX 1 (show ((Int8.ofInt 28).toInt32 ≤ (nI D) → pz_S 3 (some .boolean) am_r67 6 Q 27 [(0, .ref 3), (1, .ref 17)] [] h) ∧ (¬ ((Int8.ofInt 28).toInt32 ≤ (nI D)) → pz_S 3 (some .boolean) am_r67 6 Q 23 [(0, .ref 3), (1, .ref 17)] [] h) from ⟨fun hc => ?_, fun hc => ?_⟩)
    ·
      rw [i28 hD] at hc
      have ei := hi.trans (decide_eq_false (by omega : ¬ D < 28))
      refine am_goX 4 (show 2 < 3 ∧ ((Int32.ofInt 0) = 0 → pz_S 3 (some .boolean) am_r67 6 Q 56 [(2, .int (Int32.ofInt 0)), (0, .ref 3), (1, .ref 17)] [] h) ∧ (¬ ((Int32.ofInt 0) = 0) → pz_S 3 (some .boolean) am_r67 6 Q 33 [(2, .int (Int32.ofInt 0)), (0, .ref 3), (1, .ref 17)] [] h) from ⟨by decide, fun _ => ?_, fun hz => absurd (by decide) hz⟩)
      refine am_goX 2 (show am_sh h 3 = some (1, 0) ∧ pz_S 3 (some .boolean) am_r67 6 Q 60 [(2, .int (Int32.ofInt 0)), (0, .ref 3), (1, .ref 17)] [am_rf (h.2.2.1 3 0)] h from ⟨ex_3 (c_P l.1), ?_⟩)
      rw [ex_r3_0 (h := h) (c_P l.1)]
      refine am_goX 3 (show am_rc h 1 7 ∧ 0 ≤ 8 ∧ h.2.2.2.2 + am_al 59 ≤ 175 ∧ am_call am_cod 6 59 [.ref 1, .int (Int32.ofInt 0), .int (Int8.ofInt 27).toInt32] h (fun vv h' => pz_S 3 (some .boolean) am_r67 6 Q 66 [(2, .int (Int32.ofInt 0)), (0, .ref 3), (1, .ref 17)] (vv.toList ++ []) h') from ⟨Or.inl ⟨by decide, ex_1 (c_P l.1)⟩, by decide, ex_lim (c_P l.1) rfl, am_call.up (c_tN (s := s) (by decide) l (fun v192 h193 x194 f195 => ?_)) (by decide)⟩)
      rcases cres_cs x194 with ⟨F196, e198, rfl, y199⟩ | ⟨t197, e198, rfl, y199⟩
      ·
        simp only [sp_tN, e2, ei, cond_true, cond_false, sp_f, Sum.inl.injEq] at e198
        subst e198
        refine am_goX 1 (show (¬ 0 = 0 → pz_S 3 (some .boolean) am_r67 6 Q 71 [(2, .int (Int32.ofInt 0)), (0, .ref 3), (1, .ref 17)] [] h193) ∧ (¬ ¬ 0 = 0 → pz_S 3 (some .boolean) am_r67 6 Q 69 [(2, .int (Int32.ofInt 0)), (0, .ref 3), (1, .ref 17)] [] h193) from ⟨fun hz => absurd hz (by decide), fun _ => ?_⟩)
        exact am_goX 2 (show (∃ ty, (some .boolean) = some ty ∧ narrow ty (.int ((Int32.ofInt 0))) = .int ((Int32.ofInt 0))) ∧ h193.2.2.2.2 = 175 ∧ _ from ⟨⟨.boolean, rfl, rfl⟩, ex_175 y199.1, hQ _ _ (cres_inl (F := sp_ft (tt T sz) s.1 (Int32.ofInt 4)) (by simp only [sp_sd, sp_tN, sp_b, sp_f, cond_true, cond_false, e2, ei, Option.isSome_some, Option.isSome_none, Bool.true_or, Bool.or_true, Bool.or_false, Bool.false_or]) rfl y199)⟩)
      ·
        simp only [sp_tN, e2, ei, cond_true, cond_false, sp_f] at e198
        cases e198
    ·
      rw [i28 hD] at hc
      have ei := hi.trans (decide_eq_true (by omega : D < 28))
      refine am_goX 5 (show 2 < 3 ∧ ((Int32.ofInt 1) = 0 → pz_S 3 (some .boolean) am_r67 6 Q 56 [(2, .int (Int32.ofInt 1)), (0, .ref 3), (1, .ref 17)] [] h) ∧ (¬ ((Int32.ofInt 1) = 0) → pz_S 3 (some .boolean) am_r67 6 Q 33 [(2, .int (Int32.ofInt 1)), (0, .ref 3), (1, .ref 17)] [] h) from ⟨by decide, fun hz => absurd hz (by decide), fun _ => ?_⟩)
      refine am_goX 3 (show am_sh h 3 = some (1, 0) ∧ pz_S 3 (some .boolean) am_r67 6 Q 38 [(2, .int (Int32.ofInt 1)), (0, .ref 3), (1, .ref 17)] [am_rf (h.2.2.1 3 0), .ref 17] h from ⟨ex_3 (c_P l.1), ?_⟩)
      rw [ex_r3_0 (h := h) (c_P l.1)]
      refine am_goX 1 (show am_sh h 1 = some (7, 0) ∧ pz_S 3 (some .boolean) am_r67 6 Q 41 [(2, .int (Int32.ofInt 1)), (0, .ref 3), (1, .ref 17)] [.int (h.1 1 6), .ref 17] h from ⟨ex_1 (c_P l.1), ?_⟩)
      rw [enn]
      refine am_goX 1 (show am_rc h 17 0 ∧ 0 ≤ 8 ∧ h.2.2.2.2 + am_al 68 ≤ 175 ∧ am_call am_cod 6 68 [.ref 17, .int (sp_v (tt T sz) s.1)] h (fun vv h' => pz_S 3 (some .boolean) am_r67 6 Q 44 [(2, .int (Int32.ofInt 1)), (0, .ref 3), (1, .ref 17)] (vv.toList ++ []) h') from ⟨Or.inl ⟨by decide, ex_17 (c_P l.1)⟩, by decide, ex_lim (c_P l.1) rfl, am_call.up (c_68_17 (show D < 28 by omega) ev l ?_) (by decide)⟩)
      cases e4 : sp_bit s.2.2.2.1.2 (sp_v (tt T sz) s.1) with
      | true =>
        refine am_goX 1 (show ((pz_b (true)) = 0 → pz_S 3 (some .boolean) am_r67 6 Q 56 [(2, .int (Int32.ofInt 1)), (0, .ref 3), (1, .ref 17)] [] h) ∧ (¬ ((pz_b (true)) = 0) → pz_S 3 (some .boolean) am_r67 6 Q 47 [(2, .int (Int32.ofInt 1)), (0, .ref 3), (1, .ref 17)] [] h) from ⟨fun hz => absurd hz (by decide), fun _ => ?_⟩)
        refine am_goX 2 (show am_sh h 3 = some (1, 0) ∧ pz_S 3 (some .boolean) am_r67 6 Q 51 [(2, .int (Int32.ofInt 1)), (0, .ref 3), (1, .ref 17)] [am_rf (h.2.2.1 3 0)] h from ⟨ex_3 (c_P l.1), ?_⟩)
        rw [ex_r3_0 (h := h) (c_P l.1)]
        refine am_goX 2 (show am_rc h 1 7 ∧ 0 ≤ 8 ∧ h.2.2.2.2 + am_al 52 ≤ 175 ∧ am_call am_cod 6 52 [.ref 1, .int (Int32.ofInt 3)] h (fun vv h' => pz_S 3 (some .boolean) am_r67 6 Q 55 [(2, .int (Int32.ofInt 1)), (0, .ref 3), (1, .ref 17)] (vv.toList ++ []) h') from ⟨Or.inl ⟨by decide, ex_1 (c_P l.1)⟩, by decide, ex_lim (c_P l.1) rfl, am_call.up (c_refuse l.1 ?_) (by decide)⟩)
        have x200 := cr_x (s := s) (k := (Int32.ofInt 3)) (by decide) l (by decide)
        exact am_goX 1 (show (∃ ty, (some .boolean) = some ty ∧ narrow ty (.int ((Int32.ofInt 0))) = .int ((Int32.ofInt 0))) ∧ (am_wI h 1 7 (sp_ft (tt T sz) s.1 (Int32.ofInt 3))).2.2.2.2 = 175 ∧ _ from ⟨⟨.boolean, rfl, rfl⟩, ex_175 x200.1, hQ _ _ (cres_inl (F := sp_ft (tt T sz) s.1 (Int32.ofInt 3)) (by simp only [sp_sd, sp_tN, sp_b, sp_f, cond_true, cond_false, e2, ei, e4, Option.isSome_some, Option.isSome_none, Bool.true_or, Bool.or_true, Bool.or_false, Bool.false_or]) rfl x200)⟩)
      | false =>
        refine am_goX 1 (show ((pz_b (false)) = 0 → pz_S 3 (some .boolean) am_r67 6 Q 56 [(2, .int (Int32.ofInt 1)), (0, .ref 3), (1, .ref 17)] [] h) ∧ (¬ ((pz_b (false)) = 0) → pz_S 3 (some .boolean) am_r67 6 Q 47 [(2, .int (Int32.ofInt 1)), (0, .ref 3), (1, .ref 17)] [] h) from ⟨fun _ => ?_, fun hz => absurd (by decide) hz⟩)
        refine am_goX 2 (show am_sh h 3 = some (1, 0) ∧ pz_S 3 (some .boolean) am_r67 6 Q 60 [(2, .int (Int32.ofInt 1)), (0, .ref 3), (1, .ref 17)] [am_rf (h.2.2.1 3 0)] h from ⟨ex_3 (c_P l.1), ?_⟩)
        rw [ex_r3_0 (h := h) (c_P l.1)]
        refine am_goX 3 (show am_rc h 1 7 ∧ 0 ≤ 8 ∧ h.2.2.2.2 + am_al 59 ≤ 175 ∧ am_call am_cod 6 59 [.ref 1, .int (Int32.ofInt 0), .int (Int8.ofInt 27).toInt32] h (fun vv h' => pz_S 3 (some .boolean) am_r67 6 Q 66 [(2, .int (Int32.ofInt 1)), (0, .ref 3), (1, .ref 17)] (vv.toList ++ []) h') from ⟨Or.inl ⟨by decide, ex_1 (c_P l.1)⟩, by decide, ex_lim (c_P l.1) rfl, am_call.up (c_tN (s := s) (by decide) l (fun v201 h202 x203 f204 => ?_)) (by decide)⟩)
        rcases cres_cs x203 with ⟨F205, e207, rfl, y208⟩ | ⟨t206, e207, rfl, y208⟩
        ·
          simp only [sp_tN, e2, ei, cond_true, cond_false] at e207
          cases e207
        ·
          obtain ⟨et, _, _⟩ := sp_tN_inr e207
          rw [et] at y208
          refine am_goX 1 (show (¬ 1 = 0 → pz_S 3 (some .boolean) am_r67 6 Q 71 [(2, .int (Int32.ofInt 1)), (0, .ref 3), (1, .ref 17)] [] h202) ∧ (¬ ¬ 1 = 0 → pz_S 3 (some .boolean) am_r67 6 Q 69 [(2, .int (Int32.ofInt 1)), (0, .ref 3), (1, .ref 17)] [] h202) from ⟨fun _ => ?_, fun hz => absurd (by decide) hz⟩)
          refine am_goX 2 (show am_sh h202 17 = some (0, 0) ∧ pz_S 3 (some .boolean) am_r67 6 Q 75 [(2, .int (Int32.ofInt 1)), (0, .ref 3), (1, .ref 17)] [.int (h202.1 17 10)] h202 from ⟨ex_17 (c_P y208.1), ?_⟩)
          rw [show h202.1 17 10 = s.2.2.2.1.2 from y208.2.1.2.2.1.2.1]
          refine am_goX 1 (show 0 ≤ 8 ∧ h202.2.2.2.2 + am_al 69 ≤ 175 ∧ am_call am_cod 6 69 [.int s.2.2.2.1.2] h202 (fun vv h' => pz_S 3 (some .boolean) am_r67 6 Q 78 [(2, .int (Int32.ofInt 1)), (0, .ref 3), (1, .ref 17)] (vv.toList ++ []) h') from ⟨by decide, ex_lim (c_P y208.1) rfl, am_call.up (c_69 (c_P y208.1) y208.2.1.2.2.1.2.2.2 ?_) (by decide)⟩)
          refine am_goX 1 (show pz_S 3 (some .boolean) am_r67 6 Q 80 [(2, .int (Int32.ofInt 1)), (0, .ref 3), (1, .ref 17)] [.int (Int8.ofInt 8).toInt32, .int (nI (sp_pc s.2.2.2.1.2 28))] h202 from ?_)
          cases e5 : Nat.ble 8 (sp_pc s.2.2.2.1.2 28) with
          | true =>
            refine am_goX 1 (show ((nI (sp_pc s.2.2.2.1.2 28)) < (Int8.ofInt 8).toInt32 → pz_S 3 (some .boolean) am_r67 6 Q 92 [(2, .int (Int32.ofInt 1)), (0, .ref 3), (1, .ref 17)] [] h202) ∧ (¬ ((nI (sp_pc s.2.2.2.1.2 28)) < (Int8.ofInt 8).toInt32) → pz_S 3 (some .boolean) am_r67 6 Q 83 [(2, .int (Int32.ofInt 1)), (0, .ref 3), (1, .ref 17)] [] h202) from ⟨fun hz => absurd hz (i8 e5 (by have := sp_pc_le s.2.2.2.1.2 28; omega)), fun _ => ?_⟩)
            refine am_goX 2 (show am_sh h202 3 = some (1, 0) ∧ pz_S 3 (some .boolean) am_r67 6 Q 87 [(2, .int (Int32.ofInt 1)), (0, .ref 3), (1, .ref 17)] [am_rf (h202.2.2.1 3 0)] h202 from ⟨ex_3 (c_P y208.1), ?_⟩)
            rw [ex_r3_0 (h := h202) (c_P y208.1)]
            refine am_goX 2 (show am_rc h202 1 7 ∧ 0 ≤ 8 ∧ h202.2.2.2.2 + am_al 52 ≤ 175 ∧ am_call am_cod 6 52 [.ref 1, .int (Int32.ofInt 5)] h202 (fun vv h' => pz_S 3 (some .boolean) am_r67 6 Q 91 [(2, .int (Int32.ofInt 1)), (0, .ref 3), (1, .ref 17)] (vv.toList ++ []) h') from ⟨Or.inl ⟨by decide, ex_1 (c_P y208.1)⟩, by decide, ex_lim (c_P y208.1) rfl, am_call.up (c_refuse y208.1 ?_) (by decide)⟩)
            have x209 := cr_x (s := s) (k := (Int32.ofInt 5)) (by decide) y208 (by decide)
            exact am_goX 1 (show (∃ ty, (some .boolean) = some ty ∧ narrow ty (.int ((Int32.ofInt 0))) = .int ((Int32.ofInt 0))) ∧ (am_wI h202 1 7 (sp_ft (tt T sz) s.1 (Int32.ofInt 5))).2.2.2.2 = 175 ∧ _ from ⟨⟨.boolean, rfl, rfl⟩, ex_175 x209.1, hQ _ _ (cres_inl (F := sp_ft (tt T sz) s.1 (Int32.ofInt 5)) (by simp only [sp_sd, sp_tN, sp_b, sp_f, cond_true, cond_false, e2, ei, e4, e5, Option.isSome_some, Option.isSome_none, Bool.true_or, Bool.or_true, Bool.or_false, Bool.false_or]) rfl x209)⟩)
          | false =>
            refine am_goX 1 (show ((nI (sp_pc s.2.2.2.1.2 28)) < (Int8.ofInt 8).toInt32 → pz_S 3 (some .boolean) am_r67 6 Q 92 [(2, .int (Int32.ofInt 1)), (0, .ref 3), (1, .ref 17)] [] h202) ∧ (¬ ((nI (sp_pc s.2.2.2.1.2 28)) < (Int8.ofInt 8).toInt32) → pz_S 3 (some .boolean) am_r67 6 Q 83 [(2, .int (Int32.ofInt 1)), (0, .ref 3), (1, .ref 17)] [] h202) from ⟨fun _ => ?_, fun hz => absurd (j8 e5) hz⟩)
            refine am_goX 6 (show (Value.ref 17).category = 1 ∧ am_sh h202 17 = some (0, 0) ∧ am_sh h202 3 = some (1, 0) ∧ pz_S 3 (some .boolean) am_r67 6 Q 102 [(2, .int (Int32.ofInt 1)), (0, .ref 3), (1, .ref 17)] [am_rf (h202.2.2.1 3 0), .int (Int32.ofInt 1), .int (h202.1 17 10), .ref 17] h202 from ⟨rfl, ex_17 (c_P y208.1), ex_3 (c_P y208.1), ?_⟩)
            rw [ex_r3_0 (h := h202) (c_P y208.1)]
            refine am_goX 4 (show am_sh h202 1 = some (7, 0) ∧ am_sh h202 17 = some (0, 0) ∧ narrow (am_fty 0 10) (.int (((h202.1 17 10) ||| ((Int32.ofInt 1) <<< ((h202.1 1 6) &&& 31))))) = .int (((h202.1 17 10) ||| ((Int32.ofInt 1) <<< ((h202.1 1 6) &&& 31)))) ∧ fits (am_fty 0 10) (.int (((h202.1 17 10) ||| ((Int32.ofInt 1) <<< ((h202.1 1 6) &&& 31))))) = true ∧ pz_S 3 (some .boolean) am_r67 6 Q 110 [(2, .int (Int32.ofInt 1)), (0, .ref 3), (1, .ref 17)] [] (am_wI h202 17 10 (((h202.1 17 10) ||| ((Int32.ofInt 1) <<< ((h202.1 1 6) &&& 31))))) from ⟨ex_1 (c_P y208.1), ex_17 (c_P y208.1), rfl, rfl, ?_⟩)
            rw [show h202.1 17 10 = s.2.2.2.1.2 from y208.2.1.2.2.1.2.1, c_nv y208.1 e2]
            have l210 : cr h0 17 T sz (s.1, sp_cS s.2 s.2.2.2.1.1 (s.2.2.2.1.2 ||| ((Int32.ofInt 1) <<< (sp_v (tt T sz) s.1 &&& 31)))) (am_wI h202 17 10 (s.2.2.2.1.2 ||| ((Int32.ofInt 1) <<< (sp_v (tt T sz) s.1 &&& 31)))) := cr_S10 (by decide) ⟨fun z => absurd (ht.symm.trans z) (by decide), by rw [ev]; exact sp_28_or y208.2.1.2.2.1.2.2.2 (by omega)⟩ y208
            refine am_goX 2 (show am_sh (am_wI h202 17 10 (s.2.2.2.1.2 ||| ((Int32.ofInt 1) <<< (sp_v (tt T sz) s.1 &&& 31)))) 3 = some (1, 0) ∧ pz_S 3 (some .boolean) am_r67 6 Q 114 [(2, .int (Int32.ofInt 1)), (0, .ref 3), (1, .ref 17)] [am_rf ((am_wI h202 17 10 (s.2.2.2.1.2 ||| ((Int32.ofInt 1) <<< (sp_v (tt T sz) s.1 &&& 31)))).2.2.1 3 0)] (am_wI h202 17 10 (s.2.2.2.1.2 ||| ((Int32.ofInt 1) <<< (sp_v (tt T sz) s.1 &&& 31)))) from ⟨ex_3 (c_P l210.1), ?_⟩)
            rw [ex_r3_0 (h := am_wI h202 17 10 (s.2.2.2.1.2 ||| ((Int32.ofInt 1) <<< (sp_v (tt T sz) s.1 &&& 31)))) (c_P l210.1)]
            refine am_goX 1 (show am_rc (am_wI h202 17 10 (s.2.2.2.1.2 ||| ((Int32.ofInt 1) <<< (sp_v (tt T sz) s.1 &&& 31)))) 1 7 ∧ 0 ≤ 8 ∧ (am_wI h202 17 10 (s.2.2.2.1.2 ||| ((Int32.ofInt 1) <<< (sp_v (tt T sz) s.1 &&& 31)))).2.2.2.2 + am_al 18 ≤ 175 ∧ am_call am_cod 6 18 [.ref 1] (am_wI h202 17 10 (s.2.2.2.1.2 ||| ((Int32.ofInt 1) <<< (sp_v (tt T sz) s.1 &&& 31)))) (fun vv h' => pz_S 3 (some .boolean) am_r67 6 Q 117 [(2, .int (Int32.ofInt 1)), (0, .ref 3), (1, .ref 17)] (vv.toList ++ []) h') from ⟨Or.inl ⟨by decide, ex_1 (c_P l210.1)⟩, by decide, ex_lim (c_P l210.1) rfl, am_call.up (c_step l210.1 (sp_kn (by decide) e2) (fun h211 m212 f213 => ?_)) (by decide)⟩)
            have l214 : cr h0 17 T sz (s.1 + 1, (sp_cS s.2 s.2.2.2.1.1 (s.2.2.2.1.2 ||| ((Int32.ofInt 1) <<< (sp_v (tt T sz) s.1 &&& 31))))) h211 := cr_fr (a := s.1) (C := (sp_cS s.2 s.2.2.2.1.1 (s.2.2.2.1.2 ||| ((Int32.ofInt 1) <<< (sp_v (tt T sz) s.1 &&& 31))))) (by decide) l210 m212 (Nat.le_succ _) f213
            exact am_goX 2 (show (∃ ty, (some .boolean) = some ty ∧ narrow ty (.int ((Int32.ofInt 1))) = .int ((Int32.ofInt 1))) ∧ h211.2.2.2.2 = 175 ∧ _ from ⟨⟨.boolean, rfl, rfl⟩, ex_175 (c_P l214.1), hQ _ _ (cres_inr (s' := (s.1 + 1, (sp_cS s.2 s.2.2.2.1.1 (s.2.2.2.1.2 ||| ((Int32.ofInt 1) <<< (sp_v (tt T sz) s.1 &&& 31)))))) (by simp only [sp_sd, sp_tN, sp_b, sp_f, cond_true, cond_false, e2, ei, e4, e5, Option.isSome_some, Option.isSome_none, Bool.true_or, Bool.or_true, Bool.or_false, Bool.false_or]) rfl l214)⟩)
theorem c_66l_17 : ∀ (m i : Nat) (s : sp_S) (h : am_H) (Q : am_Q), sz < s.1 + m → i + 1 ≤ s.1 → s.2.2.2.1.1 = true → cr h0 17 T sz s h → (∀ v h1, cres h0 17 T sz (sp_b (sp_sl (tt T sz) m s) (sp_tS (tt T sz) (Int8.ofInt 59).toInt32)) v h1 → Q v h1) → pz_S 4 (some .boolean) am_r66 7 Q 36 [(3, .int (nI i)), (2, .int 1), (0, .ref 3), (1, .ref 17)] [] h := by
  intro m
  induction m with
  | zero =>
    intro i s h Q hm hi ht l hQ
    have := (cr_a l).1
    omega
  | succ m ih =>
    intro i s h Q hm hi ht l hQ
    have ha := cr_a l
    have hk := ck_2 T sz s.1
    refine am_goX 2 (show (1 = 0 → pz_S 4 (some .boolean) am_r66 7 Q 70 [(3, .int (nI i)), (2, .int 1), (0, .ref 3), (1, .ref 17)] [] h) ∧ (¬ (1 = 0) → pz_S 4 (some .boolean) am_r66 7 Q 40 [(3, .int (nI i)), (2, .int 1), (0, .ref 3), (1, .ref 17)] [] h) from ⟨fun hz => absurd hz (by decide), fun _ => ?_⟩)
    refine am_goX 2 (show am_sh h 3 = some (1, 0) ∧ pz_S 4 (some .boolean) am_r66 7 Q 44 [(3, .int (nI i)), (2, .int 1), (0, .ref 3), (1, .ref 17)] [am_rf (h.2.2.1 3 0)] h from ⟨ex_3 (c_P l.1), ?_⟩)
    rw [ex_r3_0 (h := h) (c_P l.1)]
    refine am_goX 2 (show am_sh h 1 = some (7, 0) ∧ pz_S 4 (some .boolean) am_r66 7 Q 48 [(3, .int (nI i)), (2, .int 1), (0, .ref 3), (1, .ref 17)] [.int (Int32.ofInt 2), .int (h.1 1 2)] h from ⟨ex_1 (c_P l.1), ?_⟩)
    rw [c_kd l.1]
    refine am_goX 1 (show (¬ (ck (tt T sz s.1).1) = (Int32.ofInt 2) → pz_S 4 (some .boolean) am_r66 7 Q 70 [(3, .int (nI i)), (2, .int 1), (0, .ref 3), (1, .ref 17)] [] h) ∧ (¬ ¬ (ck (tt T sz s.1).1) = (Int32.ofInt 2) → pz_S 4 (some .boolean) am_r66 7 Q 51 [(3, .int (nI i)), (2, .int 1), (0, .ref 3), (1, .ref 17)] [] h) from ⟨fun hc => ?_, fun hc => ?_⟩)
    ·
      have e2 : sp_k (tt T sz) s.1 2 = false := by rw [← hk]; exact decide_eq_false hc
      clear hc
      refine am_goX 2 (show (1 = 0 → pz_S 4 (some .boolean) am_r66 7 Q 90 [(3, .int (nI i)), (2, .int 1), (0, .ref 3), (1, .ref 17)] [] h) ∧ (¬ (1 = 0) → pz_S 4 (some .boolean) am_r66 7 Q 74 [(3, .int (nI i)), (2, .int 1), (0, .ref 3), (1, .ref 17)] [] h) from ⟨fun hz => absurd hz (by decide), fun _ => ?_⟩)
      refine am_goX 2 (show am_sh h 3 = some (1, 0) ∧ pz_S 4 (some .boolean) am_r66 7 Q 78 [(3, .int (nI i)), (2, .int 1), (0, .ref 3), (1, .ref 17)] [am_rf (h.2.2.1 3 0)] h from ⟨ex_3 (c_P l.1), ?_⟩)
      rw [ex_r3_0 (h := h) (c_P l.1)]
      refine am_goX 2 (show am_rc h 1 7 ∧ 0 ≤ 8 ∧ h.2.2.2.2 + am_al 61 ≤ 175 ∧ am_call am_cod 7 61 [.ref 1, .int (Int8.ofInt 59).toInt32] h (fun vv h' => pz_S 4 (some .boolean) am_r66 7 Q 83 [(3, .int (nI i)), (2, .int 1), (0, .ref 3), (1, .ref 17)] (vv.toList ++ []) h') from ⟨Or.inl ⟨by decide, ex_1 (c_P l.1)⟩, by decide, ex_lim (c_P l.1) rfl, am_call.up (c_tS (s := s) (by decide) l (fun v215 h216 x217 f218 => ?_)) (by decide)⟩)
      rcases cres_cs x217 with ⟨F219, e221, rfl, y222⟩ | ⟨t220, e221, rfl, y222⟩
      ·
        refine am_goX 1 (show (0 = 0 → pz_S 4 (some .boolean) am_r66 7 Q 90 [(3, .int (nI i)), (2, .int 1), (0, .ref 3), (1, .ref 17)] [] h216) ∧ (¬ (0 = 0) → pz_S 4 (some .boolean) am_r66 7 Q 86 [(3, .int (nI i)), (2, .int 1), (0, .ref 3), (1, .ref 17)] [] h216) from ⟨fun _ => ?_, fun hz => absurd (by decide) hz⟩)
        exact am_goX 2 (show (∃ ty, (some .boolean) = some ty ∧ narrow ty (.int ((Int32.ofInt 0))) = .int ((Int32.ofInt 0))) ∧ h216.2.2.2.2 = 175 ∧ _ from ⟨⟨.boolean, rfl, rfl⟩, ex_175 y222.1, hQ _ _ (cres_inl (F := F219) (by simp only [sp_sl, sp_b, sp_f, cond_true, cond_false, e2, e221, Option.isSome_some, Option.isSome_none, Bool.true_or, Bool.or_true, Bool.or_false, Bool.false_or]) rfl y222)⟩)
      ·
        refine am_goX 1 (show (1 = 0 → pz_S 4 (some .boolean) am_r66 7 Q 90 [(3, .int (nI i)), (2, .int 1), (0, .ref 3), (1, .ref 17)] [] h216) ∧ (¬ (1 = 0) → pz_S 4 (some .boolean) am_r66 7 Q 86 [(3, .int (nI i)), (2, .int 1), (0, .ref 3), (1, .ref 17)] [] h216) from ⟨fun hz => absurd hz (by decide), fun _ => ?_⟩)
        exact am_goX 3 (show (∃ ty, (some .boolean) = some ty ∧ narrow ty (.int ((Int32.ofInt 1))) = .int ((Int32.ofInt 1))) ∧ h216.2.2.2.2 = 175 ∧ _ from ⟨⟨.boolean, rfl, rfl⟩, ex_175 (c_P y222.1), hQ _ _ (cres_inr (s' := t220) (by simp only [sp_sl, sp_b, sp_f, cond_true, cond_false, e2, e221, Option.isSome_some, Option.isSome_none, Bool.true_or, Bool.or_true, Bool.or_false, Bool.false_or]) rfl y222)⟩)
    ·
      have e2 : sp_k (tt T sz) s.1 2 = true := by rw [← hk]; exact decide_eq_true (Decidable.not_not.mp hc)
      clear hc
      refine am_goX 3 (show ((Int16.ofInt 1000).toInt32 ≤ (nI i) → pz_S 4 (some .boolean) am_r66 7 Q 70 [(3, .int (nI i)), (2, .int 1), (0, .ref 3), (1, .ref 17)] [] h) ∧ (¬ ((Int16.ofInt 1000).toInt32 ≤ (nI i)) → pz_S 4 (some .boolean) am_r66 7 Q 58 [(3, .int (nI i)), (2, .int 1), (0, .ref 3), (1, .ref 17)] [] h) from ⟨fun hz => absurd hz (i1000 (by omega)), fun _ => ?_⟩)
      refine am_goX 3 (show am_rc h 3 1 ∧ 0 ≤ 8 ∧ h.2.2.2.2 + am_al 67 ≤ 175 ∧ am_call am_cod 7 67 [.ref 3, .ref 17] h (fun vv h' => pz_S 4 (some .boolean) am_r66 7 Q 63 [(3, .int (nI i)), (2, .int 1), (0, .ref 3), (1, .ref 17)] (vv.toList ++ []) h') from ⟨Or.inl ⟨by decide, ex_3 (c_P l.1)⟩, by decide, ex_lim (c_P l.1) rfl, am_call.up (c_67_17 (s := s) ht l (fun v223 h224 x225 => ?_)) (by decide)⟩)
      rcases cres_cs x225 with ⟨F227, e229, rfl, y230⟩ | ⟨t228, e229, rfl, y230⟩
      ·
        refine am_goX 5 (show 2 < 4 ∧ 3 < 4 ∧ (0 = 0 → pz_S 4 (some .boolean) am_r66 7 Q 70 [(3, .int ((nI i) + Int32.ofInt 1)), (2, .int 0), (0, .ref 3), (1, .ref 17)] [] h224) ∧ (¬ (0 = 0) → pz_S 4 (some .boolean) am_r66 7 Q 40 [(3, .int ((nI i) + Int32.ofInt 1)), (2, .int 0), (0, .ref 3), (1, .ref 17)] [] h224) from ⟨by decide, by decide, fun _ => ?_, fun hz => absurd (by decide) hz⟩)
        refine am_goX 2 (show (0 = 0 → pz_S 4 (some .boolean) am_r66 7 Q 90 [(3, .int ((nI i) + Int32.ofInt 1)), (2, .int 0), (0, .ref 3), (1, .ref 17)] [] h224) ∧ (¬ (0 = 0) → pz_S 4 (some .boolean) am_r66 7 Q 74 [(3, .int ((nI i) + Int32.ofInt 1)), (2, .int 0), (0, .ref 3), (1, .ref 17)] [] h224) from ⟨fun _ => ?_, fun hz => absurd (by decide) hz⟩)
        exact am_goX 2 (show (∃ ty, (some .boolean) = some ty ∧ narrow ty (.int ((Int32.ofInt 0))) = .int ((Int32.ofInt 0))) ∧ h224.2.2.2.2 = 175 ∧ _ from ⟨⟨.boolean, rfl, rfl⟩, ex_175 y230.1, hQ _ _ (cres_inl (F := F227) (by simp only [sp_sl, sp_b, sp_f, cond_true, cond_false, e2, e229, Option.isSome_some, Option.isSome_none, Bool.true_or, Bool.or_true, Bool.or_false, Bool.false_or]) rfl y230)⟩)
      ·
        refine am_goX 3 (show 2 < 4 ∧ 3 < 4 ∧ pz_S 4 (some .boolean) am_r66 7 Q 36 [(3, .int ((nI i) + Int32.ofInt 1)), (2, .int 1), (0, .ref 3), (1, .ref 17)] [] h224 from ⟨by decide, by decide, ?_⟩)
        rw [xw_i1]
        obtain ⟨g1, g2⟩ := sp_sd_inr e229
        have hx : sp_b (sp_sl (tt T sz) (m + 1) s) (sp_tS (tt T sz) (Int8.ofInt 59).toInt32) = sp_b (sp_sl (tt T sz) m t228) (sp_tS (tt T sz) (Int8.ofInt 59).toInt32) := by simp only [sp_sl, sp_b, cond_true, cond_false, e2, e229]
        exact ih (i + 1) t228 h224 Q (by omega) (by omega) (g2.trans ht) y230 (fun v h1 q => hQ v h1 (by rw [hx]; exact q))
theorem c_66_17 (hn : ¬ (tt T sz s.1).1 = 0) (l : cr h0 17 T sz s h) (hQ : ∀ v h1, cres h0 17 T sz (sp_snow (tt T sz) s) v h1 → Q v h1) : am_call am_cod 8 66 [.ref 3, .ref 17] h Q := by
  have hP := c_P l.1
  have d1 : h.1 17 9 = pz_b s.2.2.2.1.1 := l.2.1.2.2.1.1
  refine pz_call (n := 66) (nL := 4) (rt := (some .boolean)) (rows := am_r66) (d := 7) (by decide +kernel) (by decide +kernel) rfl (by funext pc; rfl) (ex_175 hP) (by exact Nat.le_of_ble_eq_true rfl) ?_
  refine am_goX 2 (show am_sh h 17 = some (0, 0) ∧ pz_S 4 (some .boolean) am_r66 7 Q 4 [(0, .ref 3), (1, .ref 17)] [.int (h.1 17 9)] h from ⟨ex_17 (c_P l.1), ?_⟩)
  rw [d1]
  cases e1 : s.2.2.2.1.1 with
  | true =>
    refine am_goX 1 (show ((pz_b (true)) = 0 → pz_S 4 (some .boolean) am_r66 7 Q 16 [(0, .ref 3), (1, .ref 17)] [] h) ∧ (¬ ((pz_b (true)) = 0) → pz_S 4 (some .boolean) am_r66 7 Q 7 [(0, .ref 3), (1, .ref 17)] [] h) from ⟨fun hz => absurd hz (by decide), fun _ => ?_⟩)
    refine am_goX 2 (show am_sh h 3 = some (1, 0) ∧ pz_S 4 (some .boolean) am_r66 7 Q 11 [(0, .ref 3), (1, .ref 17)] [am_rf (h.2.2.1 3 0)] h from ⟨ex_3 (c_P l.1), ?_⟩)
    rw [ex_r3_0 (h := h) (c_P l.1)]
    refine am_goX 2 (show am_rc h 1 7 ∧ 0 ≤ 8 ∧ h.2.2.2.2 + am_al 52 ≤ 175 ∧ am_call am_cod 7 52 [.ref 1, .int (Int32.ofInt 3)] h (fun vv h' => pz_S 4 (some .boolean) am_r66 7 Q 15 [(0, .ref 3), (1, .ref 17)] (vv.toList ++ []) h') from ⟨Or.inl ⟨by decide, ex_1 (c_P l.1)⟩, by decide, ex_lim (c_P l.1) rfl, am_call.up (c_refuse l.1 ?_) (by decide)⟩)
    have x231 := cr_x (s := s) (k := (Int32.ofInt 3)) (by decide) l (by decide)
    exact am_goX 1 (show (∃ ty, (some .boolean) = some ty ∧ narrow ty (.int ((Int32.ofInt 0))) = .int ((Int32.ofInt 0))) ∧ (am_wI h 1 7 (sp_ft (tt T sz) s.1 (Int32.ofInt 3))).2.2.2.2 = 175 ∧ _ from ⟨⟨.boolean, rfl, rfl⟩, ex_175 x231.1, hQ _ _ (cres_inl (F := sp_ft (tt T sz) s.1 (Int32.ofInt 3)) (by simp only [sp_snow, sp_b, sp_f, cond_true, cond_false, e1, Option.isSome_some, Option.isSome_none, Bool.true_or, Bool.or_true, Bool.or_false, Bool.false_or]) rfl x231)⟩)
  | false =>
    refine am_goX 1 (show ((pz_b (false)) = 0 → pz_S 4 (some .boolean) am_r66 7 Q 16 [(0, .ref 3), (1, .ref 17)] [] h) ∧ (¬ ((pz_b (false)) = 0) → pz_S 4 (some .boolean) am_r66 7 Q 7 [(0, .ref 3), (1, .ref 17)] [] h) from ⟨fun _ => ?_, fun hz => absurd (by decide) hz⟩)
    refine am_goX 3 (show am_sh h 17 = some (0, 0) ∧ narrow (am_fty 0 9) (.int ((Int32.ofInt 1))) = .int ((Int32.ofInt 1)) ∧ fits (am_fty 0 9) (.int ((Int32.ofInt 1))) = true ∧ pz_S 4 (some .boolean) am_r66 7 Q 21 [(0, .ref 3), (1, .ref 17)] [] (am_wI h 17 9 ((Int32.ofInt 1))) from ⟨ex_17 (c_P l.1), rfl, rfl, ?_⟩)
    have l232 : cr h0 17 T sz (s.1, sp_cS s.2 true s.2.2.2.1.2) (am_wI h 17 9 1) := cr_S9 (by decide) l
    refine am_goX 2 (show am_sh (am_wI h 17 9 1) 3 = some (1, 0) ∧ pz_S 4 (some .boolean) am_r66 7 Q 25 [(0, .ref 3), (1, .ref 17)] [am_rf ((am_wI h 17 9 1).2.2.1 3 0)] (am_wI h 17 9 1) from ⟨ex_3 (c_P l232.1), ?_⟩)
    rw [ex_r3_0 (h := am_wI h 17 9 1) (c_P l232.1)]
    refine am_goX 1 (show am_rc (am_wI h 17 9 1) 1 7 ∧ 0 ≤ 8 ∧ (am_wI h 17 9 1).2.2.2.2 + am_al 18 ≤ 175 ∧ am_call am_cod 7 18 [.ref 1] (am_wI h 17 9 1) (fun vv h' => pz_S 4 (some .boolean) am_r66 7 Q 28 [(0, .ref 3), (1, .ref 17)] (vv.toList ++ []) h') from ⟨Or.inl ⟨by decide, ex_1 (c_P l232.1)⟩, by decide, ex_lim (c_P l232.1) rfl, am_call.up (c_step l232.1 (hn) (fun h233 m234 f235 => ?_)) (by decide)⟩)
    have l236 : cr h0 17 T sz (s.1 + 1, (sp_cS s.2 true s.2.2.2.1.2)) h233 := cr_fr (a := s.1) (C := (sp_cS s.2 true s.2.2.2.1.2)) (by decide) l232 m234 (Nat.le_succ _) f235
    refine am_goX 3 (show am_rc h233 3 1 ∧ 0 ≤ 8 ∧ h233.2.2.2.2 + am_al 67 ≤ 175 ∧ am_call am_cod 7 67 [.ref 3, .ref 17] h233 (fun vv h' => pz_S 4 (some .boolean) am_r66 7 Q 33 [(0, .ref 3), (1, .ref 17)] (vv.toList ++ []) h') from ⟨Or.inl ⟨by decide, ex_3 (c_P l236.1)⟩, by decide, ex_lim (c_P l236.1) rfl, am_call.up (c_67_17 (s := (s.1 + 1, (sp_cS s.2 true s.2.2.2.1.2))) rfl l236 (fun v237 h238 x239 => ?_)) (by decide)⟩)
    rcases cres_cs x239 with ⟨F241, e243, rfl, y244⟩ | ⟨t242, e243, rfl, y244⟩
    ·
      refine am_goX 5 (show 2 < 4 ∧ 3 < 4 ∧ (0 = 0 → pz_S 4 (some .boolean) am_r66 7 Q 70 [(3, .int (Int32.ofInt 0)), (2, .int 0), (0, .ref 3), (1, .ref 17)] [] h238) ∧ (¬ (0 = 0) → pz_S 4 (some .boolean) am_r66 7 Q 40 [(3, .int (Int32.ofInt 0)), (2, .int 0), (0, .ref 3), (1, .ref 17)] [] h238) from ⟨by decide, by decide, fun _ => ?_, fun hz => absurd (by decide) hz⟩)
      refine am_goX 2 (show (0 = 0 → pz_S 4 (some .boolean) am_r66 7 Q 90 [(3, .int (Int32.ofInt 0)), (2, .int 0), (0, .ref 3), (1, .ref 17)] [] h238) ∧ (¬ (0 = 0) → pz_S 4 (some .boolean) am_r66 7 Q 74 [(3, .int (Int32.ofInt 0)), (2, .int 0), (0, .ref 3), (1, .ref 17)] [] h238) from ⟨fun _ => ?_, fun hz => absurd (by decide) hz⟩)
      exact am_goX 2 (show (∃ ty, (some .boolean) = some ty ∧ narrow ty (.int ((Int32.ofInt 0))) = .int ((Int32.ofInt 0))) ∧ h238.2.2.2.2 = 175 ∧ _ from ⟨⟨.boolean, rfl, rfl⟩, ex_175 y244.1, hQ _ _ (cres_inl (F := F241) (by simp only [sp_snow, sp_b, sp_f, cond_true, cond_false, e1, e243, Option.isSome_some, Option.isSome_none, Bool.true_or, Bool.or_true, Bool.or_false, Bool.false_or]) rfl y244)⟩)
    ·
      refine am_goX 3 (show 2 < 4 ∧ 3 < 4 ∧ pz_S 4 (some .boolean) am_r66 7 Q 36 [(3, .int (Int32.ofInt 0)), (2, .int 1), (0, .ref 3), (1, .ref 17)] [] h238 from ⟨by decide, by decide, ?_⟩)
      obtain ⟨g1, g2⟩ := sp_sd_inr e243
      have ha := cr_a y244
      dsimp only at g1
      exact c_66l_17 1001 0 t242 h238 Q (by omega) (by omega) g2 y244 (fun v h1 q => hQ v h1 (by simp only [sp_snow, sp_b, cond_true, cond_false, e1, e243]; exact q))
theorem c_70_17 (hn : ¬ (tt T sz s.1).1 = 0) (l : cr h0 17 T sz s h) (hQ : ∀ v h1, cres h0 17 T sz (sp_goes (tt T sz) s) v h1 → Q v h1) : am_call am_cod 37 70 [.ref 4, .ref 17] h Q := by
  have hP := c_P l.1
  have d1 : h.1 17 11 = pz_b s.2.2.2.2.1 := l.2.1.2.2.2.1
  refine pz_call (n := 70) (nL := 2) (rt := (some .boolean)) (rows := am_r70) (d := 36) (by decide +kernel) (by decide +kernel) rfl (by funext pc; rfl) (ex_175 hP) (by exact Nat.le_of_ble_eq_true rfl) ?_
  refine am_goX 2 (show am_sh h 17 = some (0, 0) ∧ pz_S 2 (some .boolean) am_r70 36 Q 4 [(0, .ref 4), (1, .ref 17)] [.int (h.1 17 11)] h from ⟨ex_17 (c_P l.1), ?_⟩)
  rw [d1]
  cases e1 : s.2.2.2.2.1 with
  | true =>
    refine am_goX 1 (show ((pz_b (true)) = 0 → pz_S 2 (some .boolean) am_r70 36 Q 16 [(0, .ref 4), (1, .ref 17)] [] h) ∧ (¬ ((pz_b (true)) = 0) → pz_S 2 (some .boolean) am_r70 36 Q 7 [(0, .ref 4), (1, .ref 17)] [] h) from ⟨fun hz => absurd hz (by decide), fun _ => ?_⟩)
    refine am_goX 2 (show am_sh h 4 = some (4, 0) ∧ pz_S 2 (some .boolean) am_r70 36 Q 11 [(0, .ref 4), (1, .ref 17)] [am_rf (h.2.2.1 4 0)] h from ⟨ex_4 (c_P l.1), ?_⟩)
    rw [ex_r4_0 (h := h) (c_P l.1)]
    refine am_goX 2 (show am_rc h 1 7 ∧ 0 ≤ 8 ∧ h.2.2.2.2 + am_al 52 ≤ 175 ∧ am_call am_cod 36 52 [.ref 1, .int (Int32.ofInt 3)] h (fun vv h' => pz_S 2 (some .boolean) am_r70 36 Q 15 [(0, .ref 4), (1, .ref 17)] (vv.toList ++ []) h') from ⟨Or.inl ⟨by decide, ex_1 (c_P l.1)⟩, by decide, ex_lim (c_P l.1) rfl, am_call.up (c_refuse l.1 ?_) (by decide)⟩)
    have x245 := cr_x (s := s) (k := (Int32.ofInt 3)) (by decide) l (by decide)
    exact am_goX 1 (show (∃ ty, (some .boolean) = some ty ∧ narrow ty (.int ((Int32.ofInt 0))) = .int ((Int32.ofInt 0))) ∧ (am_wI h 1 7 (sp_ft (tt T sz) s.1 (Int32.ofInt 3))).2.2.2.2 = 175 ∧ _ from ⟨⟨.boolean, rfl, rfl⟩, ex_175 x245.1, hQ _ _ (cres_inl (F := sp_ft (tt T sz) s.1 (Int32.ofInt 3)) (by simp only [sp_goes, sp_b, sp_f, cond_true, cond_false, e1, Option.isSome_some, Option.isSome_none, Bool.true_or, Bool.or_true, Bool.or_false, Bool.false_or]) rfl x245)⟩)
  | false =>
    refine am_goX 1 (show ((pz_b (false)) = 0 → pz_S 2 (some .boolean) am_r70 36 Q 16 [(0, .ref 4), (1, .ref 17)] [] h) ∧ (¬ ((pz_b (false)) = 0) → pz_S 2 (some .boolean) am_r70 36 Q 7 [(0, .ref 4), (1, .ref 17)] [] h) from ⟨fun _ => ?_, fun hz => absurd (by decide) hz⟩)
    refine am_goX 3 (show am_sh h 17 = some (0, 0) ∧ narrow (am_fty 0 11) (.int ((Int32.ofInt 1))) = .int ((Int32.ofInt 1)) ∧ fits (am_fty 0 11) (.int ((Int32.ofInt 1))) = true ∧ pz_S 2 (some .boolean) am_r70 36 Q 21 [(0, .ref 4), (1, .ref 17)] [] (am_wI h 17 11 ((Int32.ofInt 1))) from ⟨ex_17 (c_P l.1), rfl, rfl, ?_⟩)
    have l246 : cr h0 17 T sz (s.1, sp_cL s.2) (am_wI h 17 11 1) := cr_L (by decide) l
    refine am_goX 2 (show am_sh (am_wI h 17 11 1) 4 = some (4, 0) ∧ pz_S 2 (some .boolean) am_r70 36 Q 25 [(0, .ref 4), (1, .ref 17)] [am_rf ((am_wI h 17 11 1).2.2.1 4 0)] (am_wI h 17 11 1) from ⟨ex_4 (c_P l246.1), ?_⟩)
    rw [ex_r4_0 (h := am_wI h 17 11 1) (c_P l246.1)]
    refine am_goX 1 (show am_rc (am_wI h 17 11 1) 1 7 ∧ 0 ≤ 8 ∧ (am_wI h 17 11 1).2.2.2.2 + am_al 18 ≤ 175 ∧ am_call am_cod 36 18 [.ref 1] (am_wI h 17 11 1) (fun vv h' => pz_S 2 (some .boolean) am_r70 36 Q 28 [(0, .ref 4), (1, .ref 17)] (vv.toList ++ []) h') from ⟨Or.inl ⟨by decide, ex_1 (c_P l246.1)⟩, by decide, ex_lim (c_P l246.1) rfl, am_call.up (c_step l246.1 (hn) (fun h247 m248 f249 => ?_)) (by decide)⟩)
    have l250 : cr h0 17 T sz (s.1 + 1, (sp_cL s.2)) h247 := cr_fr (a := s.1) (C := (sp_cL s.2)) (by decide) l246 m248 (Nat.le_succ _) f249
    refine am_goX 3 (show am_sh h247 17 = some (0, 0) ∧ pz_S 2 (some .boolean) am_r70 36 Q 33 [(0, .ref 4), (1, .ref 17)] [am_rf (h247.2.2.1 17 12), .ref 4] h247 from ⟨ex_17 (c_P l250.1), ?_⟩)
    rw [ex_r17_12 (h := h247) (c_P l250.1)]
    refine am_goX 2 (show am_rc h247 4 4 ∧ 0 ≤ 8 ∧ h247.2.2.2.2 + am_al 71 ≤ 175 ∧ am_call am_cod 36 71 [.ref 4, .ref 25, .int (Int32.ofInt 0)] h247 (fun vv h' => pz_S 2 (some .boolean) am_r70 36 Q 37 [(0, .ref 4), (1, .ref 17)] (vv.toList ++ []) h') from ⟨Or.inl ⟨by decide, ex_4 (c_P l250.1)⟩, by decide, ex_lim (c_P l250.1) rfl, (c_law_17 (Or.inr trivial) 5 (Int32.ofInt 0) (by decide) (by decide)).2 _ _ _ l250 (fun v251 h252 x253 => ?_)⟩)
    rcases cres_cs x253 with ⟨F255, e257, rfl, y258⟩ | ⟨t256, e257, rfl, y258⟩
    ·
      refine am_goX 1 (show (0 = 0 → pz_S 2 (some .boolean) am_r70 36 Q 56 [(0, .ref 4), (1, .ref 17)] [] h252) ∧ (¬ (0 = 0) → pz_S 2 (some .boolean) am_r70 36 Q 40 [(0, .ref 4), (1, .ref 17)] [] h252) from ⟨fun _ => ?_, fun hz => absurd (by decide) hz⟩)
      exact am_goX 2 (show (∃ ty, (some .boolean) = some ty ∧ narrow ty (.int ((Int32.ofInt 0))) = .int ((Int32.ofInt 0))) ∧ h252.2.2.2.2 = 175 ∧ _ from ⟨⟨.boolean, rfl, rfl⟩, ex_175 y258.1, hQ _ _ (cres_inl (F := F255) (by simp only [sp_goes, sp_b, sp_f, cond_true, cond_false, e1, e257, Option.isSome_some, Option.isSome_none, Bool.true_or, Bool.or_true, Bool.or_false, Bool.false_or]) rfl y258)⟩)
    ·
      refine am_goX 1 (show (1 = 0 → pz_S 2 (some .boolean) am_r70 36 Q 56 [(0, .ref 4), (1, .ref 17)] [] h252) ∧ (¬ (1 = 0) → pz_S 2 (some .boolean) am_r70 36 Q 40 [(0, .ref 4), (1, .ref 17)] [] h252) from ⟨fun hz => absurd hz (by decide), fun _ => ?_⟩)
      refine am_goX 2 (show am_sh h252 4 = some (4, 0) ∧ pz_S 2 (some .boolean) am_r70 36 Q 44 [(0, .ref 4), (1, .ref 17)] [am_rf (h252.2.2.1 4 0)] h252 from ⟨ex_4 (c_P y258.1), ?_⟩)
      rw [ex_r4_0 (h := h252) (c_P y258.1)]
      refine am_goX 2 (show am_rc h252 1 7 ∧ 0 ≤ 8 ∧ h252.2.2.2.2 + am_al 61 ≤ 175 ∧ am_call am_cod 36 61 [.ref 1, .int (Int8.ofInt 59).toInt32] h252 (fun vv h' => pz_S 2 (some .boolean) am_r70 36 Q 49 [(0, .ref 4), (1, .ref 17)] (vv.toList ++ []) h') from ⟨Or.inl ⟨by decide, ex_1 (c_P y258.1)⟩, by decide, ex_lim (c_P y258.1) rfl, am_call.up (c_tS (s := t256) (by decide) y258 (fun v259 h260 x261 f262 => ?_)) (by decide)⟩)
      rcases cres_cs x261 with ⟨F263, e265, rfl, y266⟩ | ⟨t264, e265, rfl, y266⟩
      ·
        refine am_goX 1 (show (0 = 0 → pz_S 2 (some .boolean) am_r70 36 Q 56 [(0, .ref 4), (1, .ref 17)] [] h260) ∧ (¬ (0 = 0) → pz_S 2 (some .boolean) am_r70 36 Q 52 [(0, .ref 4), (1, .ref 17)] [] h260) from ⟨fun _ => ?_, fun hz => absurd (by decide) hz⟩)
        exact am_goX 2 (show (∃ ty, (some .boolean) = some ty ∧ narrow ty (.int ((Int32.ofInt 0))) = .int ((Int32.ofInt 0))) ∧ h260.2.2.2.2 = 175 ∧ _ from ⟨⟨.boolean, rfl, rfl⟩, ex_175 y266.1, hQ _ _ (cres_inl (F := F263) (by simp only [sp_goes, sp_b, sp_f, cond_true, cond_false, e1, e257, e265, Option.isSome_some, Option.isSome_none, Bool.true_or, Bool.or_true, Bool.or_false, Bool.false_or]) rfl y266)⟩)
      ·
        refine am_goX 1 (show (1 = 0 → pz_S 2 (some .boolean) am_r70 36 Q 56 [(0, .ref 4), (1, .ref 17)] [] h260) ∧ (¬ (1 = 0) → pz_S 2 (some .boolean) am_r70 36 Q 52 [(0, .ref 4), (1, .ref 17)] [] h260) from ⟨fun hz => absurd hz (by decide), fun _ => ?_⟩)
        exact am_goX 3 (show (∃ ty, (some .boolean) = some ty ∧ narrow ty (.int ((Int32.ofInt 1))) = .int ((Int32.ofInt 1))) ∧ h260.2.2.2.2 = 175 ∧ _ from ⟨⟨.boolean, rfl, rfl⟩, ex_175 (c_P y266.1), hQ _ _ (cres_inr (s' := t264) (by simp only [sp_goes, sp_b, sp_f, cond_true, cond_false, e1, e257, e265, Option.isSome_some, Option.isSome_none, Bool.true_or, Bool.or_true, Bool.or_false, Bool.false_or]) rfl y266)⟩)
theorem c_43_17 (l : cr h0 17 T sz s h) (hQ : ∀ v h1, cres h0 17 T sz (sp_line (tt T sz) s) v h1 → Q v h1) : am_call am_cod 38 43 [.ref 3, .ref 17] h Q := by
  have hP := c_P l.1
  refine pz_call (n := 43) (nL := 2) (rt := (some .boolean)) (rows := am_r43) (d := 37) (by decide +kernel) (by decide +kernel) rfl (by funext pc; rfl) (ex_175 hP) (by exact Nat.le_of_ble_eq_true rfl) ?_
  refine am_goX 2 (show am_sh h 3 = some (1, 0) ∧ pz_S 2 (some .boolean) am_r43 37 Q 4 [(0, .ref 3), (1, .ref 17)] [am_rf (h.2.2.1 3 0)] h from ⟨ex_3 (c_P l.1), ?_⟩)
  rw [ex_r3_0 (h := h) (c_P l.1)]
  refine am_goX 2 (show am_rc h 1 7 ∧ 0 ≤ 8 ∧ h.2.2.2.2 + am_al 44 ≤ 175 ∧ am_call am_cod 37 44 [.ref 1, .ref (4000000 + 1)] h (fun vv h' => pz_S 2 (some .boolean) am_r43 37 Q 9 [(0, .ref 3), (1, .ref 17)] (vv.toList ++ []) h') from ⟨Or.inl ⟨by decide, ex_1 (c_P l.1)⟩, by decide, ex_lim (c_P l.1) rfl, am_call.up (c_isw (by decide) wq_1 l.1 ?_) (by decide)⟩)
  cases e267 : sp_w (tt T sz) s.1 1119812451 with
  | true =>
    refine am_goX 1 (show ((pz_b (true)) = 0 → pz_S 2 (some .boolean) am_r43 37 Q 18 [(0, .ref 3), (1, .ref 17)] [] h) ∧ (¬ ((pz_b (true)) = 0) → pz_S 2 (some .boolean) am_r43 37 Q 12 [(0, .ref 3), (1, .ref 17)] [] h) from ⟨fun hz => absurd hz (by decide), fun _ => ?_⟩)
    refine am_goX 3 (show am_rc h 3 1 ∧ 0 ≤ 8 ∧ h.2.2.2.2 + am_al 51 ≤ 175 ∧ am_call am_cod 37 51 [.ref 3, .ref 17] h (fun vv h' => pz_S 2 (some .boolean) am_r43 37 Q 17 [(0, .ref 3), (1, .ref 17)] (vv.toList ++ []) h') from ⟨Or.inl ⟨by decide, ex_3 (c_P l.1)⟩, by decide, ex_lim (c_P l.1) rfl, am_call.up (c_51_17 (sp_wn e267) l (fun v268 h269 x270 => ?_)) (by decide)⟩)
    rcases cres_cs x270 with ⟨F272, e274, rfl, y275⟩ | ⟨t273, e274, rfl, y275⟩
    ·
      exact am_goX 1 (show (∃ ty, (some .boolean) = some ty ∧ narrow ty (.int (0)) = .int (0)) ∧ h269.2.2.2.2 = 175 ∧ _ from ⟨⟨.boolean, rfl, rfl⟩, ex_175 y275.1, hQ _ _ (cres_inl (F := F272) (by simp only [sp_line, sp_b, sp_f, cond_true, cond_false, e267, e274, Option.isSome_some, Option.isSome_none, Bool.true_or, Bool.or_true, Bool.or_false, Bool.false_or]) rfl y275)⟩)
    ·
      exact am_goX 1 (show (∃ ty, (some .boolean) = some ty ∧ narrow ty (.int (1)) = .int (1)) ∧ h269.2.2.2.2 = 175 ∧ _ from ⟨⟨.boolean, rfl, rfl⟩, ex_175 (c_P y275.1), hQ _ _ (cres_inr (s' := t273) (by simp only [sp_line, sp_b, sp_f, cond_true, cond_false, e267, e274, Option.isSome_some, Option.isSome_none, Bool.true_or, Bool.or_true, Bool.or_false, Bool.false_or]) rfl y275)⟩)
  | false =>
    refine am_goX 1 (show ((pz_b (false)) = 0 → pz_S 2 (some .boolean) am_r43 37 Q 18 [(0, .ref 3), (1, .ref 17)] [] h) ∧ (¬ ((pz_b (false)) = 0) → pz_S 2 (some .boolean) am_r43 37 Q 12 [(0, .ref 3), (1, .ref 17)] [] h) from ⟨fun _ => ?_, fun hz => absurd (by decide) hz⟩)
    refine am_goX 2 (show am_sh h 3 = some (1, 0) ∧ pz_S 2 (some .boolean) am_r43 37 Q 22 [(0, .ref 3), (1, .ref 17)] [am_rf (h.2.2.1 3 0)] h from ⟨ex_3 (c_P l.1), ?_⟩)
    rw [ex_r3_0 (h := h) (c_P l.1)]
    refine am_goX 2 (show am_rc h 1 7 ∧ 0 ≤ 8 ∧ h.2.2.2.2 + am_al 44 ≤ 175 ∧ am_call am_cod 37 44 [.ref 1, .ref (4000000 + 8)] h (fun vv h' => pz_S 2 (some .boolean) am_r43 37 Q 27 [(0, .ref 3), (1, .ref 17)] (vv.toList ++ []) h') from ⟨Or.inl ⟨by decide, ex_1 (c_P l.1)⟩, by decide, ex_lim (c_P l.1) rfl, am_call.up (c_isw (by decide) wq_8 l.1 ?_) (by decide)⟩)
    cases e276 : sp_w (tt T sz) s.1 10492554 with
    | true =>
      refine am_goX 1 (show ((pz_b (true)) = 0 → pz_S 2 (some .boolean) am_r43 37 Q 36 [(0, .ref 3), (1, .ref 17)] [] h) ∧ (¬ ((pz_b (true)) = 0) → pz_S 2 (some .boolean) am_r43 37 Q 30 [(0, .ref 3), (1, .ref 17)] [] h) from ⟨fun hz => absurd hz (by decide), fun _ => ?_⟩)
      refine am_goX 3 (show am_rc h 3 1 ∧ 0 ≤ 8 ∧ h.2.2.2.2 + am_al 63 ≤ 175 ∧ am_call am_cod 37 63 [.ref 3, .ref 17] h (fun vv h' => pz_S 2 (some .boolean) am_r43 37 Q 35 [(0, .ref 3), (1, .ref 17)] (vv.toList ++ []) h') from ⟨Or.inl ⟨by decide, ex_3 (c_P l.1)⟩, by decide, ex_lim (c_P l.1) rfl, am_call.up (c_63_17 (sp_wn e276) l (fun v277 h278 x279 => ?_)) (by decide)⟩)
      rcases cres_cs x279 with ⟨F281, e283, rfl, y284⟩ | ⟨t282, e283, rfl, y284⟩
      ·
        exact am_goX 1 (show (∃ ty, (some .boolean) = some ty ∧ narrow ty (.int (0)) = .int (0)) ∧ h278.2.2.2.2 = 175 ∧ _ from ⟨⟨.boolean, rfl, rfl⟩, ex_175 y284.1, hQ _ _ (cres_inl (F := F281) (by simp only [sp_line, sp_b, sp_f, cond_true, cond_false, e267, e276, e283, Option.isSome_some, Option.isSome_none, Bool.true_or, Bool.or_true, Bool.or_false, Bool.false_or]) rfl y284)⟩)
      ·
        exact am_goX 1 (show (∃ ty, (some .boolean) = some ty ∧ narrow ty (.int (1)) = .int (1)) ∧ h278.2.2.2.2 = 175 ∧ _ from ⟨⟨.boolean, rfl, rfl⟩, ex_175 (c_P y284.1), hQ _ _ (cres_inr (s' := t282) (by simp only [sp_line, sp_b, sp_f, cond_true, cond_false, e267, e276, e283, Option.isSome_some, Option.isSome_none, Bool.true_or, Bool.or_true, Bool.or_false, Bool.false_or]) rfl y284)⟩)
    | false =>
      refine am_goX 1 (show ((pz_b (false)) = 0 → pz_S 2 (some .boolean) am_r43 37 Q 36 [(0, .ref 3), (1, .ref 17)] [] h) ∧ (¬ ((pz_b (false)) = 0) → pz_S 2 (some .boolean) am_r43 37 Q 30 [(0, .ref 3), (1, .ref 17)] [] h) from ⟨fun _ => ?_, fun hz => absurd (by decide) hz⟩)
      refine am_goX 2 (show am_sh h 3 = some (1, 0) ∧ pz_S 2 (some .boolean) am_r43 37 Q 40 [(0, .ref 3), (1, .ref 17)] [am_rf (h.2.2.1 3 0)] h from ⟨ex_3 (c_P l.1), ?_⟩)
      rw [ex_r3_0 (h := h) (c_P l.1)]
      refine am_goX 2 (show am_rc h 1 7 ∧ 0 ≤ 8 ∧ h.2.2.2.2 + am_al 44 ≤ 175 ∧ am_call am_cod 37 44 [.ref 1, .ref (4000000 + 11)] h (fun vv h' => pz_S 2 (some .boolean) am_r43 37 Q 45 [(0, .ref 3), (1, .ref 17)] (vv.toList ++ []) h') from ⟨Or.inl ⟨by decide, ex_1 (c_P l.1)⟩, by decide, ex_lim (c_P l.1) rfl, am_call.up (c_isw (by decide) wq_11 l.1 ?_) (by decide)⟩)
      cases e285 : sp_w (tt T sz) s.1 6400279 with
      | true =>
        refine am_goX 1 (show ((pz_b (true)) = 0 → pz_S 2 (some .boolean) am_r43 37 Q 54 [(0, .ref 3), (1, .ref 17)] [] h) ∧ (¬ ((pz_b (true)) = 0) → pz_S 2 (some .boolean) am_r43 37 Q 48 [(0, .ref 3), (1, .ref 17)] [] h) from ⟨fun hz => absurd hz (by decide), fun _ => ?_⟩)
        refine am_goX 3 (show am_rc h 3 1 ∧ 0 ≤ 8 ∧ h.2.2.2.2 + am_al 64 ≤ 175 ∧ am_call am_cod 37 64 [.ref 3, .ref 17] h (fun vv h' => pz_S 2 (some .boolean) am_r43 37 Q 53 [(0, .ref 3), (1, .ref 17)] (vv.toList ++ []) h') from ⟨Or.inl ⟨by decide, ex_3 (c_P l.1)⟩, by decide, ex_lim (c_P l.1) rfl, am_call.up (c_64_17 (sp_wn e285) l (fun v286 h287 x288 => ?_)) (by decide)⟩)
        rcases cres_cs x288 with ⟨F290, e292, rfl, y293⟩ | ⟨t291, e292, rfl, y293⟩
        ·
          exact am_goX 1 (show (∃ ty, (some .boolean) = some ty ∧ narrow ty (.int (0)) = .int (0)) ∧ h287.2.2.2.2 = 175 ∧ _ from ⟨⟨.boolean, rfl, rfl⟩, ex_175 y293.1, hQ _ _ (cres_inl (F := F290) (by simp only [sp_line, sp_b, sp_f, cond_true, cond_false, e267, e276, e285, e292, Option.isSome_some, Option.isSome_none, Bool.true_or, Bool.or_true, Bool.or_false, Bool.false_or]) rfl y293)⟩)
        ·
          exact am_goX 1 (show (∃ ty, (some .boolean) = some ty ∧ narrow ty (.int (1)) = .int (1)) ∧ h287.2.2.2.2 = 175 ∧ _ from ⟨⟨.boolean, rfl, rfl⟩, ex_175 (c_P y293.1), hQ _ _ (cres_inr (s' := t291) (by simp only [sp_line, sp_b, sp_f, cond_true, cond_false, e267, e276, e285, e292, Option.isSome_some, Option.isSome_none, Bool.true_or, Bool.or_true, Bool.or_false, Bool.false_or]) rfl y293)⟩)
      | false =>
        refine am_goX 1 (show ((pz_b (false)) = 0 → pz_S 2 (some .boolean) am_r43 37 Q 54 [(0, .ref 3), (1, .ref 17)] [] h) ∧ (¬ ((pz_b (false)) = 0) → pz_S 2 (some .boolean) am_r43 37 Q 48 [(0, .ref 3), (1, .ref 17)] [] h) from ⟨fun _ => ?_, fun hz => absurd (by decide) hz⟩)
        refine am_goX 2 (show am_sh h 3 = some (1, 0) ∧ pz_S 2 (some .boolean) am_r43 37 Q 58 [(0, .ref 3), (1, .ref 17)] [am_rf (h.2.2.1 3 0)] h from ⟨ex_3 (c_P l.1), ?_⟩)
        rw [ex_r3_0 (h := h) (c_P l.1)]
        refine am_goX 2 (show am_rc h 1 7 ∧ 0 ≤ 8 ∧ h.2.2.2.2 + am_al 44 ≤ 175 ∧ am_call am_cod 37 44 [.ref 1, .ref (4000000 + 12)] h (fun vv h' => pz_S 2 (some .boolean) am_r43 37 Q 63 [(0, .ref 3), (1, .ref 17)] (vv.toList ++ []) h') from ⟨Or.inl ⟨by decide, ex_1 (c_P l.1)⟩, by decide, ex_lim (c_P l.1) rfl, am_call.up (c_isw (by decide) wq_12 l.1 ?_) (by decide)⟩)
        cases e294 : sp_w (tt T sz) s.1 982151 with
        | true =>
          refine am_goX 1 (show ((pz_b (true)) = 0 → pz_S 2 (some .boolean) am_r43 37 Q 72 [(0, .ref 3), (1, .ref 17)] [] h) ∧ (¬ ((pz_b (true)) = 0) → pz_S 2 (some .boolean) am_r43 37 Q 66 [(0, .ref 3), (1, .ref 17)] [] h) from ⟨fun hz => absurd hz (by decide), fun _ => ?_⟩)
          refine am_goX 3 (show am_rc h 3 1 ∧ 0 ≤ 8 ∧ h.2.2.2.2 + am_al 66 ≤ 175 ∧ am_call am_cod 37 66 [.ref 3, .ref 17] h (fun vv h' => pz_S 2 (some .boolean) am_r43 37 Q 71 [(0, .ref 3), (1, .ref 17)] (vv.toList ++ []) h') from ⟨Or.inl ⟨by decide, ex_3 (c_P l.1)⟩, by decide, ex_lim (c_P l.1) rfl, am_call.up (c_66_17 (sp_wn e294) l (fun v295 h296 x297 => ?_)) (by decide)⟩)
          rcases cres_cs x297 with ⟨F299, e301, rfl, y302⟩ | ⟨t300, e301, rfl, y302⟩
          ·
            exact am_goX 1 (show (∃ ty, (some .boolean) = some ty ∧ narrow ty (.int (0)) = .int (0)) ∧ h296.2.2.2.2 = 175 ∧ _ from ⟨⟨.boolean, rfl, rfl⟩, ex_175 y302.1, hQ _ _ (cres_inl (F := F299) (by simp only [sp_line, sp_b, sp_f, cond_true, cond_false, e267, e276, e285, e294, e301, Option.isSome_some, Option.isSome_none, Bool.true_or, Bool.or_true, Bool.or_false, Bool.false_or]) rfl y302)⟩)
          ·
            exact am_goX 1 (show (∃ ty, (some .boolean) = some ty ∧ narrow ty (.int (1)) = .int (1)) ∧ h296.2.2.2.2 = 175 ∧ _ from ⟨⟨.boolean, rfl, rfl⟩, ex_175 (c_P y302.1), hQ _ _ (cres_inr (s' := t300) (by simp only [sp_line, sp_b, sp_f, cond_true, cond_false, e267, e276, e285, e294, e301, Option.isSome_some, Option.isSome_none, Bool.true_or, Bool.or_true, Bool.or_false, Bool.false_or]) rfl y302)⟩)
        | false =>
          refine am_goX 1 (show ((pz_b (false)) = 0 → pz_S 2 (some .boolean) am_r43 37 Q 72 [(0, .ref 3), (1, .ref 17)] [] h) ∧ (¬ ((pz_b (false)) = 0) → pz_S 2 (some .boolean) am_r43 37 Q 66 [(0, .ref 3), (1, .ref 17)] [] h) from ⟨fun _ => ?_, fun hz => absurd (by decide) hz⟩)
          refine am_goX 2 (show am_sh h 3 = some (1, 0) ∧ pz_S 2 (some .boolean) am_r43 37 Q 76 [(0, .ref 3), (1, .ref 17)] [am_rf (h.2.2.1 3 0)] h from ⟨ex_3 (c_P l.1), ?_⟩)
          rw [ex_r3_0 (h := h) (c_P l.1)]
          refine am_goX 2 (show am_rc h 1 7 ∧ 0 ≤ 8 ∧ h.2.2.2.2 + am_al 44 ≤ 175 ∧ am_call am_cod 37 44 [.ref 1, .ref (4000000 + 13)] h (fun vv h' => pz_S 2 (some .boolean) am_r43 37 Q 81 [(0, .ref 3), (1, .ref 17)] (vv.toList ++ []) h') from ⟨Or.inl ⟨by decide, ex_1 (c_P l.1)⟩, by decide, ex_lim (c_P l.1) rfl, am_call.up (c_isw (by decide) wq_13 l.1 ?_) (by decide)⟩)
          cases e303 : sp_w (tt T sz) s.1 375310 with
          | true =>
            refine am_goX 1 (show ((pz_b (true)) = 0 → pz_S 2 (some .boolean) am_r43 37 Q 93 [(0, .ref 3), (1, .ref 17)] [] h) ∧ (¬ ((pz_b (true)) = 0) → pz_S 2 (some .boolean) am_r43 37 Q 84 [(0, .ref 3), (1, .ref 17)] [] h) from ⟨fun hz => absurd hz (by decide), fun _ => ?_⟩)
            refine am_goX 2 (show am_sh h 3 = some (1, 0) ∧ pz_S 2 (some .boolean) am_r43 37 Q 88 [(0, .ref 3), (1, .ref 17)] [am_rf (h.2.2.1 3 1)] h from ⟨ex_3 (c_P l.1), ?_⟩)
            rw [ex_r3_1 (h := h) (c_P l.1)]
            refine am_goX 2 (show am_rc h 4 4 ∧ 0 ≤ 8 ∧ h.2.2.2.2 + am_al 70 ≤ 175 ∧ am_call am_cod 37 70 [.ref 4, .ref 17] h (fun vv h' => pz_S 2 (some .boolean) am_r43 37 Q 92 [(0, .ref 3), (1, .ref 17)] (vv.toList ++ []) h') from ⟨Or.inl ⟨by decide, ex_4 (c_P l.1)⟩, by decide, ex_lim (c_P l.1) rfl, am_call.up (c_70_17 (sp_wn e303) l (fun v304 h305 x306 => ?_)) (by decide)⟩)
            rcases cres_cs x306 with ⟨F308, e310, rfl, y311⟩ | ⟨t309, e310, rfl, y311⟩
            ·
              exact am_goX 1 (show (∃ ty, (some .boolean) = some ty ∧ narrow ty (.int (0)) = .int (0)) ∧ h305.2.2.2.2 = 175 ∧ _ from ⟨⟨.boolean, rfl, rfl⟩, ex_175 y311.1, hQ _ _ (cres_inl (F := F308) (by simp only [sp_line, sp_b, sp_f, cond_true, cond_false, e267, e276, e285, e294, e303, e310, Option.isSome_some, Option.isSome_none, Bool.true_or, Bool.or_true, Bool.or_false, Bool.false_or]) rfl y311)⟩)
            ·
              exact am_goX 1 (show (∃ ty, (some .boolean) = some ty ∧ narrow ty (.int (1)) = .int (1)) ∧ h305.2.2.2.2 = 175 ∧ _ from ⟨⟨.boolean, rfl, rfl⟩, ex_175 (c_P y311.1), hQ _ _ (cres_inr (s' := t309) (by simp only [sp_line, sp_b, sp_f, cond_true, cond_false, e267, e276, e285, e294, e303, e310, Option.isSome_some, Option.isSome_none, Bool.true_or, Bool.or_true, Bool.or_false, Bool.false_or]) rfl y311)⟩)
          | false =>
            refine am_goX 1 (show ((pz_b (false)) = 0 → pz_S 2 (some .boolean) am_r43 37 Q 93 [(0, .ref 3), (1, .ref 17)] [] h) ∧ (¬ ((pz_b (false)) = 0) → pz_S 2 (some .boolean) am_r43 37 Q 84 [(0, .ref 3), (1, .ref 17)] [] h) from ⟨fun _ => ?_, fun hz => absurd (by decide) hz⟩)
            refine am_goX 2 (show am_sh h 3 = some (1, 0) ∧ pz_S 2 (some .boolean) am_r43 37 Q 97 [(0, .ref 3), (1, .ref 17)] [am_rf (h.2.2.1 3 0)] h from ⟨ex_3 (c_P l.1), ?_⟩)
            rw [ex_r3_0 (h := h) (c_P l.1)]
            refine am_goX 2 (show am_rc h 1 7 ∧ 0 ≤ 8 ∧ h.2.2.2.2 + am_al 52 ≤ 175 ∧ am_call am_cod 37 52 [.ref 1, .int (Int32.ofInt 1)] h (fun vv h' => pz_S 2 (some .boolean) am_r43 37 Q 101 [(0, .ref 3), (1, .ref 17)] (vv.toList ++ []) h') from ⟨Or.inl ⟨by decide, ex_1 (c_P l.1)⟩, by decide, ex_lim (c_P l.1) rfl, am_call.up (c_refuse l.1 ?_) (by decide)⟩)
            have x312 := cr_x (s := s) (k := (Int32.ofInt 1)) (by decide) l (by decide)
            exact am_goX 1 (show (∃ ty, (some .boolean) = some ty ∧ narrow ty (.int ((Int32.ofInt 0))) = .int ((Int32.ofInt 0))) ∧ (am_wI h 1 7 (sp_ft (tt T sz) s.1 (Int32.ofInt 1))).2.2.2.2 = 175 ∧ _ from ⟨⟨.boolean, rfl, rfl⟩, ex_175 x312.1, hQ _ _ (cres_inl (F := sp_ft (tt T sz) s.1 (Int32.ofInt 1)) (by simp only [sp_line, sp_b, sp_f, cond_true, cond_false, e267, e276, e285, e294, e303, Option.isSome_some, Option.isSome_none, Bool.true_or, Bool.or_true, Bool.or_false, Bool.false_or]) rfl x312)⟩)
def cl_h_17 (h : am_H) : am_H := am_wI (am_wI (am_wI (am_wI (am_wI (am_wI h 17 0 0) 17 4 0) 17 9 0) 17 10 0) 17 11 0) 25 2 0
theorem c_16_17 (hP : ex_P h) (hQ : Q none (cl_h_17 h)) : am_call am_cod 1 16 [.ref 17] h Q := by
  refine pz_call (n := 16) (nL := 1) (rt := none) (rows := am_r16) (d := 0) (by decide +kernel) (by decide +kernel) rfl (by funext pc; rfl) (ex_175 hP) (by exact Nat.le_of_ble_eq_true rfl) ?_
  refine am_goX 3 (show am_sh h 17 = some (0, 0) ∧ narrow (am_fty 0 0) (.int ((Int32.ofInt 0))) = .int ((Int32.ofInt 0)) ∧ fits (am_fty 0 0) (.int ((Int32.ofInt 0))) = true ∧ pz_S 1 none am_r16 0 Q 5 [(0, .ref 17)] [] (am_wI h 17 0 ((Int32.ofInt 0))) from ⟨ex_17 hP, rfl, rfl, ?_⟩)
  refine am_goX 3 (show am_sh (am_wI h 17 0 (0)) 17 = some (0, 0) ∧ narrow (am_fty 0 4) (.int ((Int32.ofInt 0))) = .int ((Int32.ofInt 0)) ∧ fits (am_fty 0 4) (.int ((Int32.ofInt 0))) = true ∧ pz_S 1 none am_r16 0 Q 10 [(0, .ref 17)] [] (am_wI (am_wI h 17 0 (0)) 17 4 ((Int32.ofInt 0))) from ⟨ex_17 hP, rfl, rfl, ?_⟩)
  refine am_goX 3 (show am_sh (am_wI (am_wI h 17 0 (0)) 17 4 (0)) 17 = some (0, 0) ∧ narrow (am_fty 0 9) (.int ((Int32.ofInt 0))) = .int ((Int32.ofInt 0)) ∧ fits (am_fty 0 9) (.int ((Int32.ofInt 0))) = true ∧ pz_S 1 none am_r16 0 Q 15 [(0, .ref 17)] [] (am_wI (am_wI (am_wI h 17 0 (0)) 17 4 (0)) 17 9 ((Int32.ofInt 0))) from ⟨ex_17 hP, rfl, rfl, ?_⟩)
  refine am_goX 3 (show am_sh (am_wI (am_wI (am_wI h 17 0 (0)) 17 4 (0)) 17 9 (0)) 17 = some (0, 0) ∧ narrow (am_fty 0 10) (.int ((Int32.ofInt 0))) = .int ((Int32.ofInt 0)) ∧ fits (am_fty 0 10) (.int ((Int32.ofInt 0))) = true ∧ pz_S 1 none am_r16 0 Q 20 [(0, .ref 17)] [] (am_wI (am_wI (am_wI (am_wI h 17 0 (0)) 17 4 (0)) 17 9 (0)) 17 10 ((Int32.ofInt 0))) from ⟨ex_17 hP, rfl, rfl, ?_⟩)
  refine am_goX 3 (show am_sh (am_wI (am_wI (am_wI (am_wI h 17 0 (0)) 17 4 (0)) 17 9 (0)) 17 10 (0)) 17 = some (0, 0) ∧ narrow (am_fty 0 11) (.int ((Int32.ofInt 0))) = .int ((Int32.ofInt 0)) ∧ fits (am_fty 0 11) (.int ((Int32.ofInt 0))) = true ∧ pz_S 1 none am_r16 0 Q 25 [(0, .ref 17)] [] (am_wI (am_wI (am_wI (am_wI (am_wI h 17 0 (0)) 17 4 (0)) 17 9 (0)) 17 10 (0)) 17 11 ((Int32.ofInt 0))) from ⟨ex_17 hP, rfl, rfl, ?_⟩)
  refine am_goX 2 (show am_sh (am_wI (am_wI (am_wI (am_wI (am_wI h 17 0 (0)) 17 4 (0)) 17 9 (0)) 17 10 (0)) 17 11 (0)) 17 = some (0, 0) ∧ pz_S 1 none am_r16 0 Q 29 [(0, .ref 17)] [am_rf ((am_wI (am_wI (am_wI (am_wI (am_wI h 17 0 (0)) 17 4 (0)) 17 9 (0)) 17 10 (0)) 17 11 (0)).2.2.1 17 12)] (am_wI (am_wI (am_wI (am_wI (am_wI h 17 0 (0)) 17 4 (0)) 17 9 (0)) 17 10 (0)) 17 11 (0)) from ⟨ex_17 hP, ?_⟩)
  rw [ex_r17_12 (h := am_wI (am_wI (am_wI (am_wI (am_wI h 17 0 (0)) 17 4 (0)) 17 9 (0)) 17 10 (0)) 17 11 (0)) hP]
  refine am_goX 2 (show am_sh (am_wI (am_wI (am_wI (am_wI (am_wI h 17 0 (0)) 17 4 (0)) 17 9 (0)) 17 10 (0)) 17 11 (0)) 25 = some (3, 0) ∧ narrow (am_fty 3 2) (.int ((Int32.ofInt 0))) = .int ((Int32.ofInt 0)) ∧ fits (am_fty 3 2) (.int ((Int32.ofInt 0))) = true ∧ pz_S 1 none am_r16 0 Q 33 [(0, .ref 17)] [] (am_wI (am_wI (am_wI (am_wI (am_wI (am_wI h 17 0 (0)) 17 4 (0)) 17 9 (0)) 17 10 (0)) 17 11 (0)) 25 2 ((Int32.ofInt 0))) from ⟨ex_25 hP, rfl, rfl, ?_⟩)
  exact am_goX 1 (show (none : Option FieldType) = none ∧ (cl_h_17 h).2.2.2.2 = 175 ∧ _ from ⟨rfl, ex_175 hP, hQ⟩)
theorem cl_c_17 (hz : sz ≤ 1000) (hch : ∀ q, q < sz → 0 ≤ (T q).toInt ∧ (T q).toInt ≤ 126) {h1 : am_H} (t : c_t T sz 0 h1) (f : fr1 (cl_h_17 h) h1) : cr h 17 T sz (0, sp_C0) h1 := by
  refine ⟨t, c_c_fr (by decide) (h := cl_h_17 h) ?_ f, c_q_fr (h := cl_h_17 h) ?_ f, Nat.zero_le _⟩
  · exact ⟨⟨rfl, by decide, fun i hi => absurd hi (Nat.not_lt_zero i)⟩, ⟨rfl, by decide, fun i hi => absurd hi (Nat.not_lt_zero i)⟩, ⟨rfl, rfl, fun _ => rfl, (by unfold sp_28; decide)⟩, ⟨rfl, rfl, by decide, fun i hi => absurd hi (Nat.not_lt_zero i)⟩⟩
  · refine ⟨rfl, fun o k ho => ⟨?_, rfl⟩⟩
    have h1 : ¬ o = 17 := fun z => ho (Or.inr (by omega))
    have h2 : ¬ o = 25 := fun z => ho (Or.inr (by omega))
    unfold cl_h_17
    rw [em_wn _ _ (by omega), em_wn _ _ (by omega), em_wn _ _ (by omega), em_wn _ _ (by omega), em_wn _ _ (by omega), em_wn _ _ (by omega)]
theorem c_15l_17 : ∀ (m i : Nat) (s : sp_S) (h : am_H) (Q : am_Q), sz < s.1 + m → i ≤ s.1 → cr h0 17 T sz s h → (∀ h1, cfin h0 17 T sz (sp_all (tt T sz) m s) h1 → Q (some (.int (sp_ans (sp_all (tt T sz) m s)))) h1) → pz_S 4 (some .int) am_r15 38 Q 15 [(3, .int (nI i)), (2, .int 1), (0, .ref 3), (1, .ref 17)] [] h := by
  intro m
  induction m with
  | zero =>
    intro i s h Q hm hi l hQ
    have := (cr_a l).1
    omega
  | succ m ih =>
    intro i s h Q hm hi l hQ
    have ha := cr_a l
    have hk := ck_4 T sz s.1
    have hf : h.1 1 7 = 0 := l.1.2.2.2.1
    refine am_goX 2 (show (1 = 0 → pz_S 4 (some .int) am_r15 38 Q 49 [(3, .int (nI i)), (2, .int 1), (0, .ref 3), (1, .ref 17)] [] h) ∧ (¬ (1 = 0) → pz_S 4 (some .int) am_r15 38 Q 19 [(3, .int (nI i)), (2, .int 1), (0, .ref 3), (1, .ref 17)] [] h) from ⟨fun hz => absurd hz (by decide), fun _ => ?_⟩)
    refine am_goX 2 (show am_sh h 3 = some (1, 0) ∧ pz_S 4 (some .int) am_r15 38 Q 23 [(3, .int (nI i)), (2, .int 1), (0, .ref 3), (1, .ref 17)] [am_rf (h.2.2.1 3 0)] h from ⟨ex_3 (c_P l.1), ?_⟩)
    rw [ex_r3_0 (h := h) (c_P l.1)]
    refine am_goX 2 (show am_sh h 1 = some (7, 0) ∧ pz_S 4 (some .int) am_r15 38 Q 27 [(3, .int (nI i)), (2, .int 1), (0, .ref 3), (1, .ref 17)] [.int (Int32.ofInt 4), .int (h.1 1 2)] h from ⟨ex_1 (c_P l.1), ?_⟩)
    rw [c_kd l.1]
    refine am_goX 1 (show ((ck (tt T sz s.1).1) = (Int32.ofInt 4) → pz_S 4 (some .int) am_r15 38 Q 49 [(3, .int (nI i)), (2, .int 1), (0, .ref 3), (1, .ref 17)] [] h) ∧ (¬ ((ck (tt T sz s.1).1) = (Int32.ofInt 4)) → pz_S 4 (some .int) am_r15 38 Q 30 [(3, .int (nI i)), (2, .int 1), (0, .ref 3), (1, .ref 17)] [] h) from ⟨fun hc => ?_, fun hc => ?_⟩)
    ·
      have e2 : sp_k (tt T sz) s.1 0 = true := by rw [← hk]; exact decide_eq_true hc
      clear hc
      refine am_goX 2 (show am_sh h 3 = some (1, 0) ∧ pz_S 4 (some .int) am_r15 38 Q 53 [(3, .int (nI i)), (2, .int 1), (0, .ref 3), (1, .ref 17)] [am_rf (h.2.2.1 3 0)] h from ⟨ex_3 (c_P l.1), ?_⟩)
      rw [ex_r3_0 (h := h) (c_P l.1)]
      refine am_goX 1 (show am_sh h 1 = some (7, 0) ∧ pz_S 4 (some .int) am_r15 38 Q 56 [(3, .int (nI i)), (2, .int 1), (0, .ref 3), (1, .ref 17)] [.int (h.1 1 7)] h from ⟨ex_1 (c_P l.1), ?_⟩)
      have hx : sp_all (tt T sz) (m + 1) s = .inr s := by simp only [sp_all, e2, cond_true]
      rw [hx] at hQ
      rw [hf]
      exact am_goX 1 (show (∃ ty, (some .int) = some ty ∧ narrow ty (.int (0)) = .int (0)) ∧ h.2.2.2.2 = 175 ∧ _ from ⟨⟨.int, rfl, rfl⟩, ex_175 (c_P l.1), hQ _ l⟩)
    ·
      have e2 : sp_k (tt T sz) s.1 0 = false := by rw [← hk]; exact decide_eq_false hc
      clear hc
      have hlt : s.1 < sz := by
        have w := l.1.2.2.2.2.1
        have w2 : tk_pl T sz s.1 < sz := kz_lt (of_decide_eq_false e2)
        omega
      refine am_goX 3 (show ((Int16.ofInt 1000).toInt32 ≤ (nI i) → pz_S 4 (some .int) am_r15 38 Q 49 [(3, .int (nI i)), (2, .int 1), (0, .ref 3), (1, .ref 17)] [] h) ∧ (¬ ((Int16.ofInt 1000).toInt32 ≤ (nI i)) → pz_S 4 (some .int) am_r15 38 Q 37 [(3, .int (nI i)), (2, .int 1), (0, .ref 3), (1, .ref 17)] [] h) from ⟨fun hz => absurd hz (i1000 (by omega)), fun _ => ?_⟩)
      refine am_goX 3 (show am_rc h 3 1 ∧ 0 ≤ 8 ∧ h.2.2.2.2 + am_al 43 ≤ 175 ∧ am_call am_cod 38 43 [.ref 3, .ref 17] h (fun vv h' => pz_S 4 (some .int) am_r15 38 Q 42 [(3, .int (nI i)), (2, .int 1), (0, .ref 3), (1, .ref 17)] (vv.toList ++ []) h') from ⟨Or.inl ⟨by decide, ex_3 (c_P l.1)⟩, by decide, ex_lim (c_P l.1) rfl, am_call.up (c_43_17 l (fun v313 h314 x315 => ?_)) (by decide)⟩)
      rcases cres_cs x315 with ⟨F317, e319, rfl, y320⟩ | ⟨t318, e319, rfl, y320⟩
      ·
        refine am_goX 5 (show 2 < 4 ∧ 3 < 4 ∧ (0 = 0 → pz_S 4 (some .int) am_r15 38 Q 49 [(3, .int ((nI i) + Int32.ofInt 1)), (2, .int 0), (0, .ref 3), (1, .ref 17)] [] h314) ∧ (¬ (0 = 0) → pz_S 4 (some .int) am_r15 38 Q 19 [(3, .int ((nI i) + Int32.ofInt 1)), (2, .int 0), (0, .ref 3), (1, .ref 17)] [] h314) from ⟨by decide, by decide, fun _ => ?_, fun hz => absurd (by decide) hz⟩)
        refine am_goX 2 (show am_sh h314 3 = some (1, 0) ∧ pz_S 4 (some .int) am_r15 38 Q 53 [(3, .int ((nI i) + Int32.ofInt 1)), (2, .int 0), (0, .ref 3), (1, .ref 17)] [am_rf (h314.2.2.1 3 0)] h314 from ⟨ex_3 y320.1, ?_⟩)
        rw [ex_r3_0 (h := h314) y320.1]
        refine am_goX 1 (show am_sh h314 1 = some (7, 0) ∧ pz_S 4 (some .int) am_r15 38 Q 56 [(3, .int ((nI i) + Int32.ofInt 1)), (2, .int 0), (0, .ref 3), (1, .ref 17)] [.int (h314.1 1 7)] h314 from ⟨ex_1 y320.1, ?_⟩)
        have hx : sp_all (tt T sz) (m + 1) s = .inl F317 := by simp only [sp_all, sp_b, cond_true, cond_false, e2, e319]
        rw [hx] at hQ
        rw [y320.2.1.1]
        exact am_goX 1 (show (∃ ty, (some .int) = some ty ∧ narrow ty (.int (F317)) = .int (F317)) ∧ h314.2.2.2.2 = 175 ∧ _ from ⟨⟨.int, rfl, rfl⟩, ex_175 y320.1, hQ _ y320⟩)
      ·
        refine am_goX 3 (show 2 < 4 ∧ 3 < 4 ∧ pz_S 4 (some .int) am_r15 38 Q 15 [(3, .int ((nI i) + Int32.ofInt 1)), (2, .int 1), (0, .ref 3), (1, .ref 17)] [] h314 from ⟨by decide, by decide, ?_⟩)
        rw [xw_i1]
        have g1 := sp_line_lt e319
        have hx : sp_all (tt T sz) (m + 1) s = sp_all (tt T sz) m t318 := by simp only [sp_all, sp_b, cond_true, cond_false, e2, e319]
        rw [hx] at hQ
        exact ih (i + 1) t318 h314 Q (by omega) (by omega) y320 hQ
theorem c_15_17 (hP : ex_P h) (hz : sz ≤ 1000) (hch : ∀ q, q < sz → 0 ≤ (T q).toInt ∧ (T q).toInt ≤ 126) (l1 : h.1 1 1 = nI sz) (l2 : ∀ q, q < sz → h.1 2 q = T q) (hQ : ∀ h1, cfin h 17 T sz (sp_canton (tt T sz)) h1 → Q (some (.int (sp_ans (sp_canton (tt T sz))))) h1) : am_call am_cod 39 15 [.ref 3, .ref 17] h Q := by
  refine pz_call (n := 15) (nL := 4) (rt := (some .int)) (rows := am_r15) (d := 38) (by decide +kernel) (by decide +kernel) rfl (by funext pc; rfl) (ex_175 hP) (by exact Nat.le_of_ble_eq_true rfl) ?_
  refine am_goX 2 (show am_rc h 17 0 ∧ 0 ≤ 8 ∧ h.2.2.2.2 + am_al 16 ≤ 175 ∧ am_call am_cod 38 16 [.ref 17] h (fun vv h' => pz_S 4 (some .int) am_r15 38 Q 4 [(0, .ref 3), (1, .ref 17)] (vv.toList ++ []) h') from ⟨Or.inl ⟨by decide, ex_17 hP⟩, by decide, ex_lim hP rfl, am_call.up (c_16_17 hP ?_) (by decide)⟩)
  refine am_goX 2 (show am_sh (cl_h_17 h) 3 = some (1, 0) ∧ pz_S 4 (some .int) am_r15 38 Q 8 [(0, .ref 3), (1, .ref 17)] [am_rf ((cl_h_17 h).2.2.1 3 0)] (cl_h_17 h) from ⟨ex_3 hP, ?_⟩)
  rw [ex_r3_0 (h := cl_h_17 h) hP]
  refine am_goX 1 (show am_rc (cl_h_17 h) 1 7 ∧ 0 ≤ 8 ∧ (cl_h_17 h).2.2.2.2 + am_al 17 ≤ 175 ∧ am_call am_cod 38 17 [.ref 1] (cl_h_17 h) (fun vv h' => pz_S 4 (some .int) am_r15 38 Q 11 [(0, .ref 3), (1, .ref 17)] (vv.toList ++ []) h') from ⟨Or.inl ⟨by decide, ex_1 hP⟩, by decide, ex_lim hP rfl, am_call.up (c_begin (T := T) (sz := sz) hP hz hch (by unfold cl_h_17; rw [em_wn _ _ (by omega), em_wn _ _ (by omega), em_wn _ _ (by omega), em_wn _ _ (by omega), em_wn _ _ (by omega), em_wn _ _ (by omega)]; exact l1) (fun q hq => by unfold cl_h_17; rw [em_wn _ _ (by omega), em_wn _ _ (by omega), em_wn _ _ (by omega), em_wn _ _ (by omega), em_wn _ _ (by omega), em_wn _ _ (by omega)]; exact l2 q hq) (fun h1 t f => ?_)) (by decide)⟩)
  have l := cl_c_17 hz hch t f
  refine am_goX 4 (show 2 < 4 ∧ 3 < 4 ∧ pz_S 4 (some .int) am_r15 38 Q 15 [(3, .int (Int32.ofInt 0)), (2, .int (Int32.ofInt 1)), (0, .ref 3), (1, .ref 17)] [] h1 from ⟨by decide, by decide, ?_⟩)
  exact c_15l_17 1001 0 (0, sp_C0) h1 Q (by dsimp only; omega) (Nat.zero_le _) l hQ
end
section
/-! CANTON OF THE CLASS: WHAT IT ANSWERS -/
theorem ex_wR {h : am_H} {k : Nat} {v : Option Nat} (hk : k = 3 ∨ k = 4) (hP : ex_P h) : ex_P (am_wR h 0 k v) := by
  refine ⟨hP.1, fun o q r e => ?_⟩
  have n3 : ag_lk ag_DD.2.2.1 0 3 = none := by decide +kernel
  have n4 : ag_lk ag_DD.2.2.1 0 4 = none := by decide +kernel
  show (if o = 0 ∧ q = k then v else h.2.2.1 o q) = some r
  rw [if_neg]
  · exact hP.2 o q r e
  · rintro ⟨rfl, rfl⟩
    rcases hk with rfl | rfl
    · rw [n3] at e
      cases e
    · rw [n4] at e
      cases e
theorem cfin_q {h0 h : am_H} {c sz : Nat} {T : Nat → Int32} {r : sp_R} (w : cfin h0 c T sz r h) : ex_P h ∧ c_q c h0 h := by
  cases r with
  | inl F => exact ⟨w.1, w.2.2.1⟩
  | inr s => exact ⟨c_P w.1, w.2.2.1⟩
variable {h h0 : am_H} {sz a : Nat} {T : Nat → Int32} {Q : am_Q}
theorem ex_0 {h : am_H} (hP : ex_P h) : am_sh h 0 = some (10, 0) := (ex_so hP (by decide +kernel)).2
theorem ex_28 {h : am_H} (hP : ex_P h) : am_sh h 28 = some (8, 0) := (ex_so hP (by decide +kernel)).2
theorem ex_32 {h : am_H} (hP : ex_P h) : am_sh h 32 = some (8, 0) := (ex_so hP (by decide +kernel)).2
theorem ex_36 {h : am_H} (hP : ex_P h) : am_sh h 36 = some (6, 0) := (ex_so hP (by decide +kernel)).2
theorem ex_37 {h : am_H} (hP : ex_P h) : am_sh h 37 = some (13, 6) := (ex_so hP (by decide +kernel)).2
theorem ex_w37 {h : am_H} (hP : ex_P h) : am_so h 37 = some (13, 6) := (ex_so hP (by decide +kernel)).1
theorem ex_38 {h : am_H} (hP : ex_P h) : am_sh h 38 = some (13, 6) := (ex_so hP (by decide +kernel)).2
theorem ex_w38 {h : am_H} (hP : ex_P h) : am_so h 38 = some (13, 6) := (ex_so hP (by decide +kernel)).1
theorem ex_39 {h : am_H} (hP : ex_P h) : am_sh h 39 = some (13, 5) := (ex_so hP (by decide +kernel)).2
theorem ex_w39 {h : am_H} (hP : ex_P h) : am_so h 39 = some (13, 5) := (ex_so hP (by decide +kernel)).1
theorem ex_40 {h : am_H} (hP : ex_P h) : am_sh h 40 = some (13, 5) := (ex_so hP (by decide +kernel)).2
theorem ex_w40 {h : am_H} (hP : ex_P h) : am_so h 40 = some (13, 5) := (ex_so hP (by decide +kernel)).1
theorem ex_47 {h : am_H} (hP : ex_P h) : am_sh h 47 = some (2, 0) := (ex_so hP (by decide +kernel)).2
theorem ex_129 {h : am_H} (hP : ex_P h) : am_sh h 129 = some (16, 4) := (ex_so hP (by decide +kernel)).2
theorem ex_w129 {h : am_H} (hP : ex_P h) : am_so h 129 = some (16, 4) := (ex_so hP (by decide +kernel)).1
theorem ex_130 {h : am_H} (hP : ex_P h) : am_sh h 130 = some (5, 0) := (ex_so hP (by decide +kernel)).2
theorem ex_136 {h : am_H} (hP : ex_P h) : am_sh h 136 = some (5, 0) := (ex_so hP (by decide +kernel)).2
theorem ex_142 {h : am_H} (hP : ex_P h) : am_sh h 142 = some (5, 0) := (ex_so hP (by decide +kernel)).2
theorem ex_148 {h : am_H} (hP : ex_P h) : am_sh h 148 = some (5, 0) := (ex_so hP (by decide +kernel)).2
theorem ex_r0_0 {h : am_H} (hP : ex_P h) : h.2.2.1 0 0 = some 1 := hP.2 0 0 1 (by decide +kernel)
theorem ex_r0_1 {h : am_H} (hP : ex_P h) : h.2.2.1 0 1 = some 3 := hP.2 0 1 3 (by decide +kernel)
theorem ex_r0_7 {h : am_H} (hP : ex_P h) : h.2.2.1 0 7 = some 36 := hP.2 0 7 36 (by decide +kernel)
theorem ex_r0_10 {h : am_H} (hP : ex_P h) : h.2.2.1 0 10 = some 47 := hP.2 0 10 47 (by decide +kernel)
theorem ex_r0_11 {h : am_H} (hP : ex_P h) : h.2.2.1 0 11 = some 129 := hP.2 0 11 129 (by decide +kernel)
theorem ex_r36_2 {h : am_H} (hP : ex_P h) : h.2.2.1 36 2 = some 37 := hP.2 36 2 37 (by decide +kernel)
theorem ex_r36_3 {h : am_H} (hP : ex_P h) : h.2.2.1 36 3 = some 38 := hP.2 36 3 38 (by decide +kernel)
theorem ex_r36_4 {h : am_H} (hP : ex_P h) : h.2.2.1 36 4 = some 39 := hP.2 36 4 39 (by decide +kernel)
theorem ex_r36_5 {h : am_H} (hP : ex_P h) : h.2.2.1 36 5 = some 40 := hP.2 36 5 40 (by decide +kernel)
theorem ex_r129_0 {h : am_H} (hP : ex_P h) : h.2.2.1 129 0 = some 130 := hP.2 129 0 130 (by decide +kernel)
theorem ex_r129_1 {h : am_H} (hP : ex_P h) : h.2.2.1 129 1 = some 136 := hP.2 129 1 136 (by decide +kernel)
theorem ex_r129_2 {h : am_H} (hP : ex_P h) : h.2.2.1 129 2 = some 142 := hP.2 129 2 142 (by decide +kernel)
theorem ex_r129_3 {h : am_H} (hP : ex_P h) : h.2.2.1 129 3 = some 148 := hP.2 129 3 148 (by decide +kernel)
theorem c_79b_6 : ∀ (m i : Nat) (h : am_H), i + m = 5 → ex_P h → (∀ h1, ex_P h1 → h1.2.2 = h.2.2 → Q none h1) → pz_S 3 none am_r79 0 Q 45 [(2, .int (nI i)), (0, .ref 36), (1, .ref 6)] [] h := by
  intro m
  induction m with
  | zero =>
    intro i h hi hP hQ
    refine am_goX 3 (show ((Int32.ofInt 5) ≤ (nI i) → pz_S 3 none am_r79 0 Q 70 [(2, .int (nI i)), (0, .ref 36), (1, .ref 6)] [] h) ∧ (¬ ((Int32.ofInt 5) ≤ (nI i)) → pz_S 3 none am_r79 0 Q 50 [(2, .int (nI i)), (0, .ref 36), (1, .ref 6)] [] h) from ⟨fun hc => ?_, fun hc => ?_⟩)
    ·
      exact am_goX 1 (show (none : Option FieldType) = none ∧ h.2.2.2.2 = 175 ∧ _ from ⟨rfl, ex_175 hP, hQ _ hP rfl⟩)
    · exact absurd (show nI 5 ≤ nI i from nI_le (by omega) (by omega)) hc
  | succ m ih =>
    intro i h hi hP hQ
    refine am_goX 3 (show ((Int32.ofInt 5) ≤ (nI i) → pz_S 3 none am_r79 0 Q 70 [(2, .int (nI i)), (0, .ref 36), (1, .ref 6)] [] h) ∧ (¬ ((Int32.ofInt 5) ≤ (nI i)) → pz_S 3 none am_r79 0 Q 50 [(2, .int (nI i)), (0, .ref 36), (1, .ref 6)] [] h) from ⟨fun hc => ?_, fun hc => ?_⟩)
    · have hc1 : nI 5 ≤ nI i := hc
      rw [nI_leI (by omega) (by omega)] at hc1
      omega
    clear hc
    refine am_goX 2 (show am_sh h 36 = some (6, 0) ∧ pz_S 3 none am_r79 0 Q 54 [(2, .int (nI i)), (0, .ref 36), (1, .ref 6)] [am_rf (h.2.2.1 36 4)] h from ⟨ex_36 hP, ?_⟩)
    rw [ex_r36_4 (h := h) hP]
    refine am_goX 3 (show ∃ jj nn : Nat, am_so h 39 = some (13, nn) ∧ jj < nn ∧ (nI i) = nI jj ∧ pz_S 3 none am_r79 0 Q 57 [(2, .int (nI i)), (0, .ref 36), (1, .ref 6)] [] (am_wI h 39 jj (Int32.ofInt 0)) from ⟨i, 5, ex_w39 hP, by omega, rfl, ?_⟩)
    refine am_goX 2 (show am_sh (am_wI h 39 (i) (Int32.ofInt 0)) 36 = some (6, 0) ∧ pz_S 3 none am_r79 0 Q 61 [(2, .int (nI i)), (0, .ref 36), (1, .ref 6)] [am_rf ((am_wI h 39 (i) (Int32.ofInt 0)).2.2.1 36 5)] (am_wI h 39 (i) (Int32.ofInt 0)) from ⟨ex_36 hP, ?_⟩)
    rw [ex_r36_5 (h := am_wI h 39 (i) (Int32.ofInt 0)) hP]
    refine am_goX 3 (show ∃ jj nn : Nat, am_so (am_wI h 39 (i) (Int32.ofInt 0)) 40 = some (13, nn) ∧ jj < nn ∧ (nI i) = nI jj ∧ pz_S 3 none am_r79 0 Q 64 [(2, .int (nI i)), (0, .ref 36), (1, .ref 6)] [] (am_wI (am_wI h 39 (i) (Int32.ofInt 0)) 40 jj (Int32.ofInt 0)) from ⟨i, 5, ex_w40 hP, by omega, rfl, ?_⟩)
    refine am_goX 2 (show 2 < 3 ∧ pz_S 3 none am_r79 0 Q 45 [(2, .int ((nI i) + Int32.ofInt 1)), (0, .ref 36), (1, .ref 6)] [] (am_wI (am_wI h 39 (i) (Int32.ofInt 0)) 40 (i) (Int32.ofInt 0)) from ⟨by decide, ?_⟩)
    rw [xw_i1]
    exact ih (i + 1) _ (by omega) hP hQ
theorem c_79a_6 : ∀ (m i : Nat) (h : am_H), i + m = 6 → ex_P h → (∀ h1, ex_P h1 → h1.2.2 = h.2.2 → Q none h1) → pz_S 3 none am_r79 0 Q 12 [(2, .int (nI i)), (0, .ref 36), (1, .ref 6)] [] h := by
  intro m
  induction m with
  | zero =>
    intro i h hi hP hQ
    refine am_goX 3 (show ((Int8.ofInt 6).toInt32 ≤ (nI i) → pz_S 3 none am_r79 0 Q 43 [(2, .int (nI i)), (0, .ref 36), (1, .ref 6)] [] h) ∧ (¬ ((Int8.ofInt 6).toInt32 ≤ (nI i)) → pz_S 3 none am_r79 0 Q 18 [(2, .int (nI i)), (0, .ref 36), (1, .ref 6)] [] h) from ⟨fun hc => ?_, fun hc => ?_⟩)
    ·
      refine am_goX 2 (show 2 < 3 ∧ pz_S 3 none am_r79 0 Q 45 [(2, .int (Int32.ofInt 0)), (0, .ref 36), (1, .ref 6)] [] h from ⟨by decide, ?_⟩)
      exact c_79b_6 5 0 _ rfl hP hQ
    · exact absurd (show nI 6 ≤ nI i from nI_le (by omega) (by omega)) hc
  | succ m ih =>
    intro i h hi hP hQ
    refine am_goX 3 (show ((Int8.ofInt 6).toInt32 ≤ (nI i) → pz_S 3 none am_r79 0 Q 43 [(2, .int (nI i)), (0, .ref 36), (1, .ref 6)] [] h) ∧ (¬ ((Int8.ofInt 6).toInt32 ≤ (nI i)) → pz_S 3 none am_r79 0 Q 18 [(2, .int (nI i)), (0, .ref 36), (1, .ref 6)] [] h) from ⟨fun hc => ?_, fun hc => ?_⟩)
    · have hc1 : nI 6 ≤ nI i := hc
      rw [nI_leI (by omega) (by omega)] at hc1
      omega
    clear hc
    refine am_goX 2 (show am_sh h 36 = some (6, 0) ∧ pz_S 3 none am_r79 0 Q 22 [(2, .int (nI i)), (0, .ref 36), (1, .ref 6)] [am_rf (h.2.2.1 36 2)] h from ⟨ex_36 hP, ?_⟩)
    rw [ex_r36_2 (h := h) hP]
    refine am_goX 3 (show am_sh h 6 = some (0, 0) ∧ pz_S 3 none am_r79 0 Q 27 [(2, .int (nI i)), (0, .ref 36), (1, .ref 6)] [am_rf (h.2.2.1 6 3), .int (nI i), .ref 37] h from ⟨ex_6 hP, ?_⟩)
    rw [ex_r6_3 (h := h) hP]
    refine am_goX 2 (show ∃ jj nn : Nat, am_sh h 9 = some (13, nn) ∧ jj < nn ∧ (nI i) = nI jj ∧ pz_S 3 none am_r79 0 Q 29 [(2, .int (nI i)), (0, .ref 36), (1, .ref 6)] [.int (h.1 9 jj), .int (nI i), .ref 37] h from ⟨i, 6, ex_9 hP, by omega, rfl, ?_⟩)
    refine am_goX 1 (show ∃ jj nn : Nat, am_so h 37 = some (13, nn) ∧ jj < nn ∧ (nI i) = nI jj ∧ pz_S 3 none am_r79 0 Q 30 [(2, .int (nI i)), (0, .ref 36), (1, .ref 6)] [] (am_wI h 37 jj (h.1 9 i)) from ⟨i, 6, ex_w37 hP, by omega, rfl, ?_⟩)
    refine am_goX 2 (show am_sh (am_wI h 37 (i) (h.1 9 i)) 36 = some (6, 0) ∧ pz_S 3 none am_r79 0 Q 34 [(2, .int (nI i)), (0, .ref 36), (1, .ref 6)] [am_rf ((am_wI h 37 (i) (h.1 9 i)).2.2.1 36 3)] (am_wI h 37 (i) (h.1 9 i)) from ⟨ex_36 hP, ?_⟩)
    rw [ex_r36_3 (h := am_wI h 37 (i) (h.1 9 i)) hP]
    refine am_goX 3 (show ∃ jj nn : Nat, am_so (am_wI h 37 (i) (h.1 9 i)) 38 = some (13, nn) ∧ jj < nn ∧ (nI i) = nI jj ∧ pz_S 3 none am_r79 0 Q 37 [(2, .int (nI i)), (0, .ref 36), (1, .ref 6)] [] (am_wI (am_wI h 37 (i) (h.1 9 i)) 38 jj (Int32.ofInt 0)) from ⟨i, 6, ex_w38 hP, by omega, rfl, ?_⟩)
    refine am_goX 2 (show 2 < 3 ∧ pz_S 3 none am_r79 0 Q 12 [(2, .int ((nI i) + Int32.ofInt 1)), (0, .ref 36), (1, .ref 6)] [] (am_wI (am_wI h 37 (i) (h.1 9 i)) 38 (i) (Int32.ofInt 0)) from ⟨by decide, ?_⟩)
    rw [xw_i1]
    exact ih (i + 1) _ (by omega) hP hQ
theorem c_79_6 (hP : ex_P h) (hQ : ∀ h1, ex_P h1 → h1.2.2 = h.2.2 → Q none h1) : am_call am_cod 1 79 [.ref 36, .ref 6] h Q := by
  refine pz_call (n := 79) (nL := 3) (rt := none) (rows := am_r79) (d := 0) (by decide +kernel) (by decide +kernel) rfl (by funext pc; rfl) (ex_175 hP) (by exact Nat.le_of_ble_eq_true rfl) ?_
  refine am_goX 3 (show am_sh h 36 = some (6, 0) ∧ narrow (am_fty 6 0) (.int ((Int32.ofInt 0))) = .int ((Int32.ofInt 0)) ∧ fits (am_fty 6 0) (.int ((Int32.ofInt 0))) = true ∧ pz_S 3 none am_r79 0 Q 5 [(0, .ref 36), (1, .ref 6)] [] (am_wI h 36 0 ((Int32.ofInt 0))) from ⟨ex_36 hP, rfl, rfl, ?_⟩)
  refine am_goX 3 (show am_sh (am_wI h 36 0 ((Int32.ofInt 0))) 36 = some (6, 0) ∧ narrow (am_fty 6 1) (.int ((Int32.ofInt 0))) = .int ((Int32.ofInt 0)) ∧ fits (am_fty 6 1) (.int ((Int32.ofInt 0))) = true ∧ pz_S 3 none am_r79 0 Q 10 [(0, .ref 36), (1, .ref 6)] [] (am_wI (am_wI h 36 0 ((Int32.ofInt 0))) 36 1 ((Int32.ofInt 0))) from ⟨ex_36 hP, rfl, rfl, ?_⟩)
  refine am_goX 2 (show 2 < 3 ∧ pz_S 3 none am_r79 0 Q 12 [(2, .int (Int32.ofInt 0)), (0, .ref 36), (1, .ref 6)] [] (am_wI (am_wI h 36 0 ((Int32.ofInt 0))) 36 1 ((Int32.ofInt 0))) from ⟨by decide, ?_⟩)
  exact c_79a_6 6 0 _ rfl hP hQ
theorem c_78_6w28 (hP : ex_P h) (ht : h.2.2.1 0 3 = some 6) (hw : h.2.2.1 0 5 = some 28) (hQ : ∀ h1, ex_P h1 → Q none h1) : am_call am_cod 2 78 [.ref 0] h Q := by
  refine pz_call (n := 78) (nL := 2) (rt := none) (rows := am_r78) (d := 1) (by decide +kernel) (by decide +kernel) rfl (by funext pc; rfl) (ex_175 hP) (by exact Nat.le_of_ble_eq_true rfl) ?_
  refine am_goX 2 (show am_sh h 0 = some (10, 0) ∧ pz_S 2 none am_r78 1 Q 4 [(0, .ref 0)] [am_rf (h.2.2.1 0 7)] h from ⟨ex_0 hP, ?_⟩)
  rw [ex_r0_7 (h := h) hP]
  refine am_goX 2 (show am_sh h 0 = some (10, 0) ∧ pz_S 2 none am_r78 1 Q 8 [(0, .ref 0)] [am_rf (h.2.2.1 0 3), .ref 36] h from ⟨ex_0 hP, ?_⟩)
  rw [ht]
  refine am_goX 1 (show am_rc h 36 6 ∧ 0 ≤ 8 ∧ h.2.2.2.2 + am_al 79 ≤ 175 ∧ am_call am_cod 1 79 [.ref 36, .ref 6] h (fun vv h' => pz_S 2 none am_r78 1 Q 11 [(0, .ref 0)] (vv.toList ++ []) h') from ⟨Or.inl ⟨by decide, ex_36 hP⟩, by decide, ex_lim hP rfl, c_79_6 hP (fun h1 hP1 hr1 => ?_)⟩)
  have hw1 : h1.2.2.1 0 5 = some 28 := by rw [hr1]; exact hw
  refine am_goX 2 (show am_sh h1 0 = some (10, 0) ∧ pz_S 2 none am_r78 1 Q 15 [(0, .ref 0)] [am_rf (h1.2.2.1 0 5)] h1 from ⟨ex_0 hP1, ?_⟩)
  rw [hw1]
  refine am_goX 2 (show am_sh h1 28 = some (8, 0) ∧ narrow (am_fty 8 3) (.int ((Int32.ofInt 0))) = .int ((Int32.ofInt 0)) ∧ fits (am_fty 8 3) (.int ((Int32.ofInt 0))) = true ∧ pz_S 2 none am_r78 1 Q 19 [(0, .ref 0)] [] (am_wI h1 28 3 ((Int32.ofInt 0))) from ⟨ex_28 hP1, rfl, rfl, ?_⟩)
  refine am_goX 2 (show am_sh (am_wI h1 28 3 ((Int32.ofInt 0))) 0 = some (10, 0) ∧ pz_S 2 none am_r78 1 Q 23 [(0, .ref 0)] [am_rf ((am_wI h1 28 3 ((Int32.ofInt 0))).2.2.1 0 10)] (am_wI h1 28 3 ((Int32.ofInt 0))) from ⟨ex_0 hP1, ?_⟩)
  rw [ex_r0_10 (h := am_wI h1 28 3 ((Int32.ofInt 0))) hP1]
  refine am_goX 2 (show am_sh (am_wI h1 28 3 ((Int32.ofInt 0))) 47 = some (2, 0) ∧ narrow (am_fty 2 2) (.int ((Int32.ofInt 0))) = .int ((Int32.ofInt 0)) ∧ fits (am_fty 2 2) (.int ((Int32.ofInt 0))) = true ∧ pz_S 2 none am_r78 1 Q 27 [(0, .ref 0)] [] (am_wI (am_wI h1 28 3 ((Int32.ofInt 0))) 47 2 ((Int32.ofInt 0))) from ⟨ex_47 hP1, rfl, rfl, ?_⟩)
  refine am_goX 3 (show am_sh (am_wI (am_wI h1 28 3 ((Int32.ofInt 0))) 47 2 ((Int32.ofInt 0))) 0 = some (10, 0) ∧ narrow (am_fty 10 12) (.int ((Int32.ofInt 0))) = .int ((Int32.ofInt 0)) ∧ fits (am_fty 10 12) (.int ((Int32.ofInt 0))) = true ∧ pz_S 2 none am_r78 1 Q 32 [(0, .ref 0)] [] (am_wI (am_wI (am_wI h1 28 3 ((Int32.ofInt 0))) 47 2 ((Int32.ofInt 0))) 0 12 ((Int32.ofInt 0))) from ⟨ex_0 hP1, rfl, rfl, ?_⟩)
  refine am_goX 3 (show am_sh (am_wI (am_wI (am_wI h1 28 3 ((Int32.ofInt 0))) 47 2 ((Int32.ofInt 0))) 0 12 ((Int32.ofInt 0))) 0 = some (10, 0) ∧ narrow (am_fty 10 13) (.int ((Int8.ofInt 31).toInt32)) = .int ((Int8.ofInt 31).toInt32) ∧ fits (am_fty 10 13) (.int ((Int8.ofInt 31).toInt32)) = true ∧ pz_S 2 none am_r78 1 Q 38 [(0, .ref 0)] [] (am_wI (am_wI (am_wI (am_wI h1 28 3 ((Int32.ofInt 0))) 47 2 ((Int32.ofInt 0))) 0 12 ((Int32.ofInt 0))) 0 13 ((Int8.ofInt 31).toInt32)) from ⟨ex_0 hP1, rfl, rfl, ?_⟩)
  refine am_goX 5 (show 1 < 2 ∧ ((Int32.ofInt 4) ≤ (Int32.ofInt 0) → pz_S 2 none am_r78 1 Q 61 [(1, .int (Int32.ofInt 0)), (0, .ref 0)] [] (am_wI (am_wI (am_wI (am_wI h1 28 3 ((Int32.ofInt 0))) 47 2 ((Int32.ofInt 0))) 0 12 ((Int32.ofInt 0))) 0 13 ((Int8.ofInt 31).toInt32))) ∧ (¬ ((Int32.ofInt 4) ≤ (Int32.ofInt 0)) → pz_S 2 none am_r78 1 Q 45 [(1, .int (Int32.ofInt 0)), (0, .ref 0)] [] (am_wI (am_wI (am_wI (am_wI h1 28 3 ((Int32.ofInt 0))) 47 2 ((Int32.ofInt 0))) 0 12 ((Int32.ofInt 0))) 0 13 ((Int8.ofInt 31).toInt32))) from ⟨by decide, fun hz => absurd hz (by decide), fun _ => ?_⟩)
  refine am_goX 2 (show am_sh (am_wI (am_wI (am_wI (am_wI h1 28 3 ((Int32.ofInt 0))) 47 2 ((Int32.ofInt 0))) 0 12 ((Int32.ofInt 0))) 0 13 ((Int8.ofInt 31).toInt32)) 0 = some (10, 0) ∧ pz_S 2 none am_r78 1 Q 49 [(1, .int (Int32.ofInt 0)), (0, .ref 0)] [am_rf ((am_wI (am_wI (am_wI (am_wI h1 28 3 ((Int32.ofInt 0))) 47 2 ((Int32.ofInt 0))) 0 12 ((Int32.ofInt 0))) 0 13 ((Int8.ofInt 31).toInt32)).2.2.1 0 11)] (am_wI (am_wI (am_wI (am_wI h1 28 3 ((Int32.ofInt 0))) 47 2 ((Int32.ofInt 0))) 0 12 ((Int32.ofInt 0))) 0 13 ((Int8.ofInt 31).toInt32)) from ⟨ex_0 hP1, ?_⟩)
  rw [ex_r0_11 (h := am_wI (am_wI (am_wI (am_wI h1 28 3 ((Int32.ofInt 0))) 47 2 ((Int32.ofInt 0))) 0 12 ((Int32.ofInt 0))) 0 13 ((Int8.ofInt 31).toInt32)) hP1]
  refine am_goX 2 (show ∃ jj nn : Nat, (am_sh (am_wI (am_wI (am_wI (am_wI h1 28 3 ((Int32.ofInt 0))) 47 2 ((Int32.ofInt 0))) 0 12 ((Int32.ofInt 0))) 0 13 ((Int8.ofInt 31).toInt32)) 129 = some (16, nn) ∨ am_sh (am_wI (am_wI (am_wI (am_wI h1 28 3 ((Int32.ofInt 0))) 47 2 ((Int32.ofInt 0))) 0 12 ((Int32.ofInt 0))) 0 13 ((Int8.ofInt 31).toInt32)) 129 = some (17, nn)) ∧ jj < nn ∧ (Int32.ofInt 0) = nI jj ∧ pz_S 2 none am_r78 1 Q 51 [(1, .int (Int32.ofInt 0)), (0, .ref 0)] [am_rf ((am_wI (am_wI (am_wI (am_wI h1 28 3 ((Int32.ofInt 0))) 47 2 ((Int32.ofInt 0))) 0 12 ((Int32.ofInt 0))) 0 13 ((Int8.ofInt 31).toInt32)).2.2.1 129 jj)] (am_wI (am_wI (am_wI (am_wI h1 28 3 ((Int32.ofInt 0))) 47 2 ((Int32.ofInt 0))) 0 12 ((Int32.ofInt 0))) 0 13 ((Int8.ofInt 31).toInt32)) from ⟨0, 4, Or.inl (ex_129 hP1), by decide, by decide, ?_⟩)
  rw [ex_r129_0 (h := am_wI (am_wI (am_wI (am_wI h1 28 3 ((Int32.ofInt 0))) 47 2 ((Int32.ofInt 0))) 0 12 ((Int32.ofInt 0))) 0 13 ((Int8.ofInt 31).toInt32)) hP1]
  refine am_goX 2 (show am_sh (am_wI (am_wI (am_wI (am_wI h1 28 3 ((Int32.ofInt 0))) 47 2 ((Int32.ofInt 0))) 0 12 ((Int32.ofInt 0))) 0 13 ((Int8.ofInt 31).toInt32)) 130 = some (5, 0) ∧ narrow (am_fty 5 0) (.int ((Int32.ofInt 0))) = .int ((Int32.ofInt 0)) ∧ fits (am_fty 5 0) (.int ((Int32.ofInt 0))) = true ∧ pz_S 2 none am_r78 1 Q 55 [(1, .int (Int32.ofInt 0)), (0, .ref 0)] [] (am_wI (am_wI (am_wI (am_wI (am_wI h1 28 3 ((Int32.ofInt 0))) 47 2 ((Int32.ofInt 0))) 0 12 ((Int32.ofInt 0))) 0 13 ((Int8.ofInt 31).toInt32)) 130 0 ((Int32.ofInt 0))) from ⟨ex_130 hP1, rfl, rfl, ?_⟩)
  refine am_goX 5 (show 1 < 2 ∧ ((Int32.ofInt 4) ≤ ((Int32.ofInt 0) + Int32.ofInt 1) → pz_S 2 none am_r78 1 Q 61 [(1, .int ((Int32.ofInt 0) + Int32.ofInt 1)), (0, .ref 0)] [] (am_wI (am_wI (am_wI (am_wI (am_wI h1 28 3 ((Int32.ofInt 0))) 47 2 ((Int32.ofInt 0))) 0 12 ((Int32.ofInt 0))) 0 13 ((Int8.ofInt 31).toInt32)) 130 0 ((Int32.ofInt 0)))) ∧ (¬ ((Int32.ofInt 4) ≤ ((Int32.ofInt 0) + Int32.ofInt 1)) → pz_S 2 none am_r78 1 Q 45 [(1, .int ((Int32.ofInt 0) + Int32.ofInt 1)), (0, .ref 0)] [] (am_wI (am_wI (am_wI (am_wI (am_wI h1 28 3 ((Int32.ofInt 0))) 47 2 ((Int32.ofInt 0))) 0 12 ((Int32.ofInt 0))) 0 13 ((Int8.ofInt 31).toInt32)) 130 0 ((Int32.ofInt 0)))) from ⟨by decide, fun hz => absurd hz (by decide), fun _ => ?_⟩)
  refine am_goX 2 (show am_sh (am_wI (am_wI (am_wI (am_wI (am_wI h1 28 3 ((Int32.ofInt 0))) 47 2 ((Int32.ofInt 0))) 0 12 ((Int32.ofInt 0))) 0 13 ((Int8.ofInt 31).toInt32)) 130 0 ((Int32.ofInt 0))) 0 = some (10, 0) ∧ pz_S 2 none am_r78 1 Q 49 [(1, .int ((Int32.ofInt 0) + Int32.ofInt 1)), (0, .ref 0)] [am_rf ((am_wI (am_wI (am_wI (am_wI (am_wI h1 28 3 ((Int32.ofInt 0))) 47 2 ((Int32.ofInt 0))) 0 12 ((Int32.ofInt 0))) 0 13 ((Int8.ofInt 31).toInt32)) 130 0 ((Int32.ofInt 0))).2.2.1 0 11)] (am_wI (am_wI (am_wI (am_wI (am_wI h1 28 3 ((Int32.ofInt 0))) 47 2 ((Int32.ofInt 0))) 0 12 ((Int32.ofInt 0))) 0 13 ((Int8.ofInt 31).toInt32)) 130 0 ((Int32.ofInt 0))) from ⟨ex_0 hP1, ?_⟩)
  rw [ex_r0_11 (h := am_wI (am_wI (am_wI (am_wI (am_wI h1 28 3 ((Int32.ofInt 0))) 47 2 ((Int32.ofInt 0))) 0 12 ((Int32.ofInt 0))) 0 13 ((Int8.ofInt 31).toInt32)) 130 0 ((Int32.ofInt 0))) hP1]
  refine am_goX 2 (show ∃ jj nn : Nat, (am_sh (am_wI (am_wI (am_wI (am_wI (am_wI h1 28 3 ((Int32.ofInt 0))) 47 2 ((Int32.ofInt 0))) 0 12 ((Int32.ofInt 0))) 0 13 ((Int8.ofInt 31).toInt32)) 130 0 ((Int32.ofInt 0))) 129 = some (16, nn) ∨ am_sh (am_wI (am_wI (am_wI (am_wI (am_wI h1 28 3 ((Int32.ofInt 0))) 47 2 ((Int32.ofInt 0))) 0 12 ((Int32.ofInt 0))) 0 13 ((Int8.ofInt 31).toInt32)) 130 0 ((Int32.ofInt 0))) 129 = some (17, nn)) ∧ jj < nn ∧ ((Int32.ofInt 0) + Int32.ofInt 1) = nI jj ∧ pz_S 2 none am_r78 1 Q 51 [(1, .int ((Int32.ofInt 0) + Int32.ofInt 1)), (0, .ref 0)] [am_rf ((am_wI (am_wI (am_wI (am_wI (am_wI h1 28 3 ((Int32.ofInt 0))) 47 2 ((Int32.ofInt 0))) 0 12 ((Int32.ofInt 0))) 0 13 ((Int8.ofInt 31).toInt32)) 130 0 ((Int32.ofInt 0))).2.2.1 129 jj)] (am_wI (am_wI (am_wI (am_wI (am_wI h1 28 3 ((Int32.ofInt 0))) 47 2 ((Int32.ofInt 0))) 0 12 ((Int32.ofInt 0))) 0 13 ((Int8.ofInt 31).toInt32)) 130 0 ((Int32.ofInt 0))) from ⟨1, 4, Or.inl (ex_129 hP1), by decide, by decide, ?_⟩)
  rw [ex_r129_1 (h := am_wI (am_wI (am_wI (am_wI (am_wI h1 28 3 ((Int32.ofInt 0))) 47 2 ((Int32.ofInt 0))) 0 12 ((Int32.ofInt 0))) 0 13 ((Int8.ofInt 31).toInt32)) 130 0 ((Int32.ofInt 0))) hP1]
  refine am_goX 2 (show am_sh (am_wI (am_wI (am_wI (am_wI (am_wI h1 28 3 ((Int32.ofInt 0))) 47 2 ((Int32.ofInt 0))) 0 12 ((Int32.ofInt 0))) 0 13 ((Int8.ofInt 31).toInt32)) 130 0 ((Int32.ofInt 0))) 136 = some (5, 0) ∧ narrow (am_fty 5 0) (.int ((Int32.ofInt 0))) = .int ((Int32.ofInt 0)) ∧ fits (am_fty 5 0) (.int ((Int32.ofInt 0))) = true ∧ pz_S 2 none am_r78 1 Q 55 [(1, .int ((Int32.ofInt 0) + Int32.ofInt 1)), (0, .ref 0)] [] (am_wI (am_wI (am_wI (am_wI (am_wI (am_wI h1 28 3 ((Int32.ofInt 0))) 47 2 ((Int32.ofInt 0))) 0 12 ((Int32.ofInt 0))) 0 13 ((Int8.ofInt 31).toInt32)) 130 0 ((Int32.ofInt 0))) 136 0 ((Int32.ofInt 0))) from ⟨ex_136 hP1, rfl, rfl, ?_⟩)
  refine am_goX 5 (show 1 < 2 ∧ ((Int32.ofInt 4) ≤ (((Int32.ofInt 0) + Int32.ofInt 1) + Int32.ofInt 1) → pz_S 2 none am_r78 1 Q 61 [(1, .int (((Int32.ofInt 0) + Int32.ofInt 1) + Int32.ofInt 1)), (0, .ref 0)] [] (am_wI (am_wI (am_wI (am_wI (am_wI (am_wI h1 28 3 ((Int32.ofInt 0))) 47 2 ((Int32.ofInt 0))) 0 12 ((Int32.ofInt 0))) 0 13 ((Int8.ofInt 31).toInt32)) 130 0 ((Int32.ofInt 0))) 136 0 ((Int32.ofInt 0)))) ∧ (¬ ((Int32.ofInt 4) ≤ (((Int32.ofInt 0) + Int32.ofInt 1) + Int32.ofInt 1)) → pz_S 2 none am_r78 1 Q 45 [(1, .int (((Int32.ofInt 0) + Int32.ofInt 1) + Int32.ofInt 1)), (0, .ref 0)] [] (am_wI (am_wI (am_wI (am_wI (am_wI (am_wI h1 28 3 ((Int32.ofInt 0))) 47 2 ((Int32.ofInt 0))) 0 12 ((Int32.ofInt 0))) 0 13 ((Int8.ofInt 31).toInt32)) 130 0 ((Int32.ofInt 0))) 136 0 ((Int32.ofInt 0)))) from ⟨by decide, fun hz => absurd hz (by decide), fun _ => ?_⟩)
  refine am_goX 2 (show am_sh (am_wI (am_wI (am_wI (am_wI (am_wI (am_wI h1 28 3 ((Int32.ofInt 0))) 47 2 ((Int32.ofInt 0))) 0 12 ((Int32.ofInt 0))) 0 13 ((Int8.ofInt 31).toInt32)) 130 0 ((Int32.ofInt 0))) 136 0 ((Int32.ofInt 0))) 0 = some (10, 0) ∧ pz_S 2 none am_r78 1 Q 49 [(1, .int (((Int32.ofInt 0) + Int32.ofInt 1) + Int32.ofInt 1)), (0, .ref 0)] [am_rf ((am_wI (am_wI (am_wI (am_wI (am_wI (am_wI h1 28 3 ((Int32.ofInt 0))) 47 2 ((Int32.ofInt 0))) 0 12 ((Int32.ofInt 0))) 0 13 ((Int8.ofInt 31).toInt32)) 130 0 ((Int32.ofInt 0))) 136 0 ((Int32.ofInt 0))).2.2.1 0 11)] (am_wI (am_wI (am_wI (am_wI (am_wI (am_wI h1 28 3 ((Int32.ofInt 0))) 47 2 ((Int32.ofInt 0))) 0 12 ((Int32.ofInt 0))) 0 13 ((Int8.ofInt 31).toInt32)) 130 0 ((Int32.ofInt 0))) 136 0 ((Int32.ofInt 0))) from ⟨ex_0 hP1, ?_⟩)
  rw [ex_r0_11 (h := am_wI (am_wI (am_wI (am_wI (am_wI (am_wI h1 28 3 ((Int32.ofInt 0))) 47 2 ((Int32.ofInt 0))) 0 12 ((Int32.ofInt 0))) 0 13 ((Int8.ofInt 31).toInt32)) 130 0 ((Int32.ofInt 0))) 136 0 ((Int32.ofInt 0))) hP1]
  refine am_goX 2 (show ∃ jj nn : Nat, (am_sh (am_wI (am_wI (am_wI (am_wI (am_wI (am_wI h1 28 3 ((Int32.ofInt 0))) 47 2 ((Int32.ofInt 0))) 0 12 ((Int32.ofInt 0))) 0 13 ((Int8.ofInt 31).toInt32)) 130 0 ((Int32.ofInt 0))) 136 0 ((Int32.ofInt 0))) 129 = some (16, nn) ∨ am_sh (am_wI (am_wI (am_wI (am_wI (am_wI (am_wI h1 28 3 ((Int32.ofInt 0))) 47 2 ((Int32.ofInt 0))) 0 12 ((Int32.ofInt 0))) 0 13 ((Int8.ofInt 31).toInt32)) 130 0 ((Int32.ofInt 0))) 136 0 ((Int32.ofInt 0))) 129 = some (17, nn)) ∧ jj < nn ∧ (((Int32.ofInt 0) + Int32.ofInt 1) + Int32.ofInt 1) = nI jj ∧ pz_S 2 none am_r78 1 Q 51 [(1, .int (((Int32.ofInt 0) + Int32.ofInt 1) + Int32.ofInt 1)), (0, .ref 0)] [am_rf ((am_wI (am_wI (am_wI (am_wI (am_wI (am_wI h1 28 3 ((Int32.ofInt 0))) 47 2 ((Int32.ofInt 0))) 0 12 ((Int32.ofInt 0))) 0 13 ((Int8.ofInt 31).toInt32)) 130 0 ((Int32.ofInt 0))) 136 0 ((Int32.ofInt 0))).2.2.1 129 jj)] (am_wI (am_wI (am_wI (am_wI (am_wI (am_wI h1 28 3 ((Int32.ofInt 0))) 47 2 ((Int32.ofInt 0))) 0 12 ((Int32.ofInt 0))) 0 13 ((Int8.ofInt 31).toInt32)) 130 0 ((Int32.ofInt 0))) 136 0 ((Int32.ofInt 0))) from ⟨2, 4, Or.inl (ex_129 hP1), by decide, by decide, ?_⟩)
  rw [ex_r129_2 (h := am_wI (am_wI (am_wI (am_wI (am_wI (am_wI h1 28 3 ((Int32.ofInt 0))) 47 2 ((Int32.ofInt 0))) 0 12 ((Int32.ofInt 0))) 0 13 ((Int8.ofInt 31).toInt32)) 130 0 ((Int32.ofInt 0))) 136 0 ((Int32.ofInt 0))) hP1]
  refine am_goX 2 (show am_sh (am_wI (am_wI (am_wI (am_wI (am_wI (am_wI h1 28 3 ((Int32.ofInt 0))) 47 2 ((Int32.ofInt 0))) 0 12 ((Int32.ofInt 0))) 0 13 ((Int8.ofInt 31).toInt32)) 130 0 ((Int32.ofInt 0))) 136 0 ((Int32.ofInt 0))) 142 = some (5, 0) ∧ narrow (am_fty 5 0) (.int ((Int32.ofInt 0))) = .int ((Int32.ofInt 0)) ∧ fits (am_fty 5 0) (.int ((Int32.ofInt 0))) = true ∧ pz_S 2 none am_r78 1 Q 55 [(1, .int (((Int32.ofInt 0) + Int32.ofInt 1) + Int32.ofInt 1)), (0, .ref 0)] [] (am_wI (am_wI (am_wI (am_wI (am_wI (am_wI (am_wI h1 28 3 ((Int32.ofInt 0))) 47 2 ((Int32.ofInt 0))) 0 12 ((Int32.ofInt 0))) 0 13 ((Int8.ofInt 31).toInt32)) 130 0 ((Int32.ofInt 0))) 136 0 ((Int32.ofInt 0))) 142 0 ((Int32.ofInt 0))) from ⟨ex_142 hP1, rfl, rfl, ?_⟩)
  refine am_goX 5 (show 1 < 2 ∧ ((Int32.ofInt 4) ≤ ((((Int32.ofInt 0) + Int32.ofInt 1) + Int32.ofInt 1) + Int32.ofInt 1) → pz_S 2 none am_r78 1 Q 61 [(1, .int ((((Int32.ofInt 0) + Int32.ofInt 1) + Int32.ofInt 1) + Int32.ofInt 1)), (0, .ref 0)] [] (am_wI (am_wI (am_wI (am_wI (am_wI (am_wI (am_wI h1 28 3 ((Int32.ofInt 0))) 47 2 ((Int32.ofInt 0))) 0 12 ((Int32.ofInt 0))) 0 13 ((Int8.ofInt 31).toInt32)) 130 0 ((Int32.ofInt 0))) 136 0 ((Int32.ofInt 0))) 142 0 ((Int32.ofInt 0)))) ∧ (¬ ((Int32.ofInt 4) ≤ ((((Int32.ofInt 0) + Int32.ofInt 1) + Int32.ofInt 1) + Int32.ofInt 1)) → pz_S 2 none am_r78 1 Q 45 [(1, .int ((((Int32.ofInt 0) + Int32.ofInt 1) + Int32.ofInt 1) + Int32.ofInt 1)), (0, .ref 0)] [] (am_wI (am_wI (am_wI (am_wI (am_wI (am_wI (am_wI h1 28 3 ((Int32.ofInt 0))) 47 2 ((Int32.ofInt 0))) 0 12 ((Int32.ofInt 0))) 0 13 ((Int8.ofInt 31).toInt32)) 130 0 ((Int32.ofInt 0))) 136 0 ((Int32.ofInt 0))) 142 0 ((Int32.ofInt 0)))) from ⟨by decide, fun hz => absurd hz (by decide), fun _ => ?_⟩)
  refine am_goX 2 (show am_sh (am_wI (am_wI (am_wI (am_wI (am_wI (am_wI (am_wI h1 28 3 ((Int32.ofInt 0))) 47 2 ((Int32.ofInt 0))) 0 12 ((Int32.ofInt 0))) 0 13 ((Int8.ofInt 31).toInt32)) 130 0 ((Int32.ofInt 0))) 136 0 ((Int32.ofInt 0))) 142 0 ((Int32.ofInt 0))) 0 = some (10, 0) ∧ pz_S 2 none am_r78 1 Q 49 [(1, .int ((((Int32.ofInt 0) + Int32.ofInt 1) + Int32.ofInt 1) + Int32.ofInt 1)), (0, .ref 0)] [am_rf ((am_wI (am_wI (am_wI (am_wI (am_wI (am_wI (am_wI h1 28 3 ((Int32.ofInt 0))) 47 2 ((Int32.ofInt 0))) 0 12 ((Int32.ofInt 0))) 0 13 ((Int8.ofInt 31).toInt32)) 130 0 ((Int32.ofInt 0))) 136 0 ((Int32.ofInt 0))) 142 0 ((Int32.ofInt 0))).2.2.1 0 11)] (am_wI (am_wI (am_wI (am_wI (am_wI (am_wI (am_wI h1 28 3 ((Int32.ofInt 0))) 47 2 ((Int32.ofInt 0))) 0 12 ((Int32.ofInt 0))) 0 13 ((Int8.ofInt 31).toInt32)) 130 0 ((Int32.ofInt 0))) 136 0 ((Int32.ofInt 0))) 142 0 ((Int32.ofInt 0))) from ⟨ex_0 hP1, ?_⟩)
  rw [ex_r0_11 (h := am_wI (am_wI (am_wI (am_wI (am_wI (am_wI (am_wI h1 28 3 ((Int32.ofInt 0))) 47 2 ((Int32.ofInt 0))) 0 12 ((Int32.ofInt 0))) 0 13 ((Int8.ofInt 31).toInt32)) 130 0 ((Int32.ofInt 0))) 136 0 ((Int32.ofInt 0))) 142 0 ((Int32.ofInt 0))) hP1]
  refine am_goX 2 (show ∃ jj nn : Nat, (am_sh (am_wI (am_wI (am_wI (am_wI (am_wI (am_wI (am_wI h1 28 3 ((Int32.ofInt 0))) 47 2 ((Int32.ofInt 0))) 0 12 ((Int32.ofInt 0))) 0 13 ((Int8.ofInt 31).toInt32)) 130 0 ((Int32.ofInt 0))) 136 0 ((Int32.ofInt 0))) 142 0 ((Int32.ofInt 0))) 129 = some (16, nn) ∨ am_sh (am_wI (am_wI (am_wI (am_wI (am_wI (am_wI (am_wI h1 28 3 ((Int32.ofInt 0))) 47 2 ((Int32.ofInt 0))) 0 12 ((Int32.ofInt 0))) 0 13 ((Int8.ofInt 31).toInt32)) 130 0 ((Int32.ofInt 0))) 136 0 ((Int32.ofInt 0))) 142 0 ((Int32.ofInt 0))) 129 = some (17, nn)) ∧ jj < nn ∧ ((((Int32.ofInt 0) + Int32.ofInt 1) + Int32.ofInt 1) + Int32.ofInt 1) = nI jj ∧ pz_S 2 none am_r78 1 Q 51 [(1, .int ((((Int32.ofInt 0) + Int32.ofInt 1) + Int32.ofInt 1) + Int32.ofInt 1)), (0, .ref 0)] [am_rf ((am_wI (am_wI (am_wI (am_wI (am_wI (am_wI (am_wI h1 28 3 ((Int32.ofInt 0))) 47 2 ((Int32.ofInt 0))) 0 12 ((Int32.ofInt 0))) 0 13 ((Int8.ofInt 31).toInt32)) 130 0 ((Int32.ofInt 0))) 136 0 ((Int32.ofInt 0))) 142 0 ((Int32.ofInt 0))).2.2.1 129 jj)] (am_wI (am_wI (am_wI (am_wI (am_wI (am_wI (am_wI h1 28 3 ((Int32.ofInt 0))) 47 2 ((Int32.ofInt 0))) 0 12 ((Int32.ofInt 0))) 0 13 ((Int8.ofInt 31).toInt32)) 130 0 ((Int32.ofInt 0))) 136 0 ((Int32.ofInt 0))) 142 0 ((Int32.ofInt 0))) from ⟨3, 4, Or.inl (ex_129 hP1), by decide, by decide, ?_⟩)
  rw [ex_r129_3 (h := am_wI (am_wI (am_wI (am_wI (am_wI (am_wI (am_wI h1 28 3 ((Int32.ofInt 0))) 47 2 ((Int32.ofInt 0))) 0 12 ((Int32.ofInt 0))) 0 13 ((Int8.ofInt 31).toInt32)) 130 0 ((Int32.ofInt 0))) 136 0 ((Int32.ofInt 0))) 142 0 ((Int32.ofInt 0))) hP1]
  refine am_goX 2 (show am_sh (am_wI (am_wI (am_wI (am_wI (am_wI (am_wI (am_wI h1 28 3 ((Int32.ofInt 0))) 47 2 ((Int32.ofInt 0))) 0 12 ((Int32.ofInt 0))) 0 13 ((Int8.ofInt 31).toInt32)) 130 0 ((Int32.ofInt 0))) 136 0 ((Int32.ofInt 0))) 142 0 ((Int32.ofInt 0))) 148 = some (5, 0) ∧ narrow (am_fty 5 0) (.int ((Int32.ofInt 0))) = .int ((Int32.ofInt 0)) ∧ fits (am_fty 5 0) (.int ((Int32.ofInt 0))) = true ∧ pz_S 2 none am_r78 1 Q 55 [(1, .int ((((Int32.ofInt 0) + Int32.ofInt 1) + Int32.ofInt 1) + Int32.ofInt 1)), (0, .ref 0)] [] (am_wI (am_wI (am_wI (am_wI (am_wI (am_wI (am_wI (am_wI h1 28 3 ((Int32.ofInt 0))) 47 2 ((Int32.ofInt 0))) 0 12 ((Int32.ofInt 0))) 0 13 ((Int8.ofInt 31).toInt32)) 130 0 ((Int32.ofInt 0))) 136 0 ((Int32.ofInt 0))) 142 0 ((Int32.ofInt 0))) 148 0 ((Int32.ofInt 0))) from ⟨ex_148 hP1, rfl, rfl, ?_⟩)
  refine am_goX 5 (show 1 < 2 ∧ ((Int32.ofInt 4) ≤ (((((Int32.ofInt 0) + Int32.ofInt 1) + Int32.ofInt 1) + Int32.ofInt 1) + Int32.ofInt 1) → pz_S 2 none am_r78 1 Q 61 [(1, .int (((((Int32.ofInt 0) + Int32.ofInt 1) + Int32.ofInt 1) + Int32.ofInt 1) + Int32.ofInt 1)), (0, .ref 0)] [] (am_wI (am_wI (am_wI (am_wI (am_wI (am_wI (am_wI (am_wI h1 28 3 ((Int32.ofInt 0))) 47 2 ((Int32.ofInt 0))) 0 12 ((Int32.ofInt 0))) 0 13 ((Int8.ofInt 31).toInt32)) 130 0 ((Int32.ofInt 0))) 136 0 ((Int32.ofInt 0))) 142 0 ((Int32.ofInt 0))) 148 0 ((Int32.ofInt 0)))) ∧ (¬ ((Int32.ofInt 4) ≤ (((((Int32.ofInt 0) + Int32.ofInt 1) + Int32.ofInt 1) + Int32.ofInt 1) + Int32.ofInt 1)) → pz_S 2 none am_r78 1 Q 45 [(1, .int (((((Int32.ofInt 0) + Int32.ofInt 1) + Int32.ofInt 1) + Int32.ofInt 1) + Int32.ofInt 1)), (0, .ref 0)] [] (am_wI (am_wI (am_wI (am_wI (am_wI (am_wI (am_wI (am_wI h1 28 3 ((Int32.ofInt 0))) 47 2 ((Int32.ofInt 0))) 0 12 ((Int32.ofInt 0))) 0 13 ((Int8.ofInt 31).toInt32)) 130 0 ((Int32.ofInt 0))) 136 0 ((Int32.ofInt 0))) 142 0 ((Int32.ofInt 0))) 148 0 ((Int32.ofInt 0)))) from ⟨by decide, fun _ => ?_, fun hz => absurd (by decide) hz⟩)
  exact am_goX 1 (show (none : Option FieldType) = none ∧ (am_wI (am_wI (am_wI (am_wI (am_wI (am_wI (am_wI (am_wI h1 28 3 ((Int32.ofInt 0))) 47 2 ((Int32.ofInt 0))) 0 12 ((Int32.ofInt 0))) 0 13 ((Int8.ofInt 31).toInt32)) 130 0 ((Int32.ofInt 0))) 136 0 ((Int32.ofInt 0))) 142 0 ((Int32.ofInt 0))) 148 0 ((Int32.ofInt 0))).2.2.2.2 = 175 ∧ _ from ⟨rfl, ex_175 hP1, hQ _ hP1⟩)
theorem c_78_6w32 (hP : ex_P h) (ht : h.2.2.1 0 3 = some 6) (hw : h.2.2.1 0 5 = some 32) (hQ : ∀ h1, ex_P h1 → Q none h1) : am_call am_cod 2 78 [.ref 0] h Q := by
  refine pz_call (n := 78) (nL := 2) (rt := none) (rows := am_r78) (d := 1) (by decide +kernel) (by decide +kernel) rfl (by funext pc; rfl) (ex_175 hP) (by exact Nat.le_of_ble_eq_true rfl) ?_
  refine am_goX 2 (show am_sh h 0 = some (10, 0) ∧ pz_S 2 none am_r78 1 Q 4 [(0, .ref 0)] [am_rf (h.2.2.1 0 7)] h from ⟨ex_0 hP, ?_⟩)
  rw [ex_r0_7 (h := h) hP]
  refine am_goX 2 (show am_sh h 0 = some (10, 0) ∧ pz_S 2 none am_r78 1 Q 8 [(0, .ref 0)] [am_rf (h.2.2.1 0 3), .ref 36] h from ⟨ex_0 hP, ?_⟩)
  rw [ht]
  refine am_goX 1 (show am_rc h 36 6 ∧ 0 ≤ 8 ∧ h.2.2.2.2 + am_al 79 ≤ 175 ∧ am_call am_cod 1 79 [.ref 36, .ref 6] h (fun vv h' => pz_S 2 none am_r78 1 Q 11 [(0, .ref 0)] (vv.toList ++ []) h') from ⟨Or.inl ⟨by decide, ex_36 hP⟩, by decide, ex_lim hP rfl, c_79_6 hP (fun h1 hP1 hr1 => ?_)⟩)
  have hw1 : h1.2.2.1 0 5 = some 32 := by rw [hr1]; exact hw
  refine am_goX 2 (show am_sh h1 0 = some (10, 0) ∧ pz_S 2 none am_r78 1 Q 15 [(0, .ref 0)] [am_rf (h1.2.2.1 0 5)] h1 from ⟨ex_0 hP1, ?_⟩)
  rw [hw1]
  refine am_goX 2 (show am_sh h1 32 = some (8, 0) ∧ narrow (am_fty 8 3) (.int ((Int32.ofInt 0))) = .int ((Int32.ofInt 0)) ∧ fits (am_fty 8 3) (.int ((Int32.ofInt 0))) = true ∧ pz_S 2 none am_r78 1 Q 19 [(0, .ref 0)] [] (am_wI h1 32 3 ((Int32.ofInt 0))) from ⟨ex_32 hP1, rfl, rfl, ?_⟩)
  refine am_goX 2 (show am_sh (am_wI h1 32 3 ((Int32.ofInt 0))) 0 = some (10, 0) ∧ pz_S 2 none am_r78 1 Q 23 [(0, .ref 0)] [am_rf ((am_wI h1 32 3 ((Int32.ofInt 0))).2.2.1 0 10)] (am_wI h1 32 3 ((Int32.ofInt 0))) from ⟨ex_0 hP1, ?_⟩)
  rw [ex_r0_10 (h := am_wI h1 32 3 ((Int32.ofInt 0))) hP1]
  refine am_goX 2 (show am_sh (am_wI h1 32 3 ((Int32.ofInt 0))) 47 = some (2, 0) ∧ narrow (am_fty 2 2) (.int ((Int32.ofInt 0))) = .int ((Int32.ofInt 0)) ∧ fits (am_fty 2 2) (.int ((Int32.ofInt 0))) = true ∧ pz_S 2 none am_r78 1 Q 27 [(0, .ref 0)] [] (am_wI (am_wI h1 32 3 ((Int32.ofInt 0))) 47 2 ((Int32.ofInt 0))) from ⟨ex_47 hP1, rfl, rfl, ?_⟩)
  refine am_goX 3 (show am_sh (am_wI (am_wI h1 32 3 ((Int32.ofInt 0))) 47 2 ((Int32.ofInt 0))) 0 = some (10, 0) ∧ narrow (am_fty 10 12) (.int ((Int32.ofInt 0))) = .int ((Int32.ofInt 0)) ∧ fits (am_fty 10 12) (.int ((Int32.ofInt 0))) = true ∧ pz_S 2 none am_r78 1 Q 32 [(0, .ref 0)] [] (am_wI (am_wI (am_wI h1 32 3 ((Int32.ofInt 0))) 47 2 ((Int32.ofInt 0))) 0 12 ((Int32.ofInt 0))) from ⟨ex_0 hP1, rfl, rfl, ?_⟩)
  refine am_goX 3 (show am_sh (am_wI (am_wI (am_wI h1 32 3 ((Int32.ofInt 0))) 47 2 ((Int32.ofInt 0))) 0 12 ((Int32.ofInt 0))) 0 = some (10, 0) ∧ narrow (am_fty 10 13) (.int ((Int8.ofInt 31).toInt32)) = .int ((Int8.ofInt 31).toInt32) ∧ fits (am_fty 10 13) (.int ((Int8.ofInt 31).toInt32)) = true ∧ pz_S 2 none am_r78 1 Q 38 [(0, .ref 0)] [] (am_wI (am_wI (am_wI (am_wI h1 32 3 ((Int32.ofInt 0))) 47 2 ((Int32.ofInt 0))) 0 12 ((Int32.ofInt 0))) 0 13 ((Int8.ofInt 31).toInt32)) from ⟨ex_0 hP1, rfl, rfl, ?_⟩)
  refine am_goX 5 (show 1 < 2 ∧ ((Int32.ofInt 4) ≤ (Int32.ofInt 0) → pz_S 2 none am_r78 1 Q 61 [(1, .int (Int32.ofInt 0)), (0, .ref 0)] [] (am_wI (am_wI (am_wI (am_wI h1 32 3 ((Int32.ofInt 0))) 47 2 ((Int32.ofInt 0))) 0 12 ((Int32.ofInt 0))) 0 13 ((Int8.ofInt 31).toInt32))) ∧ (¬ ((Int32.ofInt 4) ≤ (Int32.ofInt 0)) → pz_S 2 none am_r78 1 Q 45 [(1, .int (Int32.ofInt 0)), (0, .ref 0)] [] (am_wI (am_wI (am_wI (am_wI h1 32 3 ((Int32.ofInt 0))) 47 2 ((Int32.ofInt 0))) 0 12 ((Int32.ofInt 0))) 0 13 ((Int8.ofInt 31).toInt32))) from ⟨by decide, fun hz => absurd hz (by decide), fun _ => ?_⟩)
  refine am_goX 2 (show am_sh (am_wI (am_wI (am_wI (am_wI h1 32 3 ((Int32.ofInt 0))) 47 2 ((Int32.ofInt 0))) 0 12 ((Int32.ofInt 0))) 0 13 ((Int8.ofInt 31).toInt32)) 0 = some (10, 0) ∧ pz_S 2 none am_r78 1 Q 49 [(1, .int (Int32.ofInt 0)), (0, .ref 0)] [am_rf ((am_wI (am_wI (am_wI (am_wI h1 32 3 ((Int32.ofInt 0))) 47 2 ((Int32.ofInt 0))) 0 12 ((Int32.ofInt 0))) 0 13 ((Int8.ofInt 31).toInt32)).2.2.1 0 11)] (am_wI (am_wI (am_wI (am_wI h1 32 3 ((Int32.ofInt 0))) 47 2 ((Int32.ofInt 0))) 0 12 ((Int32.ofInt 0))) 0 13 ((Int8.ofInt 31).toInt32)) from ⟨ex_0 hP1, ?_⟩)
  rw [ex_r0_11 (h := am_wI (am_wI (am_wI (am_wI h1 32 3 ((Int32.ofInt 0))) 47 2 ((Int32.ofInt 0))) 0 12 ((Int32.ofInt 0))) 0 13 ((Int8.ofInt 31).toInt32)) hP1]
  refine am_goX 2 (show ∃ jj nn : Nat, (am_sh (am_wI (am_wI (am_wI (am_wI h1 32 3 ((Int32.ofInt 0))) 47 2 ((Int32.ofInt 0))) 0 12 ((Int32.ofInt 0))) 0 13 ((Int8.ofInt 31).toInt32)) 129 = some (16, nn) ∨ am_sh (am_wI (am_wI (am_wI (am_wI h1 32 3 ((Int32.ofInt 0))) 47 2 ((Int32.ofInt 0))) 0 12 ((Int32.ofInt 0))) 0 13 ((Int8.ofInt 31).toInt32)) 129 = some (17, nn)) ∧ jj < nn ∧ (Int32.ofInt 0) = nI jj ∧ pz_S 2 none am_r78 1 Q 51 [(1, .int (Int32.ofInt 0)), (0, .ref 0)] [am_rf ((am_wI (am_wI (am_wI (am_wI h1 32 3 ((Int32.ofInt 0))) 47 2 ((Int32.ofInt 0))) 0 12 ((Int32.ofInt 0))) 0 13 ((Int8.ofInt 31).toInt32)).2.2.1 129 jj)] (am_wI (am_wI (am_wI (am_wI h1 32 3 ((Int32.ofInt 0))) 47 2 ((Int32.ofInt 0))) 0 12 ((Int32.ofInt 0))) 0 13 ((Int8.ofInt 31).toInt32)) from ⟨0, 4, Or.inl (ex_129 hP1), by decide, by decide, ?_⟩)
  rw [ex_r129_0 (h := am_wI (am_wI (am_wI (am_wI h1 32 3 ((Int32.ofInt 0))) 47 2 ((Int32.ofInt 0))) 0 12 ((Int32.ofInt 0))) 0 13 ((Int8.ofInt 31).toInt32)) hP1]
  refine am_goX 2 (show am_sh (am_wI (am_wI (am_wI (am_wI h1 32 3 ((Int32.ofInt 0))) 47 2 ((Int32.ofInt 0))) 0 12 ((Int32.ofInt 0))) 0 13 ((Int8.ofInt 31).toInt32)) 130 = some (5, 0) ∧ narrow (am_fty 5 0) (.int ((Int32.ofInt 0))) = .int ((Int32.ofInt 0)) ∧ fits (am_fty 5 0) (.int ((Int32.ofInt 0))) = true ∧ pz_S 2 none am_r78 1 Q 55 [(1, .int (Int32.ofInt 0)), (0, .ref 0)] [] (am_wI (am_wI (am_wI (am_wI (am_wI h1 32 3 ((Int32.ofInt 0))) 47 2 ((Int32.ofInt 0))) 0 12 ((Int32.ofInt 0))) 0 13 ((Int8.ofInt 31).toInt32)) 130 0 ((Int32.ofInt 0))) from ⟨ex_130 hP1, rfl, rfl, ?_⟩)
  refine am_goX 5 (show 1 < 2 ∧ ((Int32.ofInt 4) ≤ ((Int32.ofInt 0) + Int32.ofInt 1) → pz_S 2 none am_r78 1 Q 61 [(1, .int ((Int32.ofInt 0) + Int32.ofInt 1)), (0, .ref 0)] [] (am_wI (am_wI (am_wI (am_wI (am_wI h1 32 3 ((Int32.ofInt 0))) 47 2 ((Int32.ofInt 0))) 0 12 ((Int32.ofInt 0))) 0 13 ((Int8.ofInt 31).toInt32)) 130 0 ((Int32.ofInt 0)))) ∧ (¬ ((Int32.ofInt 4) ≤ ((Int32.ofInt 0) + Int32.ofInt 1)) → pz_S 2 none am_r78 1 Q 45 [(1, .int ((Int32.ofInt 0) + Int32.ofInt 1)), (0, .ref 0)] [] (am_wI (am_wI (am_wI (am_wI (am_wI h1 32 3 ((Int32.ofInt 0))) 47 2 ((Int32.ofInt 0))) 0 12 ((Int32.ofInt 0))) 0 13 ((Int8.ofInt 31).toInt32)) 130 0 ((Int32.ofInt 0)))) from ⟨by decide, fun hz => absurd hz (by decide), fun _ => ?_⟩)
  refine am_goX 2 (show am_sh (am_wI (am_wI (am_wI (am_wI (am_wI h1 32 3 ((Int32.ofInt 0))) 47 2 ((Int32.ofInt 0))) 0 12 ((Int32.ofInt 0))) 0 13 ((Int8.ofInt 31).toInt32)) 130 0 ((Int32.ofInt 0))) 0 = some (10, 0) ∧ pz_S 2 none am_r78 1 Q 49 [(1, .int ((Int32.ofInt 0) + Int32.ofInt 1)), (0, .ref 0)] [am_rf ((am_wI (am_wI (am_wI (am_wI (am_wI h1 32 3 ((Int32.ofInt 0))) 47 2 ((Int32.ofInt 0))) 0 12 ((Int32.ofInt 0))) 0 13 ((Int8.ofInt 31).toInt32)) 130 0 ((Int32.ofInt 0))).2.2.1 0 11)] (am_wI (am_wI (am_wI (am_wI (am_wI h1 32 3 ((Int32.ofInt 0))) 47 2 ((Int32.ofInt 0))) 0 12 ((Int32.ofInt 0))) 0 13 ((Int8.ofInt 31).toInt32)) 130 0 ((Int32.ofInt 0))) from ⟨ex_0 hP1, ?_⟩)
  rw [ex_r0_11 (h := am_wI (am_wI (am_wI (am_wI (am_wI h1 32 3 ((Int32.ofInt 0))) 47 2 ((Int32.ofInt 0))) 0 12 ((Int32.ofInt 0))) 0 13 ((Int8.ofInt 31).toInt32)) 130 0 ((Int32.ofInt 0))) hP1]
  refine am_goX 2 (show ∃ jj nn : Nat, (am_sh (am_wI (am_wI (am_wI (am_wI (am_wI h1 32 3 ((Int32.ofInt 0))) 47 2 ((Int32.ofInt 0))) 0 12 ((Int32.ofInt 0))) 0 13 ((Int8.ofInt 31).toInt32)) 130 0 ((Int32.ofInt 0))) 129 = some (16, nn) ∨ am_sh (am_wI (am_wI (am_wI (am_wI (am_wI h1 32 3 ((Int32.ofInt 0))) 47 2 ((Int32.ofInt 0))) 0 12 ((Int32.ofInt 0))) 0 13 ((Int8.ofInt 31).toInt32)) 130 0 ((Int32.ofInt 0))) 129 = some (17, nn)) ∧ jj < nn ∧ ((Int32.ofInt 0) + Int32.ofInt 1) = nI jj ∧ pz_S 2 none am_r78 1 Q 51 [(1, .int ((Int32.ofInt 0) + Int32.ofInt 1)), (0, .ref 0)] [am_rf ((am_wI (am_wI (am_wI (am_wI (am_wI h1 32 3 ((Int32.ofInt 0))) 47 2 ((Int32.ofInt 0))) 0 12 ((Int32.ofInt 0))) 0 13 ((Int8.ofInt 31).toInt32)) 130 0 ((Int32.ofInt 0))).2.2.1 129 jj)] (am_wI (am_wI (am_wI (am_wI (am_wI h1 32 3 ((Int32.ofInt 0))) 47 2 ((Int32.ofInt 0))) 0 12 ((Int32.ofInt 0))) 0 13 ((Int8.ofInt 31).toInt32)) 130 0 ((Int32.ofInt 0))) from ⟨1, 4, Or.inl (ex_129 hP1), by decide, by decide, ?_⟩)
  rw [ex_r129_1 (h := am_wI (am_wI (am_wI (am_wI (am_wI h1 32 3 ((Int32.ofInt 0))) 47 2 ((Int32.ofInt 0))) 0 12 ((Int32.ofInt 0))) 0 13 ((Int8.ofInt 31).toInt32)) 130 0 ((Int32.ofInt 0))) hP1]
  refine am_goX 2 (show am_sh (am_wI (am_wI (am_wI (am_wI (am_wI h1 32 3 ((Int32.ofInt 0))) 47 2 ((Int32.ofInt 0))) 0 12 ((Int32.ofInt 0))) 0 13 ((Int8.ofInt 31).toInt32)) 130 0 ((Int32.ofInt 0))) 136 = some (5, 0) ∧ narrow (am_fty 5 0) (.int ((Int32.ofInt 0))) = .int ((Int32.ofInt 0)) ∧ fits (am_fty 5 0) (.int ((Int32.ofInt 0))) = true ∧ pz_S 2 none am_r78 1 Q 55 [(1, .int ((Int32.ofInt 0) + Int32.ofInt 1)), (0, .ref 0)] [] (am_wI (am_wI (am_wI (am_wI (am_wI (am_wI h1 32 3 ((Int32.ofInt 0))) 47 2 ((Int32.ofInt 0))) 0 12 ((Int32.ofInt 0))) 0 13 ((Int8.ofInt 31).toInt32)) 130 0 ((Int32.ofInt 0))) 136 0 ((Int32.ofInt 0))) from ⟨ex_136 hP1, rfl, rfl, ?_⟩)
  refine am_goX 5 (show 1 < 2 ∧ ((Int32.ofInt 4) ≤ (((Int32.ofInt 0) + Int32.ofInt 1) + Int32.ofInt 1) → pz_S 2 none am_r78 1 Q 61 [(1, .int (((Int32.ofInt 0) + Int32.ofInt 1) + Int32.ofInt 1)), (0, .ref 0)] [] (am_wI (am_wI (am_wI (am_wI (am_wI (am_wI h1 32 3 ((Int32.ofInt 0))) 47 2 ((Int32.ofInt 0))) 0 12 ((Int32.ofInt 0))) 0 13 ((Int8.ofInt 31).toInt32)) 130 0 ((Int32.ofInt 0))) 136 0 ((Int32.ofInt 0)))) ∧ (¬ ((Int32.ofInt 4) ≤ (((Int32.ofInt 0) + Int32.ofInt 1) + Int32.ofInt 1)) → pz_S 2 none am_r78 1 Q 45 [(1, .int (((Int32.ofInt 0) + Int32.ofInt 1) + Int32.ofInt 1)), (0, .ref 0)] [] (am_wI (am_wI (am_wI (am_wI (am_wI (am_wI h1 32 3 ((Int32.ofInt 0))) 47 2 ((Int32.ofInt 0))) 0 12 ((Int32.ofInt 0))) 0 13 ((Int8.ofInt 31).toInt32)) 130 0 ((Int32.ofInt 0))) 136 0 ((Int32.ofInt 0)))) from ⟨by decide, fun hz => absurd hz (by decide), fun _ => ?_⟩)
  refine am_goX 2 (show am_sh (am_wI (am_wI (am_wI (am_wI (am_wI (am_wI h1 32 3 ((Int32.ofInt 0))) 47 2 ((Int32.ofInt 0))) 0 12 ((Int32.ofInt 0))) 0 13 ((Int8.ofInt 31).toInt32)) 130 0 ((Int32.ofInt 0))) 136 0 ((Int32.ofInt 0))) 0 = some (10, 0) ∧ pz_S 2 none am_r78 1 Q 49 [(1, .int (((Int32.ofInt 0) + Int32.ofInt 1) + Int32.ofInt 1)), (0, .ref 0)] [am_rf ((am_wI (am_wI (am_wI (am_wI (am_wI (am_wI h1 32 3 ((Int32.ofInt 0))) 47 2 ((Int32.ofInt 0))) 0 12 ((Int32.ofInt 0))) 0 13 ((Int8.ofInt 31).toInt32)) 130 0 ((Int32.ofInt 0))) 136 0 ((Int32.ofInt 0))).2.2.1 0 11)] (am_wI (am_wI (am_wI (am_wI (am_wI (am_wI h1 32 3 ((Int32.ofInt 0))) 47 2 ((Int32.ofInt 0))) 0 12 ((Int32.ofInt 0))) 0 13 ((Int8.ofInt 31).toInt32)) 130 0 ((Int32.ofInt 0))) 136 0 ((Int32.ofInt 0))) from ⟨ex_0 hP1, ?_⟩)
  rw [ex_r0_11 (h := am_wI (am_wI (am_wI (am_wI (am_wI (am_wI h1 32 3 ((Int32.ofInt 0))) 47 2 ((Int32.ofInt 0))) 0 12 ((Int32.ofInt 0))) 0 13 ((Int8.ofInt 31).toInt32)) 130 0 ((Int32.ofInt 0))) 136 0 ((Int32.ofInt 0))) hP1]
  refine am_goX 2 (show ∃ jj nn : Nat, (am_sh (am_wI (am_wI (am_wI (am_wI (am_wI (am_wI h1 32 3 ((Int32.ofInt 0))) 47 2 ((Int32.ofInt 0))) 0 12 ((Int32.ofInt 0))) 0 13 ((Int8.ofInt 31).toInt32)) 130 0 ((Int32.ofInt 0))) 136 0 ((Int32.ofInt 0))) 129 = some (16, nn) ∨ am_sh (am_wI (am_wI (am_wI (am_wI (am_wI (am_wI h1 32 3 ((Int32.ofInt 0))) 47 2 ((Int32.ofInt 0))) 0 12 ((Int32.ofInt 0))) 0 13 ((Int8.ofInt 31).toInt32)) 130 0 ((Int32.ofInt 0))) 136 0 ((Int32.ofInt 0))) 129 = some (17, nn)) ∧ jj < nn ∧ (((Int32.ofInt 0) + Int32.ofInt 1) + Int32.ofInt 1) = nI jj ∧ pz_S 2 none am_r78 1 Q 51 [(1, .int (((Int32.ofInt 0) + Int32.ofInt 1) + Int32.ofInt 1)), (0, .ref 0)] [am_rf ((am_wI (am_wI (am_wI (am_wI (am_wI (am_wI h1 32 3 ((Int32.ofInt 0))) 47 2 ((Int32.ofInt 0))) 0 12 ((Int32.ofInt 0))) 0 13 ((Int8.ofInt 31).toInt32)) 130 0 ((Int32.ofInt 0))) 136 0 ((Int32.ofInt 0))).2.2.1 129 jj)] (am_wI (am_wI (am_wI (am_wI (am_wI (am_wI h1 32 3 ((Int32.ofInt 0))) 47 2 ((Int32.ofInt 0))) 0 12 ((Int32.ofInt 0))) 0 13 ((Int8.ofInt 31).toInt32)) 130 0 ((Int32.ofInt 0))) 136 0 ((Int32.ofInt 0))) from ⟨2, 4, Or.inl (ex_129 hP1), by decide, by decide, ?_⟩)
  rw [ex_r129_2 (h := am_wI (am_wI (am_wI (am_wI (am_wI (am_wI h1 32 3 ((Int32.ofInt 0))) 47 2 ((Int32.ofInt 0))) 0 12 ((Int32.ofInt 0))) 0 13 ((Int8.ofInt 31).toInt32)) 130 0 ((Int32.ofInt 0))) 136 0 ((Int32.ofInt 0))) hP1]
  refine am_goX 2 (show am_sh (am_wI (am_wI (am_wI (am_wI (am_wI (am_wI h1 32 3 ((Int32.ofInt 0))) 47 2 ((Int32.ofInt 0))) 0 12 ((Int32.ofInt 0))) 0 13 ((Int8.ofInt 31).toInt32)) 130 0 ((Int32.ofInt 0))) 136 0 ((Int32.ofInt 0))) 142 = some (5, 0) ∧ narrow (am_fty 5 0) (.int ((Int32.ofInt 0))) = .int ((Int32.ofInt 0)) ∧ fits (am_fty 5 0) (.int ((Int32.ofInt 0))) = true ∧ pz_S 2 none am_r78 1 Q 55 [(1, .int (((Int32.ofInt 0) + Int32.ofInt 1) + Int32.ofInt 1)), (0, .ref 0)] [] (am_wI (am_wI (am_wI (am_wI (am_wI (am_wI (am_wI h1 32 3 ((Int32.ofInt 0))) 47 2 ((Int32.ofInt 0))) 0 12 ((Int32.ofInt 0))) 0 13 ((Int8.ofInt 31).toInt32)) 130 0 ((Int32.ofInt 0))) 136 0 ((Int32.ofInt 0))) 142 0 ((Int32.ofInt 0))) from ⟨ex_142 hP1, rfl, rfl, ?_⟩)
  refine am_goX 5 (show 1 < 2 ∧ ((Int32.ofInt 4) ≤ ((((Int32.ofInt 0) + Int32.ofInt 1) + Int32.ofInt 1) + Int32.ofInt 1) → pz_S 2 none am_r78 1 Q 61 [(1, .int ((((Int32.ofInt 0) + Int32.ofInt 1) + Int32.ofInt 1) + Int32.ofInt 1)), (0, .ref 0)] [] (am_wI (am_wI (am_wI (am_wI (am_wI (am_wI (am_wI h1 32 3 ((Int32.ofInt 0))) 47 2 ((Int32.ofInt 0))) 0 12 ((Int32.ofInt 0))) 0 13 ((Int8.ofInt 31).toInt32)) 130 0 ((Int32.ofInt 0))) 136 0 ((Int32.ofInt 0))) 142 0 ((Int32.ofInt 0)))) ∧ (¬ ((Int32.ofInt 4) ≤ ((((Int32.ofInt 0) + Int32.ofInt 1) + Int32.ofInt 1) + Int32.ofInt 1)) → pz_S 2 none am_r78 1 Q 45 [(1, .int ((((Int32.ofInt 0) + Int32.ofInt 1) + Int32.ofInt 1) + Int32.ofInt 1)), (0, .ref 0)] [] (am_wI (am_wI (am_wI (am_wI (am_wI (am_wI (am_wI h1 32 3 ((Int32.ofInt 0))) 47 2 ((Int32.ofInt 0))) 0 12 ((Int32.ofInt 0))) 0 13 ((Int8.ofInt 31).toInt32)) 130 0 ((Int32.ofInt 0))) 136 0 ((Int32.ofInt 0))) 142 0 ((Int32.ofInt 0)))) from ⟨by decide, fun hz => absurd hz (by decide), fun _ => ?_⟩)
  refine am_goX 2 (show am_sh (am_wI (am_wI (am_wI (am_wI (am_wI (am_wI (am_wI h1 32 3 ((Int32.ofInt 0))) 47 2 ((Int32.ofInt 0))) 0 12 ((Int32.ofInt 0))) 0 13 ((Int8.ofInt 31).toInt32)) 130 0 ((Int32.ofInt 0))) 136 0 ((Int32.ofInt 0))) 142 0 ((Int32.ofInt 0))) 0 = some (10, 0) ∧ pz_S 2 none am_r78 1 Q 49 [(1, .int ((((Int32.ofInt 0) + Int32.ofInt 1) + Int32.ofInt 1) + Int32.ofInt 1)), (0, .ref 0)] [am_rf ((am_wI (am_wI (am_wI (am_wI (am_wI (am_wI (am_wI h1 32 3 ((Int32.ofInt 0))) 47 2 ((Int32.ofInt 0))) 0 12 ((Int32.ofInt 0))) 0 13 ((Int8.ofInt 31).toInt32)) 130 0 ((Int32.ofInt 0))) 136 0 ((Int32.ofInt 0))) 142 0 ((Int32.ofInt 0))).2.2.1 0 11)] (am_wI (am_wI (am_wI (am_wI (am_wI (am_wI (am_wI h1 32 3 ((Int32.ofInt 0))) 47 2 ((Int32.ofInt 0))) 0 12 ((Int32.ofInt 0))) 0 13 ((Int8.ofInt 31).toInt32)) 130 0 ((Int32.ofInt 0))) 136 0 ((Int32.ofInt 0))) 142 0 ((Int32.ofInt 0))) from ⟨ex_0 hP1, ?_⟩)
  rw [ex_r0_11 (h := am_wI (am_wI (am_wI (am_wI (am_wI (am_wI (am_wI h1 32 3 ((Int32.ofInt 0))) 47 2 ((Int32.ofInt 0))) 0 12 ((Int32.ofInt 0))) 0 13 ((Int8.ofInt 31).toInt32)) 130 0 ((Int32.ofInt 0))) 136 0 ((Int32.ofInt 0))) 142 0 ((Int32.ofInt 0))) hP1]
  refine am_goX 2 (show ∃ jj nn : Nat, (am_sh (am_wI (am_wI (am_wI (am_wI (am_wI (am_wI (am_wI h1 32 3 ((Int32.ofInt 0))) 47 2 ((Int32.ofInt 0))) 0 12 ((Int32.ofInt 0))) 0 13 ((Int8.ofInt 31).toInt32)) 130 0 ((Int32.ofInt 0))) 136 0 ((Int32.ofInt 0))) 142 0 ((Int32.ofInt 0))) 129 = some (16, nn) ∨ am_sh (am_wI (am_wI (am_wI (am_wI (am_wI (am_wI (am_wI h1 32 3 ((Int32.ofInt 0))) 47 2 ((Int32.ofInt 0))) 0 12 ((Int32.ofInt 0))) 0 13 ((Int8.ofInt 31).toInt32)) 130 0 ((Int32.ofInt 0))) 136 0 ((Int32.ofInt 0))) 142 0 ((Int32.ofInt 0))) 129 = some (17, nn)) ∧ jj < nn ∧ ((((Int32.ofInt 0) + Int32.ofInt 1) + Int32.ofInt 1) + Int32.ofInt 1) = nI jj ∧ pz_S 2 none am_r78 1 Q 51 [(1, .int ((((Int32.ofInt 0) + Int32.ofInt 1) + Int32.ofInt 1) + Int32.ofInt 1)), (0, .ref 0)] [am_rf ((am_wI (am_wI (am_wI (am_wI (am_wI (am_wI (am_wI h1 32 3 ((Int32.ofInt 0))) 47 2 ((Int32.ofInt 0))) 0 12 ((Int32.ofInt 0))) 0 13 ((Int8.ofInt 31).toInt32)) 130 0 ((Int32.ofInt 0))) 136 0 ((Int32.ofInt 0))) 142 0 ((Int32.ofInt 0))).2.2.1 129 jj)] (am_wI (am_wI (am_wI (am_wI (am_wI (am_wI (am_wI h1 32 3 ((Int32.ofInt 0))) 47 2 ((Int32.ofInt 0))) 0 12 ((Int32.ofInt 0))) 0 13 ((Int8.ofInt 31).toInt32)) 130 0 ((Int32.ofInt 0))) 136 0 ((Int32.ofInt 0))) 142 0 ((Int32.ofInt 0))) from ⟨3, 4, Or.inl (ex_129 hP1), by decide, by decide, ?_⟩)
  rw [ex_r129_3 (h := am_wI (am_wI (am_wI (am_wI (am_wI (am_wI (am_wI h1 32 3 ((Int32.ofInt 0))) 47 2 ((Int32.ofInt 0))) 0 12 ((Int32.ofInt 0))) 0 13 ((Int8.ofInt 31).toInt32)) 130 0 ((Int32.ofInt 0))) 136 0 ((Int32.ofInt 0))) 142 0 ((Int32.ofInt 0))) hP1]
  refine am_goX 2 (show am_sh (am_wI (am_wI (am_wI (am_wI (am_wI (am_wI (am_wI h1 32 3 ((Int32.ofInt 0))) 47 2 ((Int32.ofInt 0))) 0 12 ((Int32.ofInt 0))) 0 13 ((Int8.ofInt 31).toInt32)) 130 0 ((Int32.ofInt 0))) 136 0 ((Int32.ofInt 0))) 142 0 ((Int32.ofInt 0))) 148 = some (5, 0) ∧ narrow (am_fty 5 0) (.int ((Int32.ofInt 0))) = .int ((Int32.ofInt 0)) ∧ fits (am_fty 5 0) (.int ((Int32.ofInt 0))) = true ∧ pz_S 2 none am_r78 1 Q 55 [(1, .int ((((Int32.ofInt 0) + Int32.ofInt 1) + Int32.ofInt 1) + Int32.ofInt 1)), (0, .ref 0)] [] (am_wI (am_wI (am_wI (am_wI (am_wI (am_wI (am_wI (am_wI h1 32 3 ((Int32.ofInt 0))) 47 2 ((Int32.ofInt 0))) 0 12 ((Int32.ofInt 0))) 0 13 ((Int8.ofInt 31).toInt32)) 130 0 ((Int32.ofInt 0))) 136 0 ((Int32.ofInt 0))) 142 0 ((Int32.ofInt 0))) 148 0 ((Int32.ofInt 0))) from ⟨ex_148 hP1, rfl, rfl, ?_⟩)
  refine am_goX 5 (show 1 < 2 ∧ ((Int32.ofInt 4) ≤ (((((Int32.ofInt 0) + Int32.ofInt 1) + Int32.ofInt 1) + Int32.ofInt 1) + Int32.ofInt 1) → pz_S 2 none am_r78 1 Q 61 [(1, .int (((((Int32.ofInt 0) + Int32.ofInt 1) + Int32.ofInt 1) + Int32.ofInt 1) + Int32.ofInt 1)), (0, .ref 0)] [] (am_wI (am_wI (am_wI (am_wI (am_wI (am_wI (am_wI (am_wI h1 32 3 ((Int32.ofInt 0))) 47 2 ((Int32.ofInt 0))) 0 12 ((Int32.ofInt 0))) 0 13 ((Int8.ofInt 31).toInt32)) 130 0 ((Int32.ofInt 0))) 136 0 ((Int32.ofInt 0))) 142 0 ((Int32.ofInt 0))) 148 0 ((Int32.ofInt 0)))) ∧ (¬ ((Int32.ofInt 4) ≤ (((((Int32.ofInt 0) + Int32.ofInt 1) + Int32.ofInt 1) + Int32.ofInt 1) + Int32.ofInt 1)) → pz_S 2 none am_r78 1 Q 45 [(1, .int (((((Int32.ofInt 0) + Int32.ofInt 1) + Int32.ofInt 1) + Int32.ofInt 1) + Int32.ofInt 1)), (0, .ref 0)] [] (am_wI (am_wI (am_wI (am_wI (am_wI (am_wI (am_wI (am_wI h1 32 3 ((Int32.ofInt 0))) 47 2 ((Int32.ofInt 0))) 0 12 ((Int32.ofInt 0))) 0 13 ((Int8.ofInt 31).toInt32)) 130 0 ((Int32.ofInt 0))) 136 0 ((Int32.ofInt 0))) 142 0 ((Int32.ofInt 0))) 148 0 ((Int32.ofInt 0)))) from ⟨by decide, fun _ => ?_, fun hz => absurd (by decide) hz⟩)
  exact am_goX 1 (show (none : Option FieldType) = none ∧ (am_wI (am_wI (am_wI (am_wI (am_wI (am_wI (am_wI (am_wI h1 32 3 ((Int32.ofInt 0))) 47 2 ((Int32.ofInt 0))) 0 12 ((Int32.ofInt 0))) 0 13 ((Int8.ofInt 31).toInt32)) 130 0 ((Int32.ofInt 0))) 136 0 ((Int32.ofInt 0))) 142 0 ((Int32.ofInt 0))) 148 0 ((Int32.ofInt 0))).2.2.2.2 = 175 ∧ _ from ⟨rfl, ex_175 hP1, hQ _ hP1⟩)
theorem c_79b_17 : ∀ (m i : Nat) (h : am_H), i + m = 5 → ex_P h → (∀ h1, ex_P h1 → h1.2.2 = h.2.2 → Q none h1) → pz_S 3 none am_r79 0 Q 45 [(2, .int (nI i)), (0, .ref 36), (1, .ref 17)] [] h := by
  intro m
  induction m with
  | zero =>
    intro i h hi hP hQ
    refine am_goX 3 (show ((Int32.ofInt 5) ≤ (nI i) → pz_S 3 none am_r79 0 Q 70 [(2, .int (nI i)), (0, .ref 36), (1, .ref 17)] [] h) ∧ (¬ ((Int32.ofInt 5) ≤ (nI i)) → pz_S 3 none am_r79 0 Q 50 [(2, .int (nI i)), (0, .ref 36), (1, .ref 17)] [] h) from ⟨fun hc => ?_, fun hc => ?_⟩)
    ·
      exact am_goX 1 (show (none : Option FieldType) = none ∧ h.2.2.2.2 = 175 ∧ _ from ⟨rfl, ex_175 hP, hQ _ hP rfl⟩)
    · exact absurd (show nI 5 ≤ nI i from nI_le (by omega) (by omega)) hc
  | succ m ih =>
    intro i h hi hP hQ
    refine am_goX 3 (show ((Int32.ofInt 5) ≤ (nI i) → pz_S 3 none am_r79 0 Q 70 [(2, .int (nI i)), (0, .ref 36), (1, .ref 17)] [] h) ∧ (¬ ((Int32.ofInt 5) ≤ (nI i)) → pz_S 3 none am_r79 0 Q 50 [(2, .int (nI i)), (0, .ref 36), (1, .ref 17)] [] h) from ⟨fun hc => ?_, fun hc => ?_⟩)
    · have hc1 : nI 5 ≤ nI i := hc
      rw [nI_leI (by omega) (by omega)] at hc1
      omega
    clear hc
    refine am_goX 2 (show am_sh h 36 = some (6, 0) ∧ pz_S 3 none am_r79 0 Q 54 [(2, .int (nI i)), (0, .ref 36), (1, .ref 17)] [am_rf (h.2.2.1 36 4)] h from ⟨ex_36 hP, ?_⟩)
    rw [ex_r36_4 (h := h) hP]
    refine am_goX 3 (show ∃ jj nn : Nat, am_so h 39 = some (13, nn) ∧ jj < nn ∧ (nI i) = nI jj ∧ pz_S 3 none am_r79 0 Q 57 [(2, .int (nI i)), (0, .ref 36), (1, .ref 17)] [] (am_wI h 39 jj (Int32.ofInt 0)) from ⟨i, 5, ex_w39 hP, by omega, rfl, ?_⟩)
    refine am_goX 2 (show am_sh (am_wI h 39 (i) (Int32.ofInt 0)) 36 = some (6, 0) ∧ pz_S 3 none am_r79 0 Q 61 [(2, .int (nI i)), (0, .ref 36), (1, .ref 17)] [am_rf ((am_wI h 39 (i) (Int32.ofInt 0)).2.2.1 36 5)] (am_wI h 39 (i) (Int32.ofInt 0)) from ⟨ex_36 hP, ?_⟩)
    rw [ex_r36_5 (h := am_wI h 39 (i) (Int32.ofInt 0)) hP]
    refine am_goX 3 (show ∃ jj nn : Nat, am_so (am_wI h 39 (i) (Int32.ofInt 0)) 40 = some (13, nn) ∧ jj < nn ∧ (nI i) = nI jj ∧ pz_S 3 none am_r79 0 Q 64 [(2, .int (nI i)), (0, .ref 36), (1, .ref 17)] [] (am_wI (am_wI h 39 (i) (Int32.ofInt 0)) 40 jj (Int32.ofInt 0)) from ⟨i, 5, ex_w40 hP, by omega, rfl, ?_⟩)
    refine am_goX 2 (show 2 < 3 ∧ pz_S 3 none am_r79 0 Q 45 [(2, .int ((nI i) + Int32.ofInt 1)), (0, .ref 36), (1, .ref 17)] [] (am_wI (am_wI h 39 (i) (Int32.ofInt 0)) 40 (i) (Int32.ofInt 0)) from ⟨by decide, ?_⟩)
    rw [xw_i1]
    exact ih (i + 1) _ (by omega) hP hQ
theorem c_79a_17 : ∀ (m i : Nat) (h : am_H), i + m = 6 → ex_P h → (∀ h1, ex_P h1 → h1.2.2 = h.2.2 → Q none h1) → pz_S 3 none am_r79 0 Q 12 [(2, .int (nI i)), (0, .ref 36), (1, .ref 17)] [] h := by
  intro m
  induction m with
  | zero =>
    intro i h hi hP hQ
    refine am_goX 3 (show ((Int8.ofInt 6).toInt32 ≤ (nI i) → pz_S 3 none am_r79 0 Q 43 [(2, .int (nI i)), (0, .ref 36), (1, .ref 17)] [] h) ∧ (¬ ((Int8.ofInt 6).toInt32 ≤ (nI i)) → pz_S 3 none am_r79 0 Q 18 [(2, .int (nI i)), (0, .ref 36), (1, .ref 17)] [] h) from ⟨fun hc => ?_, fun hc => ?_⟩)
    ·
      refine am_goX 2 (show 2 < 3 ∧ pz_S 3 none am_r79 0 Q 45 [(2, .int (Int32.ofInt 0)), (0, .ref 36), (1, .ref 17)] [] h from ⟨by decide, ?_⟩)
      exact c_79b_17 5 0 _ rfl hP hQ
    · exact absurd (show nI 6 ≤ nI i from nI_le (by omega) (by omega)) hc
  | succ m ih =>
    intro i h hi hP hQ
    refine am_goX 3 (show ((Int8.ofInt 6).toInt32 ≤ (nI i) → pz_S 3 none am_r79 0 Q 43 [(2, .int (nI i)), (0, .ref 36), (1, .ref 17)] [] h) ∧ (¬ ((Int8.ofInt 6).toInt32 ≤ (nI i)) → pz_S 3 none am_r79 0 Q 18 [(2, .int (nI i)), (0, .ref 36), (1, .ref 17)] [] h) from ⟨fun hc => ?_, fun hc => ?_⟩)
    · have hc1 : nI 6 ≤ nI i := hc
      rw [nI_leI (by omega) (by omega)] at hc1
      omega
    clear hc
    refine am_goX 2 (show am_sh h 36 = some (6, 0) ∧ pz_S 3 none am_r79 0 Q 22 [(2, .int (nI i)), (0, .ref 36), (1, .ref 17)] [am_rf (h.2.2.1 36 2)] h from ⟨ex_36 hP, ?_⟩)
    rw [ex_r36_2 (h := h) hP]
    refine am_goX 3 (show am_sh h 17 = some (0, 0) ∧ pz_S 3 none am_r79 0 Q 27 [(2, .int (nI i)), (0, .ref 36), (1, .ref 17)] [am_rf (h.2.2.1 17 3), .int (nI i), .ref 37] h from ⟨ex_17 hP, ?_⟩)
    rw [ex_r17_3 (h := h) hP]
    refine am_goX 2 (show ∃ jj nn : Nat, am_sh h 20 = some (13, nn) ∧ jj < nn ∧ (nI i) = nI jj ∧ pz_S 3 none am_r79 0 Q 29 [(2, .int (nI i)), (0, .ref 36), (1, .ref 17)] [.int (h.1 20 jj), .int (nI i), .ref 37] h from ⟨i, 6, ex_20 hP, by omega, rfl, ?_⟩)
    refine am_goX 1 (show ∃ jj nn : Nat, am_so h 37 = some (13, nn) ∧ jj < nn ∧ (nI i) = nI jj ∧ pz_S 3 none am_r79 0 Q 30 [(2, .int (nI i)), (0, .ref 36), (1, .ref 17)] [] (am_wI h 37 jj (h.1 20 i)) from ⟨i, 6, ex_w37 hP, by omega, rfl, ?_⟩)
    refine am_goX 2 (show am_sh (am_wI h 37 (i) (h.1 20 i)) 36 = some (6, 0) ∧ pz_S 3 none am_r79 0 Q 34 [(2, .int (nI i)), (0, .ref 36), (1, .ref 17)] [am_rf ((am_wI h 37 (i) (h.1 20 i)).2.2.1 36 3)] (am_wI h 37 (i) (h.1 20 i)) from ⟨ex_36 hP, ?_⟩)
    rw [ex_r36_3 (h := am_wI h 37 (i) (h.1 20 i)) hP]
    refine am_goX 3 (show ∃ jj nn : Nat, am_so (am_wI h 37 (i) (h.1 20 i)) 38 = some (13, nn) ∧ jj < nn ∧ (nI i) = nI jj ∧ pz_S 3 none am_r79 0 Q 37 [(2, .int (nI i)), (0, .ref 36), (1, .ref 17)] [] (am_wI (am_wI h 37 (i) (h.1 20 i)) 38 jj (Int32.ofInt 0)) from ⟨i, 6, ex_w38 hP, by omega, rfl, ?_⟩)
    refine am_goX 2 (show 2 < 3 ∧ pz_S 3 none am_r79 0 Q 12 [(2, .int ((nI i) + Int32.ofInt 1)), (0, .ref 36), (1, .ref 17)] [] (am_wI (am_wI h 37 (i) (h.1 20 i)) 38 (i) (Int32.ofInt 0)) from ⟨by decide, ?_⟩)
    rw [xw_i1]
    exact ih (i + 1) _ (by omega) hP hQ
theorem c_79_17 (hP : ex_P h) (hQ : ∀ h1, ex_P h1 → h1.2.2 = h.2.2 → Q none h1) : am_call am_cod 1 79 [.ref 36, .ref 17] h Q := by
  refine pz_call (n := 79) (nL := 3) (rt := none) (rows := am_r79) (d := 0) (by decide +kernel) (by decide +kernel) rfl (by funext pc; rfl) (ex_175 hP) (by exact Nat.le_of_ble_eq_true rfl) ?_
  refine am_goX 3 (show am_sh h 36 = some (6, 0) ∧ narrow (am_fty 6 0) (.int ((Int32.ofInt 0))) = .int ((Int32.ofInt 0)) ∧ fits (am_fty 6 0) (.int ((Int32.ofInt 0))) = true ∧ pz_S 3 none am_r79 0 Q 5 [(0, .ref 36), (1, .ref 17)] [] (am_wI h 36 0 ((Int32.ofInt 0))) from ⟨ex_36 hP, rfl, rfl, ?_⟩)
  refine am_goX 3 (show am_sh (am_wI h 36 0 ((Int32.ofInt 0))) 36 = some (6, 0) ∧ narrow (am_fty 6 1) (.int ((Int32.ofInt 0))) = .int ((Int32.ofInt 0)) ∧ fits (am_fty 6 1) (.int ((Int32.ofInt 0))) = true ∧ pz_S 3 none am_r79 0 Q 10 [(0, .ref 36), (1, .ref 17)] [] (am_wI (am_wI h 36 0 ((Int32.ofInt 0))) 36 1 ((Int32.ofInt 0))) from ⟨ex_36 hP, rfl, rfl, ?_⟩)
  refine am_goX 2 (show 2 < 3 ∧ pz_S 3 none am_r79 0 Q 12 [(2, .int (Int32.ofInt 0)), (0, .ref 36), (1, .ref 17)] [] (am_wI (am_wI h 36 0 ((Int32.ofInt 0))) 36 1 ((Int32.ofInt 0))) from ⟨by decide, ?_⟩)
  exact c_79a_17 6 0 _ rfl hP hQ
theorem c_78_17w28 (hP : ex_P h) (ht : h.2.2.1 0 3 = some 17) (hw : h.2.2.1 0 5 = some 28) (hQ : ∀ h1, ex_P h1 → Q none h1) : am_call am_cod 2 78 [.ref 0] h Q := by
  refine pz_call (n := 78) (nL := 2) (rt := none) (rows := am_r78) (d := 1) (by decide +kernel) (by decide +kernel) rfl (by funext pc; rfl) (ex_175 hP) (by exact Nat.le_of_ble_eq_true rfl) ?_
  refine am_goX 2 (show am_sh h 0 = some (10, 0) ∧ pz_S 2 none am_r78 1 Q 4 [(0, .ref 0)] [am_rf (h.2.2.1 0 7)] h from ⟨ex_0 hP, ?_⟩)
  rw [ex_r0_7 (h := h) hP]
  refine am_goX 2 (show am_sh h 0 = some (10, 0) ∧ pz_S 2 none am_r78 1 Q 8 [(0, .ref 0)] [am_rf (h.2.2.1 0 3), .ref 36] h from ⟨ex_0 hP, ?_⟩)
  rw [ht]
  refine am_goX 1 (show am_rc h 36 6 ∧ 0 ≤ 8 ∧ h.2.2.2.2 + am_al 79 ≤ 175 ∧ am_call am_cod 1 79 [.ref 36, .ref 17] h (fun vv h' => pz_S 2 none am_r78 1 Q 11 [(0, .ref 0)] (vv.toList ++ []) h') from ⟨Or.inl ⟨by decide, ex_36 hP⟩, by decide, ex_lim hP rfl, c_79_17 hP (fun h1 hP1 hr1 => ?_)⟩)
  have hw1 : h1.2.2.1 0 5 = some 28 := by rw [hr1]; exact hw
  refine am_goX 2 (show am_sh h1 0 = some (10, 0) ∧ pz_S 2 none am_r78 1 Q 15 [(0, .ref 0)] [am_rf (h1.2.2.1 0 5)] h1 from ⟨ex_0 hP1, ?_⟩)
  rw [hw1]
  refine am_goX 2 (show am_sh h1 28 = some (8, 0) ∧ narrow (am_fty 8 3) (.int ((Int32.ofInt 0))) = .int ((Int32.ofInt 0)) ∧ fits (am_fty 8 3) (.int ((Int32.ofInt 0))) = true ∧ pz_S 2 none am_r78 1 Q 19 [(0, .ref 0)] [] (am_wI h1 28 3 ((Int32.ofInt 0))) from ⟨ex_28 hP1, rfl, rfl, ?_⟩)
  refine am_goX 2 (show am_sh (am_wI h1 28 3 ((Int32.ofInt 0))) 0 = some (10, 0) ∧ pz_S 2 none am_r78 1 Q 23 [(0, .ref 0)] [am_rf ((am_wI h1 28 3 ((Int32.ofInt 0))).2.2.1 0 10)] (am_wI h1 28 3 ((Int32.ofInt 0))) from ⟨ex_0 hP1, ?_⟩)
  rw [ex_r0_10 (h := am_wI h1 28 3 ((Int32.ofInt 0))) hP1]
  refine am_goX 2 (show am_sh (am_wI h1 28 3 ((Int32.ofInt 0))) 47 = some (2, 0) ∧ narrow (am_fty 2 2) (.int ((Int32.ofInt 0))) = .int ((Int32.ofInt 0)) ∧ fits (am_fty 2 2) (.int ((Int32.ofInt 0))) = true ∧ pz_S 2 none am_r78 1 Q 27 [(0, .ref 0)] [] (am_wI (am_wI h1 28 3 ((Int32.ofInt 0))) 47 2 ((Int32.ofInt 0))) from ⟨ex_47 hP1, rfl, rfl, ?_⟩)
  refine am_goX 3 (show am_sh (am_wI (am_wI h1 28 3 ((Int32.ofInt 0))) 47 2 ((Int32.ofInt 0))) 0 = some (10, 0) ∧ narrow (am_fty 10 12) (.int ((Int32.ofInt 0))) = .int ((Int32.ofInt 0)) ∧ fits (am_fty 10 12) (.int ((Int32.ofInt 0))) = true ∧ pz_S 2 none am_r78 1 Q 32 [(0, .ref 0)] [] (am_wI (am_wI (am_wI h1 28 3 ((Int32.ofInt 0))) 47 2 ((Int32.ofInt 0))) 0 12 ((Int32.ofInt 0))) from ⟨ex_0 hP1, rfl, rfl, ?_⟩)
  refine am_goX 3 (show am_sh (am_wI (am_wI (am_wI h1 28 3 ((Int32.ofInt 0))) 47 2 ((Int32.ofInt 0))) 0 12 ((Int32.ofInt 0))) 0 = some (10, 0) ∧ narrow (am_fty 10 13) (.int ((Int8.ofInt 31).toInt32)) = .int ((Int8.ofInt 31).toInt32) ∧ fits (am_fty 10 13) (.int ((Int8.ofInt 31).toInt32)) = true ∧ pz_S 2 none am_r78 1 Q 38 [(0, .ref 0)] [] (am_wI (am_wI (am_wI (am_wI h1 28 3 ((Int32.ofInt 0))) 47 2 ((Int32.ofInt 0))) 0 12 ((Int32.ofInt 0))) 0 13 ((Int8.ofInt 31).toInt32)) from ⟨ex_0 hP1, rfl, rfl, ?_⟩)
  refine am_goX 5 (show 1 < 2 ∧ ((Int32.ofInt 4) ≤ (Int32.ofInt 0) → pz_S 2 none am_r78 1 Q 61 [(1, .int (Int32.ofInt 0)), (0, .ref 0)] [] (am_wI (am_wI (am_wI (am_wI h1 28 3 ((Int32.ofInt 0))) 47 2 ((Int32.ofInt 0))) 0 12 ((Int32.ofInt 0))) 0 13 ((Int8.ofInt 31).toInt32))) ∧ (¬ ((Int32.ofInt 4) ≤ (Int32.ofInt 0)) → pz_S 2 none am_r78 1 Q 45 [(1, .int (Int32.ofInt 0)), (0, .ref 0)] [] (am_wI (am_wI (am_wI (am_wI h1 28 3 ((Int32.ofInt 0))) 47 2 ((Int32.ofInt 0))) 0 12 ((Int32.ofInt 0))) 0 13 ((Int8.ofInt 31).toInt32))) from ⟨by decide, fun hz => absurd hz (by decide), fun _ => ?_⟩)
  refine am_goX 2 (show am_sh (am_wI (am_wI (am_wI (am_wI h1 28 3 ((Int32.ofInt 0))) 47 2 ((Int32.ofInt 0))) 0 12 ((Int32.ofInt 0))) 0 13 ((Int8.ofInt 31).toInt32)) 0 = some (10, 0) ∧ pz_S 2 none am_r78 1 Q 49 [(1, .int (Int32.ofInt 0)), (0, .ref 0)] [am_rf ((am_wI (am_wI (am_wI (am_wI h1 28 3 ((Int32.ofInt 0))) 47 2 ((Int32.ofInt 0))) 0 12 ((Int32.ofInt 0))) 0 13 ((Int8.ofInt 31).toInt32)).2.2.1 0 11)] (am_wI (am_wI (am_wI (am_wI h1 28 3 ((Int32.ofInt 0))) 47 2 ((Int32.ofInt 0))) 0 12 ((Int32.ofInt 0))) 0 13 ((Int8.ofInt 31).toInt32)) from ⟨ex_0 hP1, ?_⟩)
  rw [ex_r0_11 (h := am_wI (am_wI (am_wI (am_wI h1 28 3 ((Int32.ofInt 0))) 47 2 ((Int32.ofInt 0))) 0 12 ((Int32.ofInt 0))) 0 13 ((Int8.ofInt 31).toInt32)) hP1]
  refine am_goX 2 (show ∃ jj nn : Nat, (am_sh (am_wI (am_wI (am_wI (am_wI h1 28 3 ((Int32.ofInt 0))) 47 2 ((Int32.ofInt 0))) 0 12 ((Int32.ofInt 0))) 0 13 ((Int8.ofInt 31).toInt32)) 129 = some (16, nn) ∨ am_sh (am_wI (am_wI (am_wI (am_wI h1 28 3 ((Int32.ofInt 0))) 47 2 ((Int32.ofInt 0))) 0 12 ((Int32.ofInt 0))) 0 13 ((Int8.ofInt 31).toInt32)) 129 = some (17, nn)) ∧ jj < nn ∧ (Int32.ofInt 0) = nI jj ∧ pz_S 2 none am_r78 1 Q 51 [(1, .int (Int32.ofInt 0)), (0, .ref 0)] [am_rf ((am_wI (am_wI (am_wI (am_wI h1 28 3 ((Int32.ofInt 0))) 47 2 ((Int32.ofInt 0))) 0 12 ((Int32.ofInt 0))) 0 13 ((Int8.ofInt 31).toInt32)).2.2.1 129 jj)] (am_wI (am_wI (am_wI (am_wI h1 28 3 ((Int32.ofInt 0))) 47 2 ((Int32.ofInt 0))) 0 12 ((Int32.ofInt 0))) 0 13 ((Int8.ofInt 31).toInt32)) from ⟨0, 4, Or.inl (ex_129 hP1), by decide, by decide, ?_⟩)
  rw [ex_r129_0 (h := am_wI (am_wI (am_wI (am_wI h1 28 3 ((Int32.ofInt 0))) 47 2 ((Int32.ofInt 0))) 0 12 ((Int32.ofInt 0))) 0 13 ((Int8.ofInt 31).toInt32)) hP1]
  refine am_goX 2 (show am_sh (am_wI (am_wI (am_wI (am_wI h1 28 3 ((Int32.ofInt 0))) 47 2 ((Int32.ofInt 0))) 0 12 ((Int32.ofInt 0))) 0 13 ((Int8.ofInt 31).toInt32)) 130 = some (5, 0) ∧ narrow (am_fty 5 0) (.int ((Int32.ofInt 0))) = .int ((Int32.ofInt 0)) ∧ fits (am_fty 5 0) (.int ((Int32.ofInt 0))) = true ∧ pz_S 2 none am_r78 1 Q 55 [(1, .int (Int32.ofInt 0)), (0, .ref 0)] [] (am_wI (am_wI (am_wI (am_wI (am_wI h1 28 3 ((Int32.ofInt 0))) 47 2 ((Int32.ofInt 0))) 0 12 ((Int32.ofInt 0))) 0 13 ((Int8.ofInt 31).toInt32)) 130 0 ((Int32.ofInt 0))) from ⟨ex_130 hP1, rfl, rfl, ?_⟩)
  refine am_goX 5 (show 1 < 2 ∧ ((Int32.ofInt 4) ≤ ((Int32.ofInt 0) + Int32.ofInt 1) → pz_S 2 none am_r78 1 Q 61 [(1, .int ((Int32.ofInt 0) + Int32.ofInt 1)), (0, .ref 0)] [] (am_wI (am_wI (am_wI (am_wI (am_wI h1 28 3 ((Int32.ofInt 0))) 47 2 ((Int32.ofInt 0))) 0 12 ((Int32.ofInt 0))) 0 13 ((Int8.ofInt 31).toInt32)) 130 0 ((Int32.ofInt 0)))) ∧ (¬ ((Int32.ofInt 4) ≤ ((Int32.ofInt 0) + Int32.ofInt 1)) → pz_S 2 none am_r78 1 Q 45 [(1, .int ((Int32.ofInt 0) + Int32.ofInt 1)), (0, .ref 0)] [] (am_wI (am_wI (am_wI (am_wI (am_wI h1 28 3 ((Int32.ofInt 0))) 47 2 ((Int32.ofInt 0))) 0 12 ((Int32.ofInt 0))) 0 13 ((Int8.ofInt 31).toInt32)) 130 0 ((Int32.ofInt 0)))) from ⟨by decide, fun hz => absurd hz (by decide), fun _ => ?_⟩)
  refine am_goX 2 (show am_sh (am_wI (am_wI (am_wI (am_wI (am_wI h1 28 3 ((Int32.ofInt 0))) 47 2 ((Int32.ofInt 0))) 0 12 ((Int32.ofInt 0))) 0 13 ((Int8.ofInt 31).toInt32)) 130 0 ((Int32.ofInt 0))) 0 = some (10, 0) ∧ pz_S 2 none am_r78 1 Q 49 [(1, .int ((Int32.ofInt 0) + Int32.ofInt 1)), (0, .ref 0)] [am_rf ((am_wI (am_wI (am_wI (am_wI (am_wI h1 28 3 ((Int32.ofInt 0))) 47 2 ((Int32.ofInt 0))) 0 12 ((Int32.ofInt 0))) 0 13 ((Int8.ofInt 31).toInt32)) 130 0 ((Int32.ofInt 0))).2.2.1 0 11)] (am_wI (am_wI (am_wI (am_wI (am_wI h1 28 3 ((Int32.ofInt 0))) 47 2 ((Int32.ofInt 0))) 0 12 ((Int32.ofInt 0))) 0 13 ((Int8.ofInt 31).toInt32)) 130 0 ((Int32.ofInt 0))) from ⟨ex_0 hP1, ?_⟩)
  rw [ex_r0_11 (h := am_wI (am_wI (am_wI (am_wI (am_wI h1 28 3 ((Int32.ofInt 0))) 47 2 ((Int32.ofInt 0))) 0 12 ((Int32.ofInt 0))) 0 13 ((Int8.ofInt 31).toInt32)) 130 0 ((Int32.ofInt 0))) hP1]
  refine am_goX 2 (show ∃ jj nn : Nat, (am_sh (am_wI (am_wI (am_wI (am_wI (am_wI h1 28 3 ((Int32.ofInt 0))) 47 2 ((Int32.ofInt 0))) 0 12 ((Int32.ofInt 0))) 0 13 ((Int8.ofInt 31).toInt32)) 130 0 ((Int32.ofInt 0))) 129 = some (16, nn) ∨ am_sh (am_wI (am_wI (am_wI (am_wI (am_wI h1 28 3 ((Int32.ofInt 0))) 47 2 ((Int32.ofInt 0))) 0 12 ((Int32.ofInt 0))) 0 13 ((Int8.ofInt 31).toInt32)) 130 0 ((Int32.ofInt 0))) 129 = some (17, nn)) ∧ jj < nn ∧ ((Int32.ofInt 0) + Int32.ofInt 1) = nI jj ∧ pz_S 2 none am_r78 1 Q 51 [(1, .int ((Int32.ofInt 0) + Int32.ofInt 1)), (0, .ref 0)] [am_rf ((am_wI (am_wI (am_wI (am_wI (am_wI h1 28 3 ((Int32.ofInt 0))) 47 2 ((Int32.ofInt 0))) 0 12 ((Int32.ofInt 0))) 0 13 ((Int8.ofInt 31).toInt32)) 130 0 ((Int32.ofInt 0))).2.2.1 129 jj)] (am_wI (am_wI (am_wI (am_wI (am_wI h1 28 3 ((Int32.ofInt 0))) 47 2 ((Int32.ofInt 0))) 0 12 ((Int32.ofInt 0))) 0 13 ((Int8.ofInt 31).toInt32)) 130 0 ((Int32.ofInt 0))) from ⟨1, 4, Or.inl (ex_129 hP1), by decide, by decide, ?_⟩)
  rw [ex_r129_1 (h := am_wI (am_wI (am_wI (am_wI (am_wI h1 28 3 ((Int32.ofInt 0))) 47 2 ((Int32.ofInt 0))) 0 12 ((Int32.ofInt 0))) 0 13 ((Int8.ofInt 31).toInt32)) 130 0 ((Int32.ofInt 0))) hP1]
  refine am_goX 2 (show am_sh (am_wI (am_wI (am_wI (am_wI (am_wI h1 28 3 ((Int32.ofInt 0))) 47 2 ((Int32.ofInt 0))) 0 12 ((Int32.ofInt 0))) 0 13 ((Int8.ofInt 31).toInt32)) 130 0 ((Int32.ofInt 0))) 136 = some (5, 0) ∧ narrow (am_fty 5 0) (.int ((Int32.ofInt 0))) = .int ((Int32.ofInt 0)) ∧ fits (am_fty 5 0) (.int ((Int32.ofInt 0))) = true ∧ pz_S 2 none am_r78 1 Q 55 [(1, .int ((Int32.ofInt 0) + Int32.ofInt 1)), (0, .ref 0)] [] (am_wI (am_wI (am_wI (am_wI (am_wI (am_wI h1 28 3 ((Int32.ofInt 0))) 47 2 ((Int32.ofInt 0))) 0 12 ((Int32.ofInt 0))) 0 13 ((Int8.ofInt 31).toInt32)) 130 0 ((Int32.ofInt 0))) 136 0 ((Int32.ofInt 0))) from ⟨ex_136 hP1, rfl, rfl, ?_⟩)
  refine am_goX 5 (show 1 < 2 ∧ ((Int32.ofInt 4) ≤ (((Int32.ofInt 0) + Int32.ofInt 1) + Int32.ofInt 1) → pz_S 2 none am_r78 1 Q 61 [(1, .int (((Int32.ofInt 0) + Int32.ofInt 1) + Int32.ofInt 1)), (0, .ref 0)] [] (am_wI (am_wI (am_wI (am_wI (am_wI (am_wI h1 28 3 ((Int32.ofInt 0))) 47 2 ((Int32.ofInt 0))) 0 12 ((Int32.ofInt 0))) 0 13 ((Int8.ofInt 31).toInt32)) 130 0 ((Int32.ofInt 0))) 136 0 ((Int32.ofInt 0)))) ∧ (¬ ((Int32.ofInt 4) ≤ (((Int32.ofInt 0) + Int32.ofInt 1) + Int32.ofInt 1)) → pz_S 2 none am_r78 1 Q 45 [(1, .int (((Int32.ofInt 0) + Int32.ofInt 1) + Int32.ofInt 1)), (0, .ref 0)] [] (am_wI (am_wI (am_wI (am_wI (am_wI (am_wI h1 28 3 ((Int32.ofInt 0))) 47 2 ((Int32.ofInt 0))) 0 12 ((Int32.ofInt 0))) 0 13 ((Int8.ofInt 31).toInt32)) 130 0 ((Int32.ofInt 0))) 136 0 ((Int32.ofInt 0)))) from ⟨by decide, fun hz => absurd hz (by decide), fun _ => ?_⟩)
  refine am_goX 2 (show am_sh (am_wI (am_wI (am_wI (am_wI (am_wI (am_wI h1 28 3 ((Int32.ofInt 0))) 47 2 ((Int32.ofInt 0))) 0 12 ((Int32.ofInt 0))) 0 13 ((Int8.ofInt 31).toInt32)) 130 0 ((Int32.ofInt 0))) 136 0 ((Int32.ofInt 0))) 0 = some (10, 0) ∧ pz_S 2 none am_r78 1 Q 49 [(1, .int (((Int32.ofInt 0) + Int32.ofInt 1) + Int32.ofInt 1)), (0, .ref 0)] [am_rf ((am_wI (am_wI (am_wI (am_wI (am_wI (am_wI h1 28 3 ((Int32.ofInt 0))) 47 2 ((Int32.ofInt 0))) 0 12 ((Int32.ofInt 0))) 0 13 ((Int8.ofInt 31).toInt32)) 130 0 ((Int32.ofInt 0))) 136 0 ((Int32.ofInt 0))).2.2.1 0 11)] (am_wI (am_wI (am_wI (am_wI (am_wI (am_wI h1 28 3 ((Int32.ofInt 0))) 47 2 ((Int32.ofInt 0))) 0 12 ((Int32.ofInt 0))) 0 13 ((Int8.ofInt 31).toInt32)) 130 0 ((Int32.ofInt 0))) 136 0 ((Int32.ofInt 0))) from ⟨ex_0 hP1, ?_⟩)
  rw [ex_r0_11 (h := am_wI (am_wI (am_wI (am_wI (am_wI (am_wI h1 28 3 ((Int32.ofInt 0))) 47 2 ((Int32.ofInt 0))) 0 12 ((Int32.ofInt 0))) 0 13 ((Int8.ofInt 31).toInt32)) 130 0 ((Int32.ofInt 0))) 136 0 ((Int32.ofInt 0))) hP1]
  refine am_goX 2 (show ∃ jj nn : Nat, (am_sh (am_wI (am_wI (am_wI (am_wI (am_wI (am_wI h1 28 3 ((Int32.ofInt 0))) 47 2 ((Int32.ofInt 0))) 0 12 ((Int32.ofInt 0))) 0 13 ((Int8.ofInt 31).toInt32)) 130 0 ((Int32.ofInt 0))) 136 0 ((Int32.ofInt 0))) 129 = some (16, nn) ∨ am_sh (am_wI (am_wI (am_wI (am_wI (am_wI (am_wI h1 28 3 ((Int32.ofInt 0))) 47 2 ((Int32.ofInt 0))) 0 12 ((Int32.ofInt 0))) 0 13 ((Int8.ofInt 31).toInt32)) 130 0 ((Int32.ofInt 0))) 136 0 ((Int32.ofInt 0))) 129 = some (17, nn)) ∧ jj < nn ∧ (((Int32.ofInt 0) + Int32.ofInt 1) + Int32.ofInt 1) = nI jj ∧ pz_S 2 none am_r78 1 Q 51 [(1, .int (((Int32.ofInt 0) + Int32.ofInt 1) + Int32.ofInt 1)), (0, .ref 0)] [am_rf ((am_wI (am_wI (am_wI (am_wI (am_wI (am_wI h1 28 3 ((Int32.ofInt 0))) 47 2 ((Int32.ofInt 0))) 0 12 ((Int32.ofInt 0))) 0 13 ((Int8.ofInt 31).toInt32)) 130 0 ((Int32.ofInt 0))) 136 0 ((Int32.ofInt 0))).2.2.1 129 jj)] (am_wI (am_wI (am_wI (am_wI (am_wI (am_wI h1 28 3 ((Int32.ofInt 0))) 47 2 ((Int32.ofInt 0))) 0 12 ((Int32.ofInt 0))) 0 13 ((Int8.ofInt 31).toInt32)) 130 0 ((Int32.ofInt 0))) 136 0 ((Int32.ofInt 0))) from ⟨2, 4, Or.inl (ex_129 hP1), by decide, by decide, ?_⟩)
  rw [ex_r129_2 (h := am_wI (am_wI (am_wI (am_wI (am_wI (am_wI h1 28 3 ((Int32.ofInt 0))) 47 2 ((Int32.ofInt 0))) 0 12 ((Int32.ofInt 0))) 0 13 ((Int8.ofInt 31).toInt32)) 130 0 ((Int32.ofInt 0))) 136 0 ((Int32.ofInt 0))) hP1]
  refine am_goX 2 (show am_sh (am_wI (am_wI (am_wI (am_wI (am_wI (am_wI h1 28 3 ((Int32.ofInt 0))) 47 2 ((Int32.ofInt 0))) 0 12 ((Int32.ofInt 0))) 0 13 ((Int8.ofInt 31).toInt32)) 130 0 ((Int32.ofInt 0))) 136 0 ((Int32.ofInt 0))) 142 = some (5, 0) ∧ narrow (am_fty 5 0) (.int ((Int32.ofInt 0))) = .int ((Int32.ofInt 0)) ∧ fits (am_fty 5 0) (.int ((Int32.ofInt 0))) = true ∧ pz_S 2 none am_r78 1 Q 55 [(1, .int (((Int32.ofInt 0) + Int32.ofInt 1) + Int32.ofInt 1)), (0, .ref 0)] [] (am_wI (am_wI (am_wI (am_wI (am_wI (am_wI (am_wI h1 28 3 ((Int32.ofInt 0))) 47 2 ((Int32.ofInt 0))) 0 12 ((Int32.ofInt 0))) 0 13 ((Int8.ofInt 31).toInt32)) 130 0 ((Int32.ofInt 0))) 136 0 ((Int32.ofInt 0))) 142 0 ((Int32.ofInt 0))) from ⟨ex_142 hP1, rfl, rfl, ?_⟩)
  refine am_goX 5 (show 1 < 2 ∧ ((Int32.ofInt 4) ≤ ((((Int32.ofInt 0) + Int32.ofInt 1) + Int32.ofInt 1) + Int32.ofInt 1) → pz_S 2 none am_r78 1 Q 61 [(1, .int ((((Int32.ofInt 0) + Int32.ofInt 1) + Int32.ofInt 1) + Int32.ofInt 1)), (0, .ref 0)] [] (am_wI (am_wI (am_wI (am_wI (am_wI (am_wI (am_wI h1 28 3 ((Int32.ofInt 0))) 47 2 ((Int32.ofInt 0))) 0 12 ((Int32.ofInt 0))) 0 13 ((Int8.ofInt 31).toInt32)) 130 0 ((Int32.ofInt 0))) 136 0 ((Int32.ofInt 0))) 142 0 ((Int32.ofInt 0)))) ∧ (¬ ((Int32.ofInt 4) ≤ ((((Int32.ofInt 0) + Int32.ofInt 1) + Int32.ofInt 1) + Int32.ofInt 1)) → pz_S 2 none am_r78 1 Q 45 [(1, .int ((((Int32.ofInt 0) + Int32.ofInt 1) + Int32.ofInt 1) + Int32.ofInt 1)), (0, .ref 0)] [] (am_wI (am_wI (am_wI (am_wI (am_wI (am_wI (am_wI h1 28 3 ((Int32.ofInt 0))) 47 2 ((Int32.ofInt 0))) 0 12 ((Int32.ofInt 0))) 0 13 ((Int8.ofInt 31).toInt32)) 130 0 ((Int32.ofInt 0))) 136 0 ((Int32.ofInt 0))) 142 0 ((Int32.ofInt 0)))) from ⟨by decide, fun hz => absurd hz (by decide), fun _ => ?_⟩)
  refine am_goX 2 (show am_sh (am_wI (am_wI (am_wI (am_wI (am_wI (am_wI (am_wI h1 28 3 ((Int32.ofInt 0))) 47 2 ((Int32.ofInt 0))) 0 12 ((Int32.ofInt 0))) 0 13 ((Int8.ofInt 31).toInt32)) 130 0 ((Int32.ofInt 0))) 136 0 ((Int32.ofInt 0))) 142 0 ((Int32.ofInt 0))) 0 = some (10, 0) ∧ pz_S 2 none am_r78 1 Q 49 [(1, .int ((((Int32.ofInt 0) + Int32.ofInt 1) + Int32.ofInt 1) + Int32.ofInt 1)), (0, .ref 0)] [am_rf ((am_wI (am_wI (am_wI (am_wI (am_wI (am_wI (am_wI h1 28 3 ((Int32.ofInt 0))) 47 2 ((Int32.ofInt 0))) 0 12 ((Int32.ofInt 0))) 0 13 ((Int8.ofInt 31).toInt32)) 130 0 ((Int32.ofInt 0))) 136 0 ((Int32.ofInt 0))) 142 0 ((Int32.ofInt 0))).2.2.1 0 11)] (am_wI (am_wI (am_wI (am_wI (am_wI (am_wI (am_wI h1 28 3 ((Int32.ofInt 0))) 47 2 ((Int32.ofInt 0))) 0 12 ((Int32.ofInt 0))) 0 13 ((Int8.ofInt 31).toInt32)) 130 0 ((Int32.ofInt 0))) 136 0 ((Int32.ofInt 0))) 142 0 ((Int32.ofInt 0))) from ⟨ex_0 hP1, ?_⟩)
  rw [ex_r0_11 (h := am_wI (am_wI (am_wI (am_wI (am_wI (am_wI (am_wI h1 28 3 ((Int32.ofInt 0))) 47 2 ((Int32.ofInt 0))) 0 12 ((Int32.ofInt 0))) 0 13 ((Int8.ofInt 31).toInt32)) 130 0 ((Int32.ofInt 0))) 136 0 ((Int32.ofInt 0))) 142 0 ((Int32.ofInt 0))) hP1]
  refine am_goX 2 (show ∃ jj nn : Nat, (am_sh (am_wI (am_wI (am_wI (am_wI (am_wI (am_wI (am_wI h1 28 3 ((Int32.ofInt 0))) 47 2 ((Int32.ofInt 0))) 0 12 ((Int32.ofInt 0))) 0 13 ((Int8.ofInt 31).toInt32)) 130 0 ((Int32.ofInt 0))) 136 0 ((Int32.ofInt 0))) 142 0 ((Int32.ofInt 0))) 129 = some (16, nn) ∨ am_sh (am_wI (am_wI (am_wI (am_wI (am_wI (am_wI (am_wI h1 28 3 ((Int32.ofInt 0))) 47 2 ((Int32.ofInt 0))) 0 12 ((Int32.ofInt 0))) 0 13 ((Int8.ofInt 31).toInt32)) 130 0 ((Int32.ofInt 0))) 136 0 ((Int32.ofInt 0))) 142 0 ((Int32.ofInt 0))) 129 = some (17, nn)) ∧ jj < nn ∧ ((((Int32.ofInt 0) + Int32.ofInt 1) + Int32.ofInt 1) + Int32.ofInt 1) = nI jj ∧ pz_S 2 none am_r78 1 Q 51 [(1, .int ((((Int32.ofInt 0) + Int32.ofInt 1) + Int32.ofInt 1) + Int32.ofInt 1)), (0, .ref 0)] [am_rf ((am_wI (am_wI (am_wI (am_wI (am_wI (am_wI (am_wI h1 28 3 ((Int32.ofInt 0))) 47 2 ((Int32.ofInt 0))) 0 12 ((Int32.ofInt 0))) 0 13 ((Int8.ofInt 31).toInt32)) 130 0 ((Int32.ofInt 0))) 136 0 ((Int32.ofInt 0))) 142 0 ((Int32.ofInt 0))).2.2.1 129 jj)] (am_wI (am_wI (am_wI (am_wI (am_wI (am_wI (am_wI h1 28 3 ((Int32.ofInt 0))) 47 2 ((Int32.ofInt 0))) 0 12 ((Int32.ofInt 0))) 0 13 ((Int8.ofInt 31).toInt32)) 130 0 ((Int32.ofInt 0))) 136 0 ((Int32.ofInt 0))) 142 0 ((Int32.ofInt 0))) from ⟨3, 4, Or.inl (ex_129 hP1), by decide, by decide, ?_⟩)
  rw [ex_r129_3 (h := am_wI (am_wI (am_wI (am_wI (am_wI (am_wI (am_wI h1 28 3 ((Int32.ofInt 0))) 47 2 ((Int32.ofInt 0))) 0 12 ((Int32.ofInt 0))) 0 13 ((Int8.ofInt 31).toInt32)) 130 0 ((Int32.ofInt 0))) 136 0 ((Int32.ofInt 0))) 142 0 ((Int32.ofInt 0))) hP1]
  refine am_goX 2 (show am_sh (am_wI (am_wI (am_wI (am_wI (am_wI (am_wI (am_wI h1 28 3 ((Int32.ofInt 0))) 47 2 ((Int32.ofInt 0))) 0 12 ((Int32.ofInt 0))) 0 13 ((Int8.ofInt 31).toInt32)) 130 0 ((Int32.ofInt 0))) 136 0 ((Int32.ofInt 0))) 142 0 ((Int32.ofInt 0))) 148 = some (5, 0) ∧ narrow (am_fty 5 0) (.int ((Int32.ofInt 0))) = .int ((Int32.ofInt 0)) ∧ fits (am_fty 5 0) (.int ((Int32.ofInt 0))) = true ∧ pz_S 2 none am_r78 1 Q 55 [(1, .int ((((Int32.ofInt 0) + Int32.ofInt 1) + Int32.ofInt 1) + Int32.ofInt 1)), (0, .ref 0)] [] (am_wI (am_wI (am_wI (am_wI (am_wI (am_wI (am_wI (am_wI h1 28 3 ((Int32.ofInt 0))) 47 2 ((Int32.ofInt 0))) 0 12 ((Int32.ofInt 0))) 0 13 ((Int8.ofInt 31).toInt32)) 130 0 ((Int32.ofInt 0))) 136 0 ((Int32.ofInt 0))) 142 0 ((Int32.ofInt 0))) 148 0 ((Int32.ofInt 0))) from ⟨ex_148 hP1, rfl, rfl, ?_⟩)
  refine am_goX 5 (show 1 < 2 ∧ ((Int32.ofInt 4) ≤ (((((Int32.ofInt 0) + Int32.ofInt 1) + Int32.ofInt 1) + Int32.ofInt 1) + Int32.ofInt 1) → pz_S 2 none am_r78 1 Q 61 [(1, .int (((((Int32.ofInt 0) + Int32.ofInt 1) + Int32.ofInt 1) + Int32.ofInt 1) + Int32.ofInt 1)), (0, .ref 0)] [] (am_wI (am_wI (am_wI (am_wI (am_wI (am_wI (am_wI (am_wI h1 28 3 ((Int32.ofInt 0))) 47 2 ((Int32.ofInt 0))) 0 12 ((Int32.ofInt 0))) 0 13 ((Int8.ofInt 31).toInt32)) 130 0 ((Int32.ofInt 0))) 136 0 ((Int32.ofInt 0))) 142 0 ((Int32.ofInt 0))) 148 0 ((Int32.ofInt 0)))) ∧ (¬ ((Int32.ofInt 4) ≤ (((((Int32.ofInt 0) + Int32.ofInt 1) + Int32.ofInt 1) + Int32.ofInt 1) + Int32.ofInt 1)) → pz_S 2 none am_r78 1 Q 45 [(1, .int (((((Int32.ofInt 0) + Int32.ofInt 1) + Int32.ofInt 1) + Int32.ofInt 1) + Int32.ofInt 1)), (0, .ref 0)] [] (am_wI (am_wI (am_wI (am_wI (am_wI (am_wI (am_wI (am_wI h1 28 3 ((Int32.ofInt 0))) 47 2 ((Int32.ofInt 0))) 0 12 ((Int32.ofInt 0))) 0 13 ((Int8.ofInt 31).toInt32)) 130 0 ((Int32.ofInt 0))) 136 0 ((Int32.ofInt 0))) 142 0 ((Int32.ofInt 0))) 148 0 ((Int32.ofInt 0)))) from ⟨by decide, fun _ => ?_, fun hz => absurd (by decide) hz⟩)
  exact am_goX 1 (show (none : Option FieldType) = none ∧ (am_wI (am_wI (am_wI (am_wI (am_wI (am_wI (am_wI (am_wI h1 28 3 ((Int32.ofInt 0))) 47 2 ((Int32.ofInt 0))) 0 12 ((Int32.ofInt 0))) 0 13 ((Int8.ofInt 31).toInt32)) 130 0 ((Int32.ofInt 0))) 136 0 ((Int32.ofInt 0))) 142 0 ((Int32.ofInt 0))) 148 0 ((Int32.ofInt 0))).2.2.2.2 = 175 ∧ _ from ⟨rfl, ex_175 hP1, hQ _ hP1⟩)
theorem c_78_17w32 (hP : ex_P h) (ht : h.2.2.1 0 3 = some 17) (hw : h.2.2.1 0 5 = some 32) (hQ : ∀ h1, ex_P h1 → Q none h1) : am_call am_cod 2 78 [.ref 0] h Q := by
  refine pz_call (n := 78) (nL := 2) (rt := none) (rows := am_r78) (d := 1) (by decide +kernel) (by decide +kernel) rfl (by funext pc; rfl) (ex_175 hP) (by exact Nat.le_of_ble_eq_true rfl) ?_
  refine am_goX 2 (show am_sh h 0 = some (10, 0) ∧ pz_S 2 none am_r78 1 Q 4 [(0, .ref 0)] [am_rf (h.2.2.1 0 7)] h from ⟨ex_0 hP, ?_⟩)
  rw [ex_r0_7 (h := h) hP]
  refine am_goX 2 (show am_sh h 0 = some (10, 0) ∧ pz_S 2 none am_r78 1 Q 8 [(0, .ref 0)] [am_rf (h.2.2.1 0 3), .ref 36] h from ⟨ex_0 hP, ?_⟩)
  rw [ht]
  refine am_goX 1 (show am_rc h 36 6 ∧ 0 ≤ 8 ∧ h.2.2.2.2 + am_al 79 ≤ 175 ∧ am_call am_cod 1 79 [.ref 36, .ref 17] h (fun vv h' => pz_S 2 none am_r78 1 Q 11 [(0, .ref 0)] (vv.toList ++ []) h') from ⟨Or.inl ⟨by decide, ex_36 hP⟩, by decide, ex_lim hP rfl, c_79_17 hP (fun h1 hP1 hr1 => ?_)⟩)
  have hw1 : h1.2.2.1 0 5 = some 32 := by rw [hr1]; exact hw
  refine am_goX 2 (show am_sh h1 0 = some (10, 0) ∧ pz_S 2 none am_r78 1 Q 15 [(0, .ref 0)] [am_rf (h1.2.2.1 0 5)] h1 from ⟨ex_0 hP1, ?_⟩)
  rw [hw1]
  refine am_goX 2 (show am_sh h1 32 = some (8, 0) ∧ narrow (am_fty 8 3) (.int ((Int32.ofInt 0))) = .int ((Int32.ofInt 0)) ∧ fits (am_fty 8 3) (.int ((Int32.ofInt 0))) = true ∧ pz_S 2 none am_r78 1 Q 19 [(0, .ref 0)] [] (am_wI h1 32 3 ((Int32.ofInt 0))) from ⟨ex_32 hP1, rfl, rfl, ?_⟩)
  refine am_goX 2 (show am_sh (am_wI h1 32 3 ((Int32.ofInt 0))) 0 = some (10, 0) ∧ pz_S 2 none am_r78 1 Q 23 [(0, .ref 0)] [am_rf ((am_wI h1 32 3 ((Int32.ofInt 0))).2.2.1 0 10)] (am_wI h1 32 3 ((Int32.ofInt 0))) from ⟨ex_0 hP1, ?_⟩)
  rw [ex_r0_10 (h := am_wI h1 32 3 ((Int32.ofInt 0))) hP1]
  refine am_goX 2 (show am_sh (am_wI h1 32 3 ((Int32.ofInt 0))) 47 = some (2, 0) ∧ narrow (am_fty 2 2) (.int ((Int32.ofInt 0))) = .int ((Int32.ofInt 0)) ∧ fits (am_fty 2 2) (.int ((Int32.ofInt 0))) = true ∧ pz_S 2 none am_r78 1 Q 27 [(0, .ref 0)] [] (am_wI (am_wI h1 32 3 ((Int32.ofInt 0))) 47 2 ((Int32.ofInt 0))) from ⟨ex_47 hP1, rfl, rfl, ?_⟩)
  refine am_goX 3 (show am_sh (am_wI (am_wI h1 32 3 ((Int32.ofInt 0))) 47 2 ((Int32.ofInt 0))) 0 = some (10, 0) ∧ narrow (am_fty 10 12) (.int ((Int32.ofInt 0))) = .int ((Int32.ofInt 0)) ∧ fits (am_fty 10 12) (.int ((Int32.ofInt 0))) = true ∧ pz_S 2 none am_r78 1 Q 32 [(0, .ref 0)] [] (am_wI (am_wI (am_wI h1 32 3 ((Int32.ofInt 0))) 47 2 ((Int32.ofInt 0))) 0 12 ((Int32.ofInt 0))) from ⟨ex_0 hP1, rfl, rfl, ?_⟩)
  refine am_goX 3 (show am_sh (am_wI (am_wI (am_wI h1 32 3 ((Int32.ofInt 0))) 47 2 ((Int32.ofInt 0))) 0 12 ((Int32.ofInt 0))) 0 = some (10, 0) ∧ narrow (am_fty 10 13) (.int ((Int8.ofInt 31).toInt32)) = .int ((Int8.ofInt 31).toInt32) ∧ fits (am_fty 10 13) (.int ((Int8.ofInt 31).toInt32)) = true ∧ pz_S 2 none am_r78 1 Q 38 [(0, .ref 0)] [] (am_wI (am_wI (am_wI (am_wI h1 32 3 ((Int32.ofInt 0))) 47 2 ((Int32.ofInt 0))) 0 12 ((Int32.ofInt 0))) 0 13 ((Int8.ofInt 31).toInt32)) from ⟨ex_0 hP1, rfl, rfl, ?_⟩)
  refine am_goX 5 (show 1 < 2 ∧ ((Int32.ofInt 4) ≤ (Int32.ofInt 0) → pz_S 2 none am_r78 1 Q 61 [(1, .int (Int32.ofInt 0)), (0, .ref 0)] [] (am_wI (am_wI (am_wI (am_wI h1 32 3 ((Int32.ofInt 0))) 47 2 ((Int32.ofInt 0))) 0 12 ((Int32.ofInt 0))) 0 13 ((Int8.ofInt 31).toInt32))) ∧ (¬ ((Int32.ofInt 4) ≤ (Int32.ofInt 0)) → pz_S 2 none am_r78 1 Q 45 [(1, .int (Int32.ofInt 0)), (0, .ref 0)] [] (am_wI (am_wI (am_wI (am_wI h1 32 3 ((Int32.ofInt 0))) 47 2 ((Int32.ofInt 0))) 0 12 ((Int32.ofInt 0))) 0 13 ((Int8.ofInt 31).toInt32))) from ⟨by decide, fun hz => absurd hz (by decide), fun _ => ?_⟩)
  refine am_goX 2 (show am_sh (am_wI (am_wI (am_wI (am_wI h1 32 3 ((Int32.ofInt 0))) 47 2 ((Int32.ofInt 0))) 0 12 ((Int32.ofInt 0))) 0 13 ((Int8.ofInt 31).toInt32)) 0 = some (10, 0) ∧ pz_S 2 none am_r78 1 Q 49 [(1, .int (Int32.ofInt 0)), (0, .ref 0)] [am_rf ((am_wI (am_wI (am_wI (am_wI h1 32 3 ((Int32.ofInt 0))) 47 2 ((Int32.ofInt 0))) 0 12 ((Int32.ofInt 0))) 0 13 ((Int8.ofInt 31).toInt32)).2.2.1 0 11)] (am_wI (am_wI (am_wI (am_wI h1 32 3 ((Int32.ofInt 0))) 47 2 ((Int32.ofInt 0))) 0 12 ((Int32.ofInt 0))) 0 13 ((Int8.ofInt 31).toInt32)) from ⟨ex_0 hP1, ?_⟩)
  rw [ex_r0_11 (h := am_wI (am_wI (am_wI (am_wI h1 32 3 ((Int32.ofInt 0))) 47 2 ((Int32.ofInt 0))) 0 12 ((Int32.ofInt 0))) 0 13 ((Int8.ofInt 31).toInt32)) hP1]
  refine am_goX 2 (show ∃ jj nn : Nat, (am_sh (am_wI (am_wI (am_wI (am_wI h1 32 3 ((Int32.ofInt 0))) 47 2 ((Int32.ofInt 0))) 0 12 ((Int32.ofInt 0))) 0 13 ((Int8.ofInt 31).toInt32)) 129 = some (16, nn) ∨ am_sh (am_wI (am_wI (am_wI (am_wI h1 32 3 ((Int32.ofInt 0))) 47 2 ((Int32.ofInt 0))) 0 12 ((Int32.ofInt 0))) 0 13 ((Int8.ofInt 31).toInt32)) 129 = some (17, nn)) ∧ jj < nn ∧ (Int32.ofInt 0) = nI jj ∧ pz_S 2 none am_r78 1 Q 51 [(1, .int (Int32.ofInt 0)), (0, .ref 0)] [am_rf ((am_wI (am_wI (am_wI (am_wI h1 32 3 ((Int32.ofInt 0))) 47 2 ((Int32.ofInt 0))) 0 12 ((Int32.ofInt 0))) 0 13 ((Int8.ofInt 31).toInt32)).2.2.1 129 jj)] (am_wI (am_wI (am_wI (am_wI h1 32 3 ((Int32.ofInt 0))) 47 2 ((Int32.ofInt 0))) 0 12 ((Int32.ofInt 0))) 0 13 ((Int8.ofInt 31).toInt32)) from ⟨0, 4, Or.inl (ex_129 hP1), by decide, by decide, ?_⟩)
  rw [ex_r129_0 (h := am_wI (am_wI (am_wI (am_wI h1 32 3 ((Int32.ofInt 0))) 47 2 ((Int32.ofInt 0))) 0 12 ((Int32.ofInt 0))) 0 13 ((Int8.ofInt 31).toInt32)) hP1]
  refine am_goX 2 (show am_sh (am_wI (am_wI (am_wI (am_wI h1 32 3 ((Int32.ofInt 0))) 47 2 ((Int32.ofInt 0))) 0 12 ((Int32.ofInt 0))) 0 13 ((Int8.ofInt 31).toInt32)) 130 = some (5, 0) ∧ narrow (am_fty 5 0) (.int ((Int32.ofInt 0))) = .int ((Int32.ofInt 0)) ∧ fits (am_fty 5 0) (.int ((Int32.ofInt 0))) = true ∧ pz_S 2 none am_r78 1 Q 55 [(1, .int (Int32.ofInt 0)), (0, .ref 0)] [] (am_wI (am_wI (am_wI (am_wI (am_wI h1 32 3 ((Int32.ofInt 0))) 47 2 ((Int32.ofInt 0))) 0 12 ((Int32.ofInt 0))) 0 13 ((Int8.ofInt 31).toInt32)) 130 0 ((Int32.ofInt 0))) from ⟨ex_130 hP1, rfl, rfl, ?_⟩)
  refine am_goX 5 (show 1 < 2 ∧ ((Int32.ofInt 4) ≤ ((Int32.ofInt 0) + Int32.ofInt 1) → pz_S 2 none am_r78 1 Q 61 [(1, .int ((Int32.ofInt 0) + Int32.ofInt 1)), (0, .ref 0)] [] (am_wI (am_wI (am_wI (am_wI (am_wI h1 32 3 ((Int32.ofInt 0))) 47 2 ((Int32.ofInt 0))) 0 12 ((Int32.ofInt 0))) 0 13 ((Int8.ofInt 31).toInt32)) 130 0 ((Int32.ofInt 0)))) ∧ (¬ ((Int32.ofInt 4) ≤ ((Int32.ofInt 0) + Int32.ofInt 1)) → pz_S 2 none am_r78 1 Q 45 [(1, .int ((Int32.ofInt 0) + Int32.ofInt 1)), (0, .ref 0)] [] (am_wI (am_wI (am_wI (am_wI (am_wI h1 32 3 ((Int32.ofInt 0))) 47 2 ((Int32.ofInt 0))) 0 12 ((Int32.ofInt 0))) 0 13 ((Int8.ofInt 31).toInt32)) 130 0 ((Int32.ofInt 0)))) from ⟨by decide, fun hz => absurd hz (by decide), fun _ => ?_⟩)
  refine am_goX 2 (show am_sh (am_wI (am_wI (am_wI (am_wI (am_wI h1 32 3 ((Int32.ofInt 0))) 47 2 ((Int32.ofInt 0))) 0 12 ((Int32.ofInt 0))) 0 13 ((Int8.ofInt 31).toInt32)) 130 0 ((Int32.ofInt 0))) 0 = some (10, 0) ∧ pz_S 2 none am_r78 1 Q 49 [(1, .int ((Int32.ofInt 0) + Int32.ofInt 1)), (0, .ref 0)] [am_rf ((am_wI (am_wI (am_wI (am_wI (am_wI h1 32 3 ((Int32.ofInt 0))) 47 2 ((Int32.ofInt 0))) 0 12 ((Int32.ofInt 0))) 0 13 ((Int8.ofInt 31).toInt32)) 130 0 ((Int32.ofInt 0))).2.2.1 0 11)] (am_wI (am_wI (am_wI (am_wI (am_wI h1 32 3 ((Int32.ofInt 0))) 47 2 ((Int32.ofInt 0))) 0 12 ((Int32.ofInt 0))) 0 13 ((Int8.ofInt 31).toInt32)) 130 0 ((Int32.ofInt 0))) from ⟨ex_0 hP1, ?_⟩)
  rw [ex_r0_11 (h := am_wI (am_wI (am_wI (am_wI (am_wI h1 32 3 ((Int32.ofInt 0))) 47 2 ((Int32.ofInt 0))) 0 12 ((Int32.ofInt 0))) 0 13 ((Int8.ofInt 31).toInt32)) 130 0 ((Int32.ofInt 0))) hP1]
  refine am_goX 2 (show ∃ jj nn : Nat, (am_sh (am_wI (am_wI (am_wI (am_wI (am_wI h1 32 3 ((Int32.ofInt 0))) 47 2 ((Int32.ofInt 0))) 0 12 ((Int32.ofInt 0))) 0 13 ((Int8.ofInt 31).toInt32)) 130 0 ((Int32.ofInt 0))) 129 = some (16, nn) ∨ am_sh (am_wI (am_wI (am_wI (am_wI (am_wI h1 32 3 ((Int32.ofInt 0))) 47 2 ((Int32.ofInt 0))) 0 12 ((Int32.ofInt 0))) 0 13 ((Int8.ofInt 31).toInt32)) 130 0 ((Int32.ofInt 0))) 129 = some (17, nn)) ∧ jj < nn ∧ ((Int32.ofInt 0) + Int32.ofInt 1) = nI jj ∧ pz_S 2 none am_r78 1 Q 51 [(1, .int ((Int32.ofInt 0) + Int32.ofInt 1)), (0, .ref 0)] [am_rf ((am_wI (am_wI (am_wI (am_wI (am_wI h1 32 3 ((Int32.ofInt 0))) 47 2 ((Int32.ofInt 0))) 0 12 ((Int32.ofInt 0))) 0 13 ((Int8.ofInt 31).toInt32)) 130 0 ((Int32.ofInt 0))).2.2.1 129 jj)] (am_wI (am_wI (am_wI (am_wI (am_wI h1 32 3 ((Int32.ofInt 0))) 47 2 ((Int32.ofInt 0))) 0 12 ((Int32.ofInt 0))) 0 13 ((Int8.ofInt 31).toInt32)) 130 0 ((Int32.ofInt 0))) from ⟨1, 4, Or.inl (ex_129 hP1), by decide, by decide, ?_⟩)
  rw [ex_r129_1 (h := am_wI (am_wI (am_wI (am_wI (am_wI h1 32 3 ((Int32.ofInt 0))) 47 2 ((Int32.ofInt 0))) 0 12 ((Int32.ofInt 0))) 0 13 ((Int8.ofInt 31).toInt32)) 130 0 ((Int32.ofInt 0))) hP1]
  refine am_goX 2 (show am_sh (am_wI (am_wI (am_wI (am_wI (am_wI h1 32 3 ((Int32.ofInt 0))) 47 2 ((Int32.ofInt 0))) 0 12 ((Int32.ofInt 0))) 0 13 ((Int8.ofInt 31).toInt32)) 130 0 ((Int32.ofInt 0))) 136 = some (5, 0) ∧ narrow (am_fty 5 0) (.int ((Int32.ofInt 0))) = .int ((Int32.ofInt 0)) ∧ fits (am_fty 5 0) (.int ((Int32.ofInt 0))) = true ∧ pz_S 2 none am_r78 1 Q 55 [(1, .int ((Int32.ofInt 0) + Int32.ofInt 1)), (0, .ref 0)] [] (am_wI (am_wI (am_wI (am_wI (am_wI (am_wI h1 32 3 ((Int32.ofInt 0))) 47 2 ((Int32.ofInt 0))) 0 12 ((Int32.ofInt 0))) 0 13 ((Int8.ofInt 31).toInt32)) 130 0 ((Int32.ofInt 0))) 136 0 ((Int32.ofInt 0))) from ⟨ex_136 hP1, rfl, rfl, ?_⟩)
  refine am_goX 5 (show 1 < 2 ∧ ((Int32.ofInt 4) ≤ (((Int32.ofInt 0) + Int32.ofInt 1) + Int32.ofInt 1) → pz_S 2 none am_r78 1 Q 61 [(1, .int (((Int32.ofInt 0) + Int32.ofInt 1) + Int32.ofInt 1)), (0, .ref 0)] [] (am_wI (am_wI (am_wI (am_wI (am_wI (am_wI h1 32 3 ((Int32.ofInt 0))) 47 2 ((Int32.ofInt 0))) 0 12 ((Int32.ofInt 0))) 0 13 ((Int8.ofInt 31).toInt32)) 130 0 ((Int32.ofInt 0))) 136 0 ((Int32.ofInt 0)))) ∧ (¬ ((Int32.ofInt 4) ≤ (((Int32.ofInt 0) + Int32.ofInt 1) + Int32.ofInt 1)) → pz_S 2 none am_r78 1 Q 45 [(1, .int (((Int32.ofInt 0) + Int32.ofInt 1) + Int32.ofInt 1)), (0, .ref 0)] [] (am_wI (am_wI (am_wI (am_wI (am_wI (am_wI h1 32 3 ((Int32.ofInt 0))) 47 2 ((Int32.ofInt 0))) 0 12 ((Int32.ofInt 0))) 0 13 ((Int8.ofInt 31).toInt32)) 130 0 ((Int32.ofInt 0))) 136 0 ((Int32.ofInt 0)))) from ⟨by decide, fun hz => absurd hz (by decide), fun _ => ?_⟩)
  refine am_goX 2 (show am_sh (am_wI (am_wI (am_wI (am_wI (am_wI (am_wI h1 32 3 ((Int32.ofInt 0))) 47 2 ((Int32.ofInt 0))) 0 12 ((Int32.ofInt 0))) 0 13 ((Int8.ofInt 31).toInt32)) 130 0 ((Int32.ofInt 0))) 136 0 ((Int32.ofInt 0))) 0 = some (10, 0) ∧ pz_S 2 none am_r78 1 Q 49 [(1, .int (((Int32.ofInt 0) + Int32.ofInt 1) + Int32.ofInt 1)), (0, .ref 0)] [am_rf ((am_wI (am_wI (am_wI (am_wI (am_wI (am_wI h1 32 3 ((Int32.ofInt 0))) 47 2 ((Int32.ofInt 0))) 0 12 ((Int32.ofInt 0))) 0 13 ((Int8.ofInt 31).toInt32)) 130 0 ((Int32.ofInt 0))) 136 0 ((Int32.ofInt 0))).2.2.1 0 11)] (am_wI (am_wI (am_wI (am_wI (am_wI (am_wI h1 32 3 ((Int32.ofInt 0))) 47 2 ((Int32.ofInt 0))) 0 12 ((Int32.ofInt 0))) 0 13 ((Int8.ofInt 31).toInt32)) 130 0 ((Int32.ofInt 0))) 136 0 ((Int32.ofInt 0))) from ⟨ex_0 hP1, ?_⟩)
  rw [ex_r0_11 (h := am_wI (am_wI (am_wI (am_wI (am_wI (am_wI h1 32 3 ((Int32.ofInt 0))) 47 2 ((Int32.ofInt 0))) 0 12 ((Int32.ofInt 0))) 0 13 ((Int8.ofInt 31).toInt32)) 130 0 ((Int32.ofInt 0))) 136 0 ((Int32.ofInt 0))) hP1]
  refine am_goX 2 (show ∃ jj nn : Nat, (am_sh (am_wI (am_wI (am_wI (am_wI (am_wI (am_wI h1 32 3 ((Int32.ofInt 0))) 47 2 ((Int32.ofInt 0))) 0 12 ((Int32.ofInt 0))) 0 13 ((Int8.ofInt 31).toInt32)) 130 0 ((Int32.ofInt 0))) 136 0 ((Int32.ofInt 0))) 129 = some (16, nn) ∨ am_sh (am_wI (am_wI (am_wI (am_wI (am_wI (am_wI h1 32 3 ((Int32.ofInt 0))) 47 2 ((Int32.ofInt 0))) 0 12 ((Int32.ofInt 0))) 0 13 ((Int8.ofInt 31).toInt32)) 130 0 ((Int32.ofInt 0))) 136 0 ((Int32.ofInt 0))) 129 = some (17, nn)) ∧ jj < nn ∧ (((Int32.ofInt 0) + Int32.ofInt 1) + Int32.ofInt 1) = nI jj ∧ pz_S 2 none am_r78 1 Q 51 [(1, .int (((Int32.ofInt 0) + Int32.ofInt 1) + Int32.ofInt 1)), (0, .ref 0)] [am_rf ((am_wI (am_wI (am_wI (am_wI (am_wI (am_wI h1 32 3 ((Int32.ofInt 0))) 47 2 ((Int32.ofInt 0))) 0 12 ((Int32.ofInt 0))) 0 13 ((Int8.ofInt 31).toInt32)) 130 0 ((Int32.ofInt 0))) 136 0 ((Int32.ofInt 0))).2.2.1 129 jj)] (am_wI (am_wI (am_wI (am_wI (am_wI (am_wI h1 32 3 ((Int32.ofInt 0))) 47 2 ((Int32.ofInt 0))) 0 12 ((Int32.ofInt 0))) 0 13 ((Int8.ofInt 31).toInt32)) 130 0 ((Int32.ofInt 0))) 136 0 ((Int32.ofInt 0))) from ⟨2, 4, Or.inl (ex_129 hP1), by decide, by decide, ?_⟩)
  rw [ex_r129_2 (h := am_wI (am_wI (am_wI (am_wI (am_wI (am_wI h1 32 3 ((Int32.ofInt 0))) 47 2 ((Int32.ofInt 0))) 0 12 ((Int32.ofInt 0))) 0 13 ((Int8.ofInt 31).toInt32)) 130 0 ((Int32.ofInt 0))) 136 0 ((Int32.ofInt 0))) hP1]
  refine am_goX 2 (show am_sh (am_wI (am_wI (am_wI (am_wI (am_wI (am_wI h1 32 3 ((Int32.ofInt 0))) 47 2 ((Int32.ofInt 0))) 0 12 ((Int32.ofInt 0))) 0 13 ((Int8.ofInt 31).toInt32)) 130 0 ((Int32.ofInt 0))) 136 0 ((Int32.ofInt 0))) 142 = some (5, 0) ∧ narrow (am_fty 5 0) (.int ((Int32.ofInt 0))) = .int ((Int32.ofInt 0)) ∧ fits (am_fty 5 0) (.int ((Int32.ofInt 0))) = true ∧ pz_S 2 none am_r78 1 Q 55 [(1, .int (((Int32.ofInt 0) + Int32.ofInt 1) + Int32.ofInt 1)), (0, .ref 0)] [] (am_wI (am_wI (am_wI (am_wI (am_wI (am_wI (am_wI h1 32 3 ((Int32.ofInt 0))) 47 2 ((Int32.ofInt 0))) 0 12 ((Int32.ofInt 0))) 0 13 ((Int8.ofInt 31).toInt32)) 130 0 ((Int32.ofInt 0))) 136 0 ((Int32.ofInt 0))) 142 0 ((Int32.ofInt 0))) from ⟨ex_142 hP1, rfl, rfl, ?_⟩)
  refine am_goX 5 (show 1 < 2 ∧ ((Int32.ofInt 4) ≤ ((((Int32.ofInt 0) + Int32.ofInt 1) + Int32.ofInt 1) + Int32.ofInt 1) → pz_S 2 none am_r78 1 Q 61 [(1, .int ((((Int32.ofInt 0) + Int32.ofInt 1) + Int32.ofInt 1) + Int32.ofInt 1)), (0, .ref 0)] [] (am_wI (am_wI (am_wI (am_wI (am_wI (am_wI (am_wI h1 32 3 ((Int32.ofInt 0))) 47 2 ((Int32.ofInt 0))) 0 12 ((Int32.ofInt 0))) 0 13 ((Int8.ofInt 31).toInt32)) 130 0 ((Int32.ofInt 0))) 136 0 ((Int32.ofInt 0))) 142 0 ((Int32.ofInt 0)))) ∧ (¬ ((Int32.ofInt 4) ≤ ((((Int32.ofInt 0) + Int32.ofInt 1) + Int32.ofInt 1) + Int32.ofInt 1)) → pz_S 2 none am_r78 1 Q 45 [(1, .int ((((Int32.ofInt 0) + Int32.ofInt 1) + Int32.ofInt 1) + Int32.ofInt 1)), (0, .ref 0)] [] (am_wI (am_wI (am_wI (am_wI (am_wI (am_wI (am_wI h1 32 3 ((Int32.ofInt 0))) 47 2 ((Int32.ofInt 0))) 0 12 ((Int32.ofInt 0))) 0 13 ((Int8.ofInt 31).toInt32)) 130 0 ((Int32.ofInt 0))) 136 0 ((Int32.ofInt 0))) 142 0 ((Int32.ofInt 0)))) from ⟨by decide, fun hz => absurd hz (by decide), fun _ => ?_⟩)
  refine am_goX 2 (show am_sh (am_wI (am_wI (am_wI (am_wI (am_wI (am_wI (am_wI h1 32 3 ((Int32.ofInt 0))) 47 2 ((Int32.ofInt 0))) 0 12 ((Int32.ofInt 0))) 0 13 ((Int8.ofInt 31).toInt32)) 130 0 ((Int32.ofInt 0))) 136 0 ((Int32.ofInt 0))) 142 0 ((Int32.ofInt 0))) 0 = some (10, 0) ∧ pz_S 2 none am_r78 1 Q 49 [(1, .int ((((Int32.ofInt 0) + Int32.ofInt 1) + Int32.ofInt 1) + Int32.ofInt 1)), (0, .ref 0)] [am_rf ((am_wI (am_wI (am_wI (am_wI (am_wI (am_wI (am_wI h1 32 3 ((Int32.ofInt 0))) 47 2 ((Int32.ofInt 0))) 0 12 ((Int32.ofInt 0))) 0 13 ((Int8.ofInt 31).toInt32)) 130 0 ((Int32.ofInt 0))) 136 0 ((Int32.ofInt 0))) 142 0 ((Int32.ofInt 0))).2.2.1 0 11)] (am_wI (am_wI (am_wI (am_wI (am_wI (am_wI (am_wI h1 32 3 ((Int32.ofInt 0))) 47 2 ((Int32.ofInt 0))) 0 12 ((Int32.ofInt 0))) 0 13 ((Int8.ofInt 31).toInt32)) 130 0 ((Int32.ofInt 0))) 136 0 ((Int32.ofInt 0))) 142 0 ((Int32.ofInt 0))) from ⟨ex_0 hP1, ?_⟩)
  rw [ex_r0_11 (h := am_wI (am_wI (am_wI (am_wI (am_wI (am_wI (am_wI h1 32 3 ((Int32.ofInt 0))) 47 2 ((Int32.ofInt 0))) 0 12 ((Int32.ofInt 0))) 0 13 ((Int8.ofInt 31).toInt32)) 130 0 ((Int32.ofInt 0))) 136 0 ((Int32.ofInt 0))) 142 0 ((Int32.ofInt 0))) hP1]
  refine am_goX 2 (show ∃ jj nn : Nat, (am_sh (am_wI (am_wI (am_wI (am_wI (am_wI (am_wI (am_wI h1 32 3 ((Int32.ofInt 0))) 47 2 ((Int32.ofInt 0))) 0 12 ((Int32.ofInt 0))) 0 13 ((Int8.ofInt 31).toInt32)) 130 0 ((Int32.ofInt 0))) 136 0 ((Int32.ofInt 0))) 142 0 ((Int32.ofInt 0))) 129 = some (16, nn) ∨ am_sh (am_wI (am_wI (am_wI (am_wI (am_wI (am_wI (am_wI h1 32 3 ((Int32.ofInt 0))) 47 2 ((Int32.ofInt 0))) 0 12 ((Int32.ofInt 0))) 0 13 ((Int8.ofInt 31).toInt32)) 130 0 ((Int32.ofInt 0))) 136 0 ((Int32.ofInt 0))) 142 0 ((Int32.ofInt 0))) 129 = some (17, nn)) ∧ jj < nn ∧ ((((Int32.ofInt 0) + Int32.ofInt 1) + Int32.ofInt 1) + Int32.ofInt 1) = nI jj ∧ pz_S 2 none am_r78 1 Q 51 [(1, .int ((((Int32.ofInt 0) + Int32.ofInt 1) + Int32.ofInt 1) + Int32.ofInt 1)), (0, .ref 0)] [am_rf ((am_wI (am_wI (am_wI (am_wI (am_wI (am_wI (am_wI h1 32 3 ((Int32.ofInt 0))) 47 2 ((Int32.ofInt 0))) 0 12 ((Int32.ofInt 0))) 0 13 ((Int8.ofInt 31).toInt32)) 130 0 ((Int32.ofInt 0))) 136 0 ((Int32.ofInt 0))) 142 0 ((Int32.ofInt 0))).2.2.1 129 jj)] (am_wI (am_wI (am_wI (am_wI (am_wI (am_wI (am_wI h1 32 3 ((Int32.ofInt 0))) 47 2 ((Int32.ofInt 0))) 0 12 ((Int32.ofInt 0))) 0 13 ((Int8.ofInt 31).toInt32)) 130 0 ((Int32.ofInt 0))) 136 0 ((Int32.ofInt 0))) 142 0 ((Int32.ofInt 0))) from ⟨3, 4, Or.inl (ex_129 hP1), by decide, by decide, ?_⟩)
  rw [ex_r129_3 (h := am_wI (am_wI (am_wI (am_wI (am_wI (am_wI (am_wI h1 32 3 ((Int32.ofInt 0))) 47 2 ((Int32.ofInt 0))) 0 12 ((Int32.ofInt 0))) 0 13 ((Int8.ofInt 31).toInt32)) 130 0 ((Int32.ofInt 0))) 136 0 ((Int32.ofInt 0))) 142 0 ((Int32.ofInt 0))) hP1]
  refine am_goX 2 (show am_sh (am_wI (am_wI (am_wI (am_wI (am_wI (am_wI (am_wI h1 32 3 ((Int32.ofInt 0))) 47 2 ((Int32.ofInt 0))) 0 12 ((Int32.ofInt 0))) 0 13 ((Int8.ofInt 31).toInt32)) 130 0 ((Int32.ofInt 0))) 136 0 ((Int32.ofInt 0))) 142 0 ((Int32.ofInt 0))) 148 = some (5, 0) ∧ narrow (am_fty 5 0) (.int ((Int32.ofInt 0))) = .int ((Int32.ofInt 0)) ∧ fits (am_fty 5 0) (.int ((Int32.ofInt 0))) = true ∧ pz_S 2 none am_r78 1 Q 55 [(1, .int ((((Int32.ofInt 0) + Int32.ofInt 1) + Int32.ofInt 1) + Int32.ofInt 1)), (0, .ref 0)] [] (am_wI (am_wI (am_wI (am_wI (am_wI (am_wI (am_wI (am_wI h1 32 3 ((Int32.ofInt 0))) 47 2 ((Int32.ofInt 0))) 0 12 ((Int32.ofInt 0))) 0 13 ((Int8.ofInt 31).toInt32)) 130 0 ((Int32.ofInt 0))) 136 0 ((Int32.ofInt 0))) 142 0 ((Int32.ofInt 0))) 148 0 ((Int32.ofInt 0))) from ⟨ex_148 hP1, rfl, rfl, ?_⟩)
  refine am_goX 5 (show 1 < 2 ∧ ((Int32.ofInt 4) ≤ (((((Int32.ofInt 0) + Int32.ofInt 1) + Int32.ofInt 1) + Int32.ofInt 1) + Int32.ofInt 1) → pz_S 2 none am_r78 1 Q 61 [(1, .int (((((Int32.ofInt 0) + Int32.ofInt 1) + Int32.ofInt 1) + Int32.ofInt 1) + Int32.ofInt 1)), (0, .ref 0)] [] (am_wI (am_wI (am_wI (am_wI (am_wI (am_wI (am_wI (am_wI h1 32 3 ((Int32.ofInt 0))) 47 2 ((Int32.ofInt 0))) 0 12 ((Int32.ofInt 0))) 0 13 ((Int8.ofInt 31).toInt32)) 130 0 ((Int32.ofInt 0))) 136 0 ((Int32.ofInt 0))) 142 0 ((Int32.ofInt 0))) 148 0 ((Int32.ofInt 0)))) ∧ (¬ ((Int32.ofInt 4) ≤ (((((Int32.ofInt 0) + Int32.ofInt 1) + Int32.ofInt 1) + Int32.ofInt 1) + Int32.ofInt 1)) → pz_S 2 none am_r78 1 Q 45 [(1, .int (((((Int32.ofInt 0) + Int32.ofInt 1) + Int32.ofInt 1) + Int32.ofInt 1) + Int32.ofInt 1)), (0, .ref 0)] [] (am_wI (am_wI (am_wI (am_wI (am_wI (am_wI (am_wI (am_wI h1 32 3 ((Int32.ofInt 0))) 47 2 ((Int32.ofInt 0))) 0 12 ((Int32.ofInt 0))) 0 13 ((Int8.ofInt 31).toInt32)) 130 0 ((Int32.ofInt 0))) 136 0 ((Int32.ofInt 0))) 142 0 ((Int32.ofInt 0))) 148 0 ((Int32.ofInt 0)))) from ⟨by decide, fun _ => ?_, fun hz => absurd (by decide) hz⟩)
  exact am_goX 1 (show (none : Option FieldType) = none ∧ (am_wI (am_wI (am_wI (am_wI (am_wI (am_wI (am_wI (am_wI h1 32 3 ((Int32.ofInt 0))) 47 2 ((Int32.ofInt 0))) 0 12 ((Int32.ofInt 0))) 0 13 ((Int8.ofInt 31).toInt32)) 130 0 ((Int32.ofInt 0))) 136 0 ((Int32.ofInt 0))) 142 0 ((Int32.ofInt 0))) 148 0 ((Int32.ofInt 0))).2.2.2.2 = 175 ∧ _ from ⟨rfl, ex_175 hP1, hQ _ hP1⟩)
theorem c_14_6w28 (hw : h.2.2.1 0 5 = some 28) (hP : ex_P h) (hs : h.2.2.1 0 4 = some 6) (ht : h.2.2.1 0 3 = some 17) (hz : sz ≤ 1000) (hch : ∀ q, q < sz → 0 ≤ (T q).toInt ∧ (T q).toInt ≤ 126) (l1 : h.1 1 1 = nI sz) (l2 : ∀ q, q < sz → h.1 2 q = T q) (hQ : ∀ h1, Q (some (.int (sp_ans (sp_canton (tt T sz))))) h1) : am_call am_cod 40 14 [.ref 0] h Q := by
  refine pz_call (n := 14) (nL := 3) (rt := (some .int)) (rows := am_r14) (d := 39) (by decide +kernel) (by decide +kernel) rfl (by funext pc; rfl) (ex_175 hP) (by exact Nat.le_of_ble_eq_true rfl) ?_
  refine am_goX 2 (show am_sh h 0 = some (10, 0) ∧ pz_S 3 (some .int) am_r14 39 Q 4 [(0, .ref 0)] [am_rf (h.2.2.1 0 1)] h from ⟨ex_0 hP, ?_⟩)
  rw [ex_r0_1 (h := h) hP]
  refine am_goX 2 (show am_sh h 0 = some (10, 0) ∧ pz_S 3 (some .int) am_r14 39 Q 8 [(0, .ref 0)] [am_rf (h.2.2.1 0 4), .ref 3] h from ⟨ex_0 hP, ?_⟩)
  rw [hs]
  refine am_goX 1 (show am_rc h 3 1 ∧ 0 ≤ 8 ∧ h.2.2.2.2 + am_al 15 ≤ 175 ∧ am_call am_cod 39 15 [.ref 3, .ref 6] h (fun vv h' => pz_S 3 (some .int) am_r14 39 Q 11 [(0, .ref 0)] (vv.toList ++ []) h') from ⟨Or.inl ⟨by decide, ex_3 hP⟩, by decide, ex_lim hP rfl, c_15_6 hP hz hch l1 l2 (fun h1 w => ?_)⟩)
  obtain ⟨hP1, hq⟩ := cfin_q w
  have q4 : h1.2.2.1 0 4 = some 6 := by rw [hq.1]; exact hs
  have q3 : h1.2.2.1 0 3 = some 17 := by rw [hq.1]; exact ht
  have q5 : h1.2.2.1 0 5 = some 28 := by rw [hq.1]; exact hw
  clear hq w
  refine am_goX 3 (show 1 < 3 ∧ am_sh h1 0 = some (10, 0) ∧ pz_S 3 (some .int) am_r14 39 Q 16 [(1, .int (sp_ans (sp_canton (tt T sz)))), (0, .ref 0)] [am_rf (h1.2.2.1 0 0)] h1 from ⟨by decide, ex_0 hP1, ?_⟩)
  rw [ex_r0_0 (h := h1) hP1]
  refine am_goX 2 (show am_sh h1 1 = some (7, 0) ∧ narrow (am_fty 7 1) (.int ((Int32.ofInt 0))) = .int ((Int32.ofInt 0)) ∧ fits (am_fty 7 1) (.int ((Int32.ofInt 0))) = true ∧ pz_S 3 (some .int) am_r14 39 Q 20 [(1, .int (sp_ans (sp_canton (tt T sz)))), (0, .ref 0)] [] (am_wI h1 1 1 ((Int32.ofInt 0))) from ⟨ex_1 hP1, rfl, rfl, ?_⟩)
  have hP2 : ex_P (am_wI h1 1 1 ((Int32.ofInt 0))) := hP1
  replace q4 : (am_wI h1 1 1 ((Int32.ofInt 0))).2.2.1 0 4 = some 6 := q4
  replace q3 : (am_wI h1 1 1 ((Int32.ofInt 0))).2.2.1 0 3 = some 17 := q3
  replace q5 : (am_wI h1 1 1 ((Int32.ofInt 0))).2.2.1 0 5 = some 28 := q5
  generalize am_wI h1 1 1 ((Int32.ofInt 0)) = h2 at hP2 q3 q4 q5 ⊢
  refine am_goX 2 (show ((sp_ans (sp_canton (tt T sz))) = 0 → pz_S 3 (some .int) am_r14 39 Q 26 [(1, .int (sp_ans (sp_canton (tt T sz)))), (0, .ref 0)] [] h2) ∧ (¬ ((sp_ans (sp_canton (tt T sz))) = 0) → pz_S 3 (some .int) am_r14 39 Q 24 [(1, .int (sp_ans (sp_canton (tt T sz)))), (0, .ref 0)] [] h2) from ⟨fun hc => ?_, fun hc => ?_⟩)
  rotate_left
  ·
    exact am_goX 2 (show (∃ ty, (some .int) = some ty ∧ narrow ty (.int ((sp_ans (sp_canton (tt T sz))))) = .int ((sp_ans (sp_canton (tt T sz))))) ∧ h2.2.2.2.2 = 175 ∧ _ from ⟨⟨.int, rfl, rfl⟩, ex_175 hP2, hQ _⟩)
  rw [hc] at hQ
  refine am_goX 2 (show am_sh h2 0 = some (10, 0) ∧ pz_S 3 (some .int) am_r14 39 Q 30 [(1, .int (sp_ans (sp_canton (tt T sz)))), (0, .ref 0)] [am_rf (h2.2.2.1 0 4)] h2 from ⟨ex_0 hP2, ?_⟩)
  rw [q4]
  refine am_goX 4 (show 2 < 3 ∧ am_sh h2 0 = some (10, 0) ∧ pz_S 3 (some .int) am_r14 39 Q 36 [(2, .ref 6), (1, .int (sp_ans (sp_canton (tt T sz)))), (0, .ref 0)] [am_rf (h2.2.2.1 0 3), .ref 0] h2 from ⟨by decide, ex_0 hP2, ?_⟩)
  rw [q3]
  refine am_goX 1 (show am_sh h2 0 = some (10, 0) ∧ pz_S 3 (some .int) am_r14 39 Q 39 [(2, .ref 6), (1, .int (sp_ans (sp_canton (tt T sz)))), (0, .ref 0)] [] (am_wR h2 0 4 (some 17)) from ⟨ex_0 hP2, ?_⟩)
  refine am_goX 3 (show am_sh (am_wR h2 0 4 (some 17)) 0 = some (10, 0) ∧ pz_S 3 (some .int) am_r14 39 Q 44 [(2, .ref 6), (1, .int (sp_ans (sp_canton (tt T sz)))), (0, .ref 0)] [] (am_wR (am_wR h2 0 4 (some 17)) 0 3 (some 6)) from ⟨ex_0 (ex_wR (by decide) hP2), ?_⟩)
  refine am_goX 2 (show am_rc (am_wR (am_wR h2 0 4 (some 17)) 0 3 (some 6)) 0 10 ∧ 0 ≤ 8 ∧ (am_wR (am_wR h2 0 4 (some 17)) 0 3 (some 6)).2.2.2.2 + am_al 78 ≤ 175 ∧ am_call am_cod 39 78 [.ref 0] (am_wR (am_wR h2 0 4 (some 17)) 0 3 (some 6)) (fun vv h' => pz_S 3 (some .int) am_r14 39 Q 48 [(2, .ref 6), (1, .int (sp_ans (sp_canton (tt T sz)))), (0, .ref 0)] (vv.toList ++ []) h') from ⟨Or.inl ⟨by decide, ex_0 (ex_wR (by decide) (ex_wR (by decide) hP2))⟩, by decide, ex_lim (ex_wR (by decide) (ex_wR (by decide) hP2)) rfl, am_call.up (c_78_6w28 (ex_wR (by decide) (ex_wR (by decide) hP2)) rfl q5 (fun h3 hP3 => ?_)) (by decide)⟩)
  exact am_goX 2 (show (∃ ty, (some .int) = some ty ∧ narrow ty (.int ((Int32.ofInt 0))) = .int ((Int32.ofInt 0))) ∧ h3.2.2.2.2 = 175 ∧ _ from ⟨⟨.int, rfl, rfl⟩, ex_175 hP3, hQ _⟩)
theorem c_14_6w32 (hw : h.2.2.1 0 5 = some 32) (hP : ex_P h) (hs : h.2.2.1 0 4 = some 6) (ht : h.2.2.1 0 3 = some 17) (hz : sz ≤ 1000) (hch : ∀ q, q < sz → 0 ≤ (T q).toInt ∧ (T q).toInt ≤ 126) (l1 : h.1 1 1 = nI sz) (l2 : ∀ q, q < sz → h.1 2 q = T q) (hQ : ∀ h1, Q (some (.int (sp_ans (sp_canton (tt T sz))))) h1) : am_call am_cod 40 14 [.ref 0] h Q := by
  refine pz_call (n := 14) (nL := 3) (rt := (some .int)) (rows := am_r14) (d := 39) (by decide +kernel) (by decide +kernel) rfl (by funext pc; rfl) (ex_175 hP) (by exact Nat.le_of_ble_eq_true rfl) ?_
  refine am_goX 2 (show am_sh h 0 = some (10, 0) ∧ pz_S 3 (some .int) am_r14 39 Q 4 [(0, .ref 0)] [am_rf (h.2.2.1 0 1)] h from ⟨ex_0 hP, ?_⟩)
  rw [ex_r0_1 (h := h) hP]
  refine am_goX 2 (show am_sh h 0 = some (10, 0) ∧ pz_S 3 (some .int) am_r14 39 Q 8 [(0, .ref 0)] [am_rf (h.2.2.1 0 4), .ref 3] h from ⟨ex_0 hP, ?_⟩)
  rw [hs]
  refine am_goX 1 (show am_rc h 3 1 ∧ 0 ≤ 8 ∧ h.2.2.2.2 + am_al 15 ≤ 175 ∧ am_call am_cod 39 15 [.ref 3, .ref 6] h (fun vv h' => pz_S 3 (some .int) am_r14 39 Q 11 [(0, .ref 0)] (vv.toList ++ []) h') from ⟨Or.inl ⟨by decide, ex_3 hP⟩, by decide, ex_lim hP rfl, c_15_6 hP hz hch l1 l2 (fun h1 w => ?_)⟩)
  obtain ⟨hP1, hq⟩ := cfin_q w
  have q4 : h1.2.2.1 0 4 = some 6 := by rw [hq.1]; exact hs
  have q3 : h1.2.2.1 0 3 = some 17 := by rw [hq.1]; exact ht
  have q5 : h1.2.2.1 0 5 = some 32 := by rw [hq.1]; exact hw
  clear hq w
  refine am_goX 3 (show 1 < 3 ∧ am_sh h1 0 = some (10, 0) ∧ pz_S 3 (some .int) am_r14 39 Q 16 [(1, .int (sp_ans (sp_canton (tt T sz)))), (0, .ref 0)] [am_rf (h1.2.2.1 0 0)] h1 from ⟨by decide, ex_0 hP1, ?_⟩)
  rw [ex_r0_0 (h := h1) hP1]
  refine am_goX 2 (show am_sh h1 1 = some (7, 0) ∧ narrow (am_fty 7 1) (.int ((Int32.ofInt 0))) = .int ((Int32.ofInt 0)) ∧ fits (am_fty 7 1) (.int ((Int32.ofInt 0))) = true ∧ pz_S 3 (some .int) am_r14 39 Q 20 [(1, .int (sp_ans (sp_canton (tt T sz)))), (0, .ref 0)] [] (am_wI h1 1 1 ((Int32.ofInt 0))) from ⟨ex_1 hP1, rfl, rfl, ?_⟩)
  have hP2 : ex_P (am_wI h1 1 1 ((Int32.ofInt 0))) := hP1
  replace q4 : (am_wI h1 1 1 ((Int32.ofInt 0))).2.2.1 0 4 = some 6 := q4
  replace q3 : (am_wI h1 1 1 ((Int32.ofInt 0))).2.2.1 0 3 = some 17 := q3
  replace q5 : (am_wI h1 1 1 ((Int32.ofInt 0))).2.2.1 0 5 = some 32 := q5
  generalize am_wI h1 1 1 ((Int32.ofInt 0)) = h2 at hP2 q3 q4 q5 ⊢
  refine am_goX 2 (show ((sp_ans (sp_canton (tt T sz))) = 0 → pz_S 3 (some .int) am_r14 39 Q 26 [(1, .int (sp_ans (sp_canton (tt T sz)))), (0, .ref 0)] [] h2) ∧ (¬ ((sp_ans (sp_canton (tt T sz))) = 0) → pz_S 3 (some .int) am_r14 39 Q 24 [(1, .int (sp_ans (sp_canton (tt T sz)))), (0, .ref 0)] [] h2) from ⟨fun hc => ?_, fun hc => ?_⟩)
  rotate_left
  ·
    exact am_goX 2 (show (∃ ty, (some .int) = some ty ∧ narrow ty (.int ((sp_ans (sp_canton (tt T sz))))) = .int ((sp_ans (sp_canton (tt T sz))))) ∧ h2.2.2.2.2 = 175 ∧ _ from ⟨⟨.int, rfl, rfl⟩, ex_175 hP2, hQ _⟩)
  rw [hc] at hQ
  refine am_goX 2 (show am_sh h2 0 = some (10, 0) ∧ pz_S 3 (some .int) am_r14 39 Q 30 [(1, .int (sp_ans (sp_canton (tt T sz)))), (0, .ref 0)] [am_rf (h2.2.2.1 0 4)] h2 from ⟨ex_0 hP2, ?_⟩)
  rw [q4]
  refine am_goX 4 (show 2 < 3 ∧ am_sh h2 0 = some (10, 0) ∧ pz_S 3 (some .int) am_r14 39 Q 36 [(2, .ref 6), (1, .int (sp_ans (sp_canton (tt T sz)))), (0, .ref 0)] [am_rf (h2.2.2.1 0 3), .ref 0] h2 from ⟨by decide, ex_0 hP2, ?_⟩)
  rw [q3]
  refine am_goX 1 (show am_sh h2 0 = some (10, 0) ∧ pz_S 3 (some .int) am_r14 39 Q 39 [(2, .ref 6), (1, .int (sp_ans (sp_canton (tt T sz)))), (0, .ref 0)] [] (am_wR h2 0 4 (some 17)) from ⟨ex_0 hP2, ?_⟩)
  refine am_goX 3 (show am_sh (am_wR h2 0 4 (some 17)) 0 = some (10, 0) ∧ pz_S 3 (some .int) am_r14 39 Q 44 [(2, .ref 6), (1, .int (sp_ans (sp_canton (tt T sz)))), (0, .ref 0)] [] (am_wR (am_wR h2 0 4 (some 17)) 0 3 (some 6)) from ⟨ex_0 (ex_wR (by decide) hP2), ?_⟩)
  refine am_goX 2 (show am_rc (am_wR (am_wR h2 0 4 (some 17)) 0 3 (some 6)) 0 10 ∧ 0 ≤ 8 ∧ (am_wR (am_wR h2 0 4 (some 17)) 0 3 (some 6)).2.2.2.2 + am_al 78 ≤ 175 ∧ am_call am_cod 39 78 [.ref 0] (am_wR (am_wR h2 0 4 (some 17)) 0 3 (some 6)) (fun vv h' => pz_S 3 (some .int) am_r14 39 Q 48 [(2, .ref 6), (1, .int (sp_ans (sp_canton (tt T sz)))), (0, .ref 0)] (vv.toList ++ []) h') from ⟨Or.inl ⟨by decide, ex_0 (ex_wR (by decide) (ex_wR (by decide) hP2))⟩, by decide, ex_lim (ex_wR (by decide) (ex_wR (by decide) hP2)) rfl, am_call.up (c_78_6w32 (ex_wR (by decide) (ex_wR (by decide) hP2)) rfl q5 (fun h3 hP3 => ?_)) (by decide)⟩)
  exact am_goX 2 (show (∃ ty, (some .int) = some ty ∧ narrow ty (.int ((Int32.ofInt 0))) = .int ((Int32.ofInt 0))) ∧ h3.2.2.2.2 = 175 ∧ _ from ⟨⟨.int, rfl, rfl⟩, ex_175 hP3, hQ _⟩)
theorem c_14_17w28 (hw : h.2.2.1 0 5 = some 28) (hP : ex_P h) (hs : h.2.2.1 0 4 = some 17) (ht : h.2.2.1 0 3 = some 6) (hz : sz ≤ 1000) (hch : ∀ q, q < sz → 0 ≤ (T q).toInt ∧ (T q).toInt ≤ 126) (l1 : h.1 1 1 = nI sz) (l2 : ∀ q, q < sz → h.1 2 q = T q) (hQ : ∀ h1, Q (some (.int (sp_ans (sp_canton (tt T sz))))) h1) : am_call am_cod 40 14 [.ref 0] h Q := by
  refine pz_call (n := 14) (nL := 3) (rt := (some .int)) (rows := am_r14) (d := 39) (by decide +kernel) (by decide +kernel) rfl (by funext pc; rfl) (ex_175 hP) (by exact Nat.le_of_ble_eq_true rfl) ?_
  refine am_goX 2 (show am_sh h 0 = some (10, 0) ∧ pz_S 3 (some .int) am_r14 39 Q 4 [(0, .ref 0)] [am_rf (h.2.2.1 0 1)] h from ⟨ex_0 hP, ?_⟩)
  rw [ex_r0_1 (h := h) hP]
  refine am_goX 2 (show am_sh h 0 = some (10, 0) ∧ pz_S 3 (some .int) am_r14 39 Q 8 [(0, .ref 0)] [am_rf (h.2.2.1 0 4), .ref 3] h from ⟨ex_0 hP, ?_⟩)
  rw [hs]
  refine am_goX 1 (show am_rc h 3 1 ∧ 0 ≤ 8 ∧ h.2.2.2.2 + am_al 15 ≤ 175 ∧ am_call am_cod 39 15 [.ref 3, .ref 17] h (fun vv h' => pz_S 3 (some .int) am_r14 39 Q 11 [(0, .ref 0)] (vv.toList ++ []) h') from ⟨Or.inl ⟨by decide, ex_3 hP⟩, by decide, ex_lim hP rfl, c_15_17 hP hz hch l1 l2 (fun h1 w => ?_)⟩)
  obtain ⟨hP1, hq⟩ := cfin_q w
  have q4 : h1.2.2.1 0 4 = some 17 := by rw [hq.1]; exact hs
  have q3 : h1.2.2.1 0 3 = some 6 := by rw [hq.1]; exact ht
  have q5 : h1.2.2.1 0 5 = some 28 := by rw [hq.1]; exact hw
  clear hq w
  refine am_goX 3 (show 1 < 3 ∧ am_sh h1 0 = some (10, 0) ∧ pz_S 3 (some .int) am_r14 39 Q 16 [(1, .int (sp_ans (sp_canton (tt T sz)))), (0, .ref 0)] [am_rf (h1.2.2.1 0 0)] h1 from ⟨by decide, ex_0 hP1, ?_⟩)
  rw [ex_r0_0 (h := h1) hP1]
  refine am_goX 2 (show am_sh h1 1 = some (7, 0) ∧ narrow (am_fty 7 1) (.int ((Int32.ofInt 0))) = .int ((Int32.ofInt 0)) ∧ fits (am_fty 7 1) (.int ((Int32.ofInt 0))) = true ∧ pz_S 3 (some .int) am_r14 39 Q 20 [(1, .int (sp_ans (sp_canton (tt T sz)))), (0, .ref 0)] [] (am_wI h1 1 1 ((Int32.ofInt 0))) from ⟨ex_1 hP1, rfl, rfl, ?_⟩)
  have hP2 : ex_P (am_wI h1 1 1 ((Int32.ofInt 0))) := hP1
  replace q4 : (am_wI h1 1 1 ((Int32.ofInt 0))).2.2.1 0 4 = some 17 := q4
  replace q3 : (am_wI h1 1 1 ((Int32.ofInt 0))).2.2.1 0 3 = some 6 := q3
  replace q5 : (am_wI h1 1 1 ((Int32.ofInt 0))).2.2.1 0 5 = some 28 := q5
  generalize am_wI h1 1 1 ((Int32.ofInt 0)) = h2 at hP2 q3 q4 q5 ⊢
  refine am_goX 2 (show ((sp_ans (sp_canton (tt T sz))) = 0 → pz_S 3 (some .int) am_r14 39 Q 26 [(1, .int (sp_ans (sp_canton (tt T sz)))), (0, .ref 0)] [] h2) ∧ (¬ ((sp_ans (sp_canton (tt T sz))) = 0) → pz_S 3 (some .int) am_r14 39 Q 24 [(1, .int (sp_ans (sp_canton (tt T sz)))), (0, .ref 0)] [] h2) from ⟨fun hc => ?_, fun hc => ?_⟩)
  rotate_left
  ·
    exact am_goX 2 (show (∃ ty, (some .int) = some ty ∧ narrow ty (.int ((sp_ans (sp_canton (tt T sz))))) = .int ((sp_ans (sp_canton (tt T sz))))) ∧ h2.2.2.2.2 = 175 ∧ _ from ⟨⟨.int, rfl, rfl⟩, ex_175 hP2, hQ _⟩)
  rw [hc] at hQ
  refine am_goX 2 (show am_sh h2 0 = some (10, 0) ∧ pz_S 3 (some .int) am_r14 39 Q 30 [(1, .int (sp_ans (sp_canton (tt T sz)))), (0, .ref 0)] [am_rf (h2.2.2.1 0 4)] h2 from ⟨ex_0 hP2, ?_⟩)
  rw [q4]
  refine am_goX 4 (show 2 < 3 ∧ am_sh h2 0 = some (10, 0) ∧ pz_S 3 (some .int) am_r14 39 Q 36 [(2, .ref 17), (1, .int (sp_ans (sp_canton (tt T sz)))), (0, .ref 0)] [am_rf (h2.2.2.1 0 3), .ref 0] h2 from ⟨by decide, ex_0 hP2, ?_⟩)
  rw [q3]
  refine am_goX 1 (show am_sh h2 0 = some (10, 0) ∧ pz_S 3 (some .int) am_r14 39 Q 39 [(2, .ref 17), (1, .int (sp_ans (sp_canton (tt T sz)))), (0, .ref 0)] [] (am_wR h2 0 4 (some 6)) from ⟨ex_0 hP2, ?_⟩)
  refine am_goX 3 (show am_sh (am_wR h2 0 4 (some 6)) 0 = some (10, 0) ∧ pz_S 3 (some .int) am_r14 39 Q 44 [(2, .ref 17), (1, .int (sp_ans (sp_canton (tt T sz)))), (0, .ref 0)] [] (am_wR (am_wR h2 0 4 (some 6)) 0 3 (some 17)) from ⟨ex_0 (ex_wR (by decide) hP2), ?_⟩)
  refine am_goX 2 (show am_rc (am_wR (am_wR h2 0 4 (some 6)) 0 3 (some 17)) 0 10 ∧ 0 ≤ 8 ∧ (am_wR (am_wR h2 0 4 (some 6)) 0 3 (some 17)).2.2.2.2 + am_al 78 ≤ 175 ∧ am_call am_cod 39 78 [.ref 0] (am_wR (am_wR h2 0 4 (some 6)) 0 3 (some 17)) (fun vv h' => pz_S 3 (some .int) am_r14 39 Q 48 [(2, .ref 17), (1, .int (sp_ans (sp_canton (tt T sz)))), (0, .ref 0)] (vv.toList ++ []) h') from ⟨Or.inl ⟨by decide, ex_0 (ex_wR (by decide) (ex_wR (by decide) hP2))⟩, by decide, ex_lim (ex_wR (by decide) (ex_wR (by decide) hP2)) rfl, am_call.up (c_78_17w28 (ex_wR (by decide) (ex_wR (by decide) hP2)) rfl q5 (fun h3 hP3 => ?_)) (by decide)⟩)
  exact am_goX 2 (show (∃ ty, (some .int) = some ty ∧ narrow ty (.int ((Int32.ofInt 0))) = .int ((Int32.ofInt 0))) ∧ h3.2.2.2.2 = 175 ∧ _ from ⟨⟨.int, rfl, rfl⟩, ex_175 hP3, hQ _⟩)
theorem c_14_17w32 (hw : h.2.2.1 0 5 = some 32) (hP : ex_P h) (hs : h.2.2.1 0 4 = some 17) (ht : h.2.2.1 0 3 = some 6) (hz : sz ≤ 1000) (hch : ∀ q, q < sz → 0 ≤ (T q).toInt ∧ (T q).toInt ≤ 126) (l1 : h.1 1 1 = nI sz) (l2 : ∀ q, q < sz → h.1 2 q = T q) (hQ : ∀ h1, Q (some (.int (sp_ans (sp_canton (tt T sz))))) h1) : am_call am_cod 40 14 [.ref 0] h Q := by
  refine pz_call (n := 14) (nL := 3) (rt := (some .int)) (rows := am_r14) (d := 39) (by decide +kernel) (by decide +kernel) rfl (by funext pc; rfl) (ex_175 hP) (by exact Nat.le_of_ble_eq_true rfl) ?_
  refine am_goX 2 (show am_sh h 0 = some (10, 0) ∧ pz_S 3 (some .int) am_r14 39 Q 4 [(0, .ref 0)] [am_rf (h.2.2.1 0 1)] h from ⟨ex_0 hP, ?_⟩)
  rw [ex_r0_1 (h := h) hP]
  refine am_goX 2 (show am_sh h 0 = some (10, 0) ∧ pz_S 3 (some .int) am_r14 39 Q 8 [(0, .ref 0)] [am_rf (h.2.2.1 0 4), .ref 3] h from ⟨ex_0 hP, ?_⟩)
  rw [hs]
  refine am_goX 1 (show am_rc h 3 1 ∧ 0 ≤ 8 ∧ h.2.2.2.2 + am_al 15 ≤ 175 ∧ am_call am_cod 39 15 [.ref 3, .ref 17] h (fun vv h' => pz_S 3 (some .int) am_r14 39 Q 11 [(0, .ref 0)] (vv.toList ++ []) h') from ⟨Or.inl ⟨by decide, ex_3 hP⟩, by decide, ex_lim hP rfl, c_15_17 hP hz hch l1 l2 (fun h1 w => ?_)⟩)
  obtain ⟨hP1, hq⟩ := cfin_q w
  have q4 : h1.2.2.1 0 4 = some 17 := by rw [hq.1]; exact hs
  have q3 : h1.2.2.1 0 3 = some 6 := by rw [hq.1]; exact ht
  have q5 : h1.2.2.1 0 5 = some 32 := by rw [hq.1]; exact hw
  clear hq w
  refine am_goX 3 (show 1 < 3 ∧ am_sh h1 0 = some (10, 0) ∧ pz_S 3 (some .int) am_r14 39 Q 16 [(1, .int (sp_ans (sp_canton (tt T sz)))), (0, .ref 0)] [am_rf (h1.2.2.1 0 0)] h1 from ⟨by decide, ex_0 hP1, ?_⟩)
  rw [ex_r0_0 (h := h1) hP1]
  refine am_goX 2 (show am_sh h1 1 = some (7, 0) ∧ narrow (am_fty 7 1) (.int ((Int32.ofInt 0))) = .int ((Int32.ofInt 0)) ∧ fits (am_fty 7 1) (.int ((Int32.ofInt 0))) = true ∧ pz_S 3 (some .int) am_r14 39 Q 20 [(1, .int (sp_ans (sp_canton (tt T sz)))), (0, .ref 0)] [] (am_wI h1 1 1 ((Int32.ofInt 0))) from ⟨ex_1 hP1, rfl, rfl, ?_⟩)
  have hP2 : ex_P (am_wI h1 1 1 ((Int32.ofInt 0))) := hP1
  replace q4 : (am_wI h1 1 1 ((Int32.ofInt 0))).2.2.1 0 4 = some 17 := q4
  replace q3 : (am_wI h1 1 1 ((Int32.ofInt 0))).2.2.1 0 3 = some 6 := q3
  replace q5 : (am_wI h1 1 1 ((Int32.ofInt 0))).2.2.1 0 5 = some 32 := q5
  generalize am_wI h1 1 1 ((Int32.ofInt 0)) = h2 at hP2 q3 q4 q5 ⊢
  refine am_goX 2 (show ((sp_ans (sp_canton (tt T sz))) = 0 → pz_S 3 (some .int) am_r14 39 Q 26 [(1, .int (sp_ans (sp_canton (tt T sz)))), (0, .ref 0)] [] h2) ∧ (¬ ((sp_ans (sp_canton (tt T sz))) = 0) → pz_S 3 (some .int) am_r14 39 Q 24 [(1, .int (sp_ans (sp_canton (tt T sz)))), (0, .ref 0)] [] h2) from ⟨fun hc => ?_, fun hc => ?_⟩)
  rotate_left
  ·
    exact am_goX 2 (show (∃ ty, (some .int) = some ty ∧ narrow ty (.int ((sp_ans (sp_canton (tt T sz))))) = .int ((sp_ans (sp_canton (tt T sz))))) ∧ h2.2.2.2.2 = 175 ∧ _ from ⟨⟨.int, rfl, rfl⟩, ex_175 hP2, hQ _⟩)
  rw [hc] at hQ
  refine am_goX 2 (show am_sh h2 0 = some (10, 0) ∧ pz_S 3 (some .int) am_r14 39 Q 30 [(1, .int (sp_ans (sp_canton (tt T sz)))), (0, .ref 0)] [am_rf (h2.2.2.1 0 4)] h2 from ⟨ex_0 hP2, ?_⟩)
  rw [q4]
  refine am_goX 4 (show 2 < 3 ∧ am_sh h2 0 = some (10, 0) ∧ pz_S 3 (some .int) am_r14 39 Q 36 [(2, .ref 17), (1, .int (sp_ans (sp_canton (tt T sz)))), (0, .ref 0)] [am_rf (h2.2.2.1 0 3), .ref 0] h2 from ⟨by decide, ex_0 hP2, ?_⟩)
  rw [q3]
  refine am_goX 1 (show am_sh h2 0 = some (10, 0) ∧ pz_S 3 (some .int) am_r14 39 Q 39 [(2, .ref 17), (1, .int (sp_ans (sp_canton (tt T sz)))), (0, .ref 0)] [] (am_wR h2 0 4 (some 6)) from ⟨ex_0 hP2, ?_⟩)
  refine am_goX 3 (show am_sh (am_wR h2 0 4 (some 6)) 0 = some (10, 0) ∧ pz_S 3 (some .int) am_r14 39 Q 44 [(2, .ref 17), (1, .int (sp_ans (sp_canton (tt T sz)))), (0, .ref 0)] [] (am_wR (am_wR h2 0 4 (some 6)) 0 3 (some 17)) from ⟨ex_0 (ex_wR (by decide) hP2), ?_⟩)
  refine am_goX 2 (show am_rc (am_wR (am_wR h2 0 4 (some 6)) 0 3 (some 17)) 0 10 ∧ 0 ≤ 8 ∧ (am_wR (am_wR h2 0 4 (some 6)) 0 3 (some 17)).2.2.2.2 + am_al 78 ≤ 175 ∧ am_call am_cod 39 78 [.ref 0] (am_wR (am_wR h2 0 4 (some 6)) 0 3 (some 17)) (fun vv h' => pz_S 3 (some .int) am_r14 39 Q 48 [(2, .ref 17), (1, .int (sp_ans (sp_canton (tt T sz)))), (0, .ref 0)] (vv.toList ++ []) h') from ⟨Or.inl ⟨by decide, ex_0 (ex_wR (by decide) (ex_wR (by decide) hP2))⟩, by decide, ex_lim (ex_wR (by decide) (ex_wR (by decide) hP2)) rfl, am_call.up (c_78_17w32 (ex_wR (by decide) (ex_wR (by decide) hP2)) rfl q5 (fun h3 hP3 => ?_)) (by decide)⟩)
  exact am_goX 2 (show (∃ ty, (some .int) = some ty ∧ narrow ty (.int ((Int32.ofInt 0))) = .int ((Int32.ofInt 0))) ∧ h3.2.2.2.2 = 175 ∧ _ from ⟨⟨.int, rfl, rfl⟩, ex_175 hP3, hQ _⟩)
end
section
/-! THE REFERENCE'S CANTON BEING READ -/
def rw_l : List Int64 := [1119812451, 17003, 10492554, 569, 26498531, 6400279, 982151, 375310, 5538, 2083, 30596128, 43567634, 37900956, 488058286, 19741, 1891, 573, 20763, 1172060, 18002, 43523993]
def rw_w (w : Nat) : Int64 := rw_l.getD w 0
def rt (τ : sp_T) (N : Nat) (h : am_H) : Prop := ex_P h ∧ N ≤ 1000 ∧ (∀ i, i ≤ N → h.1 156 i = (τ i).1 ∧ h.1 157 i = nI (τ i).2.2 ∧ (τ i).2.2 ≤ 1000) ∧ (∀ i, i < N → h.2.1 158 i = (τ i).2.1) ∧ (τ N).1 = 0 ∧ (∀ w, w < 21 → h.2.1 159 w = rw_w w) ∧ (∀ i, (τ i).1 = 2 → ∃ D : Nat, D ≤ 9999 ∧ (τ i).2.1 = Int64.ofNat D)
def rb2 (x y : Bool) : Int32 := (bif x then 1 else 0) ||| (bif y then 2 else 0)
/-- the reference's code of a code of the class -/
def rb_o (x : Int32) : Int32 := bif decide (0 ≤ x) then 1 else bif decide ((-4 : Int32) ≤ x) then 2 else bif decide (x = -5) then 3 else bif decide (x = -6) then 9 else bif decide (x = -7) then 10 else bif decide (x = -8) then 7 else bif decide (x = -9) then 8 else bif decide (x = -10) then 4 else bif decide (x = -11) then 5 else 6
def rb_a (x : Int32) : Int32 := bif decide (0 ≤ x) then x else bif decide ((-4 : Int32) ≤ x) then -1 - x else 0
def rcP (C : sp_C) (h : am_H) : Prop := h.1 160 40 = nI C.1.1 ∧ C.1.1 ≤ 6 ∧ ∀ i, i < C.1.1 → h.1 160 (44 + 3 * i) = C.1.2.2.1 i ∧ h.1 160 (45 + 3 * i) = C.1.2.2.2 i
def rcE (C : sp_C) (h : am_H) : Prop := h.1 160 41 = nI C.2.1.1 ∧ C.2.1.1 ≤ 5 ∧ ∀ i, i < C.2.1.1 → h.1 160 (62 + 2 * i) = C.2.1.2.2.1 i ∧ h.1 160 (63 + 2 * i) = C.2.1.2.2.2.1 i
def rcB (C : sp_C) (h : am_H) : Prop := ∀ p e, p < 6 → e < 5 → sp_bit (h.1 160 (46 + 3 * p)) (nI e) = (decide (e < C.2.1.1) && sp_bit (C.2.1.2.2.2.2 e) (nI p)) ∧ bN (h.1 160 (46 + 3 * p)) < 32
def rcS (C : sp_C) (h : am_H) : Prop := h.1 160 42 = C.2.2.1.2 ∧ sp_sK C.2.2.1
def rcO (C : sp_C) (h : am_H) : Prop := h.1 154 20 = rb2 C.2.2.1.1 C.2.2.2.1
def rcL (z : Nat) (C : sp_C) (h : am_H) : Prop := h.1 154 13 = nI (C.2.2.2.2.1 + z) ∧ (∀ j, j < C.2.2.2.2.1 → h.1 161 (1100 + j) = rb_o (C.2.2.2.2.2 j) ∧ h.1 162 (1100 + j) = rb_a (C.2.2.2.2.2 j)) ∧ (z = 1 → h.1 161 (1100 + C.2.2.2.2.1) = 0) ∧ (C.2.2.2.1 = false → C.2.2.2.2.1 = 0) ∧ h.1 160 43 = (bif C.2.2.2.1 then nI 0 else Int32.ofInt (-1))
def rcN (C : sp_C) (h : am_H) : Prop := h.1 154 19 = nI (C.1.1 + C.2.1.1) ∧
  (∀ k, k < C.1.1 + C.2.1.1 → (∃ i, i < C.1.1 ∧ h.1 166 k = nI i ∧ h.2.1 164 k = C.1.2.1 i) ∨ (∃ i, i < C.2.1.1 ∧ h.1 166 k = nI (20 + i) ∧ h.2.1 164 k = C.2.1.2.1 i)) ∧
  (∀ i, i < C.1.1 → ∃ k, k < C.1.1 + C.2.1.1 ∧ h.1 166 k = nI i ∧ h.2.1 164 k = C.1.2.1 i) ∧
  (∀ i, i < C.2.1.1 → ∃ k, k < C.1.1 + C.2.1.1 ∧ h.1 166 k = nI (20 + i) ∧ h.2.1 164 k = C.2.1.2.1 i) ∧
  (∀ k k', k < C.1.1 + C.2.1.1 → k' < C.1.1 + C.2.1.1 → h.2.1 164 k = h.2.1 164 k' → k = k')
def rc (z : Nat) (C : sp_C) (h : am_H) : Prop := rcP C h ∧ rcE C h ∧ rcB C h ∧ rcS C h ∧ rcO C h ∧ rcL z C h ∧ rcN C h
def r_in (o k : Nat) : Prop := (o = 154 ∧ (k = 7 ∨ k = 8 ∨ k = 13 ∨ k = 19 ∨ k = 20)) ∨ (o = 160 ∧ 40 ≤ k) ∨ ((o = 161 ∨ o = 162) ∧ 1100 ≤ k) ∨ o = 164 ∨ o = 166
def r_q (h0 h : am_H) : Prop := h.2.2 = h0.2.2 ∧ ∀ o k, ¬ r_in o k → h.1 o k = h0.1 o k ∧ h.2.1 o k = h0.2.1 o k
def rr (h0 : am_H) (z : Nat) (τ : sp_T) (N : Nat) (s : sp_S) (h : am_H) : Prop := (rt τ N h ∧ (h.1 154 7 = nI s.1 ∧ s.1 ≤ N) ∧ h.1 154 8 = 0) ∧ rc z s.2 h ∧ r_q h0 h ∧ s.2.2.2.2.2.1 ≤ s.1
/-- a fault was told; so many codes -/
def rx (h0 : am_H) (F : Int32) (c : Nat) (h : am_H) : Prop := ex_P h ∧ (h.1 154 8 = F ∧ 0 < F.toInt) ∧ h.1 154 13 = nI c ∧ r_q h0 h
variable {h h0 : am_H} {z N a c o k : Nat} {τ : sp_T} {C : sp_C} {s : sp_S} {F v : Int32}
theorem rt_w (hn : ¬ o = 156 ∧ ¬ o = 157) (l : rt τ N h) : rt τ N (am_wI h o k v) := by
  obtain ⟨l1, l2, l3, l4, l5, l6, l7⟩ := l
  refine ⟨l1, l2, fun i hi => ⟨?_, ?_, (l3 i hi).2.2⟩, l4, l5, l6, l7⟩
  · rw [em_wn _ _ (by omega)]; exact (l3 i hi).1
  · rw [em_wn _ _ (by omega)]; exact (l3 i hi).2.1
theorem rt_wL {v : Int64} (hn : ¬ o = 158 ∧ ¬ o = 159) (l : rt τ N h) : rt τ N (am_wL h o k v) := by
  obtain ⟨l1, l2, l3, l4, l5, l6, l7⟩ := l
  refine ⟨l1, l2, l3, fun i hi => ?_, l5, fun w hw => ?_, l7⟩
  · rw [ex_ln (by omega)]; exact l4 i hi
  · rw [ex_ln (by omega)]; exact l6 w hw
theorem rcP_w (hn : ¬ (o = 160 ∧ (k = 40 ∨ (44 ≤ k ∧ k < 62 ∧ ¬ (k - 44) % 3 = 2)))) (l : rcP C h) : rcP C (am_wI h o k v) := by
  obtain ⟨l1, l2, l3⟩ := l
  refine ⟨?_, l2, fun i hi => ⟨?_, ?_⟩⟩
  · rw [em_wn _ _ (by omega)]; exact l1
  · rw [em_wn _ _ (by omega)]; exact (l3 i hi).1
  · rw [em_wn _ _ (by omega)]; exact (l3 i hi).2
theorem rcE_w (hn : ¬ (o = 160 ∧ (k = 41 ∨ 62 ≤ k))) (l : rcE C h) : rcE C (am_wI h o k v) := by
  obtain ⟨l1, l2, l3⟩ := l
  refine ⟨?_, l2, fun i hi => ⟨?_, ?_⟩⟩
  · rw [em_wn _ _ (by omega)]; exact l1
  · rw [em_wn _ _ (by omega)]; exact (l3 i hi).1
  · rw [em_wn _ _ (by omega)]; exact (l3 i hi).2
theorem rcB_w (hn : ¬ (o = 160 ∧ 44 ≤ k ∧ k < 62 ∧ (k - 44) % 3 = 2)) (l : rcB C h) : rcB C (am_wI h o k v) := by
  intro p e hp he
  rw [em_wn _ _ (by omega)]
  exact l p e hp he
theorem rcS_w (hn : ¬ (o = 160 ∧ k = 42)) (l : rcS C h) : rcS C (am_wI h o k v) := by
  refine ⟨?_, l.2⟩
  rw [em_wn _ _ (by omega)]
  exact l.1
theorem rcO_w (hn : ¬ (o = 154 ∧ k = 20)) (l : rcO C h) : rcO C (am_wI h o k v) := by
  show (am_wI h o k v).1 154 20 = _
  rw [em_wn _ _ (by omega)]
  exact l
theorem rcL_w (hn : ¬ (o = 154 ∧ k = 13) ∧ ¬ (o = 161 ∧ 1100 ≤ k) ∧ ¬ (o = 162 ∧ 1100 ≤ k) ∧ ¬ (o = 160 ∧ k = 43)) (l : rcL z C h) : rcL z C (am_wI h o k v) := by
  obtain ⟨l1, l2, l3, l4, l5⟩ := l
  refine ⟨?_, fun j hj => ⟨?_, ?_⟩, fun hz => ?_, l4, ?_⟩
  · rw [em_wn _ _ (by omega)]; exact l1
  · rw [em_wn _ _ (by omega)]; exact (l2 j hj).1
  · rw [em_wn _ _ (by omega)]; exact (l2 j hj).2
  · rw [em_wn _ _ (by omega)]; exact l3 hz
  · rw [em_wn _ _ (by omega)]; exact l5
theorem rcN_w (hn : ¬ (o = 154 ∧ k = 19) ∧ ¬ o = 166) (l : rcN C h) : rcN C (am_wI h o k v) := by
  have e : ∀ q, (am_wI h o k v).1 166 q = h.1 166 q := fun q => em_wn _ _ (by omega)
  obtain ⟨l1, l2, l3, l4, l5⟩ := l
  refine ⟨?_, fun q hq => ?_, fun i hi => ?_, fun i hi => ?_, l5⟩
  · rw [em_wn _ _ (by omega)]; exact l1
  · rw [e]; exact l2 q hq
  · obtain ⟨q, q1, q2, q3⟩ := l3 i hi
    exact ⟨q, q1, (e q).trans q2, q3⟩
  · obtain ⟨q, q1, q2, q3⟩ := l4 i hi
    exact ⟨q, q1, (e q).trans q2, q3⟩
theorem rq_w (hn : r_in o k) (l : r_q h0 h) : r_q h0 (am_wI h o k v) := ⟨l.1, fun o' k' ho => ⟨by
  rw [em_wn _ _ (fun e => ho (by rw [e.1, e.2]; exact hn))]
  exact (l.2 o' k' ho).1, (l.2 o' k' ho).2⟩⟩
theorem rq_wL {v : Int64} (hn : r_in o k) (l : r_q h0 h) : r_q h0 (am_wL h o k v) := ⟨l.1, fun o' k' ho => ⟨(l.2 o' k' ho).1, by
  rw [ex_ln (fun e => ho (by rw [e.1, e.2]; exact hn))]
  exact (l.2 o' k' ho).2⟩⟩
theorem r_P (l : rr h0 z τ N s h) : ex_P h := l.1.1.1
theorem r_f (l : rr h0 z τ N s h) : h.1 154 8 = 0 := l.1.2.2
theorem r_a (l : rr h0 z τ N s h) : h.1 154 7 = nI s.1 := l.1.2.1.1
theorem r_N (l : rr h0 z τ N s h) : s.1 ≤ N ∧ N ≤ 1000 ∧ s.2.2.2.2.2.1 ≤ s.1 := ⟨l.1.2.1.2, l.1.1.2.1, l.2.2.2⟩
theorem r_k (l : rr h0 z τ N s h) : h.1 156 s.1 = (τ s.1).1 := (l.1.1.2.2.1 s.1 l.1.2.1.2).1
theorem r_p (l : rr h0 z τ N s h) : h.1 157 s.1 = nI (τ s.1).2.2 := (l.1.1.2.2.1 s.1 l.1.2.1.2).2.1
theorem r_lt (l : rr h0 z τ N s h) (hn : ¬ (τ s.1).1 = 0) : s.1 < N := by
  have h1 := l.1.2.1.2
  rcases Nat.lt_or_eq_of_le h1 with w | w
  · exact w
  · exact absurd (by rw [w]; exact l.1.1.2.2.2.2.1) hn
theorem r_v (l : rr h0 z τ N s h) (hn : ¬ (τ s.1).1 = 0) : h.2.1 158 s.1 = (τ s.1).2.1 := l.1.1.2.2.2.1 s.1 (r_lt l hn)
theorem r_w (l : rr h0 z τ N s h) {w : Nat} (hw : w < 21) : h.2.1 159 w = rw_w w := l.1.1.2.2.2.2.2.1 w hw
theorem rx_ne (x : rx h0 F c h) : ¬ F = 0 := by
  intro e
  have := x.2.1.2
  rw [e] at this
  exact absurd this (by decide)
theorem rx_le (x : rx h0 F c h) : ¬ F ≤ 0 := by
  intro e
  have h1 := x.2.1.2
  have h2 := Int32.le_iff_toInt_le.mp e
  have h3 : (0 : Int32).toInt = 0 := by decide
  omega
/-- on to a token -/
theorem rr_at {a' : Nat} (l : rr h0 z τ N s h) (h1 : a' ≤ N) (h2 : s.2.2.2.2.2.1 ≤ a') : rr h0 z τ N (a', s.2) (am_wI h 154 7 (nI a')) := by
  obtain ⟨⟨l1, l2, l3⟩, ⟨c1, c2, c3, c4, c5, c6, c7⟩, l5, l6⟩ := l
  refine ⟨⟨rt_w (by omega) l1, ⟨em_we _ _ _ _, h1⟩, ?_⟩, ⟨rcP_w (by omega) c1, rcE_w (by omega) c2, rcB_w (by omega) c3, rcS_w (by omega) c4, rcO_w (by omega) c5, rcL_w (by omega) c6, rcN_w (by omega) c7⟩, rq_w (by unfold r_in; omega) l5, h2⟩
  rw [em_wn _ _ (by omega)]
  exact l3
theorem rr_nx (l : rr h0 z τ N (a, C) h) (hn : ¬ (τ a).1 = 0) : rr h0 z τ N (a + 1, C) (am_wI h 154 7 (nI (a + 1))) := by
  have h1 := r_lt l hn
  have h2 := (r_N l).2.2
  exact rr_at l h1 (Nat.le_succ_of_le h2)
theorem rr_sm (l : rr h0 z τ N s h) : rr h0 z τ N s (am_wI h 154 7 (nI s.1)) := rr_at l (r_N l).1 (r_N l).2.2
theorem rx_at (x : rx h0 F c h) : rx h0 F c (am_wI h 154 7 v) := by
  obtain ⟨x1, ⟨x2, x3⟩, x4, x5⟩ := x
  refine ⟨x1, ⟨?_, x3⟩, ?_, rq_w (by unfold r_in; omega) x5⟩
  · rw [em_wn _ _ (by omega)]; exact x2
  · rw [em_wn _ _ (by omega)]; exact x4
theorem rp_ft (l : rr h0 z τ N s h) {k : Int32} (hk : 1 ≤ k.toInt ∧ k.toInt ≤ 5) : 0 < (sp_ft τ s.1 k).toInt := by
  have hp := (l.1.1.2.2.1 s.1 l.1.2.1.2).2.2
  show 0 < (k + (Int8.ofInt 16).toInt32 * nI (τ s.1).2.2).toInt
  rw [Int32.toInt_add, Int32.toInt_mul, nI_toInt (by omega), show ((Int8.ofInt 16).toInt32).toInt = 16 from rfl, Int.bmod_eq_of_le (n := 16 * ↑(τ s.1).2.2) (by omega) (by omega), Int.bmod_eq_of_le (by omega) (by omega)]
  omega
theorem rr_x {k : Int32} (l : rr h0 z τ N s h) (hk : 1 ≤ k.toInt ∧ k.toInt ≤ 5) : rx h0 (sp_ft τ s.1 k) (s.2.2.2.2.2.1 + z) (am_wI h 154 8 (sp_ft τ s.1 k)) := by
  refine ⟨l.1.1.1, ⟨em_we _ _ _ _, rp_ft l hk⟩, ?_, rq_w (by unfold r_in; omega) l.2.2.1⟩
  rw [em_wn _ _ (by omega)]
  exact l.2.1.2.2.2.2.2.1.1
/-- one more code -/
theorem rr_em {x y w : Int32} (l : rr h0 0 τ N (a, C) h) (hn : C.2.2.2.2.1 < a) (e1 : x = rb_o w) (e2 : y = rb_a w) (ht : C.2.2.2.1 = true) : rr h0 0 τ N (a, sp_em C w) (am_wI (am_wI (am_wI h 161 (1100 + C.2.2.2.2.1) x) 162 (1100 + C.2.2.2.2.1) y) 154 13 (nI (C.2.2.2.2.1 + 1))) := by
  obtain ⟨⟨l1, l2, l3⟩, ⟨c1, c2, c3, c4, c5, ⟨d1, d2, d3, d4, d5⟩, c7⟩, l5, l6⟩ := l
  refine ⟨⟨rt_w (by omega) (rt_w (by omega) (rt_w (by omega) l1)), ⟨?_, l2.2⟩, ?_⟩, ⟨rcP_w (by omega) (rcP_w (by omega) (rcP_w (by omega) c1)), rcE_w (by omega) (rcE_w (by omega) (rcE_w (by omega) c2)), rcB_w (by omega) (rcB_w (by omega) (rcB_w (by omega) c3)), rcS_w (by omega) (rcS_w (by omega) (rcS_w (by omega) c4)), rcO_w (by omega) (rcO_w (by omega) (rcO_w (by omega) c5)), ⟨em_we _ _ _ _, fun j hj => ?_, fun hz => absurd hz (by decide), fun hf => ?_, ?_⟩, rcN_w (by omega) (rcN_w (by omega) (rcN_w (by omega) c7))⟩, rq_w (by unfold r_in; omega) (rq_w (by unfold r_in; omega) (rq_w (by unfold r_in; omega) l5)), ?_⟩
  · rw [em_wn _ _ (by omega), em_wn _ _ (by omega), em_wn _ _ (by omega)]; exact l2.1
  · rw [em_wn _ _ (by omega), em_wn _ _ (by omega), em_wn _ _ (by omega)]; exact l3
  · have hj : j < C.2.2.2.2.1 + 1 := hj
    show _ = rb_o (if j = C.2.2.2.2.1 then w else C.2.2.2.2.2 j) ∧ _ = rb_a (if j = C.2.2.2.2.1 then w else C.2.2.2.2.2 j)
    by_cases ej : j = C.2.2.2.2.1
    · rw [if_pos ej, ej, em_wn _ _ (by omega), em_wn _ _ (by omega), em_we, em_wn _ _ (by omega), em_we]
      exact ⟨e1, e2⟩
    · rw [if_neg ej, em_wn _ _ (by omega), em_wn _ _ (by omega), em_wn _ _ (by omega), em_wn _ _ (by omega), em_wn _ _ (by omega), em_wn _ _ (by omega)]
      exact d2 j (show j < C.2.2.2.2.1 by omega)
  · have hf : C.2.2.2.1 = false := hf
    rw [ht] at hf
    cases hf
  · rw [em_wn _ _ (by omega), em_wn _ _ (by omega), em_wn _ _ (by omega)]; exact d5
  · show C.2.2.2.2.1 + 1 ≤ a
    omega
/-- ahead of the step -/
def rr1 (h0 : am_H) (τ : sp_T) (N a : Nat) (C : sp_C) (h : am_H) : Prop := (rt τ N h ∧ (h.1 154 7 = nI a ∧ a ≤ N) ∧ h.1 154 8 = 0) ∧ rc 0 C h ∧ r_q h0 h ∧ C.2.2.2.2.1 ≤ a + 1
theorem rr1_em {x y w : Int32} (l : rr h0 0 τ N (a, C) h) (e1 : x = rb_o w) (e2 : y = rb_a w) (ht : C.2.2.2.1 = true) : rr1 h0 τ N a (sp_em C w) (am_wI (am_wI (am_wI h 161 (1100 + C.2.2.2.2.1) x) 162 (1100 + C.2.2.2.2.1) y) 154 13 (nI (C.2.2.2.2.1 + 1))) := by
  obtain ⟨⟨l1, l2, l3⟩, ⟨c1, c2, c3, c4, c5, ⟨d1, d2, d3, d4, d5⟩, c7⟩, l5, l6⟩ := l
  refine ⟨⟨rt_w (by omega) (rt_w (by omega) (rt_w (by omega) l1)), ⟨?_, l2.2⟩, ?_⟩, ⟨rcP_w (by omega) (rcP_w (by omega) (rcP_w (by omega) c1)), rcE_w (by omega) (rcE_w (by omega) (rcE_w (by omega) c2)), rcB_w (by omega) (rcB_w (by omega) (rcB_w (by omega) c3)), rcS_w (by omega) (rcS_w (by omega) (rcS_w (by omega) c4)), rcO_w (by omega) (rcO_w (by omega) (rcO_w (by omega) c5)), ⟨em_we _ _ _ _, fun j hj => ?_, fun hz => absurd hz (by decide), fun hf => ?_, ?_⟩, rcN_w (by omega) (rcN_w (by omega) (rcN_w (by omega) c7))⟩, rq_w (by unfold r_in; omega) (rq_w (by unfold r_in; omega) (rq_w (by unfold r_in; omega) l5)), ?_⟩
  · rw [em_wn _ _ (by omega), em_wn _ _ (by omega), em_wn _ _ (by omega)]; exact l2.1
  · rw [em_wn _ _ (by omega), em_wn _ _ (by omega), em_wn _ _ (by omega)]; exact l3
  · have hj : j < C.2.2.2.2.1 + 1 := hj
    show _ = rb_o (if j = C.2.2.2.2.1 then w else C.2.2.2.2.2 j) ∧ _ = rb_a (if j = C.2.2.2.2.1 then w else C.2.2.2.2.2 j)
    by_cases ej : j = C.2.2.2.2.1
    · rw [if_pos ej, ej, em_wn _ _ (by omega), em_wn _ _ (by omega), em_we, em_wn _ _ (by omega), em_we]
      exact ⟨e1, e2⟩
    · rw [if_neg ej, em_wn _ _ (by omega), em_wn _ _ (by omega), em_wn _ _ (by omega), em_wn _ _ (by omega), em_wn _ _ (by omega), em_wn _ _ (by omega)]
      exact d2 j (show j < C.2.2.2.2.1 by omega)
  · have hf : C.2.2.2.1 = false := hf
    rw [ht] at hf
    cases hf
  · rw [em_wn _ _ (by omega), em_wn _ _ (by omega), em_wn _ _ (by omega)]; exact d5
  · show C.2.2.2.2.1 + 1 ≤ a + 1
    exact Nat.succ_le_succ l6
theorem rr1_nx (l : rr1 h0 τ N a C h) (h1 : a < N) : rr h0 0 τ N (a + 1, C) (am_wI h 154 7 (nI (a + 1))) := by
  obtain ⟨⟨l1, l2, l3⟩, ⟨c1, c2, c3, c4, c5, c6, c7⟩, l5, l6⟩ := l
  refine ⟨⟨rt_w (by omega) l1, ⟨em_we _ _ _ _, h1⟩, ?_⟩, ⟨rcP_w (by omega) c1, rcE_w (by omega) c2, rcB_w (by omega) c3, rcS_w (by omega) c4, rcO_w (by omega) c5, rcL_w (by omega) c6, rcN_w (by omega) c7⟩, rq_w (by unfold r_in; omega) l5, l6⟩
  rw [em_wn _ _ (by omega)]
  exact l3
/-- the end of the law -/
theorem rr_end {y : Int32} (l : rr h0 0 τ N (a, C) h) (ht : C.2.2.2.1 = true) : rr h0 1 τ N (a, C) (am_wI (am_wI (am_wI h 161 (1100 + C.2.2.2.2.1) (Int32.ofInt 0)) 162 (1100 + C.2.2.2.2.1) y) 154 13 (nI (C.2.2.2.2.1 + 1))) := by
  obtain ⟨⟨l1, l2, l3⟩, ⟨c1, c2, c3, c4, c5, ⟨d1, d2, d3, d4, d5⟩, c7⟩, l5, l6⟩ := l
  refine ⟨⟨rt_w (by omega) (rt_w (by omega) (rt_w (by omega) l1)), ⟨?_, l2.2⟩, ?_⟩, ⟨rcP_w (by omega) (rcP_w (by omega) (rcP_w (by omega) c1)), rcE_w (by omega) (rcE_w (by omega) (rcE_w (by omega) c2)), rcB_w (by omega) (rcB_w (by omega) (rcB_w (by omega) c3)), rcS_w (by omega) (rcS_w (by omega) (rcS_w (by omega) c4)), rcO_w (by omega) (rcO_w (by omega) (rcO_w (by omega) c5)), ⟨em_we _ _ _ _, fun j hj => ?_, fun _ => ?_, d4, ?_⟩, rcN_w (by omega) (rcN_w (by omega) (rcN_w (by omega) c7))⟩, rq_w (by unfold r_in; omega) (rq_w (by unfold r_in; omega) (rq_w (by unfold r_in; omega) l5)), l6⟩
  · rw [em_wn _ _ (by omega), em_wn _ _ (by omega), em_wn _ _ (by omega)]; exact l2.1
  · rw [em_wn _ _ (by omega), em_wn _ _ (by omega), em_wn _ _ (by omega)]; exact l3
  · have hj : j < C.2.2.2.2.1 := hj
    rw [em_wn _ _ (by omega), em_wn _ _ (by omega), em_wn _ _ (by omega), em_wn _ _ (by omega), em_wn _ _ (by omega), em_wn _ _ (by omega)]
    exact d2 j hj
  · show (am_wI (am_wI (am_wI h 161 (1100 + C.2.2.2.2.1) _) 162 (1100 + C.2.2.2.2.1) y) 154 13 _).1 161 (1100 + C.2.2.2.2.1) = 0
    rw [em_wn _ _ (by omega), em_wn _ _ (by omega), em_we]
    rfl
  · rw [em_wn _ _ (by omega), em_wn _ _ (by omega), em_wn _ _ (by omega)]; exact d5
theorem rx_em {x y : Int32} (l : rx h0 F c h) : rx h0 F (c + 1) (am_wI (am_wI (am_wI h 161 (1100 + c) x) 162 (1100 + c) y) 154 13 (nI (c + 1))) := by
  obtain ⟨x1, ⟨x2, x3⟩, x4, x5⟩ := l
  refine ⟨x1, ⟨?_, x3⟩, em_we _ _ _ _, rq_w (by unfold r_in; omega) (rq_w (by unfold r_in; omega) (rq_w (by unfold r_in; omega) x5))⟩
  rw [em_wn _ _ (by omega), em_wn _ _ (by omega), em_wn _ _ (by omega)]
  exact x2
end
section
/-! THE REFERENCE'S SMALL METHODS, EXACTLY -/
theorem xw_i0 (n : Nat) : nI n + Int32.ofInt 0 = nI n := by
  show nI n + 0 = nI n
  exact Int32.add_zero _
theorem sp_w_e {τ : sp_T} {a : Nat} {w : Int64} (e : sp_k τ a 1 = true) : sp_w τ a w = decide ((τ a).2.1 = w) := by
  unfold sp_w
  rw [e]
  rfl
theorem sp_w_n {τ : sp_T} {a : Nat} {w : Int64} (e : sp_k τ a 1 = false) : sp_w τ a w = false := by
  unfold sp_w
  rw [e]
  rfl
theorem sp_s_e {τ : sp_T} {a : Nat} {x : Int32} (e : sp_k τ a 3 = true) : sp_s τ a x = decide ((τ a).2.1 = x.toInt64) := by
  unfold sp_s
  rw [e]
  rfl
theorem sp_s_n {τ : sp_T} {a : Nat} {x : Int32} (e : sp_k τ a 3 = false) : sp_s τ a x = false := by
  unfold sp_s
  rw [e]
  rfl
theorem r_cmp_lt (x y : Int64) : lg_cmp x y < 0 ↔ x < y := by
  unfold lg_cmp
  by_cases h1 : x > y
  · rw [if_pos h1]
    exact ⟨fun e => absurd e (by decide), fun e => absurd (Int64.lt_trans e h1) Int64.lt_irrefl⟩
  · rw [if_neg h1]
    by_cases h2 : x = y
    · rw [if_pos h2, h2]
      exact ⟨fun e => absurd e (by decide), fun e => absurd e Int64.lt_irrefl⟩
    · rw [if_neg h2]
      refine ⟨fun _ => Int64.lt_iff_toInt_lt.mpr ?_, fun _ => by decide⟩
      have a := mt Int64.lt_iff_toInt_lt.mpr h1
      have b := mt Int64.toInt_inj.mp h2
      omega
theorem r_cmp_le (x y : Int64) : lg_cmp x y ≤ 0 ↔ ¬ y < x := by
  unfold lg_cmp
  by_cases h1 : x > y
  · rw [if_pos h1]
    exact ⟨fun e => absurd e (by decide), fun e => absurd h1 e⟩
  · rw [if_neg h1]
    refine ⟨fun _ => h1, fun _ => ?_⟩
    by_cases h2 : x = y
    · rw [if_pos h2]; decide
    · rw [if_neg h2]; decide
theorem r_num {τ : sp_T} {a D : Nat} (hD : D ≤ 9999) (ev : (τ a).2.1 = Int64.ofNat D) : (τ a).2.1 = (sp_v τ a).toInt64 := by
  unfold sp_v
  rw [ev, show (Int64.ofNat D).toInt32 = nI D from Int64.toInt32_ofNat', nI_l (by omega)]
  rfl
theorem r_lt64 (x y : Int32) : x.toInt64 < y.toInt64 ↔ x < y := by
  rw [Int64.lt_iff_toInt_lt, Int32.lt_iff_toInt_lt, Int32.toInt_toInt64, Int32.toInt_toInt64]
theorem r_cmpl {τ : sp_T} {a D : Nat} {lo : Int32} {b : Bool} (hD : D ≤ 9999) (ev : (τ a).2.1 = Int64.ofNat D) (hc : bif b then ¬ lg_cmp (τ a).2.1 lo.toInt64 < 0 else lg_cmp (τ a).2.1 lo.toInt64 < 0) : decide (lo ≤ sp_v τ a) = b := by
  rw [r_num hD ev] at hc
  cases b with
  | true =>
    have hc : ¬ lg_cmp (sp_v τ a).toInt64 lo.toInt64 < 0 := hc
    rw [r_cmp_lt, r_lt64] at hc
    exact decide_eq_true (Int32.not_lt.mp hc)
  | false =>
    have hc : lg_cmp (sp_v τ a).toInt64 lo.toInt64 < 0 := hc
    rw [r_cmp_lt, r_lt64] at hc
    exact decide_eq_false (Int32.not_le.mpr hc)
theorem r_cmph {τ : sp_T} {a D : Nat} {hi : Int32} {b : Bool} (hD : D ≤ 9999) (ev : (τ a).2.1 = Int64.ofNat D) (hc : bif b then lg_cmp (τ a).2.1 hi.toInt64 ≤ 0 else ¬ lg_cmp (τ a).2.1 hi.toInt64 ≤ 0) : decide (sp_v τ a ≤ hi) = b := by
  rw [r_num hD ev] at hc
  cases b with
  | true =>
    have hc : lg_cmp (sp_v τ a).toInt64 hi.toInt64 ≤ 0 := hc
    rw [r_cmp_le, r_lt64] at hc
    exact decide_eq_true (Int32.not_lt.mp hc)
  | false =>
    have hc : ¬ lg_cmp (sp_v τ a).toInt64 hi.toInt64 ≤ 0 := hc
    rw [r_cmp_le, r_lt64] at hc
    exact decide_eq_false (fun z => hc (fun y => absurd (Int32.not_lt.mpr z) (fun n => n y)))
variable {h h0 : am_H} {z N a c : Nat} {τ : sp_T} {C : sp_C} {s : sp_S} {F : Int32} {Q : am_Q}
theorem ex_154 {h : am_H} (hP : ex_P h) : am_sh h 154 = some (11, 0) := (ex_so hP (by decide +kernel)).2
theorem ex_156 {h : am_H} (hP : ex_P h) : am_sh h 156 = some (13, 1002) := (ex_so hP (by decide +kernel)).2
theorem ex_w156 {h : am_H} (hP : ex_P h) : am_so h 156 = some (13, 1002) := (ex_so hP (by decide +kernel)).1
theorem ex_157 {h : am_H} (hP : ex_P h) : am_sh h 157 = some (13, 1002) := (ex_so hP (by decide +kernel)).2
theorem ex_w157 {h : am_H} (hP : ex_P h) : am_so h 157 = some (13, 1002) := (ex_so hP (by decide +kernel)).1
theorem ex_158 {h : am_H} (hP : ex_P h) : am_sh h 158 = some (14, 1002) := (ex_so hP (by decide +kernel)).2
theorem ex_w158 {h : am_H} (hP : ex_P h) : am_so h 158 = some (14, 1002) := (ex_so hP (by decide +kernel)).1
theorem ex_159 {h : am_H} (hP : ex_P h) : am_sh h 159 = some (14, 21) := (ex_so hP (by decide +kernel)).2
theorem ex_w159 {h : am_H} (hP : ex_P h) : am_so h 159 = some (14, 21) := (ex_so hP (by decide +kernel)).1
theorem ex_161 {h : am_H} (hP : ex_P h) : am_sh h 161 = some (13, 2200) := (ex_so hP (by decide +kernel)).2
theorem ex_w161 {h : am_H} (hP : ex_P h) : am_so h 161 = some (13, 2200) := (ex_so hP (by decide +kernel)).1
theorem ex_162 {h : am_H} (hP : ex_P h) : am_sh h 162 = some (13, 2200) := (ex_so hP (by decide +kernel)).2
theorem ex_w162 {h : am_H} (hP : ex_P h) : am_so h 162 = some (13, 2200) := (ex_so hP (by decide +kernel)).1
theorem ex_r154_4 {h : am_H} (hP : ex_P h) : h.2.2.1 154 4 = some 156 := hP.2 154 4 156 (by decide +kernel)
theorem ex_r154_5 {h : am_H} (hP : ex_P h) : h.2.2.1 154 5 = some 157 := hP.2 154 5 157 (by decide +kernel)
theorem ex_r154_6 {h : am_H} (hP : ex_P h) : h.2.2.1 154 6 = some 158 := hP.2 154 6 158 (by decide +kernel)
theorem ex_r154_9 {h : am_H} (hP : ex_P h) : h.2.2.1 154 9 = some 159 := hP.2 154 9 159 (by decide +kernel)
theorem ex_r154_11 {h : am_H} (hP : ex_P h) : h.2.2.1 154 11 = some 161 := hP.2 154 11 161 (by decide +kernel)
theorem ex_r154_12 {h : am_H} (hP : ex_P h) : h.2.2.1 154 12 = some 162 := hP.2 154 12 162 (by decide +kernel)
theorem d_195 {y : Int32} (x : rx h0 F c h) (hQ : Q (some (.int (Int32.ofInt 0))) h) : am_call am_cod 1 195 [.ref 154, .int y] h Q := by
  have hP := x.1
  refine pz_call (n := 195) (nL := 2) (rt := (some .boolean)) (rows := am_r195) (d := 0) (by decide +kernel) (by decide +kernel) rfl (by funext pc; rfl) (ex_175 hP) (by exact Nat.le_of_ble_eq_true rfl) ?_
  refine am_goX 2 (show am_sh h 154 = some (11, 0) ∧ pz_S 2 (some .boolean) am_r195 0 Q 4 [(0, .ref 154), (1, .int y)] [.int (h.1 154 8)] h from ⟨ex_154 x.1, ?_⟩)
  rw [x.2.1.1]
  refine am_goX 1 (show (¬ (F) = 0 → pz_S 2 (some .boolean) am_r195 0 Q 43 [(0, .ref 154), (1, .int y)] [] h) ∧ (¬ ¬ (F) = 0 → pz_S 2 (some .boolean) am_r195 0 Q 7 [(0, .ref 154), (1, .int y)] [] h) from ⟨fun _ => ?_, fun hz => absurd (rx_ne x) hz⟩)
  exact am_goX 2 (show (∃ ty, (some .boolean) = some ty ∧ narrow ty (.int ((Int32.ofInt 0))) = .int ((Int32.ofInt 0))) ∧ h.2.2.2.2 = 175 ∧ _ from ⟨⟨.boolean, rfl, rfl⟩, ex_175 x.1, hQ⟩)
theorem r_195 {y : Int32} {w : Nat} {W : Int64} (hw : w < 21) (hy : y = nI w) (hW : rw_w w = W) (l : rr h0 z τ N s h) (hQ : Q (some (.int (pz_b (sp_w τ s.1 W)))) h) : am_call am_cod 1 195 [.ref 154, .int y] h Q := by
  have hP := r_P l
  refine pz_call (n := 195) (nL := 2) (rt := (some .boolean)) (rows := am_r195) (d := 0) (by decide +kernel) (by decide +kernel) rfl (by funext pc; rfl) (ex_175 hP) (by exact Nat.le_of_ble_eq_true rfl) ?_
  refine am_goX 2 (show am_sh h 154 = some (11, 0) ∧ pz_S 2 (some .boolean) am_r195 0 Q 4 [(0, .ref 154), (1, .int y)] [.int (h.1 154 8)] h from ⟨ex_154 (r_P l), ?_⟩)
  rw [r_f l]
  refine am_goX 1 (show (¬ 0 = 0 → pz_S 2 (some .boolean) am_r195 0 Q 43 [(0, .ref 154), (1, .int y)] [] h) ∧ (¬ ¬ 0 = 0 → pz_S 2 (some .boolean) am_r195 0 Q 7 [(0, .ref 154), (1, .int y)] [] h) from ⟨fun hz => absurd hz (by decide), fun _ => ?_⟩)
  refine am_goX 2 (show am_sh h 154 = some (11, 0) ∧ pz_S 2 (some .boolean) am_r195 0 Q 11 [(0, .ref 154), (1, .int y)] [am_rf (h.2.2.1 154 4)] h from ⟨ex_154 (r_P l), ?_⟩)
  rw [ex_r154_4 (h := h) (r_P l)]
  refine am_goX 3 (show am_sh h 154 = some (11, 0) ∧ ∃ jj nn : Nat, am_sh h 156 = some (13, nn) ∧ jj < nn ∧ (h.1 154 7) = nI jj ∧ pz_S 2 (some .boolean) am_r195 0 Q 16 [(0, .ref 154), (1, .int y)] [.int (h.1 156 jj)] h from ⟨ex_154 (r_P l), s.1, 1002, ex_156 (r_P l), (by have := r_N l; first | omega | (dsimp only at this; omega) | (dsimp only at this ⊢; omega)), r_a l, ?_⟩)
  rw [r_k l]
  refine am_goX 1 (show pz_S 2 (some .boolean) am_r195 0 Q 17 [(0, .ref 154), (1, .int y)] [.int (Int32.ofInt 1), .int (τ s.1).1] h from ?_)
  cases e1 : sp_k τ s.1 1 with
  | true =>
    refine am_goX 1 (show (¬ (τ s.1).1 = (Int32.ofInt 1) → pz_S 2 (some .boolean) am_r195 0 Q 43 [(0, .ref 154), (1, .int y)] [] h) ∧ (¬ ¬ (τ s.1).1 = (Int32.ofInt 1) → pz_S 2 (some .boolean) am_r195 0 Q 20 [(0, .ref 154), (1, .int y)] [] h) from ⟨fun hz => absurd hz (fun w => w (sp_kt e1)), fun _ => ?_⟩)
    refine am_goX 2 (show am_sh h 154 = some (11, 0) ∧ pz_S 2 (some .boolean) am_r195 0 Q 24 [(0, .ref 154), (1, .int y)] [am_rf (h.2.2.1 154 6)] h from ⟨ex_154 (r_P l), ?_⟩)
    rw [ex_r154_6 (h := h) (r_P l)]
    refine am_goX 3 (show am_sh h 154 = some (11, 0) ∧ ∃ jj nn : Nat, am_sh h 158 = some (14, nn) ∧ jj < nn ∧ (h.1 154 7) = nI jj ∧ pz_S 2 (some .boolean) am_r195 0 Q 29 [(0, .ref 154), (1, .int y)] [.long (h.2.1 158 jj)] h from ⟨ex_154 (r_P l), s.1, 1002, ex_158 (r_P l), (by have := r_N l; first | omega | (dsimp only at this; omega) | (dsimp only at this ⊢; omega)), r_a l, ?_⟩)
    rw [r_v l (sp_kn (by decide) e1)]
    refine am_goX 2 (show am_sh h 154 = some (11, 0) ∧ pz_S 2 (some .boolean) am_r195 0 Q 33 [(0, .ref 154), (1, .int y)] [am_rf (h.2.2.1 154 9), .long (τ s.1).2.1] h from ⟨ex_154 (r_P l), ?_⟩)
    rw [ex_r154_9 (h := h) (r_P l)]
    refine am_goX 2 (show ∃ jj nn : Nat, am_sh h 159 = some (14, nn) ∧ jj < nn ∧ y = nI jj ∧ pz_S 2 (some .boolean) am_r195 0 Q 35 [(0, .ref 154), (1, .int y)] [.long (h.2.1 159 jj), .long (τ s.1).2.1] h from ⟨w, 21, ex_159 (r_P l), hw, hy, ?_⟩)
    rw [r_w l hw, hW]
    refine am_goX 2 (show (¬ (lg_cmp ((τ s.1).2.1) (W)) = 0 → pz_S 2 (some .boolean) am_r195 0 Q 43 [(0, .ref 154), (1, .int y)] [] h) ∧ (¬ ¬ (lg_cmp ((τ s.1).2.1) (W)) = 0 → pz_S 2 (some .boolean) am_r195 0 Q 39 [(0, .ref 154), (1, .int y)] [] h) from ⟨fun hc => ?_, fun hc => ?_⟩)
    ·
      have e9 : decide ((τ s.1).2.1 = W) = false := decide_eq_false (fun e => hc ((pz_cmp _ _).mpr e))
      refine am_goX 1 (show pz_S 2 (some .boolean) am_r195 0 Q 44 [(0, .ref 154), (1, .int y)] [.int (Int32.ofInt 0)] h from ?_)
      rw [sp_w_e e1, e9] at hQ
      exact am_goX 1 (show (∃ ty, (some .boolean) = some ty ∧ narrow ty (.int ((Int32.ofInt 0))) = .int ((Int32.ofInt 0))) ∧ h.2.2.2.2 = 175 ∧ _ from ⟨⟨.boolean, rfl, rfl⟩, ex_175 (r_P l), hQ⟩)
    ·
      have e9 : decide ((τ s.1).2.1 = W) = true := decide_eq_true ((pz_cmp _ _).mp (Decidable.not_not.mp hc))
      refine am_goX 2 (show pz_S 2 (some .boolean) am_r195 0 Q 44 [(0, .ref 154), (1, .int y)] [.int (Int32.ofInt 1)] h from ?_)
      rw [sp_w_e e1, e9] at hQ
      exact am_goX 1 (show (∃ ty, (some .boolean) = some ty ∧ narrow ty (.int ((Int32.ofInt 1))) = .int ((Int32.ofInt 1))) ∧ h.2.2.2.2 = 175 ∧ _ from ⟨⟨.boolean, rfl, rfl⟩, ex_175 (r_P l), hQ⟩)
  | false =>
    refine am_goX 1 (show (¬ (τ s.1).1 = (Int32.ofInt 1) → pz_S 2 (some .boolean) am_r195 0 Q 43 [(0, .ref 154), (1, .int y)] [] h) ∧ (¬ ¬ (τ s.1).1 = (Int32.ofInt 1) → pz_S 2 (some .boolean) am_r195 0 Q 20 [(0, .ref 154), (1, .int y)] [] h) from ⟨fun _ => ?_, fun hz => absurd (of_decide_eq_false e1) hz⟩)
    refine am_goX 1 (show pz_S 2 (some .boolean) am_r195 0 Q 44 [(0, .ref 154), (1, .int y)] [.int (Int32.ofInt 0)] h from ?_)
    rw [sp_w_n e1] at hQ
    exact am_goX 1 (show (∃ ty, (some .boolean) = some ty ∧ narrow ty (.int ((Int32.ofInt 0))) = .int ((Int32.ofInt 0))) ∧ h.2.2.2.2 = 175 ∧ _ from ⟨⟨.boolean, rfl, rfl⟩, ex_175 (r_P l), hQ⟩)
theorem d_215 {y : Int32} (x : rx h0 F c h) (hQ : Q (some (.int (Int32.ofInt 0))) h) : am_call am_cod 1 215 [.ref 154, .int y] h Q := by
  have hP := x.1
  refine pz_call (n := 215) (nL := 2) (rt := (some .boolean)) (rows := am_r215) (d := 0) (by decide +kernel) (by decide +kernel) rfl (by funext pc; rfl) (ex_175 hP) (by exact Nat.le_of_ble_eq_true rfl) ?_
  refine am_goX 2 (show am_sh h 154 = some (11, 0) ∧ pz_S 2 (some .boolean) am_r215 0 Q 4 [(0, .ref 154), (1, .int y)] [.int (h.1 154 8)] h from ⟨ex_154 x.1, ?_⟩)
  rw [x.2.1.1]
  refine am_goX 1 (show (¬ (F) = 0 → pz_S 2 (some .boolean) am_r215 0 Q 39 [(0, .ref 154), (1, .int y)] [] h) ∧ (¬ ¬ (F) = 0 → pz_S 2 (some .boolean) am_r215 0 Q 7 [(0, .ref 154), (1, .int y)] [] h) from ⟨fun _ => ?_, fun hz => absurd (rx_ne x) hz⟩)
  exact am_goX 2 (show (∃ ty, (some .boolean) = some ty ∧ narrow ty (.int ((Int32.ofInt 0))) = .int ((Int32.ofInt 0))) ∧ h.2.2.2.2 = 175 ∧ _ from ⟨⟨.boolean, rfl, rfl⟩, ex_175 x.1, hQ⟩)
theorem r_215 {y : Int32} (l : rr h0 z τ N s h) (hQ : Q (some (.int (pz_b (sp_s τ s.1 y)))) h) : am_call am_cod 1 215 [.ref 154, .int y] h Q := by
  have hP := r_P l
  refine pz_call (n := 215) (nL := 2) (rt := (some .boolean)) (rows := am_r215) (d := 0) (by decide +kernel) (by decide +kernel) rfl (by funext pc; rfl) (ex_175 hP) (by exact Nat.le_of_ble_eq_true rfl) ?_
  refine am_goX 2 (show am_sh h 154 = some (11, 0) ∧ pz_S 2 (some .boolean) am_r215 0 Q 4 [(0, .ref 154), (1, .int y)] [.int (h.1 154 8)] h from ⟨ex_154 (r_P l), ?_⟩)
  rw [r_f l]
  refine am_goX 1 (show (¬ 0 = 0 → pz_S 2 (some .boolean) am_r215 0 Q 39 [(0, .ref 154), (1, .int y)] [] h) ∧ (¬ ¬ 0 = 0 → pz_S 2 (some .boolean) am_r215 0 Q 7 [(0, .ref 154), (1, .int y)] [] h) from ⟨fun hz => absurd hz (by decide), fun _ => ?_⟩)
  refine am_goX 2 (show am_sh h 154 = some (11, 0) ∧ pz_S 2 (some .boolean) am_r215 0 Q 11 [(0, .ref 154), (1, .int y)] [am_rf (h.2.2.1 154 4)] h from ⟨ex_154 (r_P l), ?_⟩)
  rw [ex_r154_4 (h := h) (r_P l)]
  refine am_goX 3 (show am_sh h 154 = some (11, 0) ∧ ∃ jj nn : Nat, am_sh h 156 = some (13, nn) ∧ jj < nn ∧ (h.1 154 7) = nI jj ∧ pz_S 2 (some .boolean) am_r215 0 Q 16 [(0, .ref 154), (1, .int y)] [.int (h.1 156 jj)] h from ⟨ex_154 (r_P l), s.1, 1002, ex_156 (r_P l), (by have := r_N l; first | omega | (dsimp only at this; omega) | (dsimp only at this ⊢; omega)), r_a l, ?_⟩)
  rw [r_k l]
  refine am_goX 1 (show pz_S 2 (some .boolean) am_r215 0 Q 17 [(0, .ref 154), (1, .int y)] [.int (Int32.ofInt 3), .int (τ s.1).1] h from ?_)
  cases e2 : sp_k τ s.1 3 with
  | true =>
    refine am_goX 1 (show (¬ (τ s.1).1 = (Int32.ofInt 3) → pz_S 2 (some .boolean) am_r215 0 Q 39 [(0, .ref 154), (1, .int y)] [] h) ∧ (¬ ¬ (τ s.1).1 = (Int32.ofInt 3) → pz_S 2 (some .boolean) am_r215 0 Q 20 [(0, .ref 154), (1, .int y)] [] h) from ⟨fun hz => absurd hz (fun w => w (sp_kt e2)), fun _ => ?_⟩)
    refine am_goX 2 (show am_sh h 154 = some (11, 0) ∧ pz_S 2 (some .boolean) am_r215 0 Q 24 [(0, .ref 154), (1, .int y)] [am_rf (h.2.2.1 154 6)] h from ⟨ex_154 (r_P l), ?_⟩)
    rw [ex_r154_6 (h := h) (r_P l)]
    refine am_goX 3 (show am_sh h 154 = some (11, 0) ∧ ∃ jj nn : Nat, am_sh h 158 = some (14, nn) ∧ jj < nn ∧ (h.1 154 7) = nI jj ∧ pz_S 2 (some .boolean) am_r215 0 Q 29 [(0, .ref 154), (1, .int y)] [.long (h.2.1 158 jj)] h from ⟨ex_154 (r_P l), s.1, 1002, ex_158 (r_P l), (by have := r_N l; first | omega | (dsimp only at this; omega) | (dsimp only at this ⊢; omega)), r_a l, ?_⟩)
    rw [r_v l (sp_kn (by decide) e2)]
    refine am_goX 4 (show (¬ (lg_cmp ((τ s.1).2.1) ((y).toInt64)) = 0 → pz_S 2 (some .boolean) am_r215 0 Q 39 [(0, .ref 154), (1, .int y)] [] h) ∧ (¬ ¬ (lg_cmp ((τ s.1).2.1) ((y).toInt64)) = 0 → pz_S 2 (some .boolean) am_r215 0 Q 35 [(0, .ref 154), (1, .int y)] [] h) from ⟨fun hc => ?_, fun hc => ?_⟩)
    ·
      have e9 : decide ((τ s.1).2.1 = y.toInt64) = false := decide_eq_false (fun e => hc ((pz_cmp _ _).mpr e))
      refine am_goX 1 (show pz_S 2 (some .boolean) am_r215 0 Q 40 [(0, .ref 154), (1, .int y)] [.int (Int32.ofInt 0)] h from ?_)
      rw [sp_s_e e2, e9] at hQ
      exact am_goX 1 (show (∃ ty, (some .boolean) = some ty ∧ narrow ty (.int ((Int32.ofInt 0))) = .int ((Int32.ofInt 0))) ∧ h.2.2.2.2 = 175 ∧ _ from ⟨⟨.boolean, rfl, rfl⟩, ex_175 (r_P l), hQ⟩)
    ·
      have e9 : decide ((τ s.1).2.1 = y.toInt64) = true := decide_eq_true ((pz_cmp _ _).mp (Decidable.not_not.mp hc))
      refine am_goX 2 (show pz_S 2 (some .boolean) am_r215 0 Q 40 [(0, .ref 154), (1, .int y)] [.int (Int32.ofInt 1)] h from ?_)
      rw [sp_s_e e2, e9] at hQ
      exact am_goX 1 (show (∃ ty, (some .boolean) = some ty ∧ narrow ty (.int ((Int32.ofInt 1))) = .int ((Int32.ofInt 1))) ∧ h.2.2.2.2 = 175 ∧ _ from ⟨⟨.boolean, rfl, rfl⟩, ex_175 (r_P l), hQ⟩)
  | false =>
    refine am_goX 1 (show (¬ (τ s.1).1 = (Int32.ofInt 3) → pz_S 2 (some .boolean) am_r215 0 Q 39 [(0, .ref 154), (1, .int y)] [] h) ∧ (¬ ¬ (τ s.1).1 = (Int32.ofInt 3) → pz_S 2 (some .boolean) am_r215 0 Q 20 [(0, .ref 154), (1, .int y)] [] h) from ⟨fun _ => ?_, fun hz => absurd (of_decide_eq_false e2) hz⟩)
    refine am_goX 1 (show pz_S 2 (some .boolean) am_r215 0 Q 40 [(0, .ref 154), (1, .int y)] [.int (Int32.ofInt 0)] h from ?_)
    rw [sp_s_n e2] at hQ
    exact am_goX 1 (show (∃ ty, (some .boolean) = some ty ∧ narrow ty (.int ((Int32.ofInt 0))) = .int ((Int32.ofInt 0))) ∧ h.2.2.2.2 = 175 ∧ _ from ⟨⟨.boolean, rfl, rfl⟩, ex_175 (r_P l), hQ⟩)
theorem d_197 {y : Int32} (x : rx h0 F c h) (hQ : Q none h) : am_call am_cod 1 197 [.ref 154, .int y] h Q := by
  have hP := x.1
  refine pz_call (n := 197) (nL := 2) (rt := none) (rows := am_r197) (d := 0) (by decide +kernel) (by decide +kernel) rfl (by funext pc; rfl) (ex_175 hP) (by exact Nat.le_of_ble_eq_true rfl) ?_
  refine am_goX 2 (show am_sh h 154 = some (11, 0) ∧ pz_S 2 none am_r197 0 Q 4 [(0, .ref 154), (1, .int y)] [.int (h.1 154 8)] h from ⟨ex_154 x.1, ?_⟩)
  rw [x.2.1.1]
  refine am_goX 1 (show (¬ (F) = 0 → pz_S 2 none am_r197 0 Q 25 [(0, .ref 154), (1, .int y)] [] h) ∧ (¬ ¬ (F) = 0 → pz_S 2 none am_r197 0 Q 7 [(0, .ref 154), (1, .int y)] [] h) from ⟨fun _ => ?_, fun hz => absurd (rx_ne x) hz⟩)
  exact am_goX 1 (show (none : Option FieldType) = none ∧ h.2.2.2.2 = 175 ∧ _ from ⟨rfl, ex_175 x.1, hQ⟩)
theorem r_197 {k : Int32} (l : rr h0 z τ N s h) (hQ : Q none (am_wI h 154 8 (sp_ft τ s.1 k))) : am_call am_cod 1 197 [.ref 154, .int k] h Q := by
  have hP := r_P l
  refine pz_call (n := 197) (nL := 2) (rt := none) (rows := am_r197) (d := 0) (by decide +kernel) (by decide +kernel) rfl (by funext pc; rfl) (ex_175 hP) (by exact Nat.le_of_ble_eq_true rfl) ?_
  refine am_goX 2 (show am_sh h 154 = some (11, 0) ∧ pz_S 2 none am_r197 0 Q 4 [(0, .ref 154), (1, .int k)] [.int (h.1 154 8)] h from ⟨ex_154 (r_P l), ?_⟩)
  rw [r_f l]
  refine am_goX 1 (show (¬ 0 = 0 → pz_S 2 none am_r197 0 Q 25 [(0, .ref 154), (1, .int k)] [] h) ∧ (¬ ¬ 0 = 0 → pz_S 2 none am_r197 0 Q 7 [(0, .ref 154), (1, .int k)] [] h) from ⟨fun hz => absurd hz (by decide), fun _ => ?_⟩)
  refine am_goX 5 (show am_sh h 154 = some (11, 0) ∧ pz_S 2 none am_r197 0 Q 15 [(0, .ref 154), (1, .int k)] [am_rf (h.2.2.1 154 5), .int (Int8.ofInt 16).toInt32, .int k, .ref 154] h from ⟨ex_154 (r_P l), ?_⟩)
  rw [ex_r154_5 (h := h) (r_P l)]
  refine am_goX 3 (show am_sh h 154 = some (11, 0) ∧ ∃ jj nn : Nat, am_sh h 157 = some (13, nn) ∧ jj < nn ∧ (h.1 154 7) = nI jj ∧ pz_S 2 none am_r197 0 Q 20 [(0, .ref 154), (1, .int k)] [.int (h.1 157 jj), .int (Int8.ofInt 16).toInt32, .int k, .ref 154] h from ⟨ex_154 (r_P l), s.1, 1002, ex_157 (r_P l), (by have := r_N l; first | omega | (dsimp only at this; omega) | (dsimp only at this ⊢; omega)), r_a l, ?_⟩)
  rw [r_p l]
  refine am_goX 3 (show am_sh h 154 = some (11, 0) ∧ narrow (am_fty 11 8) (.int ((k + ((Int8.ofInt 16).toInt32 * (nI (τ s.1).2.2))))) = .int ((k + ((Int8.ofInt 16).toInt32 * (nI (τ s.1).2.2)))) ∧ fits (am_fty 11 8) (.int ((k + ((Int8.ofInt 16).toInt32 * (nI (τ s.1).2.2))))) = true ∧ pz_S 2 none am_r197 0 Q 25 [(0, .ref 154), (1, .int k)] [] (am_wI h 154 8 ((k + ((Int8.ofInt 16).toInt32 * (nI (τ s.1).2.2))))) from ⟨ex_154 (r_P l), rfl, rfl, ?_⟩)
  exact am_goX 1 (show (none : Option FieldType) = none ∧ (am_wI h 154 8 (sp_ft τ s.1 k)).2.2.2.2 = 175 ∧ _ from ⟨rfl, ex_175 hP, hQ⟩)
theorem d_217 {y : Int32} (x : rx h0 F c h) (hQ : ∀ h1, rx h0 F c h1 → Q (some (.int (Int32.ofInt 0))) h1) : am_call am_cod 2 217 [.ref 154, .int y] h Q := by
  have hP := x.1
  refine pz_call (n := 217) (nL := 3) (rt := (some .boolean)) (rows := am_r217) (d := 1) (by decide +kernel) (by decide +kernel) rfl (by funext pc; rfl) (ex_175 hP) (by exact Nat.le_of_ble_eq_true rfl) ?_
  refine am_goX 3 (show am_rc h 154 11 ∧ 0 ≤ 8 ∧ h.2.2.2.2 + am_al 215 ≤ 175 ∧ am_call am_cod 1 215 [.ref 154, .int y] h (fun vv h' => pz_S 3 (some .boolean) am_r217 1 Q 5 [(0, .ref 154), (1, .int y)] (vv.toList ++ []) h') from ⟨Or.inl ⟨by decide, ex_154 x.1⟩, by decide, ex_lim x.1 rfl, d_215 x ?_⟩)
  refine am_goX 6 (show 2 < 3 ∧ (Value.ref 154).category = 1 ∧ am_sh h 154 = some (11, 0) ∧ ((Int32.ofInt 0) = 0 → pz_S 3 (some .boolean) am_r217 1 Q 19 [(2, .int (Int32.ofInt 0)), (0, .ref 154), (1, .int y)] [.int (h.1 154 7), .ref 154] h) ∧ (¬ ((Int32.ofInt 0) = 0) → pz_S 3 (some .boolean) am_r217 1 Q 15 [(2, .int (Int32.ofInt 0)), (0, .ref 154), (1, .int y)] [.int (h.1 154 7), .ref 154] h) from ⟨by decide, rfl, ex_154 x.1, fun _ => ?_, fun hz => absurd (by decide) hz⟩)
  refine am_goX 3 (show am_sh h 154 = some (11, 0) ∧ narrow (am_fty 11 7) (.int (((h.1 154 7) + (Int32.ofInt 0)))) = .int (((h.1 154 7) + (Int32.ofInt 0))) ∧ fits (am_fty 11 7) (.int (((h.1 154 7) + (Int32.ofInt 0)))) = true ∧ pz_S 3 (some .boolean) am_r217 1 Q 24 [(2, .int (Int32.ofInt 0)), (0, .ref 154), (1, .int y)] [] (am_wI h 154 7 (((h.1 154 7) + (Int32.ofInt 0)))) from ⟨ex_154 x.1, rfl, rfl, ?_⟩)
  have x3 : rx h0 (F) (c) (am_wI h 154 7 (((h.1 154 7) + (Int32.ofInt 0)))) := rx_at x
  exact am_goX 2 (show (∃ ty, (some .boolean) = some ty ∧ narrow ty (.int ((Int32.ofInt 0))) = .int ((Int32.ofInt 0))) ∧ (am_wI h 154 7 (((h.1 154 7) + (Int32.ofInt 0)))).2.2.2.2 = 175 ∧ _ from ⟨⟨.boolean, rfl, rfl⟩, ex_175 x3.1, hQ _ x3⟩)
theorem r_217 {y : Int32} (l : rr h0 z τ N s h) (hQ : ∀ h1, rr h0 z τ N (bif sp_s τ s.1 y then (s.1 + 1, s.2) else s) h1 → Q (some (.int (pz_b (sp_s τ s.1 y)))) h1) : am_call am_cod 2 217 [.ref 154, .int y] h Q := by
  have hP := r_P l
  refine pz_call (n := 217) (nL := 3) (rt := (some .boolean)) (rows := am_r217) (d := 1) (by decide +kernel) (by decide +kernel) rfl (by funext pc; rfl) (ex_175 hP) (by exact Nat.le_of_ble_eq_true rfl) ?_
  refine am_goX 3 (show am_rc h 154 11 ∧ 0 ≤ 8 ∧ h.2.2.2.2 + am_al 215 ≤ 175 ∧ am_call am_cod 1 215 [.ref 154, .int y] h (fun vv h' => pz_S 3 (some .boolean) am_r217 1 Q 5 [(0, .ref 154), (1, .int y)] (vv.toList ++ []) h') from ⟨Or.inl ⟨by decide, ex_154 (r_P l)⟩, by decide, ex_lim (r_P l) rfl, r_215 l ?_⟩)
  refine am_goX 5 (show 2 < 3 ∧ (Value.ref 154).category = 1 ∧ am_sh h 154 = some (11, 0) ∧ pz_S 3 (some .boolean) am_r217 1 Q 12 [(2, .int (pz_b (sp_s τ s.1 y))), (0, .ref 154), (1, .int y)] [.int (pz_b (sp_s τ s.1 y)), .int (h.1 154 7), .ref 154] h from ⟨by decide, rfl, ex_154 (r_P l), ?_⟩)
  cases e4 : sp_s τ s.1 y with
  | true =>
    refine am_goX 1 (show ((pz_b (true)) = 0 → pz_S 3 (some .boolean) am_r217 1 Q 19 [(2, .int (pz_b (true))), (0, .ref 154), (1, .int y)] [.int (h.1 154 7), .ref 154] h) ∧ (¬ ((pz_b (true)) = 0) → pz_S 3 (some .boolean) am_r217 1 Q 15 [(2, .int (pz_b (true))), (0, .ref 154), (1, .int y)] [.int (h.1 154 7), .ref 154] h) from ⟨fun hz => absurd hz (by decide), fun _ => ?_⟩)
    refine am_goX 4 (show am_sh h 154 = some (11, 0) ∧ narrow (am_fty 11 7) (.int (((h.1 154 7) + (Int32.ofInt 1)))) = .int (((h.1 154 7) + (Int32.ofInt 1))) ∧ fits (am_fty 11 7) (.int (((h.1 154 7) + (Int32.ofInt 1)))) = true ∧ pz_S 3 (some .boolean) am_r217 1 Q 24 [(2, .int (pz_b (true))), (0, .ref 154), (1, .int y)] [] (am_wI h 154 7 (((h.1 154 7) + (Int32.ofInt 1)))) from ⟨ex_154 (r_P l), rfl, rfl, ?_⟩)
    rw [r_a l, xw_i1]
    have l5 : rr h0 z τ N (s.1 + 1, s.2) (am_wI h 154 7 (nI (s.1 + 1))) := rr_nx (a := s.1) (C := s.2) l (sp_sn e4)
    refine am_goX 1 (show pz_S 3 (some .boolean) am_r217 1 Q 25 [(2, .int (pz_b (true))), (0, .ref 154), (1, .int y)] [.int (pz_b (true))] (am_wI h 154 7 (nI (s.1 + 1))) from ?_)
    rw [e4] at hQ
    exact am_goX 1 (show (∃ ty, (some .boolean) = some ty ∧ narrow ty (.int ((pz_b (true)))) = .int ((pz_b (true)))) ∧ (am_wI h 154 7 (nI (s.1 + 1))).2.2.2.2 = 175 ∧ _ from ⟨⟨.boolean, rfl, rfl⟩, ex_175 (r_P l5), hQ _ l5⟩)
  | false =>
    refine am_goX 1 (show ((pz_b (false)) = 0 → pz_S 3 (some .boolean) am_r217 1 Q 19 [(2, .int (pz_b (false))), (0, .ref 154), (1, .int y)] [.int (h.1 154 7), .ref 154] h) ∧ (¬ ((pz_b (false)) = 0) → pz_S 3 (some .boolean) am_r217 1 Q 15 [(2, .int (pz_b (false))), (0, .ref 154), (1, .int y)] [.int (h.1 154 7), .ref 154] h) from ⟨fun _ => ?_, fun hz => absurd (by decide) hz⟩)
    refine am_goX 3 (show am_sh h 154 = some (11, 0) ∧ narrow (am_fty 11 7) (.int (((h.1 154 7) + (Int32.ofInt 0)))) = .int (((h.1 154 7) + (Int32.ofInt 0))) ∧ fits (am_fty 11 7) (.int (((h.1 154 7) + (Int32.ofInt 0)))) = true ∧ pz_S 3 (some .boolean) am_r217 1 Q 24 [(2, .int (pz_b (false))), (0, .ref 154), (1, .int y)] [] (am_wI h 154 7 (((h.1 154 7) + (Int32.ofInt 0)))) from ⟨ex_154 (r_P l), rfl, rfl, ?_⟩)
    rw [r_a l, xw_i0]
    have l6 : rr h0 z τ N s (am_wI h 154 7 (nI s.1)) := rr_sm (s := s) l
    refine am_goX 1 (show pz_S 3 (some .boolean) am_r217 1 Q 25 [(2, .int (pz_b (false))), (0, .ref 154), (1, .int y)] [.int (pz_b (false))] (am_wI h 154 7 (nI s.1)) from ?_)
    rw [e4] at hQ
    exact am_goX 1 (show (∃ ty, (some .boolean) = some ty ∧ narrow ty (.int ((pz_b (false)))) = .int ((pz_b (false)))) ∧ (am_wI h 154 7 (nI s.1)).2.2.2.2 = 175 ∧ _ from ⟨⟨.boolean, rfl, rfl⟩, ex_175 (r_P l6), hQ _ l6⟩)
theorem d_204 {y : Int32} (x : rx h0 F c h) (hQ : ∀ h1, rx h0 F c h1 → Q (some (.int (Int32.ofInt 0))) h1) : am_call am_cod 2 204 [.ref 154, .int y] h Q := by
  have hP := x.1
  refine pz_call (n := 204) (nL := 3) (rt := (some .boolean)) (rows := am_r204) (d := 1) (by decide +kernel) (by decide +kernel) rfl (by funext pc; rfl) (ex_175 hP) (by exact Nat.le_of_ble_eq_true rfl) ?_
  refine am_goX 3 (show am_rc h 154 11 ∧ 0 ≤ 8 ∧ h.2.2.2.2 + am_al 195 ≤ 175 ∧ am_call am_cod 1 195 [.ref 154, .int y] h (fun vv h' => pz_S 3 (some .boolean) am_r204 1 Q 5 [(0, .ref 154), (1, .int y)] (vv.toList ++ []) h') from ⟨Or.inl ⟨by decide, ex_154 x.1⟩, by decide, ex_lim x.1 rfl, d_195 x ?_⟩)
  refine am_goX 6 (show 2 < 3 ∧ (Value.ref 154).category = 1 ∧ am_sh h 154 = some (11, 0) ∧ ((Int32.ofInt 0) = 0 → pz_S 3 (some .boolean) am_r204 1 Q 19 [(2, .int (Int32.ofInt 0)), (0, .ref 154), (1, .int y)] [.int (h.1 154 7), .ref 154] h) ∧ (¬ ((Int32.ofInt 0) = 0) → pz_S 3 (some .boolean) am_r204 1 Q 15 [(2, .int (Int32.ofInt 0)), (0, .ref 154), (1, .int y)] [.int (h.1 154 7), .ref 154] h) from ⟨by decide, rfl, ex_154 x.1, fun _ => ?_, fun hz => absurd (by decide) hz⟩)
  refine am_goX 3 (show am_sh h 154 = some (11, 0) ∧ narrow (am_fty 11 7) (.int (((h.1 154 7) + (Int32.ofInt 0)))) = .int (((h.1 154 7) + (Int32.ofInt 0))) ∧ fits (am_fty 11 7) (.int (((h.1 154 7) + (Int32.ofInt 0)))) = true ∧ pz_S 3 (some .boolean) am_r204 1 Q 24 [(2, .int (Int32.ofInt 0)), (0, .ref 154), (1, .int y)] [] (am_wI h 154 7 (((h.1 154 7) + (Int32.ofInt 0)))) from ⟨ex_154 x.1, rfl, rfl, ?_⟩)
  have x7 : rx h0 (F) (c) (am_wI h 154 7 (((h.1 154 7) + (Int32.ofInt 0)))) := rx_at x
  exact am_goX 2 (show (∃ ty, (some .boolean) = some ty ∧ narrow ty (.int ((Int32.ofInt 0))) = .int ((Int32.ofInt 0))) ∧ (am_wI h 154 7 (((h.1 154 7) + (Int32.ofInt 0)))).2.2.2.2 = 175 ∧ _ from ⟨⟨.boolean, rfl, rfl⟩, ex_175 x7.1, hQ _ x7⟩)
theorem r_204 {y : Int32} {w : Nat} {W : Int64} (hw : w < 21) (hy : y = nI w) (hW : rw_w w = W) (l : rr h0 z τ N s h) (hQ : ∀ h1, rr h0 z τ N (bif sp_w τ s.1 W then (s.1 + 1, s.2) else s) h1 → Q (some (.int (pz_b (sp_w τ s.1 W)))) h1) : am_call am_cod 2 204 [.ref 154, .int y] h Q := by
  have hP := r_P l
  refine pz_call (n := 204) (nL := 3) (rt := (some .boolean)) (rows := am_r204) (d := 1) (by decide +kernel) (by decide +kernel) rfl (by funext pc; rfl) (ex_175 hP) (by exact Nat.le_of_ble_eq_true rfl) ?_
  refine am_goX 3 (show am_rc h 154 11 ∧ 0 ≤ 8 ∧ h.2.2.2.2 + am_al 195 ≤ 175 ∧ am_call am_cod 1 195 [.ref 154, .int y] h (fun vv h' => pz_S 3 (some .boolean) am_r204 1 Q 5 [(0, .ref 154), (1, .int y)] (vv.toList ++ []) h') from ⟨Or.inl ⟨by decide, ex_154 (r_P l)⟩, by decide, ex_lim (r_P l) rfl, r_195 hw hy hW l ?_⟩)
  refine am_goX 5 (show 2 < 3 ∧ (Value.ref 154).category = 1 ∧ am_sh h 154 = some (11, 0) ∧ pz_S 3 (some .boolean) am_r204 1 Q 12 [(2, .int (pz_b (sp_w τ s.1 W))), (0, .ref 154), (1, .int y)] [.int (pz_b (sp_w τ s.1 W)), .int (h.1 154 7), .ref 154] h from ⟨by decide, rfl, ex_154 (r_P l), ?_⟩)
  cases e8 : sp_w τ s.1 W with
  | true =>
    refine am_goX 1 (show ((pz_b (true)) = 0 → pz_S 3 (some .boolean) am_r204 1 Q 19 [(2, .int (pz_b (true))), (0, .ref 154), (1, .int y)] [.int (h.1 154 7), .ref 154] h) ∧ (¬ ((pz_b (true)) = 0) → pz_S 3 (some .boolean) am_r204 1 Q 15 [(2, .int (pz_b (true))), (0, .ref 154), (1, .int y)] [.int (h.1 154 7), .ref 154] h) from ⟨fun hz => absurd hz (by decide), fun _ => ?_⟩)
    refine am_goX 4 (show am_sh h 154 = some (11, 0) ∧ narrow (am_fty 11 7) (.int (((h.1 154 7) + (Int32.ofInt 1)))) = .int (((h.1 154 7) + (Int32.ofInt 1))) ∧ fits (am_fty 11 7) (.int (((h.1 154 7) + (Int32.ofInt 1)))) = true ∧ pz_S 3 (some .boolean) am_r204 1 Q 24 [(2, .int (pz_b (true))), (0, .ref 154), (1, .int y)] [] (am_wI h 154 7 (((h.1 154 7) + (Int32.ofInt 1)))) from ⟨ex_154 (r_P l), rfl, rfl, ?_⟩)
    rw [r_a l, xw_i1]
    have l9 : rr h0 z τ N (s.1 + 1, s.2) (am_wI h 154 7 (nI (s.1 + 1))) := rr_nx (a := s.1) (C := s.2) l (sp_wn e8)
    refine am_goX 1 (show pz_S 3 (some .boolean) am_r204 1 Q 25 [(2, .int (pz_b (true))), (0, .ref 154), (1, .int y)] [.int (pz_b (true))] (am_wI h 154 7 (nI (s.1 + 1))) from ?_)
    rw [e8] at hQ
    exact am_goX 1 (show (∃ ty, (some .boolean) = some ty ∧ narrow ty (.int ((pz_b (true)))) = .int ((pz_b (true)))) ∧ (am_wI h 154 7 (nI (s.1 + 1))).2.2.2.2 = 175 ∧ _ from ⟨⟨.boolean, rfl, rfl⟩, ex_175 (r_P l9), hQ _ l9⟩)
  | false =>
    refine am_goX 1 (show ((pz_b (false)) = 0 → pz_S 3 (some .boolean) am_r204 1 Q 19 [(2, .int (pz_b (false))), (0, .ref 154), (1, .int y)] [.int (h.1 154 7), .ref 154] h) ∧ (¬ ((pz_b (false)) = 0) → pz_S 3 (some .boolean) am_r204 1 Q 15 [(2, .int (pz_b (false))), (0, .ref 154), (1, .int y)] [.int (h.1 154 7), .ref 154] h) from ⟨fun _ => ?_, fun hz => absurd (by decide) hz⟩)
    refine am_goX 3 (show am_sh h 154 = some (11, 0) ∧ narrow (am_fty 11 7) (.int (((h.1 154 7) + (Int32.ofInt 0)))) = .int (((h.1 154 7) + (Int32.ofInt 0))) ∧ fits (am_fty 11 7) (.int (((h.1 154 7) + (Int32.ofInt 0)))) = true ∧ pz_S 3 (some .boolean) am_r204 1 Q 24 [(2, .int (pz_b (false))), (0, .ref 154), (1, .int y)] [] (am_wI h 154 7 (((h.1 154 7) + (Int32.ofInt 0)))) from ⟨ex_154 (r_P l), rfl, rfl, ?_⟩)
    rw [r_a l, xw_i0]
    have l10 : rr h0 z τ N s (am_wI h 154 7 (nI s.1)) := rr_sm (s := s) l
    refine am_goX 1 (show pz_S 3 (some .boolean) am_r204 1 Q 25 [(2, .int (pz_b (false))), (0, .ref 154), (1, .int y)] [.int (pz_b (false))] (am_wI h 154 7 (nI s.1)) from ?_)
    rw [e8] at hQ
    exact am_goX 1 (show (∃ ty, (some .boolean) = some ty ∧ narrow ty (.int ((pz_b (false)))) = .int ((pz_b (false)))) ∧ (am_wI h 154 7 (nI s.1)).2.2.2.2 = 175 ∧ _ from ⟨⟨.boolean, rfl, rfl⟩, ex_175 (r_P l10), hQ _ l10⟩)
theorem d_218 {y : Int32} (x : rx h0 F c h) (hQ : Q none h) : am_call am_cod 2 218 [.ref 154, .int y] h Q := by
  have hP := x.1
  refine pz_call (n := 218) (nL := 2) (rt := none) (rows := am_r218) (d := 1) (by decide +kernel) (by decide +kernel) rfl (by funext pc; rfl) (ex_175 hP) (by exact Nat.le_of_ble_eq_true rfl) ?_
  refine am_goX 3 (show am_rc h 154 11 ∧ 0 ≤ 8 ∧ h.2.2.2.2 + am_al 215 ≤ 175 ∧ am_call am_cod 1 215 [.ref 154, .int y] h (fun vv h' => pz_S 2 none am_r218 1 Q 5 [(0, .ref 154), (1, .int y)] (vv.toList ++ []) h') from ⟨Or.inl ⟨by decide, ex_154 x.1⟩, by decide, ex_lim x.1 rfl, am_call.up (d_215 x ?_) (by omega)⟩)
  refine am_goX 1 (show (0 = 0 → pz_S 2 none am_r218 1 Q 21 [(0, .ref 154), (1, .int y)] [] h) ∧ (¬ (0 = 0) → pz_S 2 none am_r218 1 Q 8 [(0, .ref 154), (1, .int y)] [] h) from ⟨fun _ => ?_, fun hz => absurd (by decide) hz⟩)
  refine am_goX 3 (show am_rc h 154 11 ∧ 0 ≤ 8 ∧ h.2.2.2.2 + am_al 197 ≤ 175 ∧ am_call am_cod 1 197 [.ref 154, .int (Int32.ofInt 1)] h (fun vv h' => pz_S 2 none am_r218 1 Q 26 [(0, .ref 154), (1, .int y)] (vv.toList ++ []) h') from ⟨Or.inl ⟨by decide, ex_154 x.1⟩, by decide, ex_lim x.1 rfl, am_call.up (d_197 x ?_) (by omega)⟩)
  exact am_goX 1 (show (none : Option FieldType) = none ∧ h.2.2.2.2 = 175 ∧ _ from ⟨rfl, ex_175 x.1, hQ⟩)
theorem r_218 {y : Int32} (l : rr h0 z τ N s h) (hF : ∀ F h1, sp_tS τ y s = .inl F → rx h0 F (s.2.2.2.2.2.1 + z) h1 → Q none h1) (hS : ∀ h1, sp_tS τ y s = .inr (s.1 + 1, s.2) → rr h0 z τ N (s.1 + 1, s.2) h1 → Q none h1) : am_call am_cod 2 218 [.ref 154, .int y] h Q := by
  have hP := r_P l
  refine pz_call (n := 218) (nL := 2) (rt := none) (rows := am_r218) (d := 1) (by decide +kernel) (by decide +kernel) rfl (by funext pc; rfl) (ex_175 hP) (by exact Nat.le_of_ble_eq_true rfl) ?_
  refine am_goX 3 (show am_rc h 154 11 ∧ 0 ≤ 8 ∧ h.2.2.2.2 + am_al 215 ≤ 175 ∧ am_call am_cod 1 215 [.ref 154, .int y] h (fun vv h' => pz_S 2 none am_r218 1 Q 5 [(0, .ref 154), (1, .int y)] (vv.toList ++ []) h') from ⟨Or.inl ⟨by decide, ex_154 (r_P l)⟩, by decide, ex_lim (r_P l) rfl, am_call.up (r_215 l ?_) (by omega)⟩)
  cases e11 : sp_s τ s.1 y with
  | true =>
    refine am_goX 1 (show ((pz_b (true)) = 0 → pz_S 2 none am_r218 1 Q 21 [(0, .ref 154), (1, .int y)] [] h) ∧ (¬ ((pz_b (true)) = 0) → pz_S 2 none am_r218 1 Q 8 [(0, .ref 154), (1, .int y)] [] h) from ⟨fun hz => absurd hz (by decide), fun _ => ?_⟩)
    refine am_goX 6 (show (Value.ref 154).category = 1 ∧ am_sh h 154 = some (11, 0) ∧ am_sh h 154 = some (11, 0) ∧ narrow (am_fty 11 7) (.int (((h.1 154 7) + (Int32.ofInt 1)))) = .int (((h.1 154 7) + (Int32.ofInt 1))) ∧ fits (am_fty 11 7) (.int (((h.1 154 7) + (Int32.ofInt 1)))) = true ∧ pz_S 2 none am_r218 1 Q 18 [(0, .ref 154), (1, .int y)] [] (am_wI h 154 7 (((h.1 154 7) + (Int32.ofInt 1)))) from ⟨rfl, ex_154 (r_P l), ex_154 (r_P l), rfl, rfl, ?_⟩)
    rw [r_a l, xw_i1]
    have l12 : rr h0 z τ N (s.1 + 1, s.2) (am_wI h 154 7 (nI (s.1 + 1))) := rr_nx (a := s.1) (C := s.2) l (sp_sn e11)
    exact am_goX 2 (show (none : Option FieldType) = none ∧ (am_wI h 154 7 (nI (s.1 + 1))).2.2.2.2 = 175 ∧ _ from ⟨rfl, ex_175 (r_P l12), hS _ (by simp only [sp_tS, sp_b, sp_f, cond_true, cond_false, e11]) l12⟩)
  | false =>
    refine am_goX 1 (show ((pz_b (false)) = 0 → pz_S 2 none am_r218 1 Q 21 [(0, .ref 154), (1, .int y)] [] h) ∧ (¬ ((pz_b (false)) = 0) → pz_S 2 none am_r218 1 Q 8 [(0, .ref 154), (1, .int y)] [] h) from ⟨fun _ => ?_, fun hz => absurd (by decide) hz⟩)
    refine am_goX 3 (show am_rc h 154 11 ∧ 0 ≤ 8 ∧ h.2.2.2.2 + am_al 197 ≤ 175 ∧ am_call am_cod 1 197 [.ref 154, .int (Int32.ofInt 1)] h (fun vv h' => pz_S 2 none am_r218 1 Q 26 [(0, .ref 154), (1, .int y)] (vv.toList ++ []) h') from ⟨Or.inl ⟨by decide, ex_154 (r_P l)⟩, by decide, ex_lim (r_P l) rfl, am_call.up (r_197 l ?_) (by omega)⟩)
    have x13 : rx h0 (sp_ft τ s.1 (Int32.ofInt 1)) (s.2.2.2.2.2.1 + z) (am_wI h 154 8 (sp_ft τ s.1 (Int32.ofInt 1))) := rr_x (s := s) l (by decide)
    exact am_goX 1 (show (none : Option FieldType) = none ∧ (am_wI h 154 8 (sp_ft τ s.1 (Int32.ofInt 1))).2.2.2.2 = 175 ∧ _ from ⟨rfl, ex_175 x13.1, hF (sp_ft τ s.1 (Int32.ofInt 1)) _ (by simp only [sp_tS, sp_b, sp_f, cond_true, cond_false, e11]) x13⟩)
theorem d_203 {y : Int32} (x : rx h0 F c h) (hQ : ∀ h1, rx h0 F c h1 → Q none h1) : am_call am_cod 3 203 [.ref 154, .int y] h Q := by
  have hP := x.1
  refine pz_call (n := 203) (nL := 2) (rt := none) (rows := am_r203) (d := 2) (by decide +kernel) (by decide +kernel) rfl (by funext pc; rfl) (ex_175 hP) (by exact Nat.le_of_ble_eq_true rfl) ?_
  refine am_goX 3 (show am_rc h 154 11 ∧ 0 ≤ 8 ∧ h.2.2.2.2 + am_al 204 ≤ 175 ∧ am_call am_cod 2 204 [.ref 154, .int y] h (fun vv h' => pz_S 2 none am_r203 2 Q 5 [(0, .ref 154), (1, .int y)] (vv.toList ++ []) h') from ⟨Or.inl ⟨by decide, ex_154 x.1⟩, by decide, ex_lim x.1 rfl, d_204 x (fun h14 x15 => ?_)⟩)
  refine am_goX 1 (show (¬ (Int32.ofInt 0) = 0 → pz_S 2 none am_r203 2 Q 13 [(0, .ref 154), (1, .int y)] [] h14) ∧ (¬ ¬ (Int32.ofInt 0) = 0 → pz_S 2 none am_r203 2 Q 8 [(0, .ref 154), (1, .int y)] [] h14) from ⟨fun hz => absurd hz (by decide), fun _ => ?_⟩)
  refine am_goX 3 (show am_rc h14 154 11 ∧ 0 ≤ 8 ∧ h14.2.2.2.2 + am_al 197 ≤ 175 ∧ am_call am_cod 2 197 [.ref 154, .int (Int32.ofInt 1)] h14 (fun vv h' => pz_S 2 none am_r203 2 Q 13 [(0, .ref 154), (1, .int y)] (vv.toList ++ []) h') from ⟨Or.inl ⟨by decide, ex_154 x15.1⟩, by decide, ex_lim x15.1 rfl, am_call.up (d_197 x15 ?_) (by omega)⟩)
  exact am_goX 1 (show (none : Option FieldType) = none ∧ h14.2.2.2.2 = 175 ∧ _ from ⟨rfl, ex_175 x15.1, hQ _ x15⟩)
theorem r_203 {y : Int32} {w : Nat} {W : Int64} (hw : w < 21) (hy : y = nI w) (hW : rw_w w = W) (l : rr h0 z τ N s h) (hF : ∀ F h1, sp_tW τ W s = .inl F → rx h0 F (s.2.2.2.2.2.1 + z) h1 → Q none h1) (hS : ∀ h1, sp_tW τ W s = .inr (s.1 + 1, s.2) → rr h0 z τ N (s.1 + 1, s.2) h1 → Q none h1) : am_call am_cod 3 203 [.ref 154, .int y] h Q := by
  have hP := r_P l
  refine pz_call (n := 203) (nL := 2) (rt := none) (rows := am_r203) (d := 2) (by decide +kernel) (by decide +kernel) rfl (by funext pc; rfl) (ex_175 hP) (by exact Nat.le_of_ble_eq_true rfl) ?_
  refine am_goX 3 (show am_rc h 154 11 ∧ 0 ≤ 8 ∧ h.2.2.2.2 + am_al 204 ≤ 175 ∧ am_call am_cod 2 204 [.ref 154, .int y] h (fun vv h' => pz_S 2 none am_r203 2 Q 5 [(0, .ref 154), (1, .int y)] (vv.toList ++ []) h') from ⟨Or.inl ⟨by decide, ex_154 (r_P l)⟩, by decide, ex_lim (r_P l) rfl, r_204 hw hy hW l (fun h16 l17 => ?_)⟩)
  cases e18 : sp_w τ s.1 W with
  | true =>
    rw [e18] at l17
    replace l17 : rr h0 z τ N (s.1 + 1, s.2) h16 := l17
    refine am_goX 1 (show (¬ (pz_b (true)) = 0 → pz_S 2 none am_r203 2 Q 13 [(0, .ref 154), (1, .int y)] [] h16) ∧ (¬ ¬ (pz_b (true)) = 0 → pz_S 2 none am_r203 2 Q 8 [(0, .ref 154), (1, .int y)] [] h16) from ⟨fun _ => ?_, fun hz => absurd (by decide) hz⟩)
    exact am_goX 1 (show (none : Option FieldType) = none ∧ h16.2.2.2.2 = 175 ∧ _ from ⟨rfl, ex_175 (r_P l17), hS _ (by simp only [sp_tW, sp_b, sp_f, cond_true, cond_false, e18]) l17⟩)
  | false =>
    rw [e18] at l17
    replace l17 : rr h0 z τ N s h16 := l17
    refine am_goX 1 (show (¬ (pz_b (false)) = 0 → pz_S 2 none am_r203 2 Q 13 [(0, .ref 154), (1, .int y)] [] h16) ∧ (¬ ¬ (pz_b (false)) = 0 → pz_S 2 none am_r203 2 Q 8 [(0, .ref 154), (1, .int y)] [] h16) from ⟨fun hz => absurd hz (by decide), fun _ => ?_⟩)
    refine am_goX 3 (show am_rc h16 154 11 ∧ 0 ≤ 8 ∧ h16.2.2.2.2 + am_al 197 ≤ 175 ∧ am_call am_cod 2 197 [.ref 154, .int (Int32.ofInt 1)] h16 (fun vv h' => pz_S 2 none am_r203 2 Q 13 [(0, .ref 154), (1, .int y)] (vv.toList ++ []) h') from ⟨Or.inl ⟨by decide, ex_154 (r_P l17)⟩, by decide, ex_lim (r_P l17) rfl, am_call.up (r_197 l17 ?_) (by omega)⟩)
    have x19 : rx h0 (sp_ft τ s.1 (Int32.ofInt 1)) (s.2.2.2.2.2.1 + z) (am_wI h16 154 8 (sp_ft τ s.1 (Int32.ofInt 1))) := rr_x (s := s) l17 (by decide)
    exact am_goX 1 (show (none : Option FieldType) = none ∧ (am_wI h16 154 8 (sp_ft τ s.1 (Int32.ofInt 1))).2.2.2.2 = 175 ∧ _ from ⟨rfl, ex_175 x19.1, hF (sp_ft τ s.1 (Int32.ofInt 1)) _ (by simp only [sp_tW, sp_b, sp_f, cond_true, cond_false, e18]) x19⟩)
theorem d_205 {lo hi : Int32} (x : rx h0 F c h) (hQ : Q (some (.int (Int32.ofInt 0))) h) : am_call am_cod 2 205 [.ref 154, .int lo, .int hi] h Q := by
  have hP := x.1
  refine pz_call (n := 205) (nL := 3) (rt := (some .int)) (rows := am_r205) (d := 1) (by decide +kernel) (by decide +kernel) rfl (by funext pc; rfl) (ex_175 hP) (by exact Nat.le_of_ble_eq_true rfl) ?_
  refine am_goX 2 (show am_sh h 154 = some (11, 0) ∧ pz_S 3 (some .int) am_r205 1 Q 4 [(0, .ref 154), (1, .int lo), (2, .int hi)] [.int (h.1 154 8)] h from ⟨ex_154 x.1, ?_⟩)
  rw [x.2.1.1]
  refine am_goX 1 (show (¬ (F) = 0 → pz_S 3 (some .int) am_r205 1 Q 28 [(0, .ref 154), (1, .int lo), (2, .int hi)] [] h) ∧ (¬ ¬ (F) = 0 → pz_S 3 (some .int) am_r205 1 Q 7 [(0, .ref 154), (1, .int lo), (2, .int hi)] [] h) from ⟨fun _ => ?_, fun hz => absurd (rx_ne x) hz⟩)
  refine am_goX 2 (show am_sh h 154 = some (11, 0) ∧ pz_S 3 (some .int) am_r205 1 Q 32 [(0, .ref 154), (1, .int lo), (2, .int hi)] [.int (h.1 154 8)] h from ⟨ex_154 x.1, ?_⟩)
  rw [x.2.1.1]
  refine am_goX 1 (show (¬ (F) = 0 → pz_S 3 (some .int) am_r205 1 Q 70 [(0, .ref 154), (1, .int lo), (2, .int hi)] [] h) ∧ (¬ ¬ (F) = 0 → pz_S 3 (some .int) am_r205 1 Q 35 [(0, .ref 154), (1, .int lo), (2, .int hi)] [] h) from ⟨fun _ => ?_, fun hz => absurd (rx_ne x) hz⟩)
  refine am_goX 2 (show am_sh h 154 = some (11, 0) ∧ pz_S 3 (some .int) am_r205 1 Q 74 [(0, .ref 154), (1, .int lo), (2, .int hi)] [.int (h.1 154 8)] h from ⟨ex_154 x.1, ?_⟩)
  rw [x.2.1.1]
  refine am_goX 1 (show ((F) ≤ 0 → pz_S 3 (some .int) am_r205 1 Q 79 [(0, .ref 154), (1, .int lo), (2, .int hi)] [] h) ∧ (¬ ((F) ≤ 0) → pz_S 3 (some .int) am_r205 1 Q 77 [(0, .ref 154), (1, .int lo), (2, .int hi)] [] h) from ⟨fun hz => absurd hz (rx_le x), fun _ => ?_⟩)
  exact am_goX 2 (show (∃ ty, (some .int) = some ty ∧ narrow ty (.int ((Int32.ofInt 0))) = .int ((Int32.ofInt 0))) ∧ h.2.2.2.2 = 175 ∧ _ from ⟨⟨.int, rfl, rfl⟩, ex_175 x.1, hQ⟩)
theorem r_205 {lo hi : Int32} (l : rr h0 z τ N s h) (hF : ∀ F h1, sp_tN τ lo hi s = .inl F → rx h0 F (s.2.2.2.2.2.1 + z) h1 → Q (some (.int (Int32.ofInt 0))) h1) (hS : ∀ h1, sp_tN τ lo hi s = .inr s → rr h0 z τ N (s.1 + 1, s.2) h1 → Q (some (.int (sp_v τ s.1))) h1) : am_call am_cod 2 205 [.ref 154, .int lo, .int hi] h Q := by
  have hP := r_P l
  refine pz_call (n := 205) (nL := 3) (rt := (some .int)) (rows := am_r205) (d := 1) (by decide +kernel) (by decide +kernel) rfl (by funext pc; rfl) (ex_175 hP) (by exact Nat.le_of_ble_eq_true rfl) ?_
  refine am_goX 2 (show am_sh h 154 = some (11, 0) ∧ pz_S 3 (some .int) am_r205 1 Q 4 [(0, .ref 154), (1, .int lo), (2, .int hi)] [.int (h.1 154 8)] h from ⟨ex_154 (r_P l), ?_⟩)
  rw [r_f l]
  refine am_goX 1 (show (¬ 0 = 0 → pz_S 3 (some .int) am_r205 1 Q 28 [(0, .ref 154), (1, .int lo), (2, .int hi)] [] h) ∧ (¬ ¬ 0 = 0 → pz_S 3 (some .int) am_r205 1 Q 7 [(0, .ref 154), (1, .int lo), (2, .int hi)] [] h) from ⟨fun hz => absurd hz (by decide), fun _ => ?_⟩)
  refine am_goX 2 (show am_sh h 154 = some (11, 0) ∧ pz_S 3 (some .int) am_r205 1 Q 11 [(0, .ref 154), (1, .int lo), (2, .int hi)] [am_rf (h.2.2.1 154 4)] h from ⟨ex_154 (r_P l), ?_⟩)
  rw [ex_r154_4 (h := h) (r_P l)]
  refine am_goX 3 (show am_sh h 154 = some (11, 0) ∧ ∃ jj nn : Nat, am_sh h 156 = some (13, nn) ∧ jj < nn ∧ (h.1 154 7) = nI jj ∧ pz_S 3 (some .int) am_r205 1 Q 16 [(0, .ref 154), (1, .int lo), (2, .int hi)] [.int (h.1 156 jj)] h from ⟨ex_154 (r_P l), s.1, 1002, ex_156 (r_P l), (by have := r_N l; first | omega | (dsimp only at this; omega) | (dsimp only at this ⊢; omega)), r_a l, ?_⟩)
  rw [r_k l]
  refine am_goX 1 (show pz_S 3 (some .int) am_r205 1 Q 17 [(0, .ref 154), (1, .int lo), (2, .int hi)] [.int (Int32.ofInt 2), .int (τ s.1).1] h from ?_)
  cases e20 : sp_k τ s.1 2 with
  | true =>
    refine am_goX 1 (show ((τ s.1).1 = (Int32.ofInt 2) → pz_S 3 (some .int) am_r205 1 Q 28 [(0, .ref 154), (1, .int lo), (2, .int hi)] [] h) ∧ (¬ ((τ s.1).1 = (Int32.ofInt 2)) → pz_S 3 (some .int) am_r205 1 Q 20 [(0, .ref 154), (1, .int lo), (2, .int hi)] [] h) from ⟨fun _ => ?_, fun hz => absurd (sp_kt e20) hz⟩)
    refine am_goX 2 (show am_sh h 154 = some (11, 0) ∧ pz_S 3 (some .int) am_r205 1 Q 32 [(0, .ref 154), (1, .int lo), (2, .int hi)] [.int (h.1 154 8)] h from ⟨ex_154 (r_P l), ?_⟩)
    rw [r_f l]
    refine am_goX 1 (show (¬ 0 = 0 → pz_S 3 (some .int) am_r205 1 Q 70 [(0, .ref 154), (1, .int lo), (2, .int hi)] [] h) ∧ (¬ ¬ 0 = 0 → pz_S 3 (some .int) am_r205 1 Q 35 [(0, .ref 154), (1, .int lo), (2, .int hi)] [] h) from ⟨fun hz => absurd hz (by decide), fun _ => ?_⟩)
    refine am_goX 2 (show am_sh h 154 = some (11, 0) ∧ pz_S 3 (some .int) am_r205 1 Q 39 [(0, .ref 154), (1, .int lo), (2, .int hi)] [am_rf (h.2.2.1 154 6)] h from ⟨ex_154 (r_P l), ?_⟩)
    rw [ex_r154_6 (h := h) (r_P l)]
    refine am_goX 3 (show am_sh h 154 = some (11, 0) ∧ ∃ jj nn : Nat, am_sh h 158 = some (14, nn) ∧ jj < nn ∧ (h.1 154 7) = nI jj ∧ pz_S 3 (some .int) am_r205 1 Q 44 [(0, .ref 154), (1, .int lo), (2, .int hi)] [.long (h.2.1 158 jj)] h from ⟨ex_154 (r_P l), s.1, 1002, ex_158 (r_P l), (by have := r_N l; first | omega | (dsimp only at this; omega) | (dsimp only at this ⊢; omega)), r_a l, ?_⟩)
    rw [r_v l (sp_kn (by decide) e20)]
    refine am_goX 4 (show ((lg_cmp ((τ s.1).2.1) ((lo).toInt64)) < 0 → pz_S 3 (some .int) am_r205 1 Q 65 [(0, .ref 154), (1, .int lo), (2, .int hi)] [] h) ∧ (¬ ((lg_cmp ((τ s.1).2.1) ((lo).toInt64)) < 0) → pz_S 3 (some .int) am_r205 1 Q 50 [(0, .ref 154), (1, .int lo), (2, .int hi)] [] h) from ⟨fun hc => ?_, fun hc => ?_⟩)
    ·
      have e71 : decide (lo ≤ sp_v τ s.1) = false := by
        obtain ⟨D, hD, ev⟩ := l.1.1.2.2.2.2.2.2 s.1 (sp_kt e20)
        exact r_cmpl hD ev hc
      clear hc
      refine am_goX 3 (show am_rc h 154 11 ∧ 0 ≤ 8 ∧ h.2.2.2.2 + am_al 197 ≤ 175 ∧ am_call am_cod 1 197 [.ref 154, .int (Int32.ofInt 4)] h (fun vv h' => pz_S 3 (some .int) am_r205 1 Q 70 [(0, .ref 154), (1, .int lo), (2, .int hi)] (vv.toList ++ []) h') from ⟨Or.inl ⟨by decide, ex_154 (r_P l)⟩, by decide, ex_lim (r_P l) rfl, am_call.up (r_197 l ?_) (by omega)⟩)
      have x21 : rx h0 (sp_ft τ s.1 (Int32.ofInt 4)) (s.2.2.2.2.2.1 + z) (am_wI h 154 8 (sp_ft τ s.1 (Int32.ofInt 4))) := rr_x (s := s) l (by decide)
      refine am_goX 2 (show am_sh (am_wI h 154 8 (sp_ft τ s.1 (Int32.ofInt 4))) 154 = some (11, 0) ∧ pz_S 3 (some .int) am_r205 1 Q 74 [(0, .ref 154), (1, .int lo), (2, .int hi)] [.int ((am_wI h 154 8 (sp_ft τ s.1 (Int32.ofInt 4))).1 154 8)] (am_wI h 154 8 (sp_ft τ s.1 (Int32.ofInt 4))) from ⟨ex_154 x21.1, ?_⟩)
      rw [x21.2.1.1]
      refine am_goX 1 (show ((sp_ft τ s.1 (Int32.ofInt 4)) ≤ 0 → pz_S 3 (some .int) am_r205 1 Q 79 [(0, .ref 154), (1, .int lo), (2, .int hi)] [] (am_wI h 154 8 (sp_ft τ s.1 (Int32.ofInt 4)))) ∧ (¬ ((sp_ft τ s.1 (Int32.ofInt 4)) ≤ 0) → pz_S 3 (some .int) am_r205 1 Q 77 [(0, .ref 154), (1, .int lo), (2, .int hi)] [] (am_wI h 154 8 (sp_ft τ s.1 (Int32.ofInt 4)))) from ⟨fun hz => absurd hz (rx_le x21), fun _ => ?_⟩)
      exact am_goX 2 (show (∃ ty, (some .int) = some ty ∧ narrow ty (.int ((Int32.ofInt 0))) = .int ((Int32.ofInt 0))) ∧ (am_wI h 154 8 (sp_ft τ s.1 (Int32.ofInt 4))).2.2.2.2 = 175 ∧ _ from ⟨⟨.int, rfl, rfl⟩, ex_175 x21.1, hF (sp_ft τ s.1 (Int32.ofInt 4)) _ (by simp only [sp_tN, sp_b, sp_f, cond_true, cond_false, e20, e71, sp_in, Bool.and_true, Bool.and_false, Bool.true_and, Bool.false_and]) x21⟩)
    ·
      have e71 : decide (lo ≤ sp_v τ s.1) = true := by
        obtain ⟨D, hD, ev⟩ := l.1.1.2.2.2.2.2.2 s.1 (sp_kt e20)
        exact r_cmpl hD ev hc
      clear hc
      refine am_goX 2 (show am_sh h 154 = some (11, 0) ∧ pz_S 3 (some .int) am_r205 1 Q 54 [(0, .ref 154), (1, .int lo), (2, .int hi)] [am_rf (h.2.2.1 154 6)] h from ⟨ex_154 (r_P l), ?_⟩)
      rw [ex_r154_6 (h := h) (r_P l)]
      refine am_goX 3 (show am_sh h 154 = some (11, 0) ∧ ∃ jj nn : Nat, am_sh h 158 = some (14, nn) ∧ jj < nn ∧ (h.1 154 7) = nI jj ∧ pz_S 3 (some .int) am_r205 1 Q 59 [(0, .ref 154), (1, .int lo), (2, .int hi)] [.long (h.2.1 158 jj)] h from ⟨ex_154 (r_P l), s.1, 1002, ex_158 (r_P l), (by have := r_N l; first | omega | (dsimp only at this; omega) | (dsimp only at this ⊢; omega)), r_a l, ?_⟩)
      rw [r_v l (sp_kn (by decide) e20)]
      refine am_goX 4 (show ((lg_cmp ((τ s.1).2.1) ((hi).toInt64)) ≤ 0 → pz_S 3 (some .int) am_r205 1 Q 70 [(0, .ref 154), (1, .int lo), (2, .int hi)] [] h) ∧ (¬ ((lg_cmp ((τ s.1).2.1) ((hi).toInt64)) ≤ 0) → pz_S 3 (some .int) am_r205 1 Q 65 [(0, .ref 154), (1, .int lo), (2, .int hi)] [] h) from ⟨fun hc => ?_, fun hc => ?_⟩)
      ·
        have e72 : decide (sp_v τ s.1 ≤ hi) = true := by
          obtain ⟨D, hD, ev⟩ := l.1.1.2.2.2.2.2.2 s.1 (sp_kt e20)
          exact r_cmph hD ev hc
        clear hc
        refine am_goX 2 (show am_sh h 154 = some (11, 0) ∧ pz_S 3 (some .int) am_r205 1 Q 74 [(0, .ref 154), (1, .int lo), (2, .int hi)] [.int (h.1 154 8)] h from ⟨ex_154 (r_P l), ?_⟩)
        rw [r_f l]
        refine am_goX 1 (show (0 ≤ 0 → pz_S 3 (some .int) am_r205 1 Q 79 [(0, .ref 154), (1, .int lo), (2, .int hi)] [] h) ∧ (¬ (0 ≤ 0) → pz_S 3 (some .int) am_r205 1 Q 77 [(0, .ref 154), (1, .int lo), (2, .int hi)] [] h) from ⟨fun _ => ?_, fun hz => absurd (by decide) hz⟩)
        refine am_goX 6 (show (Value.ref 154).category = 1 ∧ am_sh h 154 = some (11, 0) ∧ am_sh h 154 = some (11, 0) ∧ narrow (am_fty 11 7) (.int (((h.1 154 7) + (Int32.ofInt 1)))) = .int (((h.1 154 7) + (Int32.ofInt 1))) ∧ fits (am_fty 11 7) (.int (((h.1 154 7) + (Int32.ofInt 1)))) = true ∧ pz_S 3 (some .int) am_r205 1 Q 89 [(0, .ref 154), (1, .int lo), (2, .int hi)] [] (am_wI h 154 7 (((h.1 154 7) + (Int32.ofInt 1)))) from ⟨rfl, ex_154 (r_P l), ex_154 (r_P l), rfl, rfl, ?_⟩)
        rw [r_a l, xw_i1]
        have l22 : rr h0 z τ N (s.1 + 1, s.2) (am_wI h 154 7 (nI (s.1 + 1))) := rr_nx (a := s.1) (C := s.2) l (sp_kn (by decide) e20)
        refine am_goX 2 (show am_sh (am_wI h 154 7 (nI (s.1 + 1))) 154 = some (11, 0) ∧ pz_S 3 (some .int) am_r205 1 Q 93 [(0, .ref 154), (1, .int lo), (2, .int hi)] [am_rf ((am_wI h 154 7 (nI (s.1 + 1))).2.2.1 154 6)] (am_wI h 154 7 (nI (s.1 + 1))) from ⟨ex_154 (r_P l22), ?_⟩)
        rw [ex_r154_6 (h := am_wI h 154 7 (nI (s.1 + 1))) (r_P l22)]
        refine am_goX 5 (show am_sh (am_wI h 154 7 (nI (s.1 + 1))) 154 = some (11, 0) ∧ ∃ jj nn : Nat, am_sh (am_wI h 154 7 (nI (s.1 + 1))) 158 = some (14, nn) ∧ jj < nn ∧ (((am_wI h 154 7 (nI (s.1 + 1))).1 154 7) - (Int32.ofInt 1)) = nI jj ∧ pz_S 3 (some .int) am_r205 1 Q 100 [(0, .ref 154), (1, .int lo), (2, .int hi)] [.long ((am_wI h 154 7 (nI (s.1 + 1))).2.1 158 jj)] (am_wI h 154 7 (nI (s.1 + 1))) from ⟨ex_154 (r_P l22), s.1, 1002, ex_158 (r_P l22), (by have := r_N l; omega), (by rw [r_a l22]; exact tk_sub (Nat.le_add_left 1 s.1)), ?_⟩)
        have e98 : h.2.1 158 s.1 = (τ s.1).2.1 := r_v l (sp_kn (by decide) e20)
        rw [show (am_wI h 154 7 (nI (s.1 + 1))).2.1 158 s.1 = (τ s.1).2.1 from e98]
        refine am_goX 1 (show pz_S 3 (some .int) am_r205 1 Q 101 [(0, .ref 154), (1, .int lo), (2, .int hi)] [.int ((τ s.1).2.1).toInt32] (am_wI h 154 7 (nI (s.1 + 1))) from ?_)
        have e99 : sp_tN τ lo hi s = .inr s := by simp only [sp_tN, sp_b, sp_f, cond_true, cond_false, e20, e71, e72, sp_in, Bool.and_true, Bool.and_false, Bool.true_and, Bool.false_and]
        exact am_goX 1 (show (∃ ty, (some .int) = some ty ∧ narrow ty (.int ((sp_v τ s.1))) = .int ((sp_v τ s.1))) ∧ (am_wI h 154 7 (nI (s.1 + 1))).2.2.2.2 = 175 ∧ _ from ⟨⟨.int, rfl, rfl⟩, ex_175 (r_P l22), hS _ e99 l22⟩)
      ·
        have e72 : decide (sp_v τ s.1 ≤ hi) = false := by
          obtain ⟨D, hD, ev⟩ := l.1.1.2.2.2.2.2.2 s.1 (sp_kt e20)
          exact r_cmph hD ev hc
        clear hc
        refine am_goX 3 (show am_rc h 154 11 ∧ 0 ≤ 8 ∧ h.2.2.2.2 + am_al 197 ≤ 175 ∧ am_call am_cod 1 197 [.ref 154, .int (Int32.ofInt 4)] h (fun vv h' => pz_S 3 (some .int) am_r205 1 Q 70 [(0, .ref 154), (1, .int lo), (2, .int hi)] (vv.toList ++ []) h') from ⟨Or.inl ⟨by decide, ex_154 (r_P l)⟩, by decide, ex_lim (r_P l) rfl, am_call.up (r_197 l ?_) (by omega)⟩)
        have x23 : rx h0 (sp_ft τ s.1 (Int32.ofInt 4)) (s.2.2.2.2.2.1 + z) (am_wI h 154 8 (sp_ft τ s.1 (Int32.ofInt 4))) := rr_x (s := s) l (by decide)
        refine am_goX 2 (show am_sh (am_wI h 154 8 (sp_ft τ s.1 (Int32.ofInt 4))) 154 = some (11, 0) ∧ pz_S 3 (some .int) am_r205 1 Q 74 [(0, .ref 154), (1, .int lo), (2, .int hi)] [.int ((am_wI h 154 8 (sp_ft τ s.1 (Int32.ofInt 4))).1 154 8)] (am_wI h 154 8 (sp_ft τ s.1 (Int32.ofInt 4))) from ⟨ex_154 x23.1, ?_⟩)
        rw [x23.2.1.1]
        refine am_goX 1 (show ((sp_ft τ s.1 (Int32.ofInt 4)) ≤ 0 → pz_S 3 (some .int) am_r205 1 Q 79 [(0, .ref 154), (1, .int lo), (2, .int hi)] [] (am_wI h 154 8 (sp_ft τ s.1 (Int32.ofInt 4)))) ∧ (¬ ((sp_ft τ s.1 (Int32.ofInt 4)) ≤ 0) → pz_S 3 (some .int) am_r205 1 Q 77 [(0, .ref 154), (1, .int lo), (2, .int hi)] [] (am_wI h 154 8 (sp_ft τ s.1 (Int32.ofInt 4)))) from ⟨fun hz => absurd hz (rx_le x23), fun _ => ?_⟩)
        exact am_goX 2 (show (∃ ty, (some .int) = some ty ∧ narrow ty (.int ((Int32.ofInt 0))) = .int ((Int32.ofInt 0))) ∧ (am_wI h 154 8 (sp_ft τ s.1 (Int32.ofInt 4))).2.2.2.2 = 175 ∧ _ from ⟨⟨.int, rfl, rfl⟩, ex_175 x23.1, hF (sp_ft τ s.1 (Int32.ofInt 4)) _ (by simp only [sp_tN, sp_b, sp_f, cond_true, cond_false, e20, e71, e72, sp_in, Bool.and_true, Bool.and_false, Bool.true_and, Bool.false_and]) x23⟩)
  | false =>
    refine am_goX 1 (show ((τ s.1).1 = (Int32.ofInt 2) → pz_S 3 (some .int) am_r205 1 Q 28 [(0, .ref 154), (1, .int lo), (2, .int hi)] [] h) ∧ (¬ ((τ s.1).1 = (Int32.ofInt 2)) → pz_S 3 (some .int) am_r205 1 Q 20 [(0, .ref 154), (1, .int lo), (2, .int hi)] [] h) from ⟨fun hz => absurd hz (of_decide_eq_false e20), fun _ => ?_⟩)
    refine am_goX 3 (show am_rc h 154 11 ∧ 0 ≤ 8 ∧ h.2.2.2.2 + am_al 197 ≤ 175 ∧ am_call am_cod 1 197 [.ref 154, .int (Int32.ofInt 1)] h (fun vv h' => pz_S 3 (some .int) am_r205 1 Q 25 [(0, .ref 154), (1, .int lo), (2, .int hi)] (vv.toList ++ []) h') from ⟨Or.inl ⟨by decide, ex_154 (r_P l)⟩, by decide, ex_lim (r_P l) rfl, am_call.up (r_197 l ?_) (by omega)⟩)
    have x24 : rx h0 (sp_ft τ s.1 (Int32.ofInt 1)) (s.2.2.2.2.2.1 + z) (am_wI h 154 8 (sp_ft τ s.1 (Int32.ofInt 1))) := rr_x (s := s) l (by decide)
    refine am_goX 3 (show am_sh (am_wI h 154 8 (sp_ft τ s.1 (Int32.ofInt 1))) 154 = some (11, 0) ∧ pz_S 3 (some .int) am_r205 1 Q 74 [(0, .ref 154), (1, .int lo), (2, .int hi)] [.int ((am_wI h 154 8 (sp_ft τ s.1 (Int32.ofInt 1))).1 154 8)] (am_wI h 154 8 (sp_ft τ s.1 (Int32.ofInt 1))) from ⟨ex_154 x24.1, ?_⟩)
    rw [x24.2.1.1]
    refine am_goX 1 (show ((sp_ft τ s.1 (Int32.ofInt 1)) ≤ 0 → pz_S 3 (some .int) am_r205 1 Q 79 [(0, .ref 154), (1, .int lo), (2, .int hi)] [] (am_wI h 154 8 (sp_ft τ s.1 (Int32.ofInt 1)))) ∧ (¬ ((sp_ft τ s.1 (Int32.ofInt 1)) ≤ 0) → pz_S 3 (some .int) am_r205 1 Q 77 [(0, .ref 154), (1, .int lo), (2, .int hi)] [] (am_wI h 154 8 (sp_ft τ s.1 (Int32.ofInt 1)))) from ⟨fun hz => absurd hz (rx_le x24), fun _ => ?_⟩)
    exact am_goX 2 (show (∃ ty, (some .int) = some ty ∧ narrow ty (.int ((Int32.ofInt 0))) = .int ((Int32.ofInt 0))) ∧ (am_wI h 154 8 (sp_ft τ s.1 (Int32.ofInt 1))).2.2.2.2 = 175 ∧ _ from ⟨⟨.int, rfl, rfl⟩, ex_175 x24.1, hF (sp_ft τ s.1 (Int32.ofInt 1)) _ (by simp only [sp_tN, sp_b, sp_f, cond_true, cond_false, e20, sp_in, Bool.and_true, Bool.and_false, Bool.true_and, Bool.false_and]) x24⟩)
theorem d_202 {y lo hi : Int32} (x : rx h0 F c h) (hQ : ∀ h1, rx h0 F c h1 → Q (some (.int (Int32.ofInt 0))) h1) : am_call am_cod 4 202 [.ref 154, .int y, .int lo, .int hi] h Q := by
  have hP := x.1
  refine pz_call (n := 202) (nL := 4) (rt := (some .int)) (rows := am_r202) (d := 3) (by decide +kernel) (by decide +kernel) rfl (by funext pc; rfl) (ex_175 hP) (by exact Nat.le_of_ble_eq_true rfl) ?_
  refine am_goX 3 (show am_rc h 154 11 ∧ 0 ≤ 8 ∧ h.2.2.2.2 + am_al 203 ≤ 175 ∧ am_call am_cod 3 203 [.ref 154, .int y] h (fun vv h' => pz_S 4 (some .int) am_r202 3 Q 5 [(0, .ref 154), (1, .int y), (2, .int lo), (3, .int hi)] (vv.toList ++ []) h') from ⟨Or.inl ⟨by decide, ex_154 x.1⟩, by decide, ex_lim x.1 rfl, am_call.up (d_203 x (fun h25 x26 => ?_)) (by omega)⟩)
  refine am_goX 4 (show am_rc h25 154 11 ∧ 0 ≤ 8 ∧ h25.2.2.2.2 + am_al 205 ≤ 175 ∧ am_call am_cod 3 205 [.ref 154, .int lo, .int hi] h25 (fun vv h' => pz_S 4 (some .int) am_r202 3 Q 11 [(0, .ref 154), (1, .int y), (2, .int lo), (3, .int hi)] (vv.toList ++ []) h') from ⟨Or.inl ⟨by decide, ex_154 x26.1⟩, by decide, ex_lim x26.1 rfl, am_call.up (d_205 x26 ?_) (by omega)⟩)
  exact am_goX 1 (show (∃ ty, (some .int) = some ty ∧ narrow ty (.int ((Int32.ofInt 0))) = .int ((Int32.ofInt 0))) ∧ h25.2.2.2.2 = 175 ∧ _ from ⟨⟨.int, rfl, rfl⟩, ex_175 x26.1, hQ _ x26⟩)
theorem r_202 {y lo hi : Int32} {w : Nat} {W : Int64} (hw : w < 21) (hy : y = nI w) (hW : rw_w w = W) (l : rr h0 z τ N s h) (hF : ∀ F h1, sp_b (sp_tW τ W s) (sp_tN τ lo hi) = .inl F → rx h0 F (s.2.2.2.2.2.1 + z) h1 → Q (some (.int (Int32.ofInt 0))) h1) (hS : ∀ h1, sp_tW τ W s = .inr (s.1 + 1, s.2) ∧ sp_tN τ lo hi (s.1 + 1, s.2) = .inr (s.1 + 1, s.2) → rr h0 z τ N (s.1 + 1 + 1, s.2) h1 → Q (some (.int (sp_v τ (s.1 + 1)))) h1) : am_call am_cod 4 202 [.ref 154, .int y, .int lo, .int hi] h Q := by
  have hP := r_P l
  refine pz_call (n := 202) (nL := 4) (rt := (some .int)) (rows := am_r202) (d := 3) (by decide +kernel) (by decide +kernel) rfl (by funext pc; rfl) (ex_175 hP) (by exact Nat.le_of_ble_eq_true rfl) ?_
  refine am_goX 3 (show am_rc h 154 11 ∧ 0 ≤ 8 ∧ h.2.2.2.2 + am_al 203 ≤ 175 ∧ am_call am_cod 3 203 [.ref 154, .int y] h (fun vv h' => pz_S 4 (some .int) am_r202 3 Q 5 [(0, .ref 154), (1, .int y), (2, .int lo), (3, .int hi)] (vv.toList ++ []) h') from ⟨Or.inl ⟨by decide, ex_154 (r_P l)⟩, by decide, ex_lim (r_P l) rfl, am_call.up (r_203 hw hy hW l (fun F27 h28 e29 x30 => ?_) (fun h31 e32 l33 => ?_)) (by omega)⟩)
  ·
    refine am_goX 4 (show am_rc h28 154 11 ∧ 0 ≤ 8 ∧ h28.2.2.2.2 + am_al 205 ≤ 175 ∧ am_call am_cod 3 205 [.ref 154, .int lo, .int hi] h28 (fun vv h' => pz_S 4 (some .int) am_r202 3 Q 11 [(0, .ref 154), (1, .int y), (2, .int lo), (3, .int hi)] (vv.toList ++ []) h') from ⟨Or.inl ⟨by decide, ex_154 x30.1⟩, by decide, ex_lim x30.1 rfl, am_call.up (d_205 x30 ?_) (by omega)⟩)
    exact am_goX 1 (show (∃ ty, (some .int) = some ty ∧ narrow ty (.int ((Int32.ofInt 0))) = .int ((Int32.ofInt 0))) ∧ h28.2.2.2.2 = 175 ∧ _ from ⟨⟨.int, rfl, rfl⟩, ex_175 x30.1, hF F27 _ (by simp only [sp_b, sp_f, cond_true, cond_false, e29]) x30⟩)
  ·
    refine am_goX 4 (show am_rc h31 154 11 ∧ 0 ≤ 8 ∧ h31.2.2.2.2 + am_al 205 ≤ 175 ∧ am_call am_cod 3 205 [.ref 154, .int lo, .int hi] h31 (fun vv h' => pz_S 4 (some .int) am_r202 3 Q 11 [(0, .ref 154), (1, .int y), (2, .int lo), (3, .int hi)] (vv.toList ++ []) h') from ⟨Or.inl ⟨by decide, ex_154 (r_P l33)⟩, by decide, ex_lim (r_P l33) rfl, am_call.up (r_205 (s := (s.1 + 1, s.2)) l33 (fun F34 h35 e36 x37 => ?_) (fun h38 e39 l40 => ?_)) (by omega)⟩)
    ·
      exact am_goX 1 (show (∃ ty, (some .int) = some ty ∧ narrow ty (.int ((Int32.ofInt 0))) = .int ((Int32.ofInt 0))) ∧ h35.2.2.2.2 = 175 ∧ _ from ⟨⟨.int, rfl, rfl⟩, ex_175 x37.1, hF F34 _ (by simp only [sp_b, sp_f, cond_true, cond_false, e32, e36]) x37⟩)
    ·
      exact am_goX 1 (show (∃ ty, (some .int) = some ty ∧ narrow ty (.int ((sp_v τ (s.1 + 1)))) = .int ((sp_v τ (s.1 + 1)))) ∧ h38.2.2.2.2 = 175 ∧ _ from ⟨⟨.int, rfl, rfl⟩, ex_175 (r_P l40), hS _ ⟨e32, e39⟩ l40⟩)
/-- the last of so many words that is at hand -/
def wq (τ : sp_T) (a f : Nat) : Nat → Int32
  | 0 => Int32.ofInt (-1)
  | m + 1 => bif sp_w τ a (rw_w (f + m)) then nI m else wq τ a f m
theorem r_199l {y : Int32} {f M : Nat} (hM : f + M ≤ 21) (hy : y = nI f) (l : rr h0 z τ N s h) (hQ : Q (some (.int (wq τ s.1 f M))) h) : ∀ (m i : Nat), i + m = M → pz_S 5 (some .int) am_r199 1 Q 5 [(4, .int (nI i)), (3, .int (wq τ s.1 f i)), (0, .ref 154), (1, .int y), (2, .int (nI M))] [] h := by
  have hP := r_P l
  intro m
  induction m with
  | zero =>
    intro i hi
    have ei : i = M := by omega
    subst ei
    refine am_goX 3 (show ((nI i) ≤ (nI i) → pz_S 5 (some .int) am_r199 1 Q 35 [(4, .int (nI i)), (3, .int (wq τ s.1 f i)), (0, .ref 154), (1, .int y), (2, .int (nI i))] [] h) ∧ (¬ ((nI i) ≤ (nI i)) → pz_S 5 (some .int) am_r199 1 Q 11 [(4, .int (nI i)), (3, .int (wq τ s.1 f i)), (0, .ref 154), (1, .int y), (2, .int (nI i))] [] h) from ⟨fun _ => ?_, fun hz => absurd (nI_le (Nat.le_refl i) (by omega)) hz⟩)
    exact am_goX 2 (show (∃ ty, (some .int) = some ty ∧ narrow ty (.int ((wq τ s.1 f i))) = .int ((wq τ s.1 f i))) ∧ h.2.2.2.2 = 175 ∧ _ from ⟨⟨.int, rfl, rfl⟩, ex_175 (r_P l), hQ⟩)
  | succ m ih =>
    intro i hi
    refine am_goX 3 (show ((nI M) ≤ (nI i) → pz_S 5 (some .int) am_r199 1 Q 35 [(4, .int (nI i)), (3, .int (wq τ s.1 f i)), (0, .ref 154), (1, .int y), (2, .int (nI M))] [] h) ∧ (¬ ((nI M) ≤ (nI i)) → pz_S 5 (some .int) am_r199 1 Q 11 [(4, .int (nI i)), (3, .int (wq τ s.1 f i)), (0, .ref 154), (1, .int y), (2, .int (nI M))] [] h) from ⟨fun hz => absurd hz (by rw [nI_leI (by omega) (by omega)]; omega), fun _ => ?_⟩)
    refine am_goX 5 (show am_rc h 154 11 ∧ 0 ≤ 8 ∧ h.2.2.2.2 + am_al 195 ≤ 175 ∧ am_call am_cod 1 195 [.ref 154, .int (y + (nI i))] h (fun vv h' => pz_S 5 (some .int) am_r199 1 Q 19 [(4, .int (nI i)), (3, .int (wq τ s.1 f i)), (0, .ref 154), (1, .int y), (2, .int (nI M))] (vv.toList ++ []) h') from ⟨Or.inl ⟨by decide, ex_154 (r_P l)⟩, by decide, ex_lim (r_P l) rfl, r_195 (w := f + i) (by omega) (by rw [hy]; exact nI_add f i) rfl l ?_⟩)
    cases e : sp_w τ s.1 (rw_w (f + i)) with
    | true =>
      refine am_goX 1 (show ((pz_b (true)) = 0 → pz_S 5 (some .int) am_r199 1 Q 27 [(4, .int (nI i)), (3, .int (wq τ s.1 f i)), (0, .ref 154), (1, .int y), (2, .int (nI M))] [] h) ∧ (¬ ((pz_b (true)) = 0) → pz_S 5 (some .int) am_r199 1 Q 22 [(4, .int (nI i)), (3, .int (wq τ s.1 f i)), (0, .ref 154), (1, .int y), (2, .int (nI M))] [] h) from ⟨fun hz => absurd hz (by decide), fun _ => ?_⟩)
      refine am_goX 5 (show 3 < 5 ∧ 4 < 5 ∧ pz_S 5 (some .int) am_r199 1 Q 5 [(4, .int ((nI i) + Int32.ofInt 1)), (3, .int (nI i)), (0, .ref 154), (1, .int y), (2, .int (nI M))] [] h from ⟨by decide, by decide, ?_⟩)
      have hx : wq τ s.1 f (i + 1) = nI i := by
        show (bif sp_w τ s.1 (rw_w (f + i)) then nI i else wq τ s.1 f i) = _
        rw [e]
        rfl
      have hg := ih (i + 1) (by omega)
      rw [hx] at hg
      rw [xw_i1]
      exact hg
    | false =>
      refine am_goX 1 (show ((pz_b (false)) = 0 → pz_S 5 (some .int) am_r199 1 Q 27 [(4, .int (nI i)), (3, .int (wq τ s.1 f i)), (0, .ref 154), (1, .int y), (2, .int (nI M))] [] h) ∧ (¬ ((pz_b (false)) = 0) → pz_S 5 (some .int) am_r199 1 Q 22 [(4, .int (nI i)), (3, .int (wq τ s.1 f i)), (0, .ref 154), (1, .int y), (2, .int (nI M))] [] h) from ⟨fun _ => ?_, fun hz => absurd (by decide) hz⟩)
      refine am_goX 4 (show 3 < 5 ∧ 4 < 5 ∧ pz_S 5 (some .int) am_r199 1 Q 5 [(4, .int ((nI i) + Int32.ofInt 1)), (3, .int (wq τ s.1 f i)), (0, .ref 154), (1, .int y), (2, .int (nI M))] [] h from ⟨by decide, by decide, ?_⟩)
      have hx : wq τ s.1 f (i + 1) = wq τ s.1 f i := by
        show (bif sp_w τ s.1 (rw_w (f + i)) then nI i else wq τ s.1 f i) = _
        rw [e]
        rfl
      have hg := ih (i + 1) (by omega)
      rw [hx] at hg
      rw [xw_i1]
      exact hg
theorem r_199 {y x : Int32} {f M : Nat} (hM : f + M ≤ 21) (hy : y = nI f) (hx : x = nI M) (l : rr h0 z τ N s h) (hQ : Q (some (.int (wq τ s.1 f M))) h) : am_call am_cod 2 199 [.ref 154, .int y, .int x] h Q := by
  have hP := r_P l
  rw [hx]
  refine pz_call (n := 199) (nL := 5) (rt := (some .int)) (rows := am_r199) (d := 1) (by decide +kernel) (by decide +kernel) rfl (by funext pc; rfl) (ex_175 hP) (by exact Nat.le_of_ble_eq_true rfl) ?_
  refine am_goX 4 (show 3 < 5 ∧ 4 < 5 ∧ pz_S 5 (some .int) am_r199 1 Q 5 [(4, .int (Int32.ofInt 0)), (3, .int (Int32.ofInt (-1))), (0, .ref 154), (1, .int y), (2, .int (nI M))] [] h from ⟨by decide, by decide, ?_⟩)
  exact r_199l hM hy l hQ M 0 (Nat.zero_add _)
theorem d_198 (x : rx h0 F c h) (hQ : Q (some (.int (Int32.ofInt 0))) h) : am_call am_cod 3 198 [.ref 154] h Q := by
  have hP := x.1
  refine pz_call (n := 198) (nL := 1) (rt := (some .boolean)) (rows := am_r198) (d := 2) (by decide +kernel) (by decide +kernel) rfl (by funext pc; rfl) (ex_175 hP) (by exact Nat.le_of_ble_eq_true rfl) ?_
  refine am_goX 2 (show am_sh h 154 = some (11, 0) ∧ pz_S 1 (some .boolean) am_r198 2 Q 4 [(0, .ref 154)] [.int (h.1 154 8)] h from ⟨ex_154 x.1, ?_⟩)
  rw [x.2.1.1]
  refine am_goX 1 (show (¬ (F) = 0 → pz_S 1 (some .boolean) am_r198 2 Q 34 [(0, .ref 154)] [] h) ∧ (¬ ¬ (F) = 0 → pz_S 1 (some .boolean) am_r198 2 Q 7 [(0, .ref 154)] [] h) from ⟨fun _ => ?_, fun hz => absurd (rx_ne x) hz⟩)
  exact am_goX 2 (show (∃ ty, (some .boolean) = some ty ∧ narrow ty (.int ((Int32.ofInt 0))) = .int ((Int32.ofInt 0))) ∧ h.2.2.2.2 = 175 ∧ _ from ⟨⟨.boolean, rfl, rfl⟩, ex_175 x.1, hQ⟩)
theorem wq_v (τ : sp_T) (a f : Nat) : ∀ m, m ≤ 21 → (wq τ a f m = Int32.ofInt (-1) ∧ (∀ j, j < m → sp_w τ a (rw_w (f + j)) = false)) ∨ (∃ j, j < m ∧ wq τ a f m = nI j ∧ sp_w τ a (rw_w (f + j)) = true)
  | 0, _ => Or.inl ⟨rfl, fun j hj => absurd hj (Nat.not_lt_zero j)⟩
  | m + 1, hm => by
    cases e : sp_w τ a (rw_w (f + m)) with
    | true =>
      refine Or.inr ⟨m, by omega, ?_, e⟩
      show (bif sp_w τ a (rw_w (f + m)) then nI m else wq τ a f m) = _
      rw [e]
      rfl
    | false =>
      have hx : wq τ a f (m + 1) = wq τ a f m := by
        show (bif sp_w τ a (rw_w (f + m)) then nI m else wq τ a f m) = _
        rw [e]
        rfl
      rw [hx]
      rcases wq_v τ a f m (by omega) with ⟨w1, w2⟩ | ⟨j, w1, w2, w3⟩
      · refine Or.inl ⟨w1, fun j hj => ?_⟩
        by_cases ej : j = m
        · rw [ej]; exact e
        · exact w2 j (by omega)
      · exact Or.inr ⟨j, by omega, w2, w3⟩
theorem nI_0le {j : Nat} (hj : j < 1000) : (0 : Int32) ≤ nI j := by
  show nI 0 ≤ nI j
  exact nI_le (Nat.zero_le _) (by omega)
theorem wq_n {τ : sp_T} {a : Nat} (e : sp_k τ a 1 = true) : sp_n τ a = decide (¬ 0 ≤ wq τ a 0 17) := by
  have h1 : ∀ w : Int64, sp_w τ a w = decide ((τ a).2.1 = w) := fun w => sp_w_e e
  have k1 : ∀ w, w ∈ sp_rs → ∃ j, j < 17 ∧ rw_w (0 + j) = w := by decide +kernel
  have k2 : ∀ j, j < 17 → rw_w (0 + j) ∈ sp_rs := by decide +kernel
  unfold sp_n
  rw [e, Bool.true_and]
  rcases wq_v τ a 0 17 (by decide) with ⟨w1, w2⟩ | ⟨j, w1, w2, w3⟩
  · rw [w1, decide_eq_true (show ¬ (0 : Int32) ≤ Int32.ofInt (-1) by decide), List.all_eq_true]
    intro w hw
    obtain ⟨j, j1, j2⟩ := k1 w hw
    have h2 := w2 j j1
    rw [j2, h1] at h2
    rw [h2]
    rfl
  · rw [w2, decide_eq_false (fun hz : ¬ (0 : Int32) ≤ nI j => hz (nI_0le (by omega))), List.all_eq_false]
    refine ⟨rw_w (0 + j), k2 j w1, ?_⟩
    rw [← h1, w3]
    decide
theorem r_198 (l : rr h0 z τ N s h) (hQ : Q (some (.int (pz_b (sp_n τ s.1)))) h) : am_call am_cod 3 198 [.ref 154] h Q := by
  have hP := r_P l
  refine pz_call (n := 198) (nL := 1) (rt := (some .boolean)) (rows := am_r198) (d := 2) (by decide +kernel) (by decide +kernel) rfl (by funext pc; rfl) (ex_175 hP) (by exact Nat.le_of_ble_eq_true rfl) ?_
  refine am_goX 2 (show am_sh h 154 = some (11, 0) ∧ pz_S 1 (some .boolean) am_r198 2 Q 4 [(0, .ref 154)] [.int (h.1 154 8)] h from ⟨ex_154 (r_P l), ?_⟩)
  rw [r_f l]
  refine am_goX 1 (show (¬ 0 = 0 → pz_S 1 (some .boolean) am_r198 2 Q 34 [(0, .ref 154)] [] h) ∧ (¬ ¬ 0 = 0 → pz_S 1 (some .boolean) am_r198 2 Q 7 [(0, .ref 154)] [] h) from ⟨fun hz => absurd hz (by decide), fun _ => ?_⟩)
  refine am_goX 2 (show am_sh h 154 = some (11, 0) ∧ pz_S 1 (some .boolean) am_r198 2 Q 11 [(0, .ref 154)] [am_rf (h.2.2.1 154 4)] h from ⟨ex_154 (r_P l), ?_⟩)
  rw [ex_r154_4 (h := h) (r_P l)]
  refine am_goX 3 (show am_sh h 154 = some (11, 0) ∧ ∃ jj nn : Nat, am_sh h 156 = some (13, nn) ∧ jj < nn ∧ (h.1 154 7) = nI jj ∧ pz_S 1 (some .boolean) am_r198 2 Q 16 [(0, .ref 154)] [.int (h.1 156 jj)] h from ⟨ex_154 (r_P l), s.1, 1002, ex_156 (r_P l), (by have := r_N l; first | omega | (dsimp only at this; omega) | (dsimp only at this ⊢; omega)), r_a l, ?_⟩)
  rw [r_k l]
  refine am_goX 1 (show pz_S 1 (some .boolean) am_r198 2 Q 17 [(0, .ref 154)] [.int (Int32.ofInt 1), .int (τ s.1).1] h from ?_)
  cases e41 : sp_k τ s.1 1 with
  | true =>
    refine am_goX 1 (show (¬ (τ s.1).1 = (Int32.ofInt 1) → pz_S 1 (some .boolean) am_r198 2 Q 34 [(0, .ref 154)] [] h) ∧ (¬ ¬ (τ s.1).1 = (Int32.ofInt 1) → pz_S 1 (some .boolean) am_r198 2 Q 20 [(0, .ref 154)] [] h) from ⟨fun hz => absurd hz (fun w => w (sp_kt e41)), fun _ => ?_⟩)
    refine am_goX 4 (show am_rc h 154 11 ∧ 0 ≤ 8 ∧ h.2.2.2.2 + am_al 199 ≤ 175 ∧ am_call am_cod 2 199 [.ref 154, .int (Int32.ofInt 0), .int (Int8.ofInt 17).toInt32] h (fun vv h' => pz_S 1 (some .boolean) am_r198 2 Q 27 [(0, .ref 154)] (vv.toList ++ []) h') from ⟨Or.inl ⟨by decide, ex_154 (r_P l)⟩, by decide, ex_lim (r_P l) rfl, r_199 (f := 0) (M := 17) (by decide) (by decide) (by decide) l ?_⟩)
    refine am_goX 1 (show (0 ≤ (wq τ s.1 0 17) → pz_S 1 (some .boolean) am_r198 2 Q 34 [(0, .ref 154)] [] h) ∧ (¬ (0 ≤ (wq τ s.1 0 17)) → pz_S 1 (some .boolean) am_r198 2 Q 30 [(0, .ref 154)] [] h) from ⟨fun hc => ?_, fun hc => ?_⟩)
    ·
      have e9 := (wq_n e41).trans (decide_eq_false (fun w => w hc))
      rw [e9] at hQ
      exact am_goX 2 (show (∃ ty, (some .boolean) = some ty ∧ narrow ty (.int ((Int32.ofInt 0))) = .int ((Int32.ofInt 0))) ∧ h.2.2.2.2 = 175 ∧ _ from ⟨⟨.boolean, rfl, rfl⟩, ex_175 (r_P l), hQ⟩)
    ·
      have e9 := (wq_n e41).trans (decide_eq_true hc)
      rw [e9] at hQ
      exact am_goX 3 (show (∃ ty, (some .boolean) = some ty ∧ narrow ty (.int ((Int32.ofInt 1))) = .int ((Int32.ofInt 1))) ∧ h.2.2.2.2 = 175 ∧ _ from ⟨⟨.boolean, rfl, rfl⟩, ex_175 (r_P l), hQ⟩)
  | false =>
    refine am_goX 1 (show (¬ (τ s.1).1 = (Int32.ofInt 1) → pz_S 1 (some .boolean) am_r198 2 Q 34 [(0, .ref 154)] [] h) ∧ (¬ ¬ (τ s.1).1 = (Int32.ofInt 1) → pz_S 1 (some .boolean) am_r198 2 Q 20 [(0, .ref 154)] [] h) from ⟨fun _ => ?_, fun hz => absurd (of_decide_eq_false e41) hz⟩)
    refine am_goX 1 (show pz_S 1 (some .boolean) am_r198 2 Q 35 [(0, .ref 154)] [.int (Int32.ofInt 0)] h from ?_)
    have e9 : sp_n τ s.1 = false := by unfold sp_n; rw [e41]; rfl
    rw [e9] at hQ
    exact am_goX 1 (show (∃ ty, (some .boolean) = some ty ∧ narrow ty (.int ((Int32.ofInt 0))) = .int ((Int32.ofInt 0))) ∧ h.2.2.2.2 = 175 ∧ _ from ⟨⟨.boolean, rfl, rfl⟩, ex_175 (r_P l), hQ⟩)
theorem d_216 {p q : Int32} (hc : c < 1100) (x : rx h0 F c h) (hQ : ∀ h1, rx h0 F (c + 1) h1 → Q none h1) : am_call am_cod 1 216 [.ref 154, .int p, .int q] h Q := by
  have hP := x.1
  have ec : h.1 154 13 = nI c := x.2.2.1
  refine pz_call (n := 216) (nL := 3) (rt := none) (rows := am_r216) (d := 0) (by decide +kernel) (by decide +kernel) rfl (by funext pc; rfl) (ex_175 hP) (by exact Nat.le_of_ble_eq_true rfl) ?_
  refine am_goX 2 (show am_sh h 154 = some (11, 0) ∧ pz_S 3 none am_r216 0 Q 4 [(0, .ref 154), (1, .int p), (2, .int q)] [am_rf (h.2.2.1 154 11)] h from ⟨ex_154 hP, ?_⟩)
  rw [ex_r154_11 (h := h) hP]
  refine am_goX 6 (show am_sh h 154 = some (11, 0) ∧ ∃ jj nn : Nat, am_so h 161 = some (13, nn) ∧ jj < nn ∧ ((Int16.ofInt 1100).toInt32 + (h.1 154 13)) = nI jj ∧ pz_S 3 none am_r216 0 Q 14 [(0, .ref 154), (1, .int p), (2, .int q)] [] (am_wI h 161 jj (p)) from ⟨ex_154 hP, (1100 + c), 2200, ex_w161 hP, (by omega), (by rw [ec]; exact nI_add 1100 _), ?_⟩)
  refine am_goX 2 (show am_sh (am_wI h 161 (1100 + c) (p)) 154 = some (11, 0) ∧ pz_S 3 none am_r216 0 Q 18 [(0, .ref 154), (1, .int p), (2, .int q)] [am_rf ((am_wI h 161 (1100 + c) (p)).2.2.1 154 12)] (am_wI h 161 (1100 + c) (p)) from ⟨ex_154 hP, ?_⟩)
  rw [ex_r154_12 (h := am_wI h 161 (1100 + c) (p)) hP]
  refine am_goX 6 (show am_sh (am_wI h 161 (1100 + c) (p)) 154 = some (11, 0) ∧ ∃ jj nn : Nat, am_so (am_wI h 161 (1100 + c) (p)) 162 = some (13, nn) ∧ jj < nn ∧ ((Int16.ofInt 1100).toInt32 + ((am_wI h 161 (1100 + c) (p)).1 154 13)) = nI jj ∧ pz_S 3 none am_r216 0 Q 28 [(0, .ref 154), (1, .int p), (2, .int q)] [] (am_wI (am_wI h 161 (1100 + c) (p)) 162 jj (q)) from ⟨ex_154 hP, (1100 + c), 2200, ex_w162 hP, (by omega), (by rw [em_wn _ _ (by omega), ec]; exact nI_add 1100 _), ?_⟩)
  refine am_goX 6 (show (Value.ref 154).category = 1 ∧ am_sh (am_wI (am_wI h 161 (1100 + c) (p)) 162 (1100 + c) (q)) 154 = some (11, 0) ∧ am_sh (am_wI (am_wI h 161 (1100 + c) (p)) 162 (1100 + c) (q)) 154 = some (11, 0) ∧ narrow (am_fty 11 13) (.int ((((am_wI (am_wI h 161 (1100 + c) (p)) 162 (1100 + c) (q)).1 154 13) + (Int32.ofInt 1)))) = .int ((((am_wI (am_wI h 161 (1100 + c) (p)) 162 (1100 + c) (q)).1 154 13) + (Int32.ofInt 1))) ∧ fits (am_fty 11 13) (.int ((((am_wI (am_wI h 161 (1100 + c) (p)) 162 (1100 + c) (q)).1 154 13) + (Int32.ofInt 1)))) = true ∧ pz_S 3 none am_r216 0 Q 38 [(0, .ref 154), (1, .int p), (2, .int q)] [] (am_wI (am_wI (am_wI h 161 (1100 + c) (p)) 162 (1100 + c) (q)) 154 13 ((((am_wI (am_wI h 161 (1100 + c) (p)) 162 (1100 + c) (q)).1 154 13) + (Int32.ofInt 1)))) from ⟨rfl, ex_154 hP, ex_154 hP, rfl, rfl, ?_⟩)
  rw [em_wn _ _ (by omega), em_wn _ _ (by omega), ec, xw_i1]
  exact am_goX 1 (show (none : Option FieldType) = none ∧ (am_wI (am_wI (am_wI h 161 (1100 + c) p) 162 (1100 + c) q) 154 13 (nI (c + 1))).2.2.2.2 = 175 ∧ _ from ⟨rfl, ex_175 hP, hQ _ (rx_em x)⟩)
theorem r_216 {p q w : Int32} (l : rr h0 0 τ N s h) (hn : s.2.2.2.2.2.1 < s.1) (e1 : p = rb_o w) (e2 : q = rb_a w) (ht : s.2.2.2.2.1 = true) (hQ : ∀ h1, rr h0 0 τ N (s.1, sp_em s.2 w) h1 → Q none h1) : am_call am_cod 1 216 [.ref 154, .int p, .int q] h Q := by
  have hP := r_P l
  have hc := r_N l
  have ec : h.1 154 13 = nI s.2.2.2.2.2.1 := l.2.1.2.2.2.2.2.1.1
  refine pz_call (n := 216) (nL := 3) (rt := none) (rows := am_r216) (d := 0) (by decide +kernel) (by decide +kernel) rfl (by funext pc; rfl) (ex_175 hP) (by exact Nat.le_of_ble_eq_true rfl) ?_
  refine am_goX 2 (show am_sh h 154 = some (11, 0) ∧ pz_S 3 none am_r216 0 Q 4 [(0, .ref 154), (1, .int p), (2, .int q)] [am_rf (h.2.2.1 154 11)] h from ⟨ex_154 hP, ?_⟩)
  rw [ex_r154_11 (h := h) hP]
  refine am_goX 6 (show am_sh h 154 = some (11, 0) ∧ ∃ jj nn : Nat, am_so h 161 = some (13, nn) ∧ jj < nn ∧ ((Int16.ofInt 1100).toInt32 + (h.1 154 13)) = nI jj ∧ pz_S 3 none am_r216 0 Q 14 [(0, .ref 154), (1, .int p), (2, .int q)] [] (am_wI h 161 jj (p)) from ⟨ex_154 hP, (1100 + s.2.2.2.2.2.1), 2200, ex_w161 hP, (by omega), (by rw [ec]; exact nI_add 1100 _), ?_⟩)
  refine am_goX 2 (show am_sh (am_wI h 161 (1100 + s.2.2.2.2.2.1) (p)) 154 = some (11, 0) ∧ pz_S 3 none am_r216 0 Q 18 [(0, .ref 154), (1, .int p), (2, .int q)] [am_rf ((am_wI h 161 (1100 + s.2.2.2.2.2.1) (p)).2.2.1 154 12)] (am_wI h 161 (1100 + s.2.2.2.2.2.1) (p)) from ⟨ex_154 hP, ?_⟩)
  rw [ex_r154_12 (h := am_wI h 161 (1100 + s.2.2.2.2.2.1) (p)) hP]
  refine am_goX 6 (show am_sh (am_wI h 161 (1100 + s.2.2.2.2.2.1) (p)) 154 = some (11, 0) ∧ ∃ jj nn : Nat, am_so (am_wI h 161 (1100 + s.2.2.2.2.2.1) (p)) 162 = some (13, nn) ∧ jj < nn ∧ ((Int16.ofInt 1100).toInt32 + ((am_wI h 161 (1100 + s.2.2.2.2.2.1) (p)).1 154 13)) = nI jj ∧ pz_S 3 none am_r216 0 Q 28 [(0, .ref 154), (1, .int p), (2, .int q)] [] (am_wI (am_wI h 161 (1100 + s.2.2.2.2.2.1) (p)) 162 jj (q)) from ⟨ex_154 hP, (1100 + s.2.2.2.2.2.1), 2200, ex_w162 hP, (by omega), (by rw [em_wn _ _ (by omega), ec]; exact nI_add 1100 _), ?_⟩)
  refine am_goX 6 (show (Value.ref 154).category = 1 ∧ am_sh (am_wI (am_wI h 161 (1100 + s.2.2.2.2.2.1) (p)) 162 (1100 + s.2.2.2.2.2.1) (q)) 154 = some (11, 0) ∧ am_sh (am_wI (am_wI h 161 (1100 + s.2.2.2.2.2.1) (p)) 162 (1100 + s.2.2.2.2.2.1) (q)) 154 = some (11, 0) ∧ narrow (am_fty 11 13) (.int ((((am_wI (am_wI h 161 (1100 + s.2.2.2.2.2.1) (p)) 162 (1100 + s.2.2.2.2.2.1) (q)).1 154 13) + (Int32.ofInt 1)))) = .int ((((am_wI (am_wI h 161 (1100 + s.2.2.2.2.2.1) (p)) 162 (1100 + s.2.2.2.2.2.1) (q)).1 154 13) + (Int32.ofInt 1))) ∧ fits (am_fty 11 13) (.int ((((am_wI (am_wI h 161 (1100 + s.2.2.2.2.2.1) (p)) 162 (1100 + s.2.2.2.2.2.1) (q)).1 154 13) + (Int32.ofInt 1)))) = true ∧ pz_S 3 none am_r216 0 Q 38 [(0, .ref 154), (1, .int p), (2, .int q)] [] (am_wI (am_wI (am_wI h 161 (1100 + s.2.2.2.2.2.1) (p)) 162 (1100 + s.2.2.2.2.2.1) (q)) 154 13 ((((am_wI (am_wI h 161 (1100 + s.2.2.2.2.2.1) (p)) 162 (1100 + s.2.2.2.2.2.1) (q)).1 154 13) + (Int32.ofInt 1)))) from ⟨rfl, ex_154 hP, ex_154 hP, rfl, rfl, ?_⟩)
  rw [em_wn _ _ (by omega), em_wn _ _ (by omega), ec, xw_i1]
  exact am_goX 1 (show (none : Option FieldType) = none ∧ (am_wI (am_wI (am_wI h 161 (1100 + s.2.2.2.2.2.1) p) 162 (1100 + s.2.2.2.2.2.1) q) 154 13 (nI (s.2.2.2.2.2.1 + 1))).2.2.2.2 = 175 ∧ _ from ⟨rfl, ex_175 hP, hQ _ (rr_em (a := s.1) (C := s.2) l hn e1 e2 ht)⟩)
theorem r_216n {p q w : Int32} (l : rr h0 0 τ N s h) (e1 : p = rb_o w) (e2 : q = rb_a w) (ht : s.2.2.2.2.1 = true) (hQ : ∀ h1, rr1 h0 τ N s.1 (sp_em s.2 w) h1 → Q none h1) : am_call am_cod 1 216 [.ref 154, .int p, .int q] h Q := by
  have hP := r_P l
  have hc := r_N l
  have ec : h.1 154 13 = nI s.2.2.2.2.2.1 := l.2.1.2.2.2.2.2.1.1
  refine pz_call (n := 216) (nL := 3) (rt := none) (rows := am_r216) (d := 0) (by decide +kernel) (by decide +kernel) rfl (by funext pc; rfl) (ex_175 hP) (by exact Nat.le_of_ble_eq_true rfl) ?_
  refine am_goX 2 (show am_sh h 154 = some (11, 0) ∧ pz_S 3 none am_r216 0 Q 4 [(0, .ref 154), (1, .int p), (2, .int q)] [am_rf (h.2.2.1 154 11)] h from ⟨ex_154 hP, ?_⟩)
  rw [ex_r154_11 (h := h) hP]
  refine am_goX 6 (show am_sh h 154 = some (11, 0) ∧ ∃ jj nn : Nat, am_so h 161 = some (13, nn) ∧ jj < nn ∧ ((Int16.ofInt 1100).toInt32 + (h.1 154 13)) = nI jj ∧ pz_S 3 none am_r216 0 Q 14 [(0, .ref 154), (1, .int p), (2, .int q)] [] (am_wI h 161 jj (p)) from ⟨ex_154 hP, (1100 + s.2.2.2.2.2.1), 2200, ex_w161 hP, (by omega), (by rw [ec]; exact nI_add 1100 _), ?_⟩)
  refine am_goX 2 (show am_sh (am_wI h 161 (1100 + s.2.2.2.2.2.1) (p)) 154 = some (11, 0) ∧ pz_S 3 none am_r216 0 Q 18 [(0, .ref 154), (1, .int p), (2, .int q)] [am_rf ((am_wI h 161 (1100 + s.2.2.2.2.2.1) (p)).2.2.1 154 12)] (am_wI h 161 (1100 + s.2.2.2.2.2.1) (p)) from ⟨ex_154 hP, ?_⟩)
  rw [ex_r154_12 (h := am_wI h 161 (1100 + s.2.2.2.2.2.1) (p)) hP]
  refine am_goX 6 (show am_sh (am_wI h 161 (1100 + s.2.2.2.2.2.1) (p)) 154 = some (11, 0) ∧ ∃ jj nn : Nat, am_so (am_wI h 161 (1100 + s.2.2.2.2.2.1) (p)) 162 = some (13, nn) ∧ jj < nn ∧ ((Int16.ofInt 1100).toInt32 + ((am_wI h 161 (1100 + s.2.2.2.2.2.1) (p)).1 154 13)) = nI jj ∧ pz_S 3 none am_r216 0 Q 28 [(0, .ref 154), (1, .int p), (2, .int q)] [] (am_wI (am_wI h 161 (1100 + s.2.2.2.2.2.1) (p)) 162 jj (q)) from ⟨ex_154 hP, (1100 + s.2.2.2.2.2.1), 2200, ex_w162 hP, (by omega), (by rw [em_wn _ _ (by omega), ec]; exact nI_add 1100 _), ?_⟩)
  refine am_goX 6 (show (Value.ref 154).category = 1 ∧ am_sh (am_wI (am_wI h 161 (1100 + s.2.2.2.2.2.1) (p)) 162 (1100 + s.2.2.2.2.2.1) (q)) 154 = some (11, 0) ∧ am_sh (am_wI (am_wI h 161 (1100 + s.2.2.2.2.2.1) (p)) 162 (1100 + s.2.2.2.2.2.1) (q)) 154 = some (11, 0) ∧ narrow (am_fty 11 13) (.int ((((am_wI (am_wI h 161 (1100 + s.2.2.2.2.2.1) (p)) 162 (1100 + s.2.2.2.2.2.1) (q)).1 154 13) + (Int32.ofInt 1)))) = .int ((((am_wI (am_wI h 161 (1100 + s.2.2.2.2.2.1) (p)) 162 (1100 + s.2.2.2.2.2.1) (q)).1 154 13) + (Int32.ofInt 1))) ∧ fits (am_fty 11 13) (.int ((((am_wI (am_wI h 161 (1100 + s.2.2.2.2.2.1) (p)) 162 (1100 + s.2.2.2.2.2.1) (q)).1 154 13) + (Int32.ofInt 1)))) = true ∧ pz_S 3 none am_r216 0 Q 38 [(0, .ref 154), (1, .int p), (2, .int q)] [] (am_wI (am_wI (am_wI h 161 (1100 + s.2.2.2.2.2.1) (p)) 162 (1100 + s.2.2.2.2.2.1) (q)) 154 13 ((((am_wI (am_wI h 161 (1100 + s.2.2.2.2.2.1) (p)) 162 (1100 + s.2.2.2.2.2.1) (q)).1 154 13) + (Int32.ofInt 1)))) from ⟨rfl, ex_154 hP, ex_154 hP, rfl, rfl, ?_⟩)
  rw [em_wn _ _ (by omega), em_wn _ _ (by omega), ec, xw_i1]
  exact am_goX 1 (show (none : Option FieldType) = none ∧ (am_wI (am_wI (am_wI h 161 (1100 + s.2.2.2.2.2.1) p) 162 (1100 + s.2.2.2.2.2.1) q) 154 13 (nI (s.2.2.2.2.2.1 + 1))).2.2.2.2 = 175 ∧ _ from ⟨rfl, ex_175 hP, hQ _ (rr1_em (a := s.1) (C := s.2) l e1 e2 ht)⟩)
theorem r_216e {q : Int32} (l : rr h0 0 τ N s h) (ht : s.2.2.2.2.1 = true) (hQ : ∀ h1, rr h0 1 τ N s h1 → Q none h1) : am_call am_cod 1 216 [.ref 154, .int (Int32.ofInt 0), .int q] h Q := by
  have hP := r_P l
  have hc := r_N l
  have ec : h.1 154 13 = nI s.2.2.2.2.2.1 := l.2.1.2.2.2.2.2.1.1
  refine pz_call (n := 216) (nL := 3) (rt := none) (rows := am_r216) (d := 0) (by decide +kernel) (by decide +kernel) rfl (by funext pc; rfl) (ex_175 hP) (by exact Nat.le_of_ble_eq_true rfl) ?_
  refine am_goX 2 (show am_sh h 154 = some (11, 0) ∧ pz_S 3 none am_r216 0 Q 4 [(0, .ref 154), (1, .int (Int32.ofInt 0)), (2, .int q)] [am_rf (h.2.2.1 154 11)] h from ⟨ex_154 hP, ?_⟩)
  rw [ex_r154_11 (h := h) hP]
  refine am_goX 6 (show am_sh h 154 = some (11, 0) ∧ ∃ jj nn : Nat, am_so h 161 = some (13, nn) ∧ jj < nn ∧ ((Int16.ofInt 1100).toInt32 + (h.1 154 13)) = nI jj ∧ pz_S 3 none am_r216 0 Q 14 [(0, .ref 154), (1, .int (Int32.ofInt 0)), (2, .int q)] [] (am_wI h 161 jj ((Int32.ofInt 0))) from ⟨ex_154 hP, (1100 + s.2.2.2.2.2.1), 2200, ex_w161 hP, (by omega), (by rw [ec]; exact nI_add 1100 _), ?_⟩)
  refine am_goX 2 (show am_sh (am_wI h 161 (1100 + s.2.2.2.2.2.1) ((Int32.ofInt 0))) 154 = some (11, 0) ∧ pz_S 3 none am_r216 0 Q 18 [(0, .ref 154), (1, .int (Int32.ofInt 0)), (2, .int q)] [am_rf ((am_wI h 161 (1100 + s.2.2.2.2.2.1) ((Int32.ofInt 0))).2.2.1 154 12)] (am_wI h 161 (1100 + s.2.2.2.2.2.1) ((Int32.ofInt 0))) from ⟨ex_154 hP, ?_⟩)
  rw [ex_r154_12 (h := am_wI h 161 (1100 + s.2.2.2.2.2.1) ((Int32.ofInt 0))) hP]
  refine am_goX 6 (show am_sh (am_wI h 161 (1100 + s.2.2.2.2.2.1) ((Int32.ofInt 0))) 154 = some (11, 0) ∧ ∃ jj nn : Nat, am_so (am_wI h 161 (1100 + s.2.2.2.2.2.1) ((Int32.ofInt 0))) 162 = some (13, nn) ∧ jj < nn ∧ ((Int16.ofInt 1100).toInt32 + ((am_wI h 161 (1100 + s.2.2.2.2.2.1) ((Int32.ofInt 0))).1 154 13)) = nI jj ∧ pz_S 3 none am_r216 0 Q 28 [(0, .ref 154), (1, .int (Int32.ofInt 0)), (2, .int q)] [] (am_wI (am_wI h 161 (1100 + s.2.2.2.2.2.1) ((Int32.ofInt 0))) 162 jj (q)) from ⟨ex_154 hP, (1100 + s.2.2.2.2.2.1), 2200, ex_w162 hP, (by omega), (by rw [em_wn _ _ (by omega), ec]; exact nI_add 1100 _), ?_⟩)
  refine am_goX 6 (show (Value.ref 154).category = 1 ∧ am_sh (am_wI (am_wI h 161 (1100 + s.2.2.2.2.2.1) ((Int32.ofInt 0))) 162 (1100 + s.2.2.2.2.2.1) (q)) 154 = some (11, 0) ∧ am_sh (am_wI (am_wI h 161 (1100 + s.2.2.2.2.2.1) ((Int32.ofInt 0))) 162 (1100 + s.2.2.2.2.2.1) (q)) 154 = some (11, 0) ∧ narrow (am_fty 11 13) (.int ((((am_wI (am_wI h 161 (1100 + s.2.2.2.2.2.1) ((Int32.ofInt 0))) 162 (1100 + s.2.2.2.2.2.1) (q)).1 154 13) + (Int32.ofInt 1)))) = .int ((((am_wI (am_wI h 161 (1100 + s.2.2.2.2.2.1) ((Int32.ofInt 0))) 162 (1100 + s.2.2.2.2.2.1) (q)).1 154 13) + (Int32.ofInt 1))) ∧ fits (am_fty 11 13) (.int ((((am_wI (am_wI h 161 (1100 + s.2.2.2.2.2.1) ((Int32.ofInt 0))) 162 (1100 + s.2.2.2.2.2.1) (q)).1 154 13) + (Int32.ofInt 1)))) = true ∧ pz_S 3 none am_r216 0 Q 38 [(0, .ref 154), (1, .int (Int32.ofInt 0)), (2, .int q)] [] (am_wI (am_wI (am_wI h 161 (1100 + s.2.2.2.2.2.1) ((Int32.ofInt 0))) 162 (1100 + s.2.2.2.2.2.1) (q)) 154 13 ((((am_wI (am_wI h 161 (1100 + s.2.2.2.2.2.1) ((Int32.ofInt 0))) 162 (1100 + s.2.2.2.2.2.1) (q)).1 154 13) + (Int32.ofInt 1)))) from ⟨rfl, ex_154 hP, ex_154 hP, rfl, rfl, ?_⟩)
  rw [em_wn _ _ (by omega), em_wn _ _ (by omega), ec, xw_i1]
  exact am_goX 1 (show (none : Option FieldType) = none ∧ (am_wI (am_wI (am_wI h 161 (1100 + s.2.2.2.2.2.1) (Int32.ofInt 0)) 162 (1100 + s.2.2.2.2.2.1) q) 154 13 (nI (s.2.2.2.2.2.1 + 1))).2.2.2.2 = 175 ∧ _ from ⟨rfl, ex_175 hP, hQ _ (rr_end (a := s.1) (C := s.2) l ht)⟩)
theorem d_201 {y w : Int32} (x : rx h0 F c h) (hQ : ∀ h1, rx h0 F c h1 → Q (some (.int (Int32.ofInt 0))) h1) : am_call am_cod 3 201 [.ref 154, .int y, .int w] h Q := by
  have hP := x.1
  refine pz_call (n := 201) (nL := 4) (rt := (some .int)) (rows := am_r201) (d := 2) (by decide +kernel) (by decide +kernel) rfl (by funext pc; rfl) (ex_175 hP) (by exact Nat.le_of_ble_eq_true rfl) ?_
  refine am_goX 2 (show am_sh h 154 = some (11, 0) ∧ pz_S 4 (some .int) am_r201 2 Q 4 [(0, .ref 154), (1, .int y), (2, .int w)] [.int (h.1 154 8)] h from ⟨ex_154 x.1, ?_⟩)
  rw [x.2.1.1]
  refine am_goX 1 (show ((F) ≤ 0 → pz_S 4 (some .int) am_r201 2 Q 11 [(0, .ref 154), (1, .int y), (2, .int w)] [] h) ∧ (¬ ((F) ≤ 0) → pz_S 4 (some .int) am_r201 2 Q 7 [(0, .ref 154), (1, .int y), (2, .int w)] [] h) from ⟨fun hz => absurd hz (rx_le x), fun _ => ?_⟩)
  refine am_goX 5 (show 3 < 4 ∧ am_sh h 154 = some (11, 0) ∧ pz_S 4 (some .int) am_r201 2 Q 22 [(3, .int (Int32.ofInt (-1))), (0, .ref 154), (1, .int y), (2, .int w)] [.int (h.1 154 8)] h from ⟨by decide, ex_154 x.1, ?_⟩)
  rw [x.2.1.1]
  refine am_goX 1 (show (¬ (F) = 0 → pz_S 4 (some .int) am_r201 2 Q 34 [(3, .int (Int32.ofInt (-1))), (0, .ref 154), (1, .int y), (2, .int w)] [] h) ∧ (¬ ¬ (F) = 0 → pz_S 4 (some .int) am_r201 2 Q 25 [(3, .int (Int32.ofInt (-1))), (0, .ref 154), (1, .int y), (2, .int w)] [] h) from ⟨fun _ => ?_, fun hz => absurd (rx_ne x) hz⟩)
  refine am_goX 5 (show (Value.ref 154).category = 1 ∧ am_sh h 154 = some (11, 0) ∧ am_sh h 154 = some (11, 0) ∧ pz_S 4 (some .int) am_r201 2 Q 43 [(3, .int (Int32.ofInt (-1))), (0, .ref 154), (1, .int y), (2, .int w)] [.int (h.1 154 8), .int (h.1 154 7), .ref 154] h from ⟨rfl, ex_154 x.1, ex_154 x.1, ?_⟩)
  rw [x.2.1.1]
  refine am_goX 1 (show ((F) ≤ 0 → pz_S 4 (some .int) am_r201 2 Q 50 [(3, .int (Int32.ofInt (-1))), (0, .ref 154), (1, .int y), (2, .int w)] [.int (h.1 154 7), .ref 154] h) ∧ (¬ ((F) ≤ 0) → pz_S 4 (some .int) am_r201 2 Q 46 [(3, .int (Int32.ofInt (-1))), (0, .ref 154), (1, .int y), (2, .int w)] [.int (h.1 154 7), .ref 154] h) from ⟨fun hz => absurd hz (rx_le x), fun _ => ?_⟩)
  refine am_goX 4 (show am_sh h 154 = some (11, 0) ∧ narrow (am_fty 11 7) (.int (((h.1 154 7) + (Int32.ofInt 0)))) = .int (((h.1 154 7) + (Int32.ofInt 0))) ∧ fits (am_fty 11 7) (.int (((h.1 154 7) + (Int32.ofInt 0)))) = true ∧ pz_S 4 (some .int) am_r201 2 Q 55 [(3, .int (Int32.ofInt (-1))), (0, .ref 154), (1, .int y), (2, .int w)] [] (am_wI h 154 7 (((h.1 154 7) + (Int32.ofInt 0)))) from ⟨ex_154 x.1, rfl, rfl, ?_⟩)
  have x42 : rx h0 (F) (c) (am_wI h 154 7 (((h.1 154 7) + (Int32.ofInt 0)))) := rx_at x
  refine am_goX 2 (show am_sh (am_wI h 154 7 (((h.1 154 7) + (Int32.ofInt 0)))) 154 = some (11, 0) ∧ pz_S 4 (some .int) am_r201 2 Q 59 [(3, .int (Int32.ofInt (-1))), (0, .ref 154), (1, .int y), (2, .int w)] [.int ((am_wI h 154 7 (((h.1 154 7) + (Int32.ofInt 0)))).1 154 8)] (am_wI h 154 7 (((h.1 154 7) + (Int32.ofInt 0)))) from ⟨ex_154 x42.1, ?_⟩)
  rw [x42.2.1.1]
  refine am_goX 1 (show ((F) ≤ 0 → pz_S 4 (some .int) am_r201 2 Q 66 [(3, .int (Int32.ofInt (-1))), (0, .ref 154), (1, .int y), (2, .int w)] [] (am_wI h 154 7 (((h.1 154 7) + (Int32.ofInt 0))))) ∧ (¬ ((F) ≤ 0) → pz_S 4 (some .int) am_r201 2 Q 62 [(3, .int (Int32.ofInt (-1))), (0, .ref 154), (1, .int y), (2, .int w)] [] (am_wI h 154 7 (((h.1 154 7) + (Int32.ofInt 0))))) from ⟨fun hz => absurd hz (rx_le x42), fun _ => ?_⟩)
  exact am_goX 3 (show (∃ ty, (some .int) = some ty ∧ narrow ty (.int ((Int32.ofInt 0))) = .int ((Int32.ofInt 0))) ∧ (am_wI h 154 7 (((h.1 154 7) + (Int32.ofInt 0)))).2.2.2.2 = 175 ∧ _ from ⟨⟨.int, rfl, rfl⟩, ex_175 x42.1, hQ _ x42⟩)
theorem wq_k {τ : sp_T} {a : Nat} : wq τ a 10 4 = sp_ko (sp_kd τ a) := by
  have d : ∀ (i j : Nat), i < 4 → j < 4 → ¬ i = j → sp_w τ a (rw_w (10 + i)) = true → sp_w τ a (rw_w (10 + j)) = false := by
    intro i j hi hj hij e
    have k : sp_k τ a 1 = true := (Bool.and_eq_true _ _ ▸ e : _ ∧ _).1
    rw [sp_w_e k] at e ⊢
    have e := of_decide_eq_true e
    rw [e]
    have : ∀ i, i < 4 → ∀ j, j < 4 → ¬ i = j → ¬ rw_w (10 + i) = rw_w (10 + j) := by decide +kernel
    exact decide_eq_false (this i hi j hj hij)
  have r0 : rw_w (10 + 0) = 30596128 := by decide
  have r1 : rw_w (10 + 1) = 43567634 := by decide
  have r2 : rw_w (10 + 2) = 37900956 := by decide
  have r3 : rw_w (10 + 3) = 488058286 := by decide
  show (bif sp_w τ a (rw_w (10 + 3)) then nI 3 else bif sp_w τ a (rw_w (10 + 2)) then nI 2 else bif sp_w τ a (rw_w (10 + 1)) then nI 1 else bif sp_w τ a (rw_w (10 + 0)) then nI 0 else Int32.ofInt (-1)) = _
  unfold sp_kd
  rw [← r0, ← r1, ← r2, ← r3]
  cases e3 : sp_w τ a (rw_w (10 + 3)) with
  | true => rw [d 3 0 (by decide) (by decide) (by decide) e3, d 3 1 (by decide) (by decide) (by decide) e3, d 3 2 (by decide) (by decide) (by decide) e3]; rfl
  | false =>
    cases e2 : sp_w τ a (rw_w (10 + 2)) with
    | true => rw [d 2 0 (by decide) (by decide) (by decide) e2, d 2 1 (by decide) (by decide) (by decide) e2]; rfl
    | false =>
      cases e1 : sp_w τ a (rw_w (10 + 1)) with
      | true => rw [d 1 0 (by decide) (by decide) (by decide) e1]; rfl
      | false =>
        cases e0 : sp_w τ a (rw_w (10 + 0)) with
        | true => rfl
        | false => rfl
theorem sp_kd_0 {τ : sp_T} {a : Nat} {k : Int32} (e : sp_kd τ a = some k) : 0 ≤ k := by
  unfold sp_kd at e
  cases h1 : sp_w τ a 30596128 with
  | true => simp only [h1, cond_true] at e; cases e; decide
  | false =>
    simp only [h1, cond_false] at e
    cases h2 : sp_w τ a 43567634 with
    | true => simp only [h2, cond_true] at e; cases e; decide
    | false =>
      simp only [h2, cond_false] at e
      cases h3 : sp_w τ a 37900956 with
      | true => simp only [h3, cond_true] at e; cases e; decide
      | false =>
        simp only [h3, cond_false] at e
        cases h4 : sp_w τ a 488058286 with
        | true => simp only [h4, cond_true] at e; cases e; decide
        | false => simp only [h4, cond_false] at e; cases e
theorem r_201 (l : rr h0 z τ N s h) (hF : sp_kd τ s.1 = none → ∀ h1, rx h0 (sp_ft τ s.1 (Int32.ofInt 1)) (s.2.2.2.2.2.1 + z) h1 → Q (some (.int (Int32.ofInt 0))) h1) (hS : ∀ k h1, sp_kd τ s.1 = some k → rr h0 z τ N (s.1 + 1, s.2) h1 → Q (some (.int k)) h1) : am_call am_cod 3 201 [.ref 154, .int (Int8.ofInt 10).toInt32, .int (Int32.ofInt 4)] h Q := by
  have hP := r_P l
  refine pz_call (n := 201) (nL := 4) (rt := (some .int)) (rows := am_r201) (d := 2) (by decide +kernel) (by decide +kernel) rfl (by funext pc; rfl) (ex_175 hP) (by exact Nat.le_of_ble_eq_true rfl) ?_
  refine am_goX 2 (show am_sh h 154 = some (11, 0) ∧ pz_S 4 (some .int) am_r201 2 Q 4 [(0, .ref 154), (1, .int (Int8.ofInt 10).toInt32), (2, .int (Int32.ofInt 4))] [.int (h.1 154 8)] h from ⟨ex_154 (r_P l), ?_⟩)
  rw [r_f l]
  refine am_goX 1 (show (0 ≤ 0 → pz_S 4 (some .int) am_r201 2 Q 11 [(0, .ref 154), (1, .int (Int8.ofInt 10).toInt32), (2, .int (Int32.ofInt 4))] [] h) ∧ (¬ (0 ≤ 0) → pz_S 4 (some .int) am_r201 2 Q 7 [(0, .ref 154), (1, .int (Int8.ofInt 10).toInt32), (2, .int (Int32.ofInt 4))] [] h) from ⟨fun _ => ?_, fun hz => absurd (by decide) hz⟩)
  refine am_goX 4 (show am_rc h 154 11 ∧ 0 ≤ 8 ∧ h.2.2.2.2 + am_al 199 ≤ 175 ∧ am_call am_cod 2 199 [.ref 154, .int (Int8.ofInt 10).toInt32, .int (Int32.ofInt 4)] h (fun vv h' => pz_S 4 (some .int) am_r201 2 Q 17 [(0, .ref 154), (1, .int (Int8.ofInt 10).toInt32), (2, .int (Int32.ofInt 4))] (vv.toList ++ []) h') from ⟨Or.inl ⟨by decide, ex_154 (r_P l)⟩, by decide, ex_lim (r_P l) rfl, r_199 (f := 10) (M := 4) (by decide) (by decide) (by decide) l ?_⟩)
  rw [wq_k]
  cases e1 : sp_kd τ s.1 with
  | none =>
    refine am_goX 3 (show 3 < 4 ∧ am_sh h 154 = some (11, 0) ∧ pz_S 4 (some .int) am_r201 2 Q 22 [(3, .int (Int32.ofInt (-1))), (0, .ref 154), (1, .int (Int8.ofInt 10).toInt32), (2, .int (Int32.ofInt 4))] [.int (h.1 154 8)] h from ⟨by decide, ex_154 (r_P l), ?_⟩)
    rw [r_f l]
    refine am_goX 1 (show (¬ 0 = 0 → pz_S 4 (some .int) am_r201 2 Q 34 [(3, .int (Int32.ofInt (-1))), (0, .ref 154), (1, .int (Int8.ofInt 10).toInt32), (2, .int (Int32.ofInt 4))] [] h) ∧ (¬ ¬ 0 = 0 → pz_S 4 (some .int) am_r201 2 Q 25 [(3, .int (Int32.ofInt (-1))), (0, .ref 154), (1, .int (Int8.ofInt 10).toInt32), (2, .int (Int32.ofInt 4))] [] h) from ⟨fun hz => absurd hz (by decide), fun _ => ?_⟩)
    refine am_goX 2 (show (0 ≤ (Int32.ofInt (-1)) → pz_S 4 (some .int) am_r201 2 Q 34 [(3, .int (Int32.ofInt (-1))), (0, .ref 154), (1, .int (Int8.ofInt 10).toInt32), (2, .int (Int32.ofInt 4))] [] h) ∧ (¬ (0 ≤ (Int32.ofInt (-1))) → pz_S 4 (some .int) am_r201 2 Q 29 [(3, .int (Int32.ofInt (-1))), (0, .ref 154), (1, .int (Int8.ofInt 10).toInt32), (2, .int (Int32.ofInt 4))] [] h) from ⟨fun hz => absurd hz (by decide), fun _ => ?_⟩)
    refine am_goX 3 (show am_rc h 154 11 ∧ 0 ≤ 8 ∧ h.2.2.2.2 + am_al 197 ≤ 175 ∧ am_call am_cod 2 197 [.ref 154, .int (Int32.ofInt 1)] h (fun vv h' => pz_S 4 (some .int) am_r201 2 Q 34 [(3, .int (Int32.ofInt (-1))), (0, .ref 154), (1, .int (Int8.ofInt 10).toInt32), (2, .int (Int32.ofInt 4))] (vv.toList ++ []) h') from ⟨Or.inl ⟨by decide, ex_154 (r_P l)⟩, by decide, ex_lim (r_P l) rfl, am_call.up (r_197 l ?_) (by omega)⟩)
    have x43 : rx h0 (sp_ft τ s.1 (Int32.ofInt 1)) (s.2.2.2.2.2.1 + z) (am_wI h 154 8 (sp_ft τ s.1 (Int32.ofInt 1))) := rr_x (s := s) l (by decide)
    refine am_goX 5 (show (Value.ref 154).category = 1 ∧ am_sh (am_wI h 154 8 (sp_ft τ s.1 (Int32.ofInt 1))) 154 = some (11, 0) ∧ am_sh (am_wI h 154 8 (sp_ft τ s.1 (Int32.ofInt 1))) 154 = some (11, 0) ∧ pz_S 4 (some .int) am_r201 2 Q 43 [(3, .int (Int32.ofInt (-1))), (0, .ref 154), (1, .int (Int8.ofInt 10).toInt32), (2, .int (Int32.ofInt 4))] [.int ((am_wI h 154 8 (sp_ft τ s.1 (Int32.ofInt 1))).1 154 8), .int ((am_wI h 154 8 (sp_ft τ s.1 (Int32.ofInt 1))).1 154 7), .ref 154] (am_wI h 154 8 (sp_ft τ s.1 (Int32.ofInt 1))) from ⟨rfl, ex_154 x43.1, ex_154 x43.1, ?_⟩)
    rw [x43.2.1.1]
    refine am_goX 1 (show ((sp_ft τ s.1 (Int32.ofInt 1)) ≤ 0 → pz_S 4 (some .int) am_r201 2 Q 50 [(3, .int (Int32.ofInt (-1))), (0, .ref 154), (1, .int (Int8.ofInt 10).toInt32), (2, .int (Int32.ofInt 4))] [.int ((am_wI h 154 8 (sp_ft τ s.1 (Int32.ofInt 1))).1 154 7), .ref 154] (am_wI h 154 8 (sp_ft τ s.1 (Int32.ofInt 1)))) ∧ (¬ ((sp_ft τ s.1 (Int32.ofInt 1)) ≤ 0) → pz_S 4 (some .int) am_r201 2 Q 46 [(3, .int (Int32.ofInt (-1))), (0, .ref 154), (1, .int (Int8.ofInt 10).toInt32), (2, .int (Int32.ofInt 4))] [.int ((am_wI h 154 8 (sp_ft τ s.1 (Int32.ofInt 1))).1 154 7), .ref 154] (am_wI h 154 8 (sp_ft τ s.1 (Int32.ofInt 1)))) from ⟨fun hz => absurd hz (rx_le x43), fun _ => ?_⟩)
    refine am_goX 4 (show am_sh (am_wI h 154 8 (sp_ft τ s.1 (Int32.ofInt 1))) 154 = some (11, 0) ∧ narrow (am_fty 11 7) (.int ((((am_wI h 154 8 (sp_ft τ s.1 (Int32.ofInt 1))).1 154 7) + (Int32.ofInt 0)))) = .int ((((am_wI h 154 8 (sp_ft τ s.1 (Int32.ofInt 1))).1 154 7) + (Int32.ofInt 0))) ∧ fits (am_fty 11 7) (.int ((((am_wI h 154 8 (sp_ft τ s.1 (Int32.ofInt 1))).1 154 7) + (Int32.ofInt 0)))) = true ∧ pz_S 4 (some .int) am_r201 2 Q 55 [(3, .int (Int32.ofInt (-1))), (0, .ref 154), (1, .int (Int8.ofInt 10).toInt32), (2, .int (Int32.ofInt 4))] [] (am_wI (am_wI h 154 8 (sp_ft τ s.1 (Int32.ofInt 1))) 154 7 ((((am_wI h 154 8 (sp_ft τ s.1 (Int32.ofInt 1))).1 154 7) + (Int32.ofInt 0)))) from ⟨ex_154 x43.1, rfl, rfl, ?_⟩)
    have x44 : rx h0 (sp_ft τ s.1 (Int32.ofInt 1)) (s.2.2.2.2.2.1 + z) (am_wI (am_wI h 154 8 (sp_ft τ s.1 (Int32.ofInt 1))) 154 7 ((((am_wI h 154 8 (sp_ft τ s.1 (Int32.ofInt 1))).1 154 7) + (Int32.ofInt 0)))) := rx_at x43
    refine am_goX 2 (show am_sh (am_wI (am_wI h 154 8 (sp_ft τ s.1 (Int32.ofInt 1))) 154 7 ((((am_wI h 154 8 (sp_ft τ s.1 (Int32.ofInt 1))).1 154 7) + (Int32.ofInt 0)))) 154 = some (11, 0) ∧ pz_S 4 (some .int) am_r201 2 Q 59 [(3, .int (Int32.ofInt (-1))), (0, .ref 154), (1, .int (Int8.ofInt 10).toInt32), (2, .int (Int32.ofInt 4))] [.int ((am_wI (am_wI h 154 8 (sp_ft τ s.1 (Int32.ofInt 1))) 154 7 ((((am_wI h 154 8 (sp_ft τ s.1 (Int32.ofInt 1))).1 154 7) + (Int32.ofInt 0)))).1 154 8)] (am_wI (am_wI h 154 8 (sp_ft τ s.1 (Int32.ofInt 1))) 154 7 ((((am_wI h 154 8 (sp_ft τ s.1 (Int32.ofInt 1))).1 154 7) + (Int32.ofInt 0)))) from ⟨ex_154 x44.1, ?_⟩)
    rw [x44.2.1.1]
    refine am_goX 1 (show ((sp_ft τ s.1 (Int32.ofInt 1)) ≤ 0 → pz_S 4 (some .int) am_r201 2 Q 66 [(3, .int (Int32.ofInt (-1))), (0, .ref 154), (1, .int (Int8.ofInt 10).toInt32), (2, .int (Int32.ofInt 4))] [] (am_wI (am_wI h 154 8 (sp_ft τ s.1 (Int32.ofInt 1))) 154 7 ((((am_wI h 154 8 (sp_ft τ s.1 (Int32.ofInt 1))).1 154 7) + (Int32.ofInt 0))))) ∧ (¬ ((sp_ft τ s.1 (Int32.ofInt 1)) ≤ 0) → pz_S 4 (some .int) am_r201 2 Q 62 [(3, .int (Int32.ofInt (-1))), (0, .ref 154), (1, .int (Int8.ofInt 10).toInt32), (2, .int (Int32.ofInt 4))] [] (am_wI (am_wI h 154 8 (sp_ft τ s.1 (Int32.ofInt 1))) 154 7 ((((am_wI h 154 8 (sp_ft τ s.1 (Int32.ofInt 1))).1 154 7) + (Int32.ofInt 0))))) from ⟨fun hz => absurd hz (rx_le x44), fun _ => ?_⟩)
    exact am_goX 3 (show (∃ ty, (some .int) = some ty ∧ narrow ty (.int ((Int32.ofInt 0))) = .int ((Int32.ofInt 0))) ∧ (am_wI (am_wI h 154 8 (sp_ft τ s.1 (Int32.ofInt 1))) 154 7 ((((am_wI h 154 8 (sp_ft τ s.1 (Int32.ofInt 1))).1 154 7) + (Int32.ofInt 0)))).2.2.2.2 = 175 ∧ _ from ⟨⟨.int, rfl, rfl⟩, ex_175 x44.1, hF e1 _ x44⟩)
  | some k =>
    refine am_goX 3 (show 3 < 4 ∧ am_sh h 154 = some (11, 0) ∧ pz_S 4 (some .int) am_r201 2 Q 22 [(3, .int k), (0, .ref 154), (1, .int (Int8.ofInt 10).toInt32), (2, .int (Int32.ofInt 4))] [.int (h.1 154 8)] h from ⟨by decide, ex_154 (r_P l), ?_⟩)
    rw [r_f l]
    refine am_goX 1 (show (¬ 0 = 0 → pz_S 4 (some .int) am_r201 2 Q 34 [(3, .int k), (0, .ref 154), (1, .int (Int8.ofInt 10).toInt32), (2, .int (Int32.ofInt 4))] [] h) ∧ (¬ ¬ 0 = 0 → pz_S 4 (some .int) am_r201 2 Q 25 [(3, .int k), (0, .ref 154), (1, .int (Int8.ofInt 10).toInt32), (2, .int (Int32.ofInt 4))] [] h) from ⟨fun hz => absurd hz (by decide), fun _ => ?_⟩)
    refine am_goX 2 (show (0 ≤ k → pz_S 4 (some .int) am_r201 2 Q 34 [(3, .int k), (0, .ref 154), (1, .int (Int8.ofInt 10).toInt32), (2, .int (Int32.ofInt 4))] [] h) ∧ (¬ (0 ≤ k) → pz_S 4 (some .int) am_r201 2 Q 29 [(3, .int k), (0, .ref 154), (1, .int (Int8.ofInt 10).toInt32), (2, .int (Int32.ofInt 4))] [] h) from ⟨fun _ => ?_, fun hz => absurd (sp_kd_0 e1) hz⟩)
    refine am_goX 5 (show (Value.ref 154).category = 1 ∧ am_sh h 154 = some (11, 0) ∧ am_sh h 154 = some (11, 0) ∧ pz_S 4 (some .int) am_r201 2 Q 43 [(3, .int k), (0, .ref 154), (1, .int (Int8.ofInt 10).toInt32), (2, .int (Int32.ofInt 4))] [.int (h.1 154 8), .int (h.1 154 7), .ref 154] h from ⟨rfl, ex_154 (r_P l), ex_154 (r_P l), ?_⟩)
    rw [r_f l]
    refine am_goX 1 (show (0 ≤ 0 → pz_S 4 (some .int) am_r201 2 Q 50 [(3, .int k), (0, .ref 154), (1, .int (Int8.ofInt 10).toInt32), (2, .int (Int32.ofInt 4))] [.int (h.1 154 7), .ref 154] h) ∧ (¬ (0 ≤ 0) → pz_S 4 (some .int) am_r201 2 Q 46 [(3, .int k), (0, .ref 154), (1, .int (Int8.ofInt 10).toInt32), (2, .int (Int32.ofInt 4))] [.int (h.1 154 7), .ref 154] h) from ⟨fun _ => ?_, fun hz => absurd (by decide) hz⟩)
    refine am_goX 3 (show am_sh h 154 = some (11, 0) ∧ narrow (am_fty 11 7) (.int (((h.1 154 7) + (Int32.ofInt 1)))) = .int (((h.1 154 7) + (Int32.ofInt 1))) ∧ fits (am_fty 11 7) (.int (((h.1 154 7) + (Int32.ofInt 1)))) = true ∧ pz_S 4 (some .int) am_r201 2 Q 55 [(3, .int k), (0, .ref 154), (1, .int (Int8.ofInt 10).toInt32), (2, .int (Int32.ofInt 4))] [] (am_wI h 154 7 (((h.1 154 7) + (Int32.ofInt 1)))) from ⟨ex_154 (r_P l), rfl, rfl, ?_⟩)
    rw [r_a l, xw_i1]
    have l45 : rr h0 z τ N (s.1 + 1, s.2) (am_wI h 154 7 (nI (s.1 + 1))) := rr_nx (a := s.1) (C := s.2) l ((sp_kd_v e1).2)
    refine am_goX 2 (show am_sh (am_wI h 154 7 (nI (s.1 + 1))) 154 = some (11, 0) ∧ pz_S 4 (some .int) am_r201 2 Q 59 [(3, .int k), (0, .ref 154), (1, .int (Int8.ofInt 10).toInt32), (2, .int (Int32.ofInt 4))] [.int ((am_wI h 154 7 (nI (s.1 + 1))).1 154 8)] (am_wI h 154 7 (nI (s.1 + 1))) from ⟨ex_154 (r_P l45), ?_⟩)
    rw [r_f l45]
    refine am_goX 1 (show (0 ≤ 0 → pz_S 4 (some .int) am_r201 2 Q 66 [(3, .int k), (0, .ref 154), (1, .int (Int8.ofInt 10).toInt32), (2, .int (Int32.ofInt 4))] [] (am_wI h 154 7 (nI (s.1 + 1)))) ∧ (¬ (0 ≤ 0) → pz_S 4 (some .int) am_r201 2 Q 62 [(3, .int k), (0, .ref 154), (1, .int (Int8.ofInt 10).toInt32), (2, .int (Int32.ofInt 4))] [] (am_wI h 154 7 (nI (s.1 + 1)))) from ⟨fun _ => ?_, fun hz => absurd (by decide) hz⟩)
    exact am_goX 2 (show (∃ ty, (some .int) = some ty ∧ narrow ty (.int (k)) = .int (k)) ∧ (am_wI h 154 7 (nI (s.1 + 1))).2.2.2.2 = 175 ∧ _ from ⟨⟨.int, rfl, rfl⟩, ex_175 (r_P l45), hS k _ e1 l45⟩)
end
