/-! THE CLASS'S READERS OF A CANTON, EXACTLY (17) -/
variable {h h0 : am_H} {sz a : Nat} {T : Nat → Int32} {Q : am_Q} {s : sp_S}
theorem ex_17 {h : am_H} (hP : ex_P h) : am_sh h 17 = some (0, 0) := (ex_so hP (by decide +kernel)).2
theorem ex_18 {h : am_H} (hP : ex_P h) : am_sh h 18 = some (14, 6) := (ex_so hP (by decide +kernel)).2
theorem ex_w18 {h : am_H} (hP : ex_P h) : am_so h 18 = some (14, 6) := (ex_so hP (by decide +kernel)).1
theorem ex_19 {h : am_H} (hP : ex_P h) : am_sh h 19 = some (13, 6) := (ex_so hP (by decide +kernel)).2
theorem ex_w19 {h : am_H} (hP : ex_P h) : am_so h 19 = some (13, 6) := (ex_so hP (by decide +kernel)).1
theorem ex_20 {h : am_H} (hP : ex_P h) : am_sh h 20 = some (13, 6) := (ex_so hP (by decide +kernel)).2
theorem ex_w20 {h : am_H} (hP : ex_P h) : am_so h 20 = some (13, 6) := (ex_so hP (by decide +kernel)).1
theorem ex_21 {h : am_H} (hP : ex_P h) : am_sh h 21 = some (14, 5) := (ex_so hP (by decide +kernel)).2
theorem ex_w21 {h : am_H} (hP : ex_P h) : am_so h 21 = some (14, 5) := (ex_so hP (by decide +kernel)).1
theorem ex_22 {h : am_H} (hP : ex_P h) : am_sh h 22 = some (13, 5) := (ex_so hP (by decide +kernel)).2
theorem ex_w22 {h : am_H} (hP : ex_P h) : am_so h 22 = some (13, 5) := (ex_so hP (by decide +kernel)).1
theorem ex_23 {h : am_H} (hP : ex_P h) : am_sh h 23 = some (13, 5) := (ex_so hP (by decide +kernel)).2
theorem ex_w23 {h : am_H} (hP : ex_P h) : am_so h 23 = some (13, 5) := (ex_so hP (by decide +kernel)).1
theorem ex_24 {h : am_H} (hP : ex_P h) : am_sh h 24 = some (13, 5) := (ex_so hP (by decide +kernel)).2
theorem ex_w24 {h : am_H} (hP : ex_P h) : am_so h 24 = some (13, 5) := (ex_so hP (by decide +kernel)).1
theorem ex_r17_1 {h : am_H} (hP : ex_P h) : h.2.2.1 17 1 = some 18 := hP.2 17 1 18 (by decide +kernel)
theorem ex_r17_2 {h : am_H} (hP : ex_P h) : h.2.2.1 17 2 = some 19 := hP.2 17 2 19 (by decide +kernel)
theorem ex_r17_3 {h : am_H} (hP : ex_P h) : h.2.2.1 17 3 = some 20 := hP.2 17 3 20 (by decide +kernel)
theorem ex_r17_5 {h : am_H} (hP : ex_P h) : h.2.2.1 17 5 = some 21 := hP.2 17 5 21 (by decide +kernel)
theorem ex_r17_6 {h : am_H} (hP : ex_P h) : h.2.2.1 17 6 = some 22 := hP.2 17 6 22 (by decide +kernel)
theorem ex_r17_7 {h : am_H} (hP : ex_P h) : h.2.2.1 17 7 = some 23 := hP.2 17 7 23 (by decide +kernel)
theorem ex_r17_8 {h : am_H} (hP : ex_P h) : h.2.2.1 17 8 = some 24 := hP.2 17 8 24 (by decide +kernel)
theorem ex_r17_12 {h : am_H} (hP : ex_P h) : h.2.2.1 17 12 = some 25 := hP.2 17 12 25 (by decide +kernel)
theorem c_55l_17 {C : sp_C} {v w : Int64} (l : cr h0 17 T sz (a, C) h) (hw : cwk v w) : ∀ (m i : Nat), i + m = C.1.1 → Q (some (.int (sp_o (sp_fd C.1.2.1 v m i)))) h → pz_S 4 (some .int) am_r55 0 Q 2 [(3, .int (nI i)), (0, .ref 17), (1, .long w)] [] h := by
  have hP := c_P l.1
  have a1 : h.1 17 0 = nI C.1.1 := l.2.1.1.1
  have a2 : C.1.1 ≤ 6 := l.2.1.1.2.1
  intro m
  induction m with
  | zero =>
    intro i hi hQ
    refine am_goX 3 (show am_sh h 17 = some (0, 0) ∧ pz_S 4 (some .int) am_r55 0 Q 7 [(3, .int (nI i)), (0, .ref 17), (1, .long w)] [.int (h.1 17 0), .int (nI i)] h from ⟨ex_17 hP, ?_⟩)
    rw [a1]
    refine am_goX 1 (show ((nI C.1.1) ≤ (nI i) → pz_S 4 (some .int) am_r55 0 Q 29 [(3, .int (nI i)), (0, .ref 17), (1, .long w)] [] h) ∧ (¬ ((nI C.1.1) ≤ (nI i)) → pz_S 4 (some .int) am_r55 0 Q 10 [(3, .int (nI i)), (0, .ref 17), (1, .long w)] [] h) from ⟨fun hc => ?_, fun hc => ?_⟩)
    · exact am_goX 2 (show (∃ ty, (some .int) = some ty ∧ narrow ty (.int ((Int32.ofInt (-1)))) = .int ((Int32.ofInt (-1)))) ∧ h.2.2.2.2 = 175 ∧ _ from ⟨⟨.int, rfl, rfl⟩, ex_175 hP, hQ⟩)
    · exact absurd (nI_le (by omega) (by omega)) hc
  | succ m ih =>
    intro i hi hQ
    refine am_goX 3 (show am_sh h 17 = some (0, 0) ∧ pz_S 4 (some .int) am_r55 0 Q 7 [(3, .int (nI i)), (0, .ref 17), (1, .long w)] [.int (h.1 17 0), .int (nI i)] h from ⟨ex_17 hP, ?_⟩)
    rw [a1]
    refine am_goX 1 (show ((nI C.1.1) ≤ (nI i) → pz_S 4 (some .int) am_r55 0 Q 29 [(3, .int (nI i)), (0, .ref 17), (1, .long w)] [] h) ∧ (¬ ((nI C.1.1) ≤ (nI i)) → pz_S 4 (some .int) am_r55 0 Q 10 [(3, .int (nI i)), (0, .ref 17), (1, .long w)] [] h) from ⟨fun hc => ?_, fun hc => ?_⟩)
    · rw [nI_leI (by omega) (by omega)] at hc
      omega
    clear hc
    unfold sp_fd at hQ
    have hj := (l.2.1.1.2.2 i (show i < C.1.1 by omega)).1
    refine am_goX 2 (show am_sh h 17 = some (0, 0) ∧ pz_S 4 (some .int) am_r55 0 Q 14 [(3, .int (nI i)), (0, .ref 17), (1, .long w)] [am_rf (h.2.2.1 17 1)] h from ⟨ex_17 hP, ?_⟩)
    rw [ex_r17_1 (h := h) hP]
    refine am_goX 2 (show ∃ jj nn : Nat, am_sh h 18 = some (14, nn) ∧ jj < nn ∧ (nI i) = nI jj ∧ pz_S 4 (some .int) am_r55 0 Q 16 [(3, .int (nI i)), (0, .ref 17), (1, .long w)] [.long (h.2.1 18 jj)] h from ⟨i, 6, ex_18 hP, by omega, rfl, ?_⟩)
    refine am_goX 3 (show (¬ (lg_cmp ((h.2.1 18 i)) (w)) = 0 → pz_S 4 (some .int) am_r55 0 Q 23 [(3, .int (nI i)), (0, .ref 17), (1, .long w)] [] h) ∧ (¬ ¬ (lg_cmp ((h.2.1 18 i)) (w)) = 0 → pz_S 4 (some .int) am_r55 0 Q 21 [(3, .int (nI i)), (0, .ref 17), (1, .long w)] [] h) from ⟨fun hc => ?_, fun hc => ?_⟩)
    · rw [decide_eq_false (fun e => hc ((pz_cmp _ _).mpr ((cwk_inj hj hw).mp e)))] at hQ
      refine am_goX 2 (show 3 < 4 ∧ pz_S 4 (some .int) am_r55 0 Q 2 [(3, .int ((nI i) + Int32.ofInt 1)), (0, .ref 17), (1, .long w)] [] h from ⟨by decide, ?_⟩)
      rw [xw_i1]
      exact ih (i + 1) (by omega) hQ
    · rw [decide_eq_true ((cwk_inj hj hw).mpr ((pz_cmp _ _).mp (Decidable.not_not.mp hc)))] at hQ
      exact am_goX 2 (show (∃ ty, (some .int) = some ty ∧ narrow ty (.int ((nI i))) = .int ((nI i))) ∧ h.2.2.2.2 = 175 ∧ _ from ⟨⟨.int, rfl, rfl⟩, ex_175 hP, hQ⟩)
theorem c_55_17 {v w : Int64} (l : cr h0 17 T sz s h) (hw : cwk v w) (hQ : Q (some (.int (sp_o (sp_pf s.2 v)))) h) : am_call am_cod 1 55 [.ref 17, .long w] h Q := by
  have hP := c_P l.1
  refine pz_call (n := 55) (nL := 4) (rt := (some .int)) (rows := am_r55) (d := 0) (by decide +kernel) (by decide +kernel) rfl (by funext pc; rfl) (ex_175 hP) (by exact Nat.le_of_ble_eq_true rfl) ?_
  refine am_goX 2 (show 3 < 4 ∧ pz_S 4 (some .int) am_r55 0 Q 2 [(3, .int (Int32.ofInt 0)), (0, .ref 17), (1, .long w)] [] h from ⟨by decide, ?_⟩)
  exact c_55l_17 (a := s.1) (C := s.2) l hw s.2.1.1 0 (Nat.zero_add _) hQ
theorem c_56l_17 {C : sp_C} {v w : Int64} (l : cr h0 17 T sz (a, C) h) (hw : cwk v w) : ∀ (m i : Nat), i + m = C.2.1.1 → Q (some (.int (sp_o (sp_fd C.2.1.2.1 v m i)))) h → pz_S 4 (some .int) am_r56 0 Q 2 [(3, .int (nI i)), (0, .ref 17), (1, .long w)] [] h := by
  have hP := c_P l.1
  have a1 : h.1 17 4 = nI C.2.1.1 := l.2.1.2.1.1
  have a2 : C.2.1.1 ≤ 5 := l.2.1.2.1.2.1
  intro m
  induction m with
  | zero =>
    intro i hi hQ
    refine am_goX 3 (show am_sh h 17 = some (0, 0) ∧ pz_S 4 (some .int) am_r56 0 Q 7 [(3, .int (nI i)), (0, .ref 17), (1, .long w)] [.int (h.1 17 4), .int (nI i)] h from ⟨ex_17 hP, ?_⟩)
    rw [a1]
    refine am_goX 1 (show ((nI C.2.1.1) ≤ (nI i) → pz_S 4 (some .int) am_r56 0 Q 29 [(3, .int (nI i)), (0, .ref 17), (1, .long w)] [] h) ∧ (¬ ((nI C.2.1.1) ≤ (nI i)) → pz_S 4 (some .int) am_r56 0 Q 10 [(3, .int (nI i)), (0, .ref 17), (1, .long w)] [] h) from ⟨fun hc => ?_, fun hc => ?_⟩)
    · exact am_goX 2 (show (∃ ty, (some .int) = some ty ∧ narrow ty (.int ((Int32.ofInt (-1)))) = .int ((Int32.ofInt (-1)))) ∧ h.2.2.2.2 = 175 ∧ _ from ⟨⟨.int, rfl, rfl⟩, ex_175 hP, hQ⟩)
    · exact absurd (nI_le (by omega) (by omega)) hc
  | succ m ih =>
    intro i hi hQ
    refine am_goX 3 (show am_sh h 17 = some (0, 0) ∧ pz_S 4 (some .int) am_r56 0 Q 7 [(3, .int (nI i)), (0, .ref 17), (1, .long w)] [.int (h.1 17 4), .int (nI i)] h from ⟨ex_17 hP, ?_⟩)
    rw [a1]
    refine am_goX 1 (show ((nI C.2.1.1) ≤ (nI i) → pz_S 4 (some .int) am_r56 0 Q 29 [(3, .int (nI i)), (0, .ref 17), (1, .long w)] [] h) ∧ (¬ ((nI C.2.1.1) ≤ (nI i)) → pz_S 4 (some .int) am_r56 0 Q 10 [(3, .int (nI i)), (0, .ref 17), (1, .long w)] [] h) from ⟨fun hc => ?_, fun hc => ?_⟩)
    · rw [nI_leI (by omega) (by omega)] at hc
      omega
    clear hc
    unfold sp_fd at hQ
    have hj := (l.2.1.2.1.2.2 i (show i < C.2.1.1 by omega)).1
    refine am_goX 2 (show am_sh h 17 = some (0, 0) ∧ pz_S 4 (some .int) am_r56 0 Q 14 [(3, .int (nI i)), (0, .ref 17), (1, .long w)] [am_rf (h.2.2.1 17 5)] h from ⟨ex_17 hP, ?_⟩)
    rw [ex_r17_5 (h := h) hP]
    refine am_goX 2 (show ∃ jj nn : Nat, am_sh h 21 = some (14, nn) ∧ jj < nn ∧ (nI i) = nI jj ∧ pz_S 4 (some .int) am_r56 0 Q 16 [(3, .int (nI i)), (0, .ref 17), (1, .long w)] [.long (h.2.1 21 jj)] h from ⟨i, 5, ex_21 hP, by omega, rfl, ?_⟩)
    refine am_goX 3 (show (¬ (lg_cmp ((h.2.1 21 i)) (w)) = 0 → pz_S 4 (some .int) am_r56 0 Q 23 [(3, .int (nI i)), (0, .ref 17), (1, .long w)] [] h) ∧ (¬ ¬ (lg_cmp ((h.2.1 21 i)) (w)) = 0 → pz_S 4 (some .int) am_r56 0 Q 21 [(3, .int (nI i)), (0, .ref 17), (1, .long w)] [] h) from ⟨fun hc => ?_, fun hc => ?_⟩)
    · rw [decide_eq_false (fun e => hc ((pz_cmp _ _).mpr ((cwk_inj hj hw).mp e)))] at hQ
      refine am_goX 2 (show 3 < 4 ∧ pz_S 4 (some .int) am_r56 0 Q 2 [(3, .int ((nI i) + Int32.ofInt 1)), (0, .ref 17), (1, .long w)] [] h from ⟨by decide, ?_⟩)
      rw [xw_i1]
      exact ih (i + 1) (by omega) hQ
    · rw [decide_eq_true ((cwk_inj hj hw).mpr ((pz_cmp _ _).mp (Decidable.not_not.mp hc)))] at hQ
      exact am_goX 2 (show (∃ ty, (some .int) = some ty ∧ narrow ty (.int ((nI i))) = .int ((nI i))) ∧ h.2.2.2.2 = 175 ∧ _ from ⟨⟨.int, rfl, rfl⟩, ex_175 hP, hQ⟩)
theorem c_56_17 {v w : Int64} (l : cr h0 17 T sz s h) (hw : cwk v w) (hQ : Q (some (.int (sp_o (sp_ef s.2 v)))) h) : am_call am_cod 1 56 [.ref 17, .long w] h Q := by
  have hP := c_P l.1
  refine pz_call (n := 56) (nL := 4) (rt := (some .int)) (rows := am_r56) (d := 0) (by decide +kernel) (by decide +kernel) rfl (by funext pc; rfl) (ex_175 hP) (by exact Nat.le_of_ble_eq_true rfl) ?_
  refine am_goX 2 (show 3 < 4 ∧ pz_S 4 (some .int) am_r56 0 Q 2 [(3, .int (Int32.ofInt 0)), (0, .ref 17), (1, .long w)] [] h from ⟨by decide, ?_⟩)
  exact c_56l_17 (a := s.1) (C := s.2) l hw s.2.2.1.1 0 (Nat.zero_add _) hQ
theorem c_53_17 (l : cr h0 17 T sz s h) (hQ : ∀ v h1, cres h0 17 T sz (sp_fn (tt T sz) s) v h1 → Q v h1) : am_call am_cod 6 53 [.ref 3, .ref 17] h Q := by
  have hP := c_P l.1
  refine pz_call (n := 53) (nL := 3) (rt := (some .boolean)) (rows := am_r53) (d := 5) (by decide +kernel) (by decide +kernel) rfl (by funext pc; rfl) (ex_175 hP) (by exact Nat.le_of_ble_eq_true rfl) ?_
  refine am_goX 2 (show am_sh h 3 = some (1, 0) ∧ pz_S 3 (some .boolean) am_r53 5 Q 4 [(0, .ref 3), (1, .ref 17)] [am_rf (h.2.2.1 3 0)] h from ⟨ex_3 (c_P l.1), ?_⟩)
  rw [ex_r3_0 (h := h) (c_P l.1)]
  refine am_goX 1 (show am_rc h 1 7 ∧ 0 ≤ 8 ∧ h.2.2.2.2 + am_al 54 ≤ 175 ∧ am_call am_cod 5 54 [.ref 1] h (fun vv h' => pz_S 3 (some .boolean) am_r53 5 Q 7 [(0, .ref 3), (1, .ref 17)] (vv.toList ++ []) h') from ⟨Or.inl ⟨by decide, ex_1 (c_P l.1)⟩, by decide, ex_lim (c_P l.1) rfl, am_call.up (c_isn l.1 ?_) (by decide)⟩)
  cases e1 : sp_n (tt T sz) s.1 with
  | true =>
    refine am_goX 1 (show (¬ (pz_b (true)) = 0 → pz_S 3 (some .boolean) am_r53 5 Q 19 [(0, .ref 3), (1, .ref 17)] [] h) ∧ (¬ ¬ (pz_b (true)) = 0 → pz_S 3 (some .boolean) am_r53 5 Q 10 [(0, .ref 3), (1, .ref 17)] [] h) from ⟨fun _ => ?_, fun hz => absurd (by decide) hz⟩)
    refine am_goX 3 (show am_sh h 3 = some (1, 0) ∧ pz_S 3 (some .boolean) am_r53 5 Q 24 [(0, .ref 3), (1, .ref 17)] [am_rf (h.2.2.1 3 0), .ref 17] h from ⟨ex_3 (c_P l.1), ?_⟩)
    rw [ex_r3_0 (h := h) (c_P l.1)]
    refine am_goX 2 (show am_sh h 1 = some (7, 0) ∧ am_rc h 17 0 ∧ 0 ≤ 8 ∧ h.2.2.2.2 + am_al 55 ≤ 175 ∧ am_call am_cod 5 55 [.ref 17, .long (h.2.1 1 5)] h (fun vv h' => pz_S 3 (some .boolean) am_r53 5 Q 30 [(0, .ref 3), (1, .ref 17)] (vv.toList ++ []) h') from ⟨ex_1 (c_P l.1), Or.inl ⟨by decide, ex_17 (c_P l.1)⟩, by decide, ex_lim (c_P l.1) rfl, am_call.up (c_55_17 (v := (tt T sz s.1).2.1) l (c_wd l.1 (sp_nk e1)) ?_) (by decide)⟩)
    cases e2 : sp_pf s.2 (tt T sz s.1).2.1 with
    | none =>
      refine am_goX 2 (show (¬ (Int32.ofInt (-1)) = (Int32.ofInt (-1)) → pz_S 3 (some .boolean) am_r53 5 Q 49 [(0, .ref 3), (1, .ref 17)] [] h) ∧ (¬ ¬ (Int32.ofInt (-1)) = (Int32.ofInt (-1)) → pz_S 3 (some .boolean) am_r53 5 Q 34 [(0, .ref 3), (1, .ref 17)] [] h) from ⟨fun hz => absurd hz (by decide), fun _ => ?_⟩)
      refine am_goX 3 (show am_sh h 3 = some (1, 0) ∧ pz_S 3 (some .boolean) am_r53 5 Q 39 [(0, .ref 3), (1, .ref 17)] [am_rf (h.2.2.1 3 0), .ref 17] h from ⟨ex_3 (c_P l.1), ?_⟩)
      rw [ex_r3_0 (h := h) (c_P l.1)]
      refine am_goX 2 (show am_sh h 1 = some (7, 0) ∧ am_rc h 17 0 ∧ 0 ≤ 8 ∧ h.2.2.2.2 + am_al 56 ≤ 175 ∧ am_call am_cod 5 56 [.ref 17, .long (h.2.1 1 5)] h (fun vv h' => pz_S 3 (some .boolean) am_r53 5 Q 45 [(0, .ref 3), (1, .ref 17)] (vv.toList ++ []) h') from ⟨ex_1 (c_P l.1), Or.inl ⟨by decide, ex_17 (c_P l.1)⟩, by decide, ex_lim (c_P l.1) rfl, am_call.up (c_56_17 (v := (tt T sz s.1).2.1) l (c_wd l.1 (sp_nk e1)) ?_) (by decide)⟩)
      cases e5 : sp_ef s.2 (tt T sz s.1).2.1 with
      | none =>
        refine am_goX 2 (show ((Int32.ofInt (-1)) = (Int32.ofInt (-1)) → pz_S 3 (some .boolean) am_r53 5 Q 53 [(0, .ref 3), (1, .ref 17)] [] h) ∧ (¬ ((Int32.ofInt (-1)) = (Int32.ofInt (-1))) → pz_S 3 (some .boolean) am_r53 5 Q 49 [(0, .ref 3), (1, .ref 17)] [] h) from ⟨fun _ => ?_, fun hz => absurd (by decide) hz⟩)
        refine am_goX 4 (show 2 < 3 ∧ ((Int32.ofInt 0) = 0 → pz_S 3 (some .boolean) am_r53 5 Q 70 [(2, .int (Int32.ofInt 0)), (0, .ref 3), (1, .ref 17)] [] h) ∧ (¬ ((Int32.ofInt 0) = 0) → pz_S 3 (some .boolean) am_r53 5 Q 59 [(2, .int (Int32.ofInt 0)), (0, .ref 3), (1, .ref 17)] [] h) from ⟨by decide, fun _ => ?_, fun hz => absurd (by decide) hz⟩)
        exact am_goX 3 (show (∃ ty, (some .boolean) = some ty ∧ narrow ty (.int ((Int32.ofInt 1))) = .int ((Int32.ofInt 1))) ∧ h.2.2.2.2 = 175 ∧ _ from ⟨⟨.boolean, rfl, rfl⟩, ex_175 (c_P l.1), hQ _ _ (cres_inr (s' := s) (by simp only [sp_fn, sp_b, sp_f, cond_true, cond_false, e1, e2, e5, Option.isSome_some, Option.isSome_none, Bool.true_or, Bool.or_true, Bool.or_false, Bool.false_or]) rfl l)⟩)
      | some p6 =>
        have w7 := cr_ef (a := s.1) (C := s.2) l e5
        refine am_goX 2 (show ((nI p6) = (Int32.ofInt (-1)) → pz_S 3 (some .boolean) am_r53 5 Q 53 [(0, .ref 3), (1, .ref 17)] [] h) ∧ (¬ ((nI p6) = (Int32.ofInt (-1))) → pz_S 3 (some .boolean) am_r53 5 Q 49 [(0, .ref 3), (1, .ref 17)] [] h) from ⟨fun hz => absurd hz (nI_m1 (by omega)), fun _ => ?_⟩)
        refine am_goX 5 (show 2 < 3 ∧ ((Int32.ofInt 1) = 0 → pz_S 3 (some .boolean) am_r53 5 Q 70 [(2, .int (Int32.ofInt 1)), (0, .ref 3), (1, .ref 17)] [] h) ∧ (¬ ((Int32.ofInt 1) = 0) → pz_S 3 (some .boolean) am_r53 5 Q 59 [(2, .int (Int32.ofInt 1)), (0, .ref 3), (1, .ref 17)] [] h) from ⟨by decide, fun hz => absurd hz (by decide), fun _ => ?_⟩)
        refine am_goX 2 (show am_sh h 3 = some (1, 0) ∧ pz_S 3 (some .boolean) am_r53 5 Q 63 [(2, .int (Int32.ofInt 1)), (0, .ref 3), (1, .ref 17)] [am_rf (h.2.2.1 3 0)] h from ⟨ex_3 (c_P l.1), ?_⟩)
        rw [ex_r3_0 (h := h) (c_P l.1)]
        refine am_goX 2 (show am_rc h 1 7 ∧ 0 ≤ 8 ∧ h.2.2.2.2 + am_al 52 ≤ 175 ∧ am_call am_cod 5 52 [.ref 1, .int (Int32.ofInt 3)] h (fun vv h' => pz_S 3 (some .boolean) am_r53 5 Q 67 [(2, .int (Int32.ofInt 1)), (0, .ref 3), (1, .ref 17)] (vv.toList ++ []) h') from ⟨Or.inl ⟨by decide, ex_1 (c_P l.1)⟩, by decide, ex_lim (c_P l.1) rfl, am_call.up (c_refuse l.1 ?_) (by decide)⟩)
        have x8 := cr_x (s := s) (k := (Int32.ofInt 3)) (by decide) l (by decide)
        refine am_goX 1 (show ((Int32.ofInt 0) = 0 → pz_S 3 (some .boolean) am_r53 5 Q 74 [(2, .int (Int32.ofInt 1)), (0, .ref 3), (1, .ref 17)] [] (am_wI h 1 7 (sp_ft (tt T sz) s.1 (Int32.ofInt 3)))) ∧ (¬ ((Int32.ofInt 0) = 0) → pz_S 3 (some .boolean) am_r53 5 Q 70 [(2, .int (Int32.ofInt 1)), (0, .ref 3), (1, .ref 17)] [] (am_wI h 1 7 (sp_ft (tt T sz) s.1 (Int32.ofInt 3)))) from ⟨fun _ => ?_, fun hz => absurd (by decide) hz⟩)
        exact am_goX 2 (show (∃ ty, (some .boolean) = some ty ∧ narrow ty (.int ((Int32.ofInt 0))) = .int ((Int32.ofInt 0))) ∧ (am_wI h 1 7 (sp_ft (tt T sz) s.1 (Int32.ofInt 3))).2.2.2.2 = 175 ∧ _ from ⟨⟨.boolean, rfl, rfl⟩, ex_175 x8.1, hQ _ _ (cres_inl (F := sp_ft (tt T sz) s.1 (Int32.ofInt 3)) (by simp only [sp_fn, sp_b, sp_f, cond_true, cond_false, e1, e2, e5, Option.isSome_some, Option.isSome_none, Bool.true_or, Bool.or_true, Bool.or_false, Bool.false_or]) rfl x8)⟩)
    | some p3 =>
      have w4 := cr_pf (a := s.1) (C := s.2) l e2
      refine am_goX 2 (show (¬ (nI p3) = (Int32.ofInt (-1)) → pz_S 3 (some .boolean) am_r53 5 Q 49 [(0, .ref 3), (1, .ref 17)] [] h) ∧ (¬ ¬ (nI p3) = (Int32.ofInt (-1)) → pz_S 3 (some .boolean) am_r53 5 Q 34 [(0, .ref 3), (1, .ref 17)] [] h) from ⟨fun _ => ?_, fun hz => absurd (nI_m1 (by omega)) hz⟩)
      refine am_goX 5 (show 2 < 3 ∧ ((Int32.ofInt 1) = 0 → pz_S 3 (some .boolean) am_r53 5 Q 70 [(2, .int (Int32.ofInt 1)), (0, .ref 3), (1, .ref 17)] [] h) ∧ (¬ ((Int32.ofInt 1) = 0) → pz_S 3 (some .boolean) am_r53 5 Q 59 [(2, .int (Int32.ofInt 1)), (0, .ref 3), (1, .ref 17)] [] h) from ⟨by decide, fun hz => absurd hz (by decide), fun _ => ?_⟩)
      refine am_goX 2 (show am_sh h 3 = some (1, 0) ∧ pz_S 3 (some .boolean) am_r53 5 Q 63 [(2, .int (Int32.ofInt 1)), (0, .ref 3), (1, .ref 17)] [am_rf (h.2.2.1 3 0)] h from ⟨ex_3 (c_P l.1), ?_⟩)
      rw [ex_r3_0 (h := h) (c_P l.1)]
      refine am_goX 2 (show am_rc h 1 7 ∧ 0 ≤ 8 ∧ h.2.2.2.2 + am_al 52 ≤ 175 ∧ am_call am_cod 5 52 [.ref 1, .int (Int32.ofInt 3)] h (fun vv h' => pz_S 3 (some .boolean) am_r53 5 Q 67 [(2, .int (Int32.ofInt 1)), (0, .ref 3), (1, .ref 17)] (vv.toList ++ []) h') from ⟨Or.inl ⟨by decide, ex_1 (c_P l.1)⟩, by decide, ex_lim (c_P l.1) rfl, am_call.up (c_refuse l.1 ?_) (by decide)⟩)
      have x9 := cr_x (s := s) (k := (Int32.ofInt 3)) (by decide) l (by decide)
      refine am_goX 1 (show ((Int32.ofInt 0) = 0 → pz_S 3 (some .boolean) am_r53 5 Q 74 [(2, .int (Int32.ofInt 1)), (0, .ref 3), (1, .ref 17)] [] (am_wI h 1 7 (sp_ft (tt T sz) s.1 (Int32.ofInt 3)))) ∧ (¬ ((Int32.ofInt 0) = 0) → pz_S 3 (some .boolean) am_r53 5 Q 70 [(2, .int (Int32.ofInt 1)), (0, .ref 3), (1, .ref 17)] [] (am_wI h 1 7 (sp_ft (tt T sz) s.1 (Int32.ofInt 3)))) from ⟨fun _ => ?_, fun hz => absurd (by decide) hz⟩)
      exact am_goX 2 (show (∃ ty, (some .boolean) = some ty ∧ narrow ty (.int ((Int32.ofInt 0))) = .int ((Int32.ofInt 0))) ∧ (am_wI h 1 7 (sp_ft (tt T sz) s.1 (Int32.ofInt 3))).2.2.2.2 = 175 ∧ _ from ⟨⟨.boolean, rfl, rfl⟩, ex_175 x9.1, hQ _ _ (cres_inl (F := sp_ft (tt T sz) s.1 (Int32.ofInt 3)) (by simp only [sp_fn, sp_b, sp_f, cond_true, cond_false, e1, e2, Option.isSome_some, Option.isSome_none, Bool.true_or, Bool.or_true, Bool.or_false, Bool.false_or]) rfl x9)⟩)
  | false =>
    refine am_goX 1 (show (¬ (pz_b (false)) = 0 → pz_S 3 (some .boolean) am_r53 5 Q 19 [(0, .ref 3), (1, .ref 17)] [] h) ∧ (¬ ¬ (pz_b (false)) = 0 → pz_S 3 (some .boolean) am_r53 5 Q 10 [(0, .ref 3), (1, .ref 17)] [] h) from ⟨fun hz => absurd hz (by decide), fun _ => ?_⟩)
    refine am_goX 2 (show am_sh h 3 = some (1, 0) ∧ pz_S 3 (some .boolean) am_r53 5 Q 14 [(0, .ref 3), (1, .ref 17)] [am_rf (h.2.2.1 3 0)] h from ⟨ex_3 (c_P l.1), ?_⟩)
    rw [ex_r3_0 (h := h) (c_P l.1)]
    refine am_goX 2 (show am_rc h 1 7 ∧ 0 ≤ 8 ∧ h.2.2.2.2 + am_al 52 ≤ 175 ∧ am_call am_cod 5 52 [.ref 1, .int (Int32.ofInt 1)] h (fun vv h' => pz_S 3 (some .boolean) am_r53 5 Q 18 [(0, .ref 3), (1, .ref 17)] (vv.toList ++ []) h') from ⟨Or.inl ⟨by decide, ex_1 (c_P l.1)⟩, by decide, ex_lim (c_P l.1) rfl, am_call.up (c_refuse l.1 ?_) (by decide)⟩)
    have x10 := cr_x (s := s) (k := (Int32.ofInt 1)) (by decide) l (by decide)
    exact am_goX 1 (show (∃ ty, (some .boolean) = some ty ∧ narrow ty (.int ((Int32.ofInt 0))) = .int ((Int32.ofInt 0))) ∧ (am_wI h 1 7 (sp_ft (tt T sz) s.1 (Int32.ofInt 1))).2.2.2.2 = 175 ∧ _ from ⟨⟨.boolean, rfl, rfl⟩, ex_175 x10.1, hQ _ _ (cres_inl (F := sp_ft (tt T sz) s.1 (Int32.ofInt 1)) (by simp only [sp_fn, sp_b, sp_f, cond_true, cond_false, e1, Option.isSome_some, Option.isSome_none, Bool.true_or, Bool.or_true, Bool.or_false, Bool.false_or]) rfl x10)⟩)
theorem c_57_17 (l : cr h0 17 T sz s h) (hQ : Q (some (.int (sp_ko (sp_kd (tt T sz) s.1)))) h) : am_call am_cod 6 57 [.ref 3] h Q := by
  have hP := c_P l.1
  unfold sp_kd at hQ
  refine pz_call (n := 57) (nL := 1) (rt := (some .int)) (rows := am_r57) (d := 5) (by decide +kernel) (by decide +kernel) rfl (by funext pc; rfl) (ex_175 hP) (by exact Nat.le_of_ble_eq_true rfl) ?_
  refine am_goX 2 (show am_sh h 3 = some (1, 0) ∧ pz_S 1 (some .int) am_r57 5 Q 4 [(0, .ref 3)] [am_rf (h.2.2.1 3 0)] h from ⟨ex_3 (c_P l.1), ?_⟩)
  rw [ex_r3_0 (h := h) (c_P l.1)]
  refine am_goX 2 (show am_rc h 1 7 ∧ 0 ≤ 8 ∧ h.2.2.2.2 + am_al 44 ≤ 175 ∧ am_call am_cod 5 44 [.ref 1, .ref (4000000 + 3)] h (fun vv h' => pz_S 1 (some .int) am_r57 5 Q 9 [(0, .ref 3)] (vv.toList ++ []) h') from ⟨Or.inl ⟨by decide, ex_1 (c_P l.1)⟩, by decide, ex_lim (c_P l.1) rfl, am_call.up (c_isw (by decide) wq_3 l.1 ?_) (by decide)⟩)
  cases e11 : sp_w (tt T sz) s.1 30596128 with
  | true =>
    refine am_goX 1 (show ((pz_b (true)) = 0 → pz_S 1 (some .int) am_r57 5 Q 14 [(0, .ref 3)] [] h) ∧ (¬ ((pz_b (true)) = 0) → pz_S 1 (some .int) am_r57 5 Q 12 [(0, .ref 3)] [] h) from ⟨fun hz => absurd hz (by decide), fun _ => ?_⟩)
    refine am_goX 1 (show pz_S 1 (some .int) am_r57 5 Q 13 [(0, .ref 3)] [.int (Int32.ofInt 0)] h from ?_)
    simp only [e11, cond_true, cond_false] at hQ
    exact am_goX 1 (show (∃ ty, (some .int) = some ty ∧ narrow ty (.int ((Int32.ofInt 0))) = .int ((Int32.ofInt 0))) ∧ h.2.2.2.2 = 175 ∧ _ from ⟨⟨.int, rfl, rfl⟩, ex_175 (c_P l.1), hQ⟩)
  | false =>
    refine am_goX 1 (show ((pz_b (false)) = 0 → pz_S 1 (some .int) am_r57 5 Q 14 [(0, .ref 3)] [] h) ∧ (¬ ((pz_b (false)) = 0) → pz_S 1 (some .int) am_r57 5 Q 12 [(0, .ref 3)] [] h) from ⟨fun _ => ?_, fun hz => absurd (by decide) hz⟩)
    refine am_goX 2 (show am_sh h 3 = some (1, 0) ∧ pz_S 1 (some .int) am_r57 5 Q 18 [(0, .ref 3)] [am_rf (h.2.2.1 3 0)] h from ⟨ex_3 (c_P l.1), ?_⟩)
    rw [ex_r3_0 (h := h) (c_P l.1)]
    refine am_goX 2 (show am_rc h 1 7 ∧ 0 ≤ 8 ∧ h.2.2.2.2 + am_al 44 ≤ 175 ∧ am_call am_cod 5 44 [.ref 1, .ref (4000000 + 4)] h (fun vv h' => pz_S 1 (some .int) am_r57 5 Q 23 [(0, .ref 3)] (vv.toList ++ []) h') from ⟨Or.inl ⟨by decide, ex_1 (c_P l.1)⟩, by decide, ex_lim (c_P l.1) rfl, am_call.up (c_isw (by decide) wq_4 l.1 ?_) (by decide)⟩)
    cases e12 : sp_w (tt T sz) s.1 43567634 with
    | true =>
      refine am_goX 1 (show ((pz_b (true)) = 0 → pz_S 1 (some .int) am_r57 5 Q 28 [(0, .ref 3)] [] h) ∧ (¬ ((pz_b (true)) = 0) → pz_S 1 (some .int) am_r57 5 Q 26 [(0, .ref 3)] [] h) from ⟨fun hz => absurd hz (by decide), fun _ => ?_⟩)
      refine am_goX 1 (show pz_S 1 (some .int) am_r57 5 Q 27 [(0, .ref 3)] [.int (Int32.ofInt 1)] h from ?_)
      simp only [e11, e12, cond_true, cond_false] at hQ
      exact am_goX 1 (show (∃ ty, (some .int) = some ty ∧ narrow ty (.int ((Int32.ofInt 1))) = .int ((Int32.ofInt 1))) ∧ h.2.2.2.2 = 175 ∧ _ from ⟨⟨.int, rfl, rfl⟩, ex_175 (c_P l.1), hQ⟩)
    | false =>
      refine am_goX 1 (show ((pz_b (false)) = 0 → pz_S 1 (some .int) am_r57 5 Q 28 [(0, .ref 3)] [] h) ∧ (¬ ((pz_b (false)) = 0) → pz_S 1 (some .int) am_r57 5 Q 26 [(0, .ref 3)] [] h) from ⟨fun _ => ?_, fun hz => absurd (by decide) hz⟩)
      refine am_goX 2 (show am_sh h 3 = some (1, 0) ∧ pz_S 1 (some .int) am_r57 5 Q 32 [(0, .ref 3)] [am_rf (h.2.2.1 3 0)] h from ⟨ex_3 (c_P l.1), ?_⟩)
      rw [ex_r3_0 (h := h) (c_P l.1)]
      refine am_goX 2 (show am_rc h 1 7 ∧ 0 ≤ 8 ∧ h.2.2.2.2 + am_al 44 ≤ 175 ∧ am_call am_cod 5 44 [.ref 1, .ref (4000000 + 5)] h (fun vv h' => pz_S 1 (some .int) am_r57 5 Q 37 [(0, .ref 3)] (vv.toList ++ []) h') from ⟨Or.inl ⟨by decide, ex_1 (c_P l.1)⟩, by decide, ex_lim (c_P l.1) rfl, am_call.up (c_isw (by decide) wq_5 l.1 ?_) (by decide)⟩)
      cases e13 : sp_w (tt T sz) s.1 37900956 with
      | true =>
        refine am_goX 1 (show ((pz_b (true)) = 0 → pz_S 1 (some .int) am_r57 5 Q 42 [(0, .ref 3)] [] h) ∧ (¬ ((pz_b (true)) = 0) → pz_S 1 (some .int) am_r57 5 Q 40 [(0, .ref 3)] [] h) from ⟨fun hz => absurd hz (by decide), fun _ => ?_⟩)
        refine am_goX 1 (show pz_S 1 (some .int) am_r57 5 Q 41 [(0, .ref 3)] [.int (Int32.ofInt 2)] h from ?_)
        simp only [e11, e12, e13, cond_true, cond_false] at hQ
        exact am_goX 1 (show (∃ ty, (some .int) = some ty ∧ narrow ty (.int ((Int32.ofInt 2))) = .int ((Int32.ofInt 2))) ∧ h.2.2.2.2 = 175 ∧ _ from ⟨⟨.int, rfl, rfl⟩, ex_175 (c_P l.1), hQ⟩)
      | false =>
        refine am_goX 1 (show ((pz_b (false)) = 0 → pz_S 1 (some .int) am_r57 5 Q 42 [(0, .ref 3)] [] h) ∧ (¬ ((pz_b (false)) = 0) → pz_S 1 (some .int) am_r57 5 Q 40 [(0, .ref 3)] [] h) from ⟨fun _ => ?_, fun hz => absurd (by decide) hz⟩)
        refine am_goX 2 (show am_sh h 3 = some (1, 0) ∧ pz_S 1 (some .int) am_r57 5 Q 46 [(0, .ref 3)] [am_rf (h.2.2.1 3 0)] h from ⟨ex_3 (c_P l.1), ?_⟩)
        rw [ex_r3_0 (h := h) (c_P l.1)]
        refine am_goX 2 (show am_rc h 1 7 ∧ 0 ≤ 8 ∧ h.2.2.2.2 + am_al 44 ≤ 175 ∧ am_call am_cod 5 44 [.ref 1, .ref (4000000 + 6)] h (fun vv h' => pz_S 1 (some .int) am_r57 5 Q 51 [(0, .ref 3)] (vv.toList ++ []) h') from ⟨Or.inl ⟨by decide, ex_1 (c_P l.1)⟩, by decide, ex_lim (c_P l.1) rfl, am_call.up (c_isw (by decide) wq_6 l.1 ?_) (by decide)⟩)
        cases e14 : sp_w (tt T sz) s.1 488058286 with
        | true =>
          refine am_goX 1 (show ((pz_b (true)) = 0 → pz_S 1 (some .int) am_r57 5 Q 58 [(0, .ref 3)] [] h) ∧ (¬ ((pz_b (true)) = 0) → pz_S 1 (some .int) am_r57 5 Q 54 [(0, .ref 3)] [] h) from ⟨fun hz => absurd hz (by decide), fun _ => ?_⟩)
          refine am_goX 2 (show pz_S 1 (some .int) am_r57 5 Q 59 [(0, .ref 3)] [.int (Int32.ofInt 3)] h from ?_)
          simp only [e11, e12, e13, e14, cond_true, cond_false] at hQ
          exact am_goX 1 (show (∃ ty, (some .int) = some ty ∧ narrow ty (.int ((Int32.ofInt 3))) = .int ((Int32.ofInt 3))) ∧ h.2.2.2.2 = 175 ∧ _ from ⟨⟨.int, rfl, rfl⟩, ex_175 (c_P l.1), hQ⟩)
        | false =>
          refine am_goX 1 (show ((pz_b (false)) = 0 → pz_S 1 (some .int) am_r57 5 Q 58 [(0, .ref 3)] [] h) ∧ (¬ ((pz_b (false)) = 0) → pz_S 1 (some .int) am_r57 5 Q 54 [(0, .ref 3)] [] h) from ⟨fun _ => ?_, fun hz => absurd (by decide) hz⟩)
          refine am_goX 1 (show pz_S 1 (some .int) am_r57 5 Q 59 [(0, .ref 3)] [.int (Int32.ofInt (-1))] h from ?_)
          simp only [e11, e12, e13, e14, cond_true, cond_false] at hQ
          exact am_goX 1 (show (∃ ty, (some .int) = some ty ∧ narrow ty (.int ((Int32.ofInt (-1)))) = .int ((Int32.ofInt (-1)))) ∧ h.2.2.2.2 = 175 ∧ _ from ⟨⟨.int, rfl, rfl⟩, ex_175 (c_P l.1), hQ⟩)
theorem c_51_17 (hn : ¬ (tt T sz s.1).1 = 0) (l : cr h0 17 T sz s h) (hQ : ∀ v h1, cres h0 17 T sz (sp_person (tt T sz) s) v h1 → Q v h1) : am_call am_cod 7 51 [.ref 3, .ref 17] h Q := by
  have hP := c_P l.1
  have a1 : h.1 17 0 = nI s.2.1.1 := l.2.1.1.1
  have a2 : s.2.1.1 ≤ 6 := l.2.1.1.2.1
  refine pz_call (n := 51) (nL := 4) (rt := (some .boolean)) (rows := am_r51) (d := 6) (by decide +kernel) (by decide +kernel) rfl (by funext pc; rfl) (ex_175 hP) (by exact Nat.le_of_ble_eq_true rfl) ?_
  refine am_goX 5 (show am_sh h 17 = some (0, 0) ∧ 2 < 4 ∧ pz_S 4 (some .boolean) am_r51 6 Q 8 [(2, .int (h.1 17 0)), (0, .ref 3), (1, .ref 17)] [.int (Int8.ofInt 6).toInt32, .int (h.1 17 0)] h from ⟨ex_17 (c_P l.1), by decide, ?_⟩)
  rw [a1]
  cases e15 : Nat.ble 6 s.2.1.1 with
  | true =>
    refine am_goX 1 (show ((nI s.2.1.1) < (Int8.ofInt 6).toInt32 → pz_S 4 (some .boolean) am_r51 6 Q 20 [(2, .int (nI s.2.1.1)), (0, .ref 3), (1, .ref 17)] [] h) ∧ (¬ ((nI s.2.1.1) < (Int8.ofInt 6).toInt32) → pz_S 4 (some .boolean) am_r51 6 Q 11 [(2, .int (nI s.2.1.1)), (0, .ref 3), (1, .ref 17)] [] h) from ⟨fun hz => absurd hz (i6 e15 a2), fun _ => ?_⟩)
    refine am_goX 2 (show am_sh h 3 = some (1, 0) ∧ pz_S 4 (some .boolean) am_r51 6 Q 15 [(2, .int (nI s.2.1.1)), (0, .ref 3), (1, .ref 17)] [am_rf (h.2.2.1 3 0)] h from ⟨ex_3 (c_P l.1), ?_⟩)
    rw [ex_r3_0 (h := h) (c_P l.1)]
    refine am_goX 2 (show am_rc h 1 7 ∧ 0 ≤ 8 ∧ h.2.2.2.2 + am_al 52 ≤ 175 ∧ am_call am_cod 6 52 [.ref 1, .int (Int32.ofInt 5)] h (fun vv h' => pz_S 4 (some .boolean) am_r51 6 Q 19 [(2, .int (nI s.2.1.1)), (0, .ref 3), (1, .ref 17)] (vv.toList ++ []) h') from ⟨Or.inl ⟨by decide, ex_1 (c_P l.1)⟩, by decide, ex_lim (c_P l.1) rfl, am_call.up (c_refuse l.1 ?_) (by decide)⟩)
    have x16 := cr_x (s := s) (k := (Int32.ofInt 5)) (by decide) l (by decide)
    exact am_goX 1 (show (∃ ty, (some .boolean) = some ty ∧ narrow ty (.int ((Int32.ofInt 0))) = .int ((Int32.ofInt 0))) ∧ (am_wI h 1 7 (sp_ft (tt T sz) s.1 (Int32.ofInt 5))).2.2.2.2 = 175 ∧ _ from ⟨⟨.boolean, rfl, rfl⟩, ex_175 x16.1, hQ _ _ (cres_inl (F := sp_ft (tt T sz) s.1 (Int32.ofInt 5)) (by simp only [sp_person, sp_b, sp_f, cond_true, cond_false, e15, Option.isSome_some, Option.isSome_none, Bool.true_or, Bool.or_true, Bool.or_false, Bool.false_or]) rfl x16)⟩)
  | false =>
    refine am_goX 1 (show ((nI s.2.1.1) < (Int8.ofInt 6).toInt32 → pz_S 4 (some .boolean) am_r51 6 Q 20 [(2, .int (nI s.2.1.1)), (0, .ref 3), (1, .ref 17)] [] h) ∧ (¬ ((nI s.2.1.1) < (Int8.ofInt 6).toInt32) → pz_S 4 (some .boolean) am_r51 6 Q 11 [(2, .int (nI s.2.1.1)), (0, .ref 3), (1, .ref 17)] [] h) from ⟨fun _ => ?_, fun hz => absurd (j6 e15) hz⟩)
    have hlt := j6n e15
    refine am_goX 2 (show am_sh h 3 = some (1, 0) ∧ pz_S 4 (some .boolean) am_r51 6 Q 24 [(2, .int (nI s.2.1.1)), (0, .ref 3), (1, .ref 17)] [am_rf (h.2.2.1 3 0)] h from ⟨ex_3 (c_P l.1), ?_⟩)
    rw [ex_r3_0 (h := h) (c_P l.1)]
    refine am_goX 1 (show am_rc h 1 7 ∧ 0 ≤ 8 ∧ h.2.2.2.2 + am_al 18 ≤ 175 ∧ am_call am_cod 6 18 [.ref 1] h (fun vv h' => pz_S 4 (some .boolean) am_r51 6 Q 27 [(2, .int (nI s.2.1.1)), (0, .ref 3), (1, .ref 17)] (vv.toList ++ []) h') from ⟨Or.inl ⟨by decide, ex_1 (c_P l.1)⟩, by decide, ex_lim (c_P l.1) rfl, am_call.up (c_step l.1 (hn) (fun h17 m18 f19 => ?_)) (by decide)⟩)
    have l20 : cr h0 17 T sz (s.1 + 1, s.2) h17 := cr_fr (a := s.1) (C := s.2) (by decide) l m18 (Nat.le_succ _) f19
    refine am_goX 3 (show am_rc h17 3 1 ∧ 0 ≤ 8 ∧ h17.2.2.2.2 + am_al 53 ≤ 175 ∧ am_call am_cod 6 53 [.ref 3, .ref 17] h17 (fun vv h' => pz_S 4 (some .boolean) am_r51 6 Q 32 [(2, .int (nI s.2.1.1)), (0, .ref 3), (1, .ref 17)] (vv.toList ++ []) h') from ⟨Or.inl ⟨by decide, ex_3 (c_P l20.1)⟩, by decide, ex_lim (c_P l20.1) rfl, am_call.up (c_53_17 (s := (s.1 + 1, s.2)) l20 (fun v21 h22 x23 => ?_)) (by decide)⟩)
    rcases cres_cs x23 with ⟨F25, e27, rfl, y28⟩ | ⟨t26, e27, rfl, y28⟩
    ·
      refine am_goX 1 (show (¬ 0 = 0 → pz_S 4 (some .boolean) am_r51 6 Q 37 [(2, .int (nI s.2.1.1)), (0, .ref 3), (1, .ref 17)] [] h22) ∧ (¬ ¬ 0 = 0 → pz_S 4 (some .boolean) am_r51 6 Q 35 [(2, .int (nI s.2.1.1)), (0, .ref 3), (1, .ref 17)] [] h22) from ⟨fun hz => absurd hz (by decide), fun _ => ?_⟩)
      exact am_goX 2 (show (∃ ty, (some .boolean) = some ty ∧ narrow ty (.int ((Int32.ofInt 0))) = .int ((Int32.ofInt 0))) ∧ h22.2.2.2.2 = 175 ∧ _ from ⟨⟨.boolean, rfl, rfl⟩, ex_175 y28.1, hQ _ _ (cres_inl (F := F25) (by simp only [sp_person, sp_b, sp_f, cond_true, cond_false, e15, e27, Option.isSome_some, Option.isSome_none, Bool.true_or, Bool.or_true, Bool.or_false, Bool.false_or]) rfl y28)⟩)
    ·
      obtain ⟨rfl, k29⟩ := sp_fn_inr e27
      refine am_goX 1 (show (¬ 1 = 0 → pz_S 4 (some .boolean) am_r51 6 Q 37 [(2, .int (nI s.2.1.1)), (0, .ref 3), (1, .ref 17)] [] h22) ∧ (¬ ¬ 1 = 0 → pz_S 4 (some .boolean) am_r51 6 Q 35 [(2, .int (nI s.2.1.1)), (0, .ref 3), (1, .ref 17)] [] h22) from ⟨fun _ => ?_, fun hz => absurd (by decide) hz⟩)
      refine am_goX 2 (show am_sh h22 17 = some (0, 0) ∧ pz_S 4 (some .boolean) am_r51 6 Q 41 [(2, .int (nI s.2.1.1)), (0, .ref 3), (1, .ref 17)] [am_rf (h22.2.2.1 17 1)] h22 from ⟨ex_17 (c_P y28.1), ?_⟩)
      rw [ex_r17_1 (h := h22) (c_P y28.1)]
      refine am_goX 3 (show am_sh h22 3 = some (1, 0) ∧ pz_S 4 (some .boolean) am_r51 6 Q 46 [(2, .int (nI s.2.1.1)), (0, .ref 3), (1, .ref 17)] [am_rf (h22.2.2.1 3 0), .int (nI s.2.1.1), .ref 18] h22 from ⟨ex_3 (c_P y28.1), ?_⟩)
      rw [ex_r3_0 (h := h22) (c_P y28.1)]
      refine am_goX 2 (show am_sh h22 1 = some (7, 0) ∧ ∃ jj nn : Nat, am_so h22 18 = some (14, nn) ∧ jj < nn ∧ (nI s.2.1.1) = nI jj ∧ pz_S 4 (some .boolean) am_r51 6 Q 50 [(2, .int (nI s.2.1.1)), (0, .ref 3), (1, .ref 17)] [] (am_wL h22 18 jj (h22.2.1 1 5)) from ⟨ex_1 (c_P y28.1), s.2.1.1, 6, ex_w18 (c_P y28.1), by omega, rfl, ?_⟩)
      have l30 : cr h0 17 T sz (s.1 + 1, s.2) (am_wL h22 18 (s.2.1.1) (h22.2.1 1 5)) := cr_wg (by decide) y28 (Or.inl ⟨rfl, Nat.le_refl _⟩)
      have x1 : cwk (tt T sz (s.1 + 1)).2.1 ((am_wL h22 18 (s.2.1.1) (h22.2.1 1 5)).2.1 18 (s.2.1.1)) := by
        rw [ex_lq]
        exact c_wd y28.1 (sp_nk k29)
      refine am_goX 2 (show am_sh (am_wL h22 18 (s.2.1.1) (h22.2.1 1 5)) 3 = some (1, 0) ∧ pz_S 4 (some .boolean) am_r51 6 Q 54 [(2, .int (nI s.2.1.1)), (0, .ref 3), (1, .ref 17)] [am_rf ((am_wL h22 18 (s.2.1.1) (h22.2.1 1 5)).2.2.1 3 0)] (am_wL h22 18 (s.2.1.1) (h22.2.1 1 5)) from ⟨ex_3 (c_P l30.1), ?_⟩)
      rw [ex_r3_0 (h := am_wL h22 18 (s.2.1.1) (h22.2.1 1 5)) (c_P l30.1)]
      refine am_goX 1 (show am_rc (am_wL h22 18 (s.2.1.1) (h22.2.1 1 5)) 1 7 ∧ 0 ≤ 8 ∧ (am_wL h22 18 (s.2.1.1) (h22.2.1 1 5)).2.2.2.2 + am_al 18 ≤ 175 ∧ am_call am_cod 6 18 [.ref 1] (am_wL h22 18 (s.2.1.1) (h22.2.1 1 5)) (fun vv h' => pz_S 4 (some .boolean) am_r51 6 Q 57 [(2, .int (nI s.2.1.1)), (0, .ref 3), (1, .ref 17)] (vv.toList ++ []) h') from ⟨Or.inl ⟨by decide, ex_1 (c_P l30.1)⟩, by decide, ex_lim (c_P l30.1) rfl, am_call.up (c_step l30.1 (sp_nn k29) (fun h31 m32 f33 => ?_)) (by decide)⟩)
      have l34 : cr h0 17 T sz (s.1 + 1 + 1, s.2) h31 := cr_fr (a := (s.1 + 1)) (C := s.2) (by decide) l30 m32 (Nat.le_succ _) f33
      have x1 := fr1_W f33 (by decide) x1
      refine am_goX 2 (show am_rc h31 3 1 ∧ 0 ≤ 8 ∧ h31.2.2.2.2 + am_al 57 ≤ 175 ∧ am_call am_cod 6 57 [.ref 3] h31 (fun vv h' => pz_S 4 (some .boolean) am_r51 6 Q 61 [(2, .int (nI s.2.1.1)), (0, .ref 3), (1, .ref 17)] (vv.toList ++ []) h') from ⟨Or.inl ⟨by decide, ex_3 (c_P l34.1)⟩, by decide, ex_lim (c_P l34.1) rfl, am_call.up (c_57_17 l34 ?_) (by decide)⟩)
      cases e35 : sp_kd (tt T sz) (s.1 + 1 + 1) with
      | none =>
        refine am_goX 4 (show 3 < 4 ∧ (¬ (Int32.ofInt (-1)) = (Int32.ofInt (-1)) → pz_S 4 (some .boolean) am_r51 6 Q 76 [(3, .int (Int32.ofInt (-1))), (2, .int (nI s.2.1.1)), (0, .ref 3), (1, .ref 17)] [] h31) ∧ (¬ ¬ (Int32.ofInt (-1)) = (Int32.ofInt (-1)) → pz_S 4 (some .boolean) am_r51 6 Q 67 [(3, .int (Int32.ofInt (-1))), (2, .int (nI s.2.1.1)), (0, .ref 3), (1, .ref 17)] [] h31) from ⟨by decide, fun hz => absurd hz (by decide), fun _ => ?_⟩)
        refine am_goX 2 (show am_sh h31 3 = some (1, 0) ∧ pz_S 4 (some .boolean) am_r51 6 Q 71 [(3, .int (Int32.ofInt (-1))), (2, .int (nI s.2.1.1)), (0, .ref 3), (1, .ref 17)] [am_rf (h31.2.2.1 3 0)] h31 from ⟨ex_3 (c_P l34.1), ?_⟩)
        rw [ex_r3_0 (h := h31) (c_P l34.1)]
        refine am_goX 2 (show am_rc h31 1 7 ∧ 0 ≤ 8 ∧ h31.2.2.2.2 + am_al 52 ≤ 175 ∧ am_call am_cod 6 52 [.ref 1, .int (Int32.ofInt 1)] h31 (fun vv h' => pz_S 4 (some .boolean) am_r51 6 Q 75 [(3, .int (Int32.ofInt (-1))), (2, .int (nI s.2.1.1)), (0, .ref 3), (1, .ref 17)] (vv.toList ++ []) h') from ⟨Or.inl ⟨by decide, ex_1 (c_P l34.1)⟩, by decide, ex_lim (c_P l34.1) rfl, am_call.up (c_refuse l34.1 ?_) (by decide)⟩)
        have x38 := cr_x (s := (s.1 + 1 + 1, s.2)) (k := (Int32.ofInt 1)) (by decide) l34 (by decide)
        exact am_goX 1 (show (∃ ty, (some .boolean) = some ty ∧ narrow ty (.int ((Int32.ofInt 0))) = .int ((Int32.ofInt 0))) ∧ (am_wI h31 1 7 (sp_ft (tt T sz) (s.1 + 1 + 1) (Int32.ofInt 1))).2.2.2.2 = 175 ∧ _ from ⟨⟨.boolean, rfl, rfl⟩, ex_175 x38.1, hQ _ _ (cres_inl (F := sp_ft (tt T sz) (s.1 + 1 + 1) (Int32.ofInt 1)) (by simp only [sp_person, sp_b, sp_f, cond_true, cond_false, e15, e27, e35, Option.isSome_some, Option.isSome_none, Bool.true_or, Bool.or_true, Bool.or_false, Bool.false_or]) rfl x38)⟩)
      | some k36 =>
        have w37 := sp_kd_v e35
        refine am_goX 4 (show 3 < 4 ∧ (¬ k36 = (Int32.ofInt (-1)) → pz_S 4 (some .boolean) am_r51 6 Q 76 [(3, .int k36), (2, .int (nI s.2.1.1)), (0, .ref 3), (1, .ref 17)] [] h31) ∧ (¬ ¬ k36 = (Int32.ofInt (-1)) → pz_S 4 (some .boolean) am_r51 6 Q 67 [(3, .int k36), (2, .int (nI s.2.1.1)), (0, .ref 3), (1, .ref 17)] [] h31) from ⟨by decide, fun _ => ?_, fun hz => absurd w37.1 hz⟩)
        refine am_goX 2 (show am_sh h31 17 = some (0, 0) ∧ pz_S 4 (some .boolean) am_r51 6 Q 80 [(3, .int k36), (2, .int (nI s.2.1.1)), (0, .ref 3), (1, .ref 17)] [am_rf (h31.2.2.1 17 2)] h31 from ⟨ex_17 (c_P l34.1), ?_⟩)
        rw [ex_r17_2 (h := h31) (c_P l34.1)]
        refine am_goX 3 (show ∃ jj nn : Nat, am_so h31 19 = some (13, nn) ∧ jj < nn ∧ (nI s.2.1.1) = nI jj ∧ pz_S 4 (some .boolean) am_r51 6 Q 83 [(3, .int k36), (2, .int (nI s.2.1.1)), (0, .ref 3), (1, .ref 17)] [] (am_wI h31 19 jj k36) from ⟨s.2.1.1, 6, ex_w19 (c_P l34.1), by omega, rfl, ?_⟩)
        have l39 : cr h0 17 T sz (s.1 + 1 + 1, s.2) (am_wI h31 19 (s.2.1.1) k36) := cr_wf (by decide) l34 (Or.inl ⟨Or.inl rfl, Nat.le_refl _⟩)
        have x2 : (am_wI h31 19 (s.2.1.1) k36).1 19 (s.2.1.1) = k36 := em_we _ _ _ _
        refine am_goX 2 (show am_sh (am_wI h31 19 (s.2.1.1) k36) 3 = some (1, 0) ∧ pz_S 4 (some .boolean) am_r51 6 Q 87 [(3, .int k36), (2, .int (nI s.2.1.1)), (0, .ref 3), (1, .ref 17)] [am_rf ((am_wI h31 19 (s.2.1.1) k36).2.2.1 3 0)] (am_wI h31 19 (s.2.1.1) k36) from ⟨ex_3 (c_P l39.1), ?_⟩)
        rw [ex_r3_0 (h := am_wI h31 19 (s.2.1.1) k36) (c_P l39.1)]
        refine am_goX 1 (show am_rc (am_wI h31 19 (s.2.1.1) k36) 1 7 ∧ 0 ≤ 8 ∧ (am_wI h31 19 (s.2.1.1) k36).2.2.2.2 + am_al 18 ≤ 175 ∧ am_call am_cod 6 18 [.ref 1] (am_wI h31 19 (s.2.1.1) k36) (fun vv h' => pz_S 4 (some .boolean) am_r51 6 Q 90 [(3, .int k36), (2, .int (nI s.2.1.1)), (0, .ref 3), (1, .ref 17)] (vv.toList ++ []) h') from ⟨Or.inl ⟨by decide, ex_1 (c_P l39.1)⟩, by decide, ex_lim (c_P l39.1) rfl, am_call.up (c_step l39.1 (w37.2) (fun h40 m41 f42 => ?_)) (by decide)⟩)
        have l43 : cr h0 17 T sz (s.1 + 1 + 1 + 1, s.2) h40 := cr_fr (a := (s.1 + 1 + 1)) (C := s.2) (by decide) l39 m41 (Nat.le_succ _) f42
        have x1 := fr1_W f42 (by decide) x1
        have x2 := fr1_I f42 (by decide) x2
        refine am_goX 2 (show am_sh h40 3 = some (1, 0) ∧ pz_S 4 (some .boolean) am_r51 6 Q 94 [(3, .int k36), (2, .int (nI s.2.1.1)), (0, .ref 3), (1, .ref 17)] [am_rf (h40.2.2.1 3 0)] h40 from ⟨ex_3 (c_P l43.1), ?_⟩)
        rw [ex_r3_0 (h := h40) (c_P l43.1)]
        refine am_goX 2 (show am_rc h40 1 7 ∧ 0 ≤ 8 ∧ h40.2.2.2.2 + am_al 58 ≤ 175 ∧ am_call am_cod 6 58 [.ref 1, .ref (4000000 + 7)] h40 (fun vv h' => pz_S 4 (some .boolean) am_r51 6 Q 99 [(3, .int k36), (2, .int (nI s.2.1.1)), (0, .ref 3), (1, .ref 17)] (vv.toList ++ []) h') from ⟨Or.inl ⟨by decide, ex_1 (c_P l43.1)⟩, by decide, ex_lim (c_P l43.1) rfl, am_call.up (c_tW (s := (s.1 + 1 + 1 + 1, s.2)) (by decide) wq_7 (by decide) l43 (fun v44 h45 x46 f47 => ?_)) (by decide)⟩)
        rcases cres_cs x46 with ⟨F48, e50, rfl, y51⟩ | ⟨t49, e50, rfl, y51⟩
        ·
          refine am_goX 1 (show (0 = 0 → pz_S 4 (some .boolean) am_r51 6 Q 114 [(3, .int k36), (2, .int (nI s.2.1.1)), (0, .ref 3), (1, .ref 17)] [] h45) ∧ (¬ (0 = 0) → pz_S 4 (some .boolean) am_r51 6 Q 102 [(3, .int k36), (2, .int (nI s.2.1.1)), (0, .ref 3), (1, .ref 17)] [] h45) from ⟨fun _ => ?_, fun hz => absurd (by decide) hz⟩)
          exact am_goX 2 (show (∃ ty, (some .boolean) = some ty ∧ narrow ty (.int ((Int32.ofInt 0))) = .int ((Int32.ofInt 0))) ∧ h45.2.2.2.2 = 175 ∧ _ from ⟨⟨.boolean, rfl, rfl⟩, ex_175 y51.1, hQ _ _ (cres_inl (F := F48) (by simp only [sp_person, sp_b, sp_f, cond_true, cond_false, e15, e27, e35, e50, Option.isSome_some, Option.isSome_none, Bool.true_or, Bool.or_true, Bool.or_false, Bool.false_or]) rfl y51)⟩)
        ·
          obtain rfl := sp_tW_inr e50
          have x1 := fr1_W f47 (by decide) x1
          have x2 := fr1_I f47 (by decide) x2
          refine am_goX 1 (show (1 = 0 → pz_S 4 (some .boolean) am_r51 6 Q 114 [(3, .int k36), (2, .int (nI s.2.1.1)), (0, .ref 3), (1, .ref 17)] [] h45) ∧ (¬ (1 = 0) → pz_S 4 (some .boolean) am_r51 6 Q 102 [(3, .int k36), (2, .int (nI s.2.1.1)), (0, .ref 3), (1, .ref 17)] [] h45) from ⟨fun hz => absurd hz (by decide), fun _ => ?_⟩)
          refine am_goX 2 (show am_sh h45 3 = some (1, 0) ∧ pz_S 4 (some .boolean) am_r51 6 Q 106 [(3, .int k36), (2, .int (nI s.2.1.1)), (0, .ref 3), (1, .ref 17)] [am_rf (h45.2.2.1 3 0)] h45 from ⟨ex_3 (c_P y51.1), ?_⟩)
          rw [ex_r3_0 (h := h45) (c_P y51.1)]
          refine am_goX 3 (show am_rc h45 1 7 ∧ 0 ≤ 8 ∧ h45.2.2.2.2 + am_al 59 ≤ 175 ∧ am_call am_cod 6 59 [.ref 1, .int (Int32.ofInt 0), .int (Int32.ofInt 4)] h45 (fun vv h' => pz_S 4 (some .boolean) am_r51 6 Q 111 [(3, .int k36), (2, .int (nI s.2.1.1)), (0, .ref 3), (1, .ref 17)] (vv.toList ++ []) h') from ⟨Or.inl ⟨by decide, ex_1 (c_P y51.1)⟩, by decide, ex_lim (c_P y51.1) rfl, am_call.up (c_tN (s := (s.1 + 1 + 1 + 1 + 1, s.2)) (by decide) y51 (fun v52 h53 x54 f55 => ?_)) (by decide)⟩)
          rcases cres_cs x54 with ⟨F56, e58, rfl, y59⟩ | ⟨t57, e58, rfl, y59⟩
          ·
            refine am_goX 1 (show (¬ 0 = 0 → pz_S 4 (some .boolean) am_r51 6 Q 116 [(3, .int k36), (2, .int (nI s.2.1.1)), (0, .ref 3), (1, .ref 17)] [] h53) ∧ (¬ ¬ 0 = 0 → pz_S 4 (some .boolean) am_r51 6 Q 114 [(3, .int k36), (2, .int (nI s.2.1.1)), (0, .ref 3), (1, .ref 17)] [] h53) from ⟨fun hz => absurd hz (by decide), fun _ => ?_⟩)
            exact am_goX 2 (show (∃ ty, (some .boolean) = some ty ∧ narrow ty (.int ((Int32.ofInt 0))) = .int ((Int32.ofInt 0))) ∧ h53.2.2.2.2 = 175 ∧ _ from ⟨⟨.boolean, rfl, rfl⟩, ex_175 y59.1, hQ _ _ (cres_inl (F := F56) (by simp only [sp_person, sp_b, sp_f, cond_true, cond_false, e15, e27, e35, e50, e58, Option.isSome_some, Option.isSome_none, Bool.true_or, Bool.or_true, Bool.or_false, Bool.false_or]) rfl y59)⟩)
          ·
            obtain ⟨rfl, k60, _⟩ := sp_tN_inr e58
            have x1 := fr1_W f55 (by decide) x1
            have x2 := fr1_I f55 (by decide) x2
            refine am_goX 1 (show (¬ 1 = 0 → pz_S 4 (some .boolean) am_r51 6 Q 116 [(3, .int k36), (2, .int (nI s.2.1.1)), (0, .ref 3), (1, .ref 17)] [] h53) ∧ (¬ ¬ 1 = 0 → pz_S 4 (some .boolean) am_r51 6 Q 114 [(3, .int k36), (2, .int (nI s.2.1.1)), (0, .ref 3), (1, .ref 17)] [] h53) from ⟨fun _ => ?_, fun hz => absurd (by decide) hz⟩)
            refine am_goX 2 (show am_sh h53 17 = some (0, 0) ∧ pz_S 4 (some .boolean) am_r51 6 Q 120 [(3, .int k36), (2, .int (nI s.2.1.1)), (0, .ref 3), (1, .ref 17)] [am_rf (h53.2.2.1 17 3)] h53 from ⟨ex_17 (c_P y59.1), ?_⟩)
            rw [ex_r17_3 (h := h53) (c_P y59.1)]
            refine am_goX 3 (show am_sh h53 3 = some (1, 0) ∧ pz_S 4 (some .boolean) am_r51 6 Q 125 [(3, .int k36), (2, .int (nI s.2.1.1)), (0, .ref 3), (1, .ref 17)] [am_rf (h53.2.2.1 3 0), .int (nI s.2.1.1), .ref 20] h53 from ⟨ex_3 (c_P y59.1), ?_⟩)
            rw [ex_r3_0 (h := h53) (c_P y59.1)]
            refine am_goX 1 (show am_sh h53 1 = some (7, 0) ∧ pz_S 4 (some .boolean) am_r51 6 Q 128 [(3, .int k36), (2, .int (nI s.2.1.1)), (0, .ref 3), (1, .ref 17)] [.int (h53.1 1 6), .int (nI s.2.1.1), .ref 20] h53 from ⟨ex_1 (c_P y59.1), ?_⟩)
            rw [c_nv y59.1 k60]
            refine am_goX 1 (show ∃ jj nn : Nat, am_so h53 20 = some (13, nn) ∧ jj < nn ∧ (nI s.2.1.1) = nI jj ∧ pz_S 4 (some .boolean) am_r51 6 Q 129 [(3, .int k36), (2, .int (nI s.2.1.1)), (0, .ref 3), (1, .ref 17)] [] (am_wI h53 20 jj (sp_v (tt T sz) (s.1 + 1 + 1 + 1 + 1))) from ⟨s.2.1.1, 6, ex_w20 (c_P y59.1), by omega, rfl, ?_⟩)
            have l61 : cr h0 17 T sz (s.1 + 1 + 1 + 1 + 1, s.2) (am_wI h53 20 (s.2.1.1) (sp_v (tt T sz) (s.1 + 1 + 1 + 1 + 1))) := cr_wf (by decide) y59 (Or.inl ⟨Or.inr rfl, Nat.le_refl _⟩)
            have x3 : (am_wI h53 20 (s.2.1.1) (sp_v (tt T sz) (s.1 + 1 + 1 + 1 + 1))).1 20 (s.2.1.1) = (sp_v (tt T sz) (s.1 + 1 + 1 + 1 + 1)) := em_we _ _ _ _
            have x2 := (em_wn (o := 20) (k := s.2.1.1) _ ((sp_v (tt T sz) (s.1 + 1 + 1 + 1 + 1))) (by omega)).trans x2
            refine am_goX 2 (show am_sh (am_wI h53 20 (s.2.1.1) (sp_v (tt T sz) (s.1 + 1 + 1 + 1 + 1))) 3 = some (1, 0) ∧ pz_S 4 (some .boolean) am_r51 6 Q 133 [(3, .int k36), (2, .int (nI s.2.1.1)), (0, .ref 3), (1, .ref 17)] [am_rf ((am_wI h53 20 (s.2.1.1) (sp_v (tt T sz) (s.1 + 1 + 1 + 1 + 1))).2.2.1 3 0)] (am_wI h53 20 (s.2.1.1) (sp_v (tt T sz) (s.1 + 1 + 1 + 1 + 1))) from ⟨ex_3 (c_P l61.1), ?_⟩)
            rw [ex_r3_0 (h := am_wI h53 20 (s.2.1.1) (sp_v (tt T sz) (s.1 + 1 + 1 + 1 + 1))) (c_P l61.1)]
            refine am_goX 1 (show am_rc (am_wI h53 20 (s.2.1.1) (sp_v (tt T sz) (s.1 + 1 + 1 + 1 + 1))) 1 7 ∧ 0 ≤ 8 ∧ (am_wI h53 20 (s.2.1.1) (sp_v (tt T sz) (s.1 + 1 + 1 + 1 + 1))).2.2.2.2 + am_al 18 ≤ 175 ∧ am_call am_cod 6 18 [.ref 1] (am_wI h53 20 (s.2.1.1) (sp_v (tt T sz) (s.1 + 1 + 1 + 1 + 1))) (fun vv h' => pz_S 4 (some .boolean) am_r51 6 Q 136 [(3, .int k36), (2, .int (nI s.2.1.1)), (0, .ref 3), (1, .ref 17)] (vv.toList ++ []) h') from ⟨Or.inl ⟨by decide, ex_1 (c_P l61.1)⟩, by decide, ex_lim (c_P l61.1) rfl, am_call.up (c_step l61.1 (sp_kn (by decide) k60) (fun h62 m63 f64 => ?_)) (by decide)⟩)
            have l65 : cr h0 17 T sz (s.1 + 1 + 1 + 1 + 1 + 1, s.2) h62 := cr_fr (a := (s.1 + 1 + 1 + 1 + 1)) (C := s.2) (by decide) l61 m63 (Nat.le_succ _) f64
            have x1 := fr1_W f64 (by decide) x1
            have x2 := fr1_I f64 (by decide) x2
            have x3 := fr1_I f64 (by decide) x3
            refine am_goX 6 (show (Value.ref 17).category = 1 ∧ am_sh h62 17 = some (0, 0) ∧ am_sh h62 17 = some (0, 0) ∧ narrow (am_fty 0 0) (.int (((h62.1 17 0) + (Int32.ofInt 1)))) = .int (((h62.1 17 0) + (Int32.ofInt 1))) ∧ fits (am_fty 0 0) (.int (((h62.1 17 0) + (Int32.ofInt 1)))) = true ∧ pz_S 4 (some .boolean) am_r51 6 Q 146 [(3, .int k36), (2, .int (nI s.2.1.1)), (0, .ref 3), (1, .ref 17)] [] (am_wI h62 17 0 (((h62.1 17 0) + (Int32.ofInt 1)))) from ⟨rfl, ex_17 (c_P l65.1), ex_17 (c_P l65.1), rfl, rfl, ?_⟩)
            rw [show h62.1 17 0 = nI (s.2.1.1) from l65.2.1.1.1, xw_i1]
            have l66 : cr h0 17 T sz (s.1 + 1 + 1 + 1 + 1 + 1, sp_cP s.2 (tt T sz (s.1 + 1)).2.1 k36 (sp_v (tt T sz) (s.1 + 1 + 1 + 1 + 1))) (am_wI h62 17 0 (nI (s.2.1.1 + 1))) := cr_P (by decide) l65 hlt x1 x2 x3
            refine am_goX 2 (show am_sh (am_wI h62 17 0 (nI (s.2.1.1 + 1))) 3 = some (1, 0) ∧ pz_S 4 (some .boolean) am_r51 6 Q 150 [(3, .int k36), (2, .int (nI s.2.1.1)), (0, .ref 3), (1, .ref 17)] [am_rf ((am_wI h62 17 0 (nI (s.2.1.1 + 1))).2.2.1 3 0)] (am_wI h62 17 0 (nI (s.2.1.1 + 1))) from ⟨ex_3 (c_P l66.1), ?_⟩)
            rw [ex_r3_0 (h := am_wI h62 17 0 (nI (s.2.1.1 + 1))) (c_P l66.1)]
            refine am_goX 2 (show am_rc (am_wI h62 17 0 (nI (s.2.1.1 + 1))) 1 7 ∧ 0 ≤ 8 ∧ (am_wI h62 17 0 (nI (s.2.1.1 + 1))).2.2.2.2 + am_al 61 ≤ 175 ∧ am_call am_cod 6 61 [.ref 1, .int (Int8.ofInt 59).toInt32] (am_wI h62 17 0 (nI (s.2.1.1 + 1))) (fun vv h' => pz_S 4 (some .boolean) am_r51 6 Q 155 [(3, .int k36), (2, .int (nI s.2.1.1)), (0, .ref 3), (1, .ref 17)] (vv.toList ++ []) h') from ⟨Or.inl ⟨by decide, ex_1 (c_P l66.1)⟩, by decide, ex_lim (c_P l66.1) rfl, am_call.up (c_tS (s := (s.1 + 1 + 1 + 1 + 1 + 1, sp_cP s.2 (tt T sz (s.1 + 1)).2.1 k36 (sp_v (tt T sz) (s.1 + 1 + 1 + 1 + 1)))) (by decide) l66 (fun v67 h68 x69 f70 => ?_)) (by decide)⟩)
            rcases cres_cs x69 with ⟨F71, e73, rfl, y74⟩ | ⟨t72, e73, rfl, y74⟩
            ·
              exact am_goX 1 (show (∃ ty, (some .boolean) = some ty ∧ narrow ty (.int (0)) = .int (0)) ∧ h68.2.2.2.2 = 175 ∧ _ from ⟨⟨.boolean, rfl, rfl⟩, ex_175 y74.1, hQ _ _ (cres_inl (F := F71) (by simp only [sp_person, sp_b, sp_f, cond_true, cond_false, e15, e27, e35, e50, e58, e73, Option.isSome_some, Option.isSome_none, Bool.true_or, Bool.or_true, Bool.or_false, Bool.false_or]) rfl y74)⟩)
            ·
              obtain rfl := sp_tS_inr e73
              exact am_goX 1 (show (∃ ty, (some .boolean) = some ty ∧ narrow ty (.int (1)) = .int (1)) ∧ h68.2.2.2.2 = 175 ∧ _ from ⟨⟨.boolean, rfl, rfl⟩, ex_175 (c_P y74.1), hQ _ _ (cres_inr (s' := (s.1 + 1 + 1 + 1 + 1 + 1 + 1, (sp_cP s.2 (tt T sz (s.1 + 1)).2.1 k36 (sp_v (tt T sz) (s.1 + 1 + 1 + 1 + 1))))) (by simp only [sp_person, sp_b, sp_f, cond_true, cond_false, e15, e27, e35, e50, e58, e73, Option.isSome_some, Option.isSome_none, Bool.true_or, Bool.or_true, Bool.or_false, Bool.false_or]) rfl y74)⟩)
theorem c_63_17 (hn : ¬ (tt T sz s.1).1 = 0) (l : cr h0 17 T sz s h) (hQ : ∀ v h1, cres h0 17 T sz (sp_event (tt T sz) s) v h1 → Q v h1) : am_call am_cod 7 63 [.ref 3, .ref 17] h Q := by
  have hP := c_P l.1
  have a1 : h.1 17 4 = nI s.2.2.1.1 := l.2.1.2.1.1
  have a2 : s.2.2.1.1 ≤ 5 := l.2.1.2.1.2.1
  refine pz_call (n := 63) (nL := 3) (rt := (some .boolean)) (rows := am_r63) (d := 6) (by decide +kernel) (by decide +kernel) rfl (by funext pc; rfl) (ex_175 hP) (by exact Nat.le_of_ble_eq_true rfl) ?_
  refine am_goX 5 (show am_sh h 17 = some (0, 0) ∧ 2 < 3 ∧ pz_S 3 (some .boolean) am_r63 6 Q 7 [(2, .int (h.1 17 4)), (0, .ref 3), (1, .ref 17)] [.int (Int32.ofInt 5), .int (h.1 17 4)] h from ⟨ex_17 (c_P l.1), by decide, ?_⟩)
  rw [a1]
  cases e75 : Nat.ble 5 s.2.2.1.1 with
  | true =>
    refine am_goX 1 (show ((nI s.2.2.1.1) < (Int32.ofInt 5) → pz_S 3 (some .boolean) am_r63 6 Q 19 [(2, .int (nI s.2.2.1.1)), (0, .ref 3), (1, .ref 17)] [] h) ∧ (¬ ((nI s.2.2.1.1) < (Int32.ofInt 5)) → pz_S 3 (some .boolean) am_r63 6 Q 10 [(2, .int (nI s.2.2.1.1)), (0, .ref 3), (1, .ref 17)] [] h) from ⟨fun hz => absurd hz (i5 e75 a2), fun _ => ?_⟩)
    refine am_goX 2 (show am_sh h 3 = some (1, 0) ∧ pz_S 3 (some .boolean) am_r63 6 Q 14 [(2, .int (nI s.2.2.1.1)), (0, .ref 3), (1, .ref 17)] [am_rf (h.2.2.1 3 0)] h from ⟨ex_3 (c_P l.1), ?_⟩)
    rw [ex_r3_0 (h := h) (c_P l.1)]
    refine am_goX 2 (show am_rc h 1 7 ∧ 0 ≤ 8 ∧ h.2.2.2.2 + am_al 52 ≤ 175 ∧ am_call am_cod 6 52 [.ref 1, .int (Int32.ofInt 5)] h (fun vv h' => pz_S 3 (some .boolean) am_r63 6 Q 18 [(2, .int (nI s.2.2.1.1)), (0, .ref 3), (1, .ref 17)] (vv.toList ++ []) h') from ⟨Or.inl ⟨by decide, ex_1 (c_P l.1)⟩, by decide, ex_lim (c_P l.1) rfl, am_call.up (c_refuse l.1 ?_) (by decide)⟩)
    have x76 := cr_x (s := s) (k := (Int32.ofInt 5)) (by decide) l (by decide)
    exact am_goX 1 (show (∃ ty, (some .boolean) = some ty ∧ narrow ty (.int ((Int32.ofInt 0))) = .int ((Int32.ofInt 0))) ∧ (am_wI h 1 7 (sp_ft (tt T sz) s.1 (Int32.ofInt 5))).2.2.2.2 = 175 ∧ _ from ⟨⟨.boolean, rfl, rfl⟩, ex_175 x76.1, hQ _ _ (cres_inl (F := sp_ft (tt T sz) s.1 (Int32.ofInt 5)) (by simp only [sp_event, sp_b, sp_f, cond_true, cond_false, e75, Option.isSome_some, Option.isSome_none, Bool.true_or, Bool.or_true, Bool.or_false, Bool.false_or]) rfl x76)⟩)
  | false =>
    refine am_goX 1 (show ((nI s.2.2.1.1) < (Int32.ofInt 5) → pz_S 3 (some .boolean) am_r63 6 Q 19 [(2, .int (nI s.2.2.1.1)), (0, .ref 3), (1, .ref 17)] [] h) ∧ (¬ ((nI s.2.2.1.1) < (Int32.ofInt 5)) → pz_S 3 (some .boolean) am_r63 6 Q 10 [(2, .int (nI s.2.2.1.1)), (0, .ref 3), (1, .ref 17)] [] h) from ⟨fun _ => ?_, fun hz => absurd (j5 e75) hz⟩)
    have hlt := j5n e75
    refine am_goX 2 (show am_sh h 3 = some (1, 0) ∧ pz_S 3 (some .boolean) am_r63 6 Q 23 [(2, .int (nI s.2.2.1.1)), (0, .ref 3), (1, .ref 17)] [am_rf (h.2.2.1 3 0)] h from ⟨ex_3 (c_P l.1), ?_⟩)
    rw [ex_r3_0 (h := h) (c_P l.1)]
    refine am_goX 1 (show am_rc h 1 7 ∧ 0 ≤ 8 ∧ h.2.2.2.2 + am_al 18 ≤ 175 ∧ am_call am_cod 6 18 [.ref 1] h (fun vv h' => pz_S 3 (some .boolean) am_r63 6 Q 26 [(2, .int (nI s.2.2.1.1)), (0, .ref 3), (1, .ref 17)] (vv.toList ++ []) h') from ⟨Or.inl ⟨by decide, ex_1 (c_P l.1)⟩, by decide, ex_lim (c_P l.1) rfl, am_call.up (c_step l.1 (hn) (fun h77 m78 f79 => ?_)) (by decide)⟩)
    have l80 : cr h0 17 T sz (s.1 + 1, s.2) h77 := cr_fr (a := s.1) (C := s.2) (by decide) l m78 (Nat.le_succ _) f79
    refine am_goX 3 (show am_rc h77 3 1 ∧ 0 ≤ 8 ∧ h77.2.2.2.2 + am_al 53 ≤ 175 ∧ am_call am_cod 6 53 [.ref 3, .ref 17] h77 (fun vv h' => pz_S 3 (some .boolean) am_r63 6 Q 31 [(2, .int (nI s.2.2.1.1)), (0, .ref 3), (1, .ref 17)] (vv.toList ++ []) h') from ⟨Or.inl ⟨by decide, ex_3 (c_P l80.1)⟩, by decide, ex_lim (c_P l80.1) rfl, am_call.up (c_53_17 (s := (s.1 + 1, s.2)) l80 (fun v81 h82 x83 => ?_)) (by decide)⟩)
    rcases cres_cs x83 with ⟨F85, e87, rfl, y88⟩ | ⟨t86, e87, rfl, y88⟩
    ·
      refine am_goX 1 (show (¬ 0 = 0 → pz_S 3 (some .boolean) am_r63 6 Q 36 [(2, .int (nI s.2.2.1.1)), (0, .ref 3), (1, .ref 17)] [] h82) ∧ (¬ ¬ 0 = 0 → pz_S 3 (some .boolean) am_r63 6 Q 34 [(2, .int (nI s.2.2.1.1)), (0, .ref 3), (1, .ref 17)] [] h82) from ⟨fun hz => absurd hz (by decide), fun _ => ?_⟩)
      exact am_goX 2 (show (∃ ty, (some .boolean) = some ty ∧ narrow ty (.int ((Int32.ofInt 0))) = .int ((Int32.ofInt 0))) ∧ h82.2.2.2.2 = 175 ∧ _ from ⟨⟨.boolean, rfl, rfl⟩, ex_175 y88.1, hQ _ _ (cres_inl (F := F85) (by simp only [sp_event, sp_b, sp_f, cond_true, cond_false, e75, e87, Option.isSome_some, Option.isSome_none, Bool.true_or, Bool.or_true, Bool.or_false, Bool.false_or]) rfl y88)⟩)
    ·
      obtain ⟨rfl, k89⟩ := sp_fn_inr e87
      refine am_goX 1 (show (¬ 1 = 0 → pz_S 3 (some .boolean) am_r63 6 Q 36 [(2, .int (nI s.2.2.1.1)), (0, .ref 3), (1, .ref 17)] [] h82) ∧ (¬ ¬ 1 = 0 → pz_S 3 (some .boolean) am_r63 6 Q 34 [(2, .int (nI s.2.2.1.1)), (0, .ref 3), (1, .ref 17)] [] h82) from ⟨fun _ => ?_, fun hz => absurd (by decide) hz⟩)
      refine am_goX 2 (show am_sh h82 17 = some (0, 0) ∧ pz_S 3 (some .boolean) am_r63 6 Q 40 [(2, .int (nI s.2.2.1.1)), (0, .ref 3), (1, .ref 17)] [am_rf (h82.2.2.1 17 5)] h82 from ⟨ex_17 (c_P y88.1), ?_⟩)
      rw [ex_r17_5 (h := h82) (c_P y88.1)]
      refine am_goX 3 (show am_sh h82 3 = some (1, 0) ∧ pz_S 3 (some .boolean) am_r63 6 Q 45 [(2, .int (nI s.2.2.1.1)), (0, .ref 3), (1, .ref 17)] [am_rf (h82.2.2.1 3 0), .int (nI s.2.2.1.1), .ref 21] h82 from ⟨ex_3 (c_P y88.1), ?_⟩)
      rw [ex_r3_0 (h := h82) (c_P y88.1)]
      refine am_goX 2 (show am_sh h82 1 = some (7, 0) ∧ ∃ jj nn : Nat, am_so h82 21 = some (14, nn) ∧ jj < nn ∧ (nI s.2.2.1.1) = nI jj ∧ pz_S 3 (some .boolean) am_r63 6 Q 49 [(2, .int (nI s.2.2.1.1)), (0, .ref 3), (1, .ref 17)] [] (am_wL h82 21 jj (h82.2.1 1 5)) from ⟨ex_1 (c_P y88.1), s.2.2.1.1, 5, ex_w21 (c_P y88.1), by omega, rfl, ?_⟩)
      have l90 : cr h0 17 T sz (s.1 + 1, s.2) (am_wL h82 21 (s.2.2.1.1) (h82.2.1 1 5)) := cr_wg (by decide) y88 (Or.inr ⟨rfl, Nat.le_refl _⟩)
      have x1 : cwk (tt T sz (s.1 + 1)).2.1 ((am_wL h82 21 (s.2.2.1.1) (h82.2.1 1 5)).2.1 21 (s.2.2.1.1)) := by
        rw [ex_lq]
        exact c_wd y88.1 (sp_nk k89)
      refine am_goX 2 (show am_sh (am_wL h82 21 (s.2.2.1.1) (h82.2.1 1 5)) 3 = some (1, 0) ∧ pz_S 3 (some .boolean) am_r63 6 Q 53 [(2, .int (nI s.2.2.1.1)), (0, .ref 3), (1, .ref 17)] [am_rf ((am_wL h82 21 (s.2.2.1.1) (h82.2.1 1 5)).2.2.1 3 0)] (am_wL h82 21 (s.2.2.1.1) (h82.2.1 1 5)) from ⟨ex_3 (c_P l90.1), ?_⟩)
      rw [ex_r3_0 (h := am_wL h82 21 (s.2.2.1.1) (h82.2.1 1 5)) (c_P l90.1)]
      refine am_goX 1 (show am_rc (am_wL h82 21 (s.2.2.1.1) (h82.2.1 1 5)) 1 7 ∧ 0 ≤ 8 ∧ (am_wL h82 21 (s.2.2.1.1) (h82.2.1 1 5)).2.2.2.2 + am_al 18 ≤ 175 ∧ am_call am_cod 6 18 [.ref 1] (am_wL h82 21 (s.2.2.1.1) (h82.2.1 1 5)) (fun vv h' => pz_S 3 (some .boolean) am_r63 6 Q 56 [(2, .int (nI s.2.2.1.1)), (0, .ref 3), (1, .ref 17)] (vv.toList ++ []) h') from ⟨Or.inl ⟨by decide, ex_1 (c_P l90.1)⟩, by decide, ex_lim (c_P l90.1) rfl, am_call.up (c_step l90.1 (sp_nn k89) (fun h91 m92 f93 => ?_)) (by decide)⟩)
      have l94 : cr h0 17 T sz (s.1 + 1 + 1, s.2) h91 := cr_fr (a := (s.1 + 1)) (C := s.2) (by decide) l90 m92 (Nat.le_succ _) f93
      have x1 := fr1_W f93 (by decide) x1
      refine am_goX 2 (show am_sh h91 3 = some (1, 0) ∧ pz_S 3 (some .boolean) am_r63 6 Q 60 [(2, .int (nI s.2.2.1.1)), (0, .ref 3), (1, .ref 17)] [am_rf (h91.2.2.1 3 0)] h91 from ⟨ex_3 (c_P l94.1), ?_⟩)
      rw [ex_r3_0 (h := h91) (c_P l94.1)]
      refine am_goX 2 (show am_rc h91 1 7 ∧ 0 ≤ 8 ∧ h91.2.2.2.2 + am_al 58 ≤ 175 ∧ am_call am_cod 6 58 [.ref 1, .ref (4000000 + 9)] h91 (fun vv h' => pz_S 3 (some .boolean) am_r63 6 Q 65 [(2, .int (nI s.2.2.1.1)), (0, .ref 3), (1, .ref 17)] (vv.toList ++ []) h') from ⟨Or.inl ⟨by decide, ex_1 (c_P l94.1)⟩, by decide, ex_lim (c_P l94.1) rfl, am_call.up (c_tW (s := (s.1 + 1 + 1, s.2)) (by decide) wq_9 (by decide) l94 (fun v95 h96 x97 f98 => ?_)) (by decide)⟩)
      rcases cres_cs x97 with ⟨F99, e101, rfl, y102⟩ | ⟨t100, e101, rfl, y102⟩
      ·
        refine am_goX 1 (show (0 = 0 → pz_S 3 (some .boolean) am_r63 6 Q 81 [(2, .int (nI s.2.2.1.1)), (0, .ref 3), (1, .ref 17)] [] h96) ∧ (¬ (0 = 0) → pz_S 3 (some .boolean) am_r63 6 Q 68 [(2, .int (nI s.2.2.1.1)), (0, .ref 3), (1, .ref 17)] [] h96) from ⟨fun _ => ?_, fun hz => absurd (by decide) hz⟩)
        exact am_goX 2 (show (∃ ty, (some .boolean) = some ty ∧ narrow ty (.int ((Int32.ofInt 0))) = .int ((Int32.ofInt 0))) ∧ h96.2.2.2.2 = 175 ∧ _ from ⟨⟨.boolean, rfl, rfl⟩, ex_175 y102.1, hQ _ _ (cres_inl (F := F99) (by simp only [sp_event, sp_b, sp_f, cond_true, cond_false, e75, e87, e101, Option.isSome_some, Option.isSome_none, Bool.true_or, Bool.or_true, Bool.or_false, Bool.false_or]) rfl y102)⟩)
      ·
        obtain rfl := sp_tW_inr e101
        have x1 := fr1_W f98 (by decide) x1
        refine am_goX 1 (show (1 = 0 → pz_S 3 (some .boolean) am_r63 6 Q 81 [(2, .int (nI s.2.2.1.1)), (0, .ref 3), (1, .ref 17)] [] h96) ∧ (¬ (1 = 0) → pz_S 3 (some .boolean) am_r63 6 Q 68 [(2, .int (nI s.2.2.1.1)), (0, .ref 3), (1, .ref 17)] [] h96) from ⟨fun hz => absurd hz (by decide), fun _ => ?_⟩)
        refine am_goX 2 (show am_sh h96 3 = some (1, 0) ∧ pz_S 3 (some .boolean) am_r63 6 Q 72 [(2, .int (nI s.2.2.1.1)), (0, .ref 3), (1, .ref 17)] [am_rf (h96.2.2.1 3 0)] h96 from ⟨ex_3 (c_P y102.1), ?_⟩)
        rw [ex_r3_0 (h := h96) (c_P y102.1)]
        refine am_goX 3 (show am_rc h96 1 7 ∧ 0 ≤ 8 ∧ h96.2.2.2.2 + am_al 59 ≤ 175 ∧ am_call am_cod 6 59 [.ref 1, .int (Int32.ofInt 0), .int (Int8.ofInt 6).toInt32] h96 (fun vv h' => pz_S 3 (some .boolean) am_r63 6 Q 78 [(2, .int (nI s.2.2.1.1)), (0, .ref 3), (1, .ref 17)] (vv.toList ++ []) h') from ⟨Or.inl ⟨by decide, ex_1 (c_P y102.1)⟩, by decide, ex_lim (c_P y102.1) rfl, am_call.up (c_tN (s := (s.1 + 1 + 1 + 1, s.2)) (by decide) y102 (fun v103 h104 x105 f106 => ?_)) (by decide)⟩)
        rcases cres_cs x105 with ⟨F107, e109, rfl, y110⟩ | ⟨t108, e109, rfl, y110⟩
        ·
          refine am_goX 1 (show (¬ 0 = 0 → pz_S 3 (some .boolean) am_r63 6 Q 83 [(2, .int (nI s.2.2.1.1)), (0, .ref 3), (1, .ref 17)] [] h104) ∧ (¬ ¬ 0 = 0 → pz_S 3 (some .boolean) am_r63 6 Q 81 [(2, .int (nI s.2.2.1.1)), (0, .ref 3), (1, .ref 17)] [] h104) from ⟨fun hz => absurd hz (by decide), fun _ => ?_⟩)
          exact am_goX 2 (show (∃ ty, (some .boolean) = some ty ∧ narrow ty (.int ((Int32.ofInt 0))) = .int ((Int32.ofInt 0))) ∧ h104.2.2.2.2 = 175 ∧ _ from ⟨⟨.boolean, rfl, rfl⟩, ex_175 y110.1, hQ _ _ (cres_inl (F := F107) (by simp only [sp_event, sp_b, sp_f, cond_true, cond_false, e75, e87, e101, e109, Option.isSome_some, Option.isSome_none, Bool.true_or, Bool.or_true, Bool.or_false, Bool.false_or]) rfl y110)⟩)
        ·
          obtain ⟨rfl, k111, _⟩ := sp_tN_inr e109
          have x1 := fr1_W f106 (by decide) x1
          refine am_goX 1 (show (¬ 1 = 0 → pz_S 3 (some .boolean) am_r63 6 Q 83 [(2, .int (nI s.2.2.1.1)), (0, .ref 3), (1, .ref 17)] [] h104) ∧ (¬ ¬ 1 = 0 → pz_S 3 (some .boolean) am_r63 6 Q 81 [(2, .int (nI s.2.2.1.1)), (0, .ref 3), (1, .ref 17)] [] h104) from ⟨fun _ => ?_, fun hz => absurd (by decide) hz⟩)
          refine am_goX 2 (show am_sh h104 17 = some (0, 0) ∧ pz_S 3 (some .boolean) am_r63 6 Q 87 [(2, .int (nI s.2.2.1.1)), (0, .ref 3), (1, .ref 17)] [am_rf (h104.2.2.1 17 6)] h104 from ⟨ex_17 (c_P y110.1), ?_⟩)
          rw [ex_r17_6 (h := h104) (c_P y110.1)]
          refine am_goX 3 (show am_sh h104 3 = some (1, 0) ∧ pz_S 3 (some .boolean) am_r63 6 Q 92 [(2, .int (nI s.2.2.1.1)), (0, .ref 3), (1, .ref 17)] [am_rf (h104.2.2.1 3 0), .int (nI s.2.2.1.1), .ref 22] h104 from ⟨ex_3 (c_P y110.1), ?_⟩)
          rw [ex_r3_0 (h := h104) (c_P y110.1)]
          refine am_goX 1 (show am_sh h104 1 = some (7, 0) ∧ pz_S 3 (some .boolean) am_r63 6 Q 95 [(2, .int (nI s.2.2.1.1)), (0, .ref 3), (1, .ref 17)] [.int (h104.1 1 6), .int (nI s.2.2.1.1), .ref 22] h104 from ⟨ex_1 (c_P y110.1), ?_⟩)
          rw [c_nv y110.1 k111]
          refine am_goX 1 (show ∃ jj nn : Nat, am_so h104 22 = some (13, nn) ∧ jj < nn ∧ (nI s.2.2.1.1) = nI jj ∧ pz_S 3 (some .boolean) am_r63 6 Q 96 [(2, .int (nI s.2.2.1.1)), (0, .ref 3), (1, .ref 17)] [] (am_wI h104 22 jj (sp_v (tt T sz) (s.1 + 1 + 1 + 1))) from ⟨s.2.2.1.1, 5, ex_w22 (c_P y110.1), by omega, rfl, ?_⟩)
          have l112 : cr h0 17 T sz (s.1 + 1 + 1 + 1, s.2) (am_wI h104 22 (s.2.2.1.1) (sp_v (tt T sz) (s.1 + 1 + 1 + 1))) := cr_wf (by decide) y110 (Or.inr ⟨Or.inl rfl, Nat.le_refl _⟩)
          have x2 : (am_wI h104 22 (s.2.2.1.1) (sp_v (tt T sz) (s.1 + 1 + 1 + 1))).1 22 (s.2.2.1.1) = (sp_v (tt T sz) (s.1 + 1 + 1 + 1)) := em_we _ _ _ _
          refine am_goX 2 (show am_sh (am_wI h104 22 (s.2.2.1.1) (sp_v (tt T sz) (s.1 + 1 + 1 + 1))) 3 = some (1, 0) ∧ pz_S 3 (some .boolean) am_r63 6 Q 100 [(2, .int (nI s.2.2.1.1)), (0, .ref 3), (1, .ref 17)] [am_rf ((am_wI h104 22 (s.2.2.1.1) (sp_v (tt T sz) (s.1 + 1 + 1 + 1))).2.2.1 3 0)] (am_wI h104 22 (s.2.2.1.1) (sp_v (tt T sz) (s.1 + 1 + 1 + 1))) from ⟨ex_3 (c_P l112.1), ?_⟩)
          rw [ex_r3_0 (h := am_wI h104 22 (s.2.2.1.1) (sp_v (tt T sz) (s.1 + 1 + 1 + 1))) (c_P l112.1)]
          refine am_goX 1 (show am_rc (am_wI h104 22 (s.2.2.1.1) (sp_v (tt T sz) (s.1 + 1 + 1 + 1))) 1 7 ∧ 0 ≤ 8 ∧ (am_wI h104 22 (s.2.2.1.1) (sp_v (tt T sz) (s.1 + 1 + 1 + 1))).2.2.2.2 + am_al 18 ≤ 175 ∧ am_call am_cod 6 18 [.ref 1] (am_wI h104 22 (s.2.2.1.1) (sp_v (tt T sz) (s.1 + 1 + 1 + 1))) (fun vv h' => pz_S 3 (some .boolean) am_r63 6 Q 103 [(2, .int (nI s.2.2.1.1)), (0, .ref 3), (1, .ref 17)] (vv.toList ++ []) h') from ⟨Or.inl ⟨by decide, ex_1 (c_P l112.1)⟩, by decide, ex_lim (c_P l112.1) rfl, am_call.up (c_step l112.1 (sp_kn (by decide) k111) (fun h113 m114 f115 => ?_)) (by decide)⟩)
          have l116 : cr h0 17 T sz (s.1 + 1 + 1 + 1 + 1, s.2) h113 := cr_fr (a := (s.1 + 1 + 1 + 1)) (C := s.2) (by decide) l112 m114 (Nat.le_succ _) f115
          have x1 := fr1_W f115 (by decide) x1
          have x2 := fr1_I f115 (by decide) x2
          refine am_goX 2 (show am_sh h113 3 = some (1, 0) ∧ pz_S 3 (some .boolean) am_r63 6 Q 107 [(2, .int (nI s.2.2.1.1)), (0, .ref 3), (1, .ref 17)] [am_rf (h113.2.2.1 3 0)] h113 from ⟨ex_3 (c_P l116.1), ?_⟩)
          rw [ex_r3_0 (h := h113) (c_P l116.1)]
          refine am_goX 2 (show am_rc h113 1 7 ∧ 0 ≤ 8 ∧ h113.2.2.2.2 + am_al 58 ≤ 175 ∧ am_call am_cod 6 58 [.ref 1, .ref (4000000 + 10)] h113 (fun vv h' => pz_S 3 (some .boolean) am_r63 6 Q 112 [(2, .int (nI s.2.2.1.1)), (0, .ref 3), (1, .ref 17)] (vv.toList ++ []) h') from ⟨Or.inl ⟨by decide, ex_1 (c_P l116.1)⟩, by decide, ex_lim (c_P l116.1) rfl, am_call.up (c_tW (s := (s.1 + 1 + 1 + 1 + 1, s.2)) (by decide) wq_10 (by decide) l116 (fun v117 h118 x119 f120 => ?_)) (by decide)⟩)
          rcases cres_cs x119 with ⟨F121, e123, rfl, y124⟩ | ⟨t122, e123, rfl, y124⟩
          ·
            refine am_goX 1 (show (0 = 0 → pz_S 3 (some .boolean) am_r63 6 Q 128 [(2, .int (nI s.2.2.1.1)), (0, .ref 3), (1, .ref 17)] [] h118) ∧ (¬ (0 = 0) → pz_S 3 (some .boolean) am_r63 6 Q 115 [(2, .int (nI s.2.2.1.1)), (0, .ref 3), (1, .ref 17)] [] h118) from ⟨fun _ => ?_, fun hz => absurd (by decide) hz⟩)
            exact am_goX 2 (show (∃ ty, (some .boolean) = some ty ∧ narrow ty (.int ((Int32.ofInt 0))) = .int ((Int32.ofInt 0))) ∧ h118.2.2.2.2 = 175 ∧ _ from ⟨⟨.boolean, rfl, rfl⟩, ex_175 y124.1, hQ _ _ (cres_inl (F := F121) (by simp only [sp_event, sp_b, sp_f, cond_true, cond_false, e75, e87, e101, e109, e123, Option.isSome_some, Option.isSome_none, Bool.true_or, Bool.or_true, Bool.or_false, Bool.false_or]) rfl y124)⟩)
          ·
            obtain rfl := sp_tW_inr e123
            have x1 := fr1_W f120 (by decide) x1
            have x2 := fr1_I f120 (by decide) x2
            refine am_goX 1 (show (1 = 0 → pz_S 3 (some .boolean) am_r63 6 Q 128 [(2, .int (nI s.2.2.1.1)), (0, .ref 3), (1, .ref 17)] [] h118) ∧ (¬ (1 = 0) → pz_S 3 (some .boolean) am_r63 6 Q 115 [(2, .int (nI s.2.2.1.1)), (0, .ref 3), (1, .ref 17)] [] h118) from ⟨fun hz => absurd hz (by decide), fun _ => ?_⟩)
            refine am_goX 2 (show am_sh h118 3 = some (1, 0) ∧ pz_S 3 (some .boolean) am_r63 6 Q 119 [(2, .int (nI s.2.2.1.1)), (0, .ref 3), (1, .ref 17)] [am_rf (h118.2.2.1 3 0)] h118 from ⟨ex_3 (c_P y124.1), ?_⟩)
            rw [ex_r3_0 (h := h118) (c_P y124.1)]
            refine am_goX 3 (show am_rc h118 1 7 ∧ 0 ≤ 8 ∧ h118.2.2.2.2 + am_al 59 ≤ 175 ∧ am_call am_cod 6 59 [.ref 1, .int (Int32.ofInt 1), .int (Int8.ofInt 6).toInt32] h118 (fun vv h' => pz_S 3 (some .boolean) am_r63 6 Q 125 [(2, .int (nI s.2.2.1.1)), (0, .ref 3), (1, .ref 17)] (vv.toList ++ []) h') from ⟨Or.inl ⟨by decide, ex_1 (c_P y124.1)⟩, by decide, ex_lim (c_P y124.1) rfl, am_call.up (c_tN (s := (s.1 + 1 + 1 + 1 + 1 + 1, s.2)) (by decide) y124 (fun v125 h126 x127 f128 => ?_)) (by decide)⟩)
            rcases cres_cs x127 with ⟨F129, e131, rfl, y132⟩ | ⟨t130, e131, rfl, y132⟩
            ·
              refine am_goX 1 (show (¬ 0 = 0 → pz_S 3 (some .boolean) am_r63 6 Q 130 [(2, .int (nI s.2.2.1.1)), (0, .ref 3), (1, .ref 17)] [] h126) ∧ (¬ ¬ 0 = 0 → pz_S 3 (some .boolean) am_r63 6 Q 128 [(2, .int (nI s.2.2.1.1)), (0, .ref 3), (1, .ref 17)] [] h126) from ⟨fun hz => absurd hz (by decide), fun _ => ?_⟩)
              exact am_goX 2 (show (∃ ty, (some .boolean) = some ty ∧ narrow ty (.int ((Int32.ofInt 0))) = .int ((Int32.ofInt 0))) ∧ h126.2.2.2.2 = 175 ∧ _ from ⟨⟨.boolean, rfl, rfl⟩, ex_175 y132.1, hQ _ _ (cres_inl (F := F129) (by simp only [sp_event, sp_b, sp_f, cond_true, cond_false, e75, e87, e101, e109, e123, e131, Option.isSome_some, Option.isSome_none, Bool.true_or, Bool.or_true, Bool.or_false, Bool.false_or]) rfl y132)⟩)
            ·
              obtain ⟨rfl, k133, _⟩ := sp_tN_inr e131
              have x1 := fr1_W f128 (by decide) x1
              have x2 := fr1_I f128 (by decide) x2
              refine am_goX 1 (show (¬ 1 = 0 → pz_S 3 (some .boolean) am_r63 6 Q 130 [(2, .int (nI s.2.2.1.1)), (0, .ref 3), (1, .ref 17)] [] h126) ∧ (¬ ¬ 1 = 0 → pz_S 3 (some .boolean) am_r63 6 Q 128 [(2, .int (nI s.2.2.1.1)), (0, .ref 3), (1, .ref 17)] [] h126) from ⟨fun _ => ?_, fun hz => absurd (by decide) hz⟩)
              refine am_goX 2 (show am_sh h126 17 = some (0, 0) ∧ pz_S 3 (some .boolean) am_r63 6 Q 134 [(2, .int (nI s.2.2.1.1)), (0, .ref 3), (1, .ref 17)] [am_rf (h126.2.2.1 17 7)] h126 from ⟨ex_17 (c_P y132.1), ?_⟩)
              rw [ex_r17_7 (h := h126) (c_P y132.1)]
              refine am_goX 3 (show am_sh h126 3 = some (1, 0) ∧ pz_S 3 (some .boolean) am_r63 6 Q 139 [(2, .int (nI s.2.2.1.1)), (0, .ref 3), (1, .ref 17)] [am_rf (h126.2.2.1 3 0), .int (nI s.2.2.1.1), .ref 23] h126 from ⟨ex_3 (c_P y132.1), ?_⟩)
              rw [ex_r3_0 (h := h126) (c_P y132.1)]
              refine am_goX 1 (show am_sh h126 1 = some (7, 0) ∧ pz_S 3 (some .boolean) am_r63 6 Q 142 [(2, .int (nI s.2.2.1.1)), (0, .ref 3), (1, .ref 17)] [.int (h126.1 1 6), .int (nI s.2.2.1.1), .ref 23] h126 from ⟨ex_1 (c_P y132.1), ?_⟩)
              rw [c_nv y132.1 k133]
              refine am_goX 1 (show ∃ jj nn : Nat, am_so h126 23 = some (13, nn) ∧ jj < nn ∧ (nI s.2.2.1.1) = nI jj ∧ pz_S 3 (some .boolean) am_r63 6 Q 143 [(2, .int (nI s.2.2.1.1)), (0, .ref 3), (1, .ref 17)] [] (am_wI h126 23 jj (sp_v (tt T sz) (s.1 + 1 + 1 + 1 + 1 + 1))) from ⟨s.2.2.1.1, 5, ex_w23 (c_P y132.1), by omega, rfl, ?_⟩)
              have l134 : cr h0 17 T sz (s.1 + 1 + 1 + 1 + 1 + 1, s.2) (am_wI h126 23 (s.2.2.1.1) (sp_v (tt T sz) (s.1 + 1 + 1 + 1 + 1 + 1))) := cr_wf (by decide) y132 (Or.inr ⟨Or.inr (Or.inl rfl), Nat.le_refl _⟩)
              have x3 : (am_wI h126 23 (s.2.2.1.1) (sp_v (tt T sz) (s.1 + 1 + 1 + 1 + 1 + 1))).1 23 (s.2.2.1.1) = (sp_v (tt T sz) (s.1 + 1 + 1 + 1 + 1 + 1)) := em_we _ _ _ _
              have x2 := (em_wn (o := 23) (k := s.2.2.1.1) _ ((sp_v (tt T sz) (s.1 + 1 + 1 + 1 + 1 + 1))) (by omega)).trans x2
              refine am_goX 2 (show am_sh (am_wI h126 23 (s.2.2.1.1) (sp_v (tt T sz) (s.1 + 1 + 1 + 1 + 1 + 1))) 17 = some (0, 0) ∧ pz_S 3 (some .boolean) am_r63 6 Q 147 [(2, .int (nI s.2.2.1.1)), (0, .ref 3), (1, .ref 17)] [am_rf ((am_wI h126 23 (s.2.2.1.1) (sp_v (tt T sz) (s.1 + 1 + 1 + 1 + 1 + 1))).2.2.1 17 8)] (am_wI h126 23 (s.2.2.1.1) (sp_v (tt T sz) (s.1 + 1 + 1 + 1 + 1 + 1))) from ⟨ex_17 (c_P l134.1), ?_⟩)
              rw [ex_r17_8 (h := am_wI h126 23 (s.2.2.1.1) (sp_v (tt T sz) (s.1 + 1 + 1 + 1 + 1 + 1))) (c_P l134.1)]
              refine am_goX 3 (show ∃ jj nn : Nat, am_so (am_wI h126 23 (s.2.2.1.1) (sp_v (tt T sz) (s.1 + 1 + 1 + 1 + 1 + 1))) 24 = some (13, nn) ∧ jj < nn ∧ (nI s.2.2.1.1) = nI jj ∧ pz_S 3 (some .boolean) am_r63 6 Q 150 [(2, .int (nI s.2.2.1.1)), (0, .ref 3), (1, .ref 17)] [] (am_wI (am_wI h126 23 (s.2.2.1.1) (sp_v (tt T sz) (s.1 + 1 + 1 + 1 + 1 + 1))) 24 jj (Int32.ofInt 0)) from ⟨s.2.2.1.1, 5, ex_w24 (c_P l134.1), by omega, rfl, ?_⟩)
              have l135 : cr h0 17 T sz (s.1 + 1 + 1 + 1 + 1 + 1, s.2) (am_wI (am_wI h126 23 (s.2.2.1.1) (sp_v (tt T sz) (s.1 + 1 + 1 + 1 + 1 + 1))) 24 (s.2.2.1.1) (Int32.ofInt 0)) := cr_wf (by decide) l134 (Or.inr ⟨Or.inr (Or.inr rfl), Nat.le_refl _⟩)
              have x4 : (am_wI (am_wI h126 23 (s.2.2.1.1) (sp_v (tt T sz) (s.1 + 1 + 1 + 1 + 1 + 1))) 24 (s.2.2.1.1) (Int32.ofInt 0)).1 24 (s.2.2.1.1) = (Int32.ofInt 0) := em_we _ _ _ _
              have x2 := (em_wn (o := 24) (k := s.2.2.1.1) _ ((Int32.ofInt 0)) (by omega)).trans x2
              have x3 := (em_wn (o := 24) (k := s.2.2.1.1) _ ((Int32.ofInt 0)) (by omega)).trans x3
              refine am_goX 2 (show am_sh (am_wI (am_wI h126 23 (s.2.2.1.1) (sp_v (tt T sz) (s.1 + 1 + 1 + 1 + 1 + 1))) 24 (s.2.2.1.1) (Int32.ofInt 0)) 3 = some (1, 0) ∧ pz_S 3 (some .boolean) am_r63 6 Q 154 [(2, .int (nI s.2.2.1.1)), (0, .ref 3), (1, .ref 17)] [am_rf ((am_wI (am_wI h126 23 (s.2.2.1.1) (sp_v (tt T sz) (s.1 + 1 + 1 + 1 + 1 + 1))) 24 (s.2.2.1.1) (Int32.ofInt 0)).2.2.1 3 0)] (am_wI (am_wI h126 23 (s.2.2.1.1) (sp_v (tt T sz) (s.1 + 1 + 1 + 1 + 1 + 1))) 24 (s.2.2.1.1) (Int32.ofInt 0)) from ⟨ex_3 (c_P l135.1), ?_⟩)
              rw [ex_r3_0 (h := am_wI (am_wI h126 23 (s.2.2.1.1) (sp_v (tt T sz) (s.1 + 1 + 1 + 1 + 1 + 1))) 24 (s.2.2.1.1) (Int32.ofInt 0)) (c_P l135.1)]
              refine am_goX 1 (show am_rc (am_wI (am_wI h126 23 (s.2.2.1.1) (sp_v (tt T sz) (s.1 + 1 + 1 + 1 + 1 + 1))) 24 (s.2.2.1.1) (Int32.ofInt 0)) 1 7 ∧ 0 ≤ 8 ∧ (am_wI (am_wI h126 23 (s.2.2.1.1) (sp_v (tt T sz) (s.1 + 1 + 1 + 1 + 1 + 1))) 24 (s.2.2.1.1) (Int32.ofInt 0)).2.2.2.2 + am_al 18 ≤ 175 ∧ am_call am_cod 6 18 [.ref 1] (am_wI (am_wI h126 23 (s.2.2.1.1) (sp_v (tt T sz) (s.1 + 1 + 1 + 1 + 1 + 1))) 24 (s.2.2.1.1) (Int32.ofInt 0)) (fun vv h' => pz_S 3 (some .boolean) am_r63 6 Q 157 [(2, .int (nI s.2.2.1.1)), (0, .ref 3), (1, .ref 17)] (vv.toList ++ []) h') from ⟨Or.inl ⟨by decide, ex_1 (c_P l135.1)⟩, by decide, ex_lim (c_P l135.1) rfl, am_call.up (c_step l135.1 (sp_kn (by decide) k133) (fun h136 m137 f138 => ?_)) (by decide)⟩)
              have l139 : cr h0 17 T sz (s.1 + 1 + 1 + 1 + 1 + 1 + 1, s.2) h136 := cr_fr (a := (s.1 + 1 + 1 + 1 + 1 + 1)) (C := s.2) (by decide) l135 m137 (Nat.le_succ _) f138
              have x1 := fr1_W f138 (by decide) x1
              have x2 := fr1_I f138 (by decide) x2
              have x3 := fr1_I f138 (by decide) x3
              have x4 := fr1_I f138 (by decide) x4
              refine am_goX 6 (show (Value.ref 17).category = 1 ∧ am_sh h136 17 = some (0, 0) ∧ am_sh h136 17 = some (0, 0) ∧ narrow (am_fty 0 4) (.int (((h136.1 17 4) + (Int32.ofInt 1)))) = .int (((h136.1 17 4) + (Int32.ofInt 1))) ∧ fits (am_fty 0 4) (.int (((h136.1 17 4) + (Int32.ofInt 1)))) = true ∧ pz_S 3 (some .boolean) am_r63 6 Q 167 [(2, .int (nI s.2.2.1.1)), (0, .ref 3), (1, .ref 17)] [] (am_wI h136 17 4 (((h136.1 17 4) + (Int32.ofInt 1)))) from ⟨rfl, ex_17 (c_P l139.1), ex_17 (c_P l139.1), rfl, rfl, ?_⟩)
              rw [show h136.1 17 4 = nI (s.2.2.1.1) from l139.2.1.2.1.1, xw_i1]
              have l140 : cr h0 17 T sz (s.1 + 1 + 1 + 1 + 1 + 1 + 1, sp_cE s.2 (tt T sz (s.1 + 1)).2.1 (sp_v (tt T sz) (s.1 + 1 + 1 + 1)) (sp_v (tt T sz) (s.1 + 1 + 1 + 1 + 1 + 1))) (am_wI h136 17 4 (nI (s.2.2.1.1 + 1))) := cr_E (by decide) l139 hlt x1 x2 x3 x4
              refine am_goX 2 (show am_sh (am_wI h136 17 4 (nI (s.2.2.1.1 + 1))) 3 = some (1, 0) ∧ pz_S 3 (some .boolean) am_r63 6 Q 171 [(2, .int (nI s.2.2.1.1)), (0, .ref 3), (1, .ref 17)] [am_rf ((am_wI h136 17 4 (nI (s.2.2.1.1 + 1))).2.2.1 3 0)] (am_wI h136 17 4 (nI (s.2.2.1.1 + 1))) from ⟨ex_3 (c_P l140.1), ?_⟩)
              rw [ex_r3_0 (h := am_wI h136 17 4 (nI (s.2.2.1.1 + 1))) (c_P l140.1)]
              refine am_goX 2 (show am_rc (am_wI h136 17 4 (nI (s.2.2.1.1 + 1))) 1 7 ∧ 0 ≤ 8 ∧ (am_wI h136 17 4 (nI (s.2.2.1.1 + 1))).2.2.2.2 + am_al 61 ≤ 175 ∧ am_call am_cod 6 61 [.ref 1, .int (Int8.ofInt 59).toInt32] (am_wI h136 17 4 (nI (s.2.2.1.1 + 1))) (fun vv h' => pz_S 3 (some .boolean) am_r63 6 Q 176 [(2, .int (nI s.2.2.1.1)), (0, .ref 3), (1, .ref 17)] (vv.toList ++ []) h') from ⟨Or.inl ⟨by decide, ex_1 (c_P l140.1)⟩, by decide, ex_lim (c_P l140.1) rfl, am_call.up (c_tS (s := (s.1 + 1 + 1 + 1 + 1 + 1 + 1, sp_cE s.2 (tt T sz (s.1 + 1)).2.1 (sp_v (tt T sz) (s.1 + 1 + 1 + 1)) (sp_v (tt T sz) (s.1 + 1 + 1 + 1 + 1 + 1)))) (by decide) l140 (fun v141 h142 x143 f144 => ?_)) (by decide)⟩)
              rcases cres_cs x143 with ⟨F145, e147, rfl, y148⟩ | ⟨t146, e147, rfl, y148⟩
              ·
                exact am_goX 1 (show (∃ ty, (some .boolean) = some ty ∧ narrow ty (.int (0)) = .int (0)) ∧ h142.2.2.2.2 = 175 ∧ _ from ⟨⟨.boolean, rfl, rfl⟩, ex_175 y148.1, hQ _ _ (cres_inl (F := F145) (by simp only [sp_event, sp_b, sp_f, cond_true, cond_false, e75, e87, e101, e109, e123, e131, e147, Option.isSome_some, Option.isSome_none, Bool.true_or, Bool.or_true, Bool.or_false, Bool.false_or]) rfl y148)⟩)
              ·
                obtain rfl := sp_tS_inr e147
                exact am_goX 1 (show (∃ ty, (some .boolean) = some ty ∧ narrow ty (.int (1)) = .int (1)) ∧ h142.2.2.2.2 = 175 ∧ _ from ⟨⟨.boolean, rfl, rfl⟩, ex_175 (c_P y148.1), hQ _ _ (cres_inr (s' := (s.1 + 1 + 1 + 1 + 1 + 1 + 1 + 1, (sp_cE s.2 (tt T sz (s.1 + 1)).2.1 (sp_v (tt T sz) (s.1 + 1 + 1 + 1)) (sp_v (tt T sz) (s.1 + 1 + 1 + 1 + 1 + 1))))) (by simp only [sp_event, sp_b, sp_f, cond_true, cond_false, e75, e87, e101, e109, e123, e131, e147, Option.isSome_some, Option.isSome_none, Bool.true_or, Bool.or_true, Bool.or_false, Bool.false_or]) rfl y148)⟩)
theorem c_64_17 (hn : ¬ (tt T sz s.1).1 = 0) (l : cr h0 17 T sz s h) (hQ : ∀ v h1, cres h0 17 T sz (sp_comes (tt T sz) s) v h1 → Q v h1) : am_call am_cod 7 64 [.ref 3, .ref 17] h Q := by
  have hP := c_P l.1
  refine pz_call (n := 64) (nL := 4) (rt := (some .boolean)) (rows := am_r64) (d := 6) (by decide +kernel) (by decide +kernel) rfl (by funext pc; rfl) (ex_175 hP) (by exact Nat.le_of_ble_eq_true rfl) ?_
  refine am_goX 2 (show am_sh h 3 = some (1, 0) ∧ pz_S 4 (some .boolean) am_r64 6 Q 4 [(0, .ref 3), (1, .ref 17)] [am_rf (h.2.2.1 3 0)] h from ⟨ex_3 (c_P l.1), ?_⟩)
  rw [ex_r3_0 (h := h) (c_P l.1)]
  refine am_goX 1 (show am_rc h 1 7 ∧ 0 ≤ 8 ∧ h.2.2.2.2 + am_al 18 ≤ 175 ∧ am_call am_cod 6 18 [.ref 1] h (fun vv h' => pz_S 4 (some .boolean) am_r64 6 Q 7 [(0, .ref 3), (1, .ref 17)] (vv.toList ++ []) h') from ⟨Or.inl ⟨by decide, ex_1 (c_P l.1)⟩, by decide, ex_lim (c_P l.1) rfl, am_call.up (c_step l.1 (hn) (fun h149 m150 f151 => ?_)) (by decide)⟩)
  have l152 : cr h0 17 T sz (s.1 + 1, s.2) h149 := cr_fr (a := s.1) (C := s.2) (by decide) l m150 (Nat.le_succ _) f151
  refine am_goX 2 (show am_sh h149 3 = some (1, 0) ∧ pz_S 4 (some .boolean) am_r64 6 Q 11 [(0, .ref 3), (1, .ref 17)] [am_rf (h149.2.2.1 3 0)] h149 from ⟨ex_3 (c_P l152.1), ?_⟩)
  rw [ex_r3_0 (h := h149) (c_P l152.1)]
  refine am_goX 1 (show am_rc h149 1 7 ∧ 0 ≤ 8 ∧ h149.2.2.2.2 + am_al 54 ≤ 175 ∧ am_call am_cod 6 54 [.ref 1] h149 (fun vv h' => pz_S 4 (some .boolean) am_r64 6 Q 14 [(0, .ref 3), (1, .ref 17)] (vv.toList ++ []) h') from ⟨Or.inl ⟨by decide, ex_1 (c_P l152.1)⟩, by decide, ex_lim (c_P l152.1) rfl, am_call.up (c_isn l152.1 ?_) (by decide)⟩)
  cases e153 : sp_n (tt T sz) (s.1 + 1) with
  | true =>
    refine am_goX 1 (show (¬ (pz_b (true)) = 0 → pz_S 4 (some .boolean) am_r64 6 Q 26 [(0, .ref 3), (1, .ref 17)] [] h149) ∧ (¬ ¬ (pz_b (true)) = 0 → pz_S 4 (some .boolean) am_r64 6 Q 17 [(0, .ref 3), (1, .ref 17)] [] h149) from ⟨fun _ => ?_, fun hz => absurd (by decide) hz⟩)
    refine am_goX 3 (show am_sh h149 3 = some (1, 0) ∧ pz_S 4 (some .boolean) am_r64 6 Q 31 [(0, .ref 3), (1, .ref 17)] [am_rf (h149.2.2.1 3 0), .ref 17] h149 from ⟨ex_3 (c_P l152.1), ?_⟩)
    rw [ex_r3_0 (h := h149) (c_P l152.1)]
    refine am_goX 2 (show am_sh h149 1 = some (7, 0) ∧ am_rc h149 17 0 ∧ 0 ≤ 8 ∧ h149.2.2.2.2 + am_al 55 ≤ 175 ∧ am_call am_cod 6 55 [.ref 17, .long (h149.2.1 1 5)] h149 (fun vv h' => pz_S 4 (some .boolean) am_r64 6 Q 37 [(0, .ref 3), (1, .ref 17)] (vv.toList ++ []) h') from ⟨ex_1 (c_P l152.1), Or.inl ⟨by decide, ex_17 (c_P l152.1)⟩, by decide, ex_lim (c_P l152.1) rfl, am_call.up (c_55_17 (v := (tt T sz (s.1 + 1)).2.1) l152 (c_wd l152.1 (sp_nk e153)) ?_) (by decide)⟩)
    cases e154 : sp_pf s.2 (tt T sz (s.1 + 1)).2.1 with
    | none =>
      refine am_goX 4 (show 2 < 4 ∧ (¬ (Int32.ofInt (-1)) = (Int32.ofInt (-1)) → pz_S 4 (some .boolean) am_r64 6 Q 52 [(2, .int (Int32.ofInt (-1))), (0, .ref 3), (1, .ref 17)] [] h149) ∧ (¬ ¬ (Int32.ofInt (-1)) = (Int32.ofInt (-1)) → pz_S 4 (some .boolean) am_r64 6 Q 43 [(2, .int (Int32.ofInt (-1))), (0, .ref 3), (1, .ref 17)] [] h149) from ⟨by decide, fun hz => absurd hz (by decide), fun _ => ?_⟩)
      refine am_goX 2 (show am_sh h149 3 = some (1, 0) ∧ pz_S 4 (some .boolean) am_r64 6 Q 47 [(2, .int (Int32.ofInt (-1))), (0, .ref 3), (1, .ref 17)] [am_rf (h149.2.2.1 3 0)] h149 from ⟨ex_3 (c_P l152.1), ?_⟩)
      rw [ex_r3_0 (h := h149) (c_P l152.1)]
      refine am_goX 2 (show am_rc h149 1 7 ∧ 0 ≤ 8 ∧ h149.2.2.2.2 + am_al 52 ≤ 175 ∧ am_call am_cod 6 52 [.ref 1, .int (Int32.ofInt 2)] h149 (fun vv h' => pz_S 4 (some .boolean) am_r64 6 Q 51 [(2, .int (Int32.ofInt (-1))), (0, .ref 3), (1, .ref 17)] (vv.toList ++ []) h') from ⟨Or.inl ⟨by decide, ex_1 (c_P l152.1)⟩, by decide, ex_lim (c_P l152.1) rfl, am_call.up (c_refuse l152.1 ?_) (by decide)⟩)
      have x157 := cr_x (s := (s.1 + 1, s.2)) (k := (Int32.ofInt 2)) (by decide) l152 (by decide)
      exact am_goX 1 (show (∃ ty, (some .boolean) = some ty ∧ narrow ty (.int ((Int32.ofInt 0))) = .int ((Int32.ofInt 0))) ∧ (am_wI h149 1 7 (sp_ft (tt T sz) (s.1 + 1) (Int32.ofInt 2))).2.2.2.2 = 175 ∧ _ from ⟨⟨.boolean, rfl, rfl⟩, ex_175 x157.1, hQ _ _ (cres_inl (F := sp_ft (tt T sz) (s.1 + 1) (Int32.ofInt 2)) (by simp only [sp_comes, sp_b, sp_f, cond_true, cond_false, e153, e154, Option.isSome_some, Option.isSome_none, Bool.true_or, Bool.or_true, Bool.or_false, Bool.false_or]) rfl x157)⟩)
    | some p155 =>
      have w156 := cr_pf (a := (s.1 + 1)) (C := s.2) l152 e154
      refine am_goX 4 (show 2 < 4 ∧ (¬ (nI p155) = (Int32.ofInt (-1)) → pz_S 4 (some .boolean) am_r64 6 Q 52 [(2, .int (nI p155)), (0, .ref 3), (1, .ref 17)] [] h149) ∧ (¬ ¬ (nI p155) = (Int32.ofInt (-1)) → pz_S 4 (some .boolean) am_r64 6 Q 43 [(2, .int (nI p155)), (0, .ref 3), (1, .ref 17)] [] h149) from ⟨by decide, fun _ => ?_, fun hz => absurd (nI_m1 (by omega)) hz⟩)
      refine am_goX 2 (show am_sh h149 3 = some (1, 0) ∧ pz_S 4 (some .boolean) am_r64 6 Q 56 [(2, .int (nI p155)), (0, .ref 3), (1, .ref 17)] [am_rf (h149.2.2.1 3 0)] h149 from ⟨ex_3 (c_P l152.1), ?_⟩)
      rw [ex_r3_0 (h := h149) (c_P l152.1)]
      refine am_goX 1 (show am_rc h149 1 7 ∧ 0 ≤ 8 ∧ h149.2.2.2.2 + am_al 18 ≤ 175 ∧ am_call am_cod 6 18 [.ref 1] h149 (fun vv h' => pz_S 4 (some .boolean) am_r64 6 Q 59 [(2, .int (nI p155)), (0, .ref 3), (1, .ref 17)] (vv.toList ++ []) h') from ⟨Or.inl ⟨by decide, ex_1 (c_P l152.1)⟩, by decide, ex_lim (c_P l152.1) rfl, am_call.up (c_step l152.1 (sp_nn e153) (fun h158 m159 f160 => ?_)) (by decide)⟩)
      have l161 : cr h0 17 T sz (s.1 + 1 + 1, s.2) h158 := cr_fr (a := (s.1 + 1)) (C := s.2) (by decide) l152 m159 (Nat.le_succ _) f160
      refine am_goX 2 (show am_sh h158 3 = some (1, 0) ∧ pz_S 4 (some .boolean) am_r64 6 Q 63 [(2, .int (nI p155)), (0, .ref 3), (1, .ref 17)] [am_rf (h158.2.2.1 3 0)] h158 from ⟨ex_3 (c_P l161.1), ?_⟩)
      rw [ex_r3_0 (h := h158) (c_P l161.1)]
      refine am_goX 1 (show am_rc h158 1 7 ∧ 0 ≤ 8 ∧ h158.2.2.2.2 + am_al 54 ≤ 175 ∧ am_call am_cod 6 54 [.ref 1] h158 (fun vv h' => pz_S 4 (some .boolean) am_r64 6 Q 66 [(2, .int (nI p155)), (0, .ref 3), (1, .ref 17)] (vv.toList ++ []) h') from ⟨Or.inl ⟨by decide, ex_1 (c_P l161.1)⟩, by decide, ex_lim (c_P l161.1) rfl, am_call.up (c_isn l161.1 ?_) (by decide)⟩)
      cases e162 : sp_n (tt T sz) (s.1 + 1 + 1) with
      | true =>
        refine am_goX 1 (show (¬ (pz_b (true)) = 0 → pz_S 4 (some .boolean) am_r64 6 Q 78 [(2, .int (nI p155)), (0, .ref 3), (1, .ref 17)] [] h158) ∧ (¬ ¬ (pz_b (true)) = 0 → pz_S 4 (some .boolean) am_r64 6 Q 69 [(2, .int (nI p155)), (0, .ref 3), (1, .ref 17)] [] h158) from ⟨fun _ => ?_, fun hz => absurd (by decide) hz⟩)
        refine am_goX 3 (show am_sh h158 3 = some (1, 0) ∧ pz_S 4 (some .boolean) am_r64 6 Q 83 [(2, .int (nI p155)), (0, .ref 3), (1, .ref 17)] [am_rf (h158.2.2.1 3 0), .ref 17] h158 from ⟨ex_3 (c_P l161.1), ?_⟩)
        rw [ex_r3_0 (h := h158) (c_P l161.1)]
        refine am_goX 2 (show am_sh h158 1 = some (7, 0) ∧ am_rc h158 17 0 ∧ 0 ≤ 8 ∧ h158.2.2.2.2 + am_al 56 ≤ 175 ∧ am_call am_cod 6 56 [.ref 17, .long (h158.2.1 1 5)] h158 (fun vv h' => pz_S 4 (some .boolean) am_r64 6 Q 89 [(2, .int (nI p155)), (0, .ref 3), (1, .ref 17)] (vv.toList ++ []) h') from ⟨ex_1 (c_P l161.1), Or.inl ⟨by decide, ex_17 (c_P l161.1)⟩, by decide, ex_lim (c_P l161.1) rfl, am_call.up (c_56_17 (v := (tt T sz (s.1 + 1 + 1)).2.1) l161 (c_wd l161.1 (sp_nk e162)) ?_) (by decide)⟩)
        cases e163 : sp_ef s.2 (tt T sz (s.1 + 1 + 1)).2.1 with
        | none =>
          refine am_goX 4 (show 3 < 4 ∧ (¬ (Int32.ofInt (-1)) = (Int32.ofInt (-1)) → pz_S 4 (some .boolean) am_r64 6 Q 104 [(3, .int (Int32.ofInt (-1))), (2, .int (nI p155)), (0, .ref 3), (1, .ref 17)] [] h158) ∧ (¬ ¬ (Int32.ofInt (-1)) = (Int32.ofInt (-1)) → pz_S 4 (some .boolean) am_r64 6 Q 95 [(3, .int (Int32.ofInt (-1))), (2, .int (nI p155)), (0, .ref 3), (1, .ref 17)] [] h158) from ⟨by decide, fun hz => absurd hz (by decide), fun _ => ?_⟩)
          refine am_goX 2 (show am_sh h158 3 = some (1, 0) ∧ pz_S 4 (some .boolean) am_r64 6 Q 99 [(3, .int (Int32.ofInt (-1))), (2, .int (nI p155)), (0, .ref 3), (1, .ref 17)] [am_rf (h158.2.2.1 3 0)] h158 from ⟨ex_3 (c_P l161.1), ?_⟩)
          rw [ex_r3_0 (h := h158) (c_P l161.1)]
          refine am_goX 2 (show am_rc h158 1 7 ∧ 0 ≤ 8 ∧ h158.2.2.2.2 + am_al 52 ≤ 175 ∧ am_call am_cod 6 52 [.ref 1, .int (Int32.ofInt 2)] h158 (fun vv h' => pz_S 4 (some .boolean) am_r64 6 Q 103 [(3, .int (Int32.ofInt (-1))), (2, .int (nI p155)), (0, .ref 3), (1, .ref 17)] (vv.toList ++ []) h') from ⟨Or.inl ⟨by decide, ex_1 (c_P l161.1)⟩, by decide, ex_lim (c_P l161.1) rfl, am_call.up (c_refuse l161.1 ?_) (by decide)⟩)
          have x166 := cr_x (s := (s.1 + 1 + 1, s.2)) (k := (Int32.ofInt 2)) (by decide) l161 (by decide)
          exact am_goX 1 (show (∃ ty, (some .boolean) = some ty ∧ narrow ty (.int ((Int32.ofInt 0))) = .int ((Int32.ofInt 0))) ∧ (am_wI h158 1 7 (sp_ft (tt T sz) (s.1 + 1 + 1) (Int32.ofInt 2))).2.2.2.2 = 175 ∧ _ from ⟨⟨.boolean, rfl, rfl⟩, ex_175 x166.1, hQ _ _ (cres_inl (F := sp_ft (tt T sz) (s.1 + 1 + 1) (Int32.ofInt 2)) (by simp only [sp_comes, sp_b, sp_f, cond_true, cond_false, e153, e154, e162, e163, Option.isSome_some, Option.isSome_none, Bool.true_or, Bool.or_true, Bool.or_false, Bool.false_or]) rfl x166)⟩)
        | some p164 =>
          have w165 := cr_ef (a := (s.1 + 1 + 1)) (C := s.2) l161 e163
          refine am_goX 4 (show 3 < 4 ∧ (¬ (nI p164) = (Int32.ofInt (-1)) → pz_S 4 (some .boolean) am_r64 6 Q 104 [(3, .int (nI p164)), (2, .int (nI p155)), (0, .ref 3), (1, .ref 17)] [] h158) ∧ (¬ ¬ (nI p164) = (Int32.ofInt (-1)) → pz_S 4 (some .boolean) am_r64 6 Q 95 [(3, .int (nI p164)), (2, .int (nI p155)), (0, .ref 3), (1, .ref 17)] [] h158) from ⟨by decide, fun _ => ?_, fun hz => absurd (nI_m1 (by omega)) hz⟩)
          refine am_goX 2 (show am_sh h158 17 = some (0, 0) ∧ pz_S 4 (some .boolean) am_r64 6 Q 108 [(3, .int (nI p164)), (2, .int (nI p155)), (0, .ref 3), (1, .ref 17)] [am_rf (h158.2.2.1 17 8)] h158 from ⟨ex_17 (c_P l161.1), ?_⟩)
          rw [ex_r17_8 (h := h158) (c_P l161.1)]
          refine am_goX 2 (show ∃ jj nn : Nat, am_sh h158 24 = some (13, nn) ∧ jj < nn ∧ (nI p164) = nI jj ∧ pz_S 4 (some .boolean) am_r64 6 Q 110 [(3, .int (nI p164)), (2, .int (nI p155)), (0, .ref 3), (1, .ref 17)] [.int (h158.1 24 jj)] h158 from ⟨p164, 5, ex_24 (c_P l161.1), by omega, rfl, ?_⟩)
          rw [show h158.1 24 p164 = s.2.2.1.2.2.2.2 p164 from (l161.2.1.2.1.2.2 p164 w165.1).2.2.2]
          refine am_goX 2 (show 0 ≤ 8 ∧ h158.2.2.2.2 + am_al 65 ≤ 175 ∧ am_call am_cod 6 65 [.int (s.2.2.1.2.2.2.2 p164), .int (nI p155)] h158 (fun vv h' => pz_S 4 (some .boolean) am_r64 6 Q 114 [(3, .int (nI p164)), (2, .int (nI p155)), (0, .ref 3), (1, .ref 17)] (vv.toList ++ []) h') from ⟨by decide, ex_lim (c_P l161.1) rfl, am_call.up (c_65 (c_P l161.1) ?_) (by decide)⟩)
          cases e167 : sp_bit (s.2.2.1.2.2.2.2 p164) (nI p155) with
          | true =>
            refine am_goX 1 (show ((pz_b (true)) = 0 → pz_S 4 (some .boolean) am_r64 6 Q 126 [(3, .int (nI p164)), (2, .int (nI p155)), (0, .ref 3), (1, .ref 17)] [] h158) ∧ (¬ ((pz_b (true)) = 0) → pz_S 4 (some .boolean) am_r64 6 Q 117 [(3, .int (nI p164)), (2, .int (nI p155)), (0, .ref 3), (1, .ref 17)] [] h158) from ⟨fun hz => absurd hz (by decide), fun _ => ?_⟩)
            refine am_goX 2 (show am_sh h158 3 = some (1, 0) ∧ pz_S 4 (some .boolean) am_r64 6 Q 121 [(3, .int (nI p164)), (2, .int (nI p155)), (0, .ref 3), (1, .ref 17)] [am_rf (h158.2.2.1 3 0)] h158 from ⟨ex_3 (c_P l161.1), ?_⟩)
            rw [ex_r3_0 (h := h158) (c_P l161.1)]
            refine am_goX 2 (show am_rc h158 1 7 ∧ 0 ≤ 8 ∧ h158.2.2.2.2 + am_al 52 ≤ 175 ∧ am_call am_cod 6 52 [.ref 1, .int (Int32.ofInt 3)] h158 (fun vv h' => pz_S 4 (some .boolean) am_r64 6 Q 125 [(3, .int (nI p164)), (2, .int (nI p155)), (0, .ref 3), (1, .ref 17)] (vv.toList ++ []) h') from ⟨Or.inl ⟨by decide, ex_1 (c_P l161.1)⟩, by decide, ex_lim (c_P l161.1) rfl, am_call.up (c_refuse l161.1 ?_) (by decide)⟩)
            have x168 := cr_x (s := (s.1 + 1 + 1, s.2)) (k := (Int32.ofInt 3)) (by decide) l161 (by decide)
            exact am_goX 1 (show (∃ ty, (some .boolean) = some ty ∧ narrow ty (.int ((Int32.ofInt 0))) = .int ((Int32.ofInt 0))) ∧ (am_wI h158 1 7 (sp_ft (tt T sz) (s.1 + 1 + 1) (Int32.ofInt 3))).2.2.2.2 = 175 ∧ _ from ⟨⟨.boolean, rfl, rfl⟩, ex_175 x168.1, hQ _ _ (cres_inl (F := sp_ft (tt T sz) (s.1 + 1 + 1) (Int32.ofInt 3)) (by simp only [sp_comes, sp_b, sp_f, cond_true, cond_false, e153, e154, e162, e163, e167, Option.isSome_some, Option.isSome_none, Bool.true_or, Bool.or_true, Bool.or_false, Bool.false_or]) rfl x168)⟩)
          | false =>
            refine am_goX 1 (show ((pz_b (false)) = 0 → pz_S 4 (some .boolean) am_r64 6 Q 126 [(3, .int (nI p164)), (2, .int (nI p155)), (0, .ref 3), (1, .ref 17)] [] h158) ∧ (¬ ((pz_b (false)) = 0) → pz_S 4 (some .boolean) am_r64 6 Q 117 [(3, .int (nI p164)), (2, .int (nI p155)), (0, .ref 3), (1, .ref 17)] [] h158) from ⟨fun _ => ?_, fun hz => absurd (by decide) hz⟩)
            refine am_goX 2 (show am_sh h158 17 = some (0, 0) ∧ pz_S 4 (some .boolean) am_r64 6 Q 130 [(3, .int (nI p164)), (2, .int (nI p155)), (0, .ref 3), (1, .ref 17)] [am_rf (h158.2.2.1 17 8)] h158 from ⟨ex_17 (c_P l161.1), ?_⟩)
            rw [ex_r17_8 (h := h158) (c_P l161.1)]
            refine am_goX 3 (show (Value.int (nI p164)).category = 1 ∧ (Value.ref 24).category = 1 ∧ ∃ jj nn : Nat, am_sh h158 24 = some (13, nn) ∧ jj < nn ∧ (nI p164) = nI jj ∧ pz_S 4 (some .boolean) am_r64 6 Q 133 [(3, .int (nI p164)), (2, .int (nI p155)), (0, .ref 3), (1, .ref 17)] [.int (h158.1 24 jj), .int (nI p164), .ref 24] h158 from ⟨rfl, rfl, p164, 5, ex_24 (c_P l161.1), by omega, rfl, ?_⟩)
            rw [show h158.1 24 p164 = s.2.2.1.2.2.2.2 p164 from (l161.2.1.2.1.2.2 p164 w165.1).2.2.2]
            refine am_goX 5 (show ∃ jj nn : Nat, am_so h158 24 = some (13, nn) ∧ jj < nn ∧ (nI p164) = nI jj ∧ pz_S 4 (some .boolean) am_r64 6 Q 138 [(3, .int (nI p164)), (2, .int (nI p155)), (0, .ref 3), (1, .ref 17)] [] (am_wI h158 24 jj ((s.2.2.1.2.2.2.2 p164) ||| ((Int32.ofInt 1) <<< ((nI p155) &&& 31)))) from ⟨p164, 5, ex_w24 (c_P l161.1), by omega, rfl, ?_⟩)
            have l169 : cr h0 17 T sz (s.1 + 1 + 1, sp_cG s.2 p164 p155) (am_wI h158 24 (p164) ((s.2.2.1.2.2.2.2 p164) ||| ((Int32.ofInt 1) <<< ((nI p155) &&& 31)))) := cr_G (by decide) l161 w165.1
            refine am_goX 2 (show am_sh (am_wI h158 24 (p164) ((s.2.2.1.2.2.2.2 p164) ||| ((Int32.ofInt 1) <<< ((nI p155) &&& 31)))) 3 = some (1, 0) ∧ pz_S 4 (some .boolean) am_r64 6 Q 142 [(3, .int (nI p164)), (2, .int (nI p155)), (0, .ref 3), (1, .ref 17)] [am_rf ((am_wI h158 24 (p164) ((s.2.2.1.2.2.2.2 p164) ||| ((Int32.ofInt 1) <<< ((nI p155) &&& 31)))).2.2.1 3 0)] (am_wI h158 24 (p164) ((s.2.2.1.2.2.2.2 p164) ||| ((Int32.ofInt 1) <<< ((nI p155) &&& 31)))) from ⟨ex_3 (c_P l169.1), ?_⟩)
            rw [ex_r3_0 (h := am_wI h158 24 (p164) ((s.2.2.1.2.2.2.2 p164) ||| ((Int32.ofInt 1) <<< ((nI p155) &&& 31)))) (c_P l169.1)]
            refine am_goX 1 (show am_rc (am_wI h158 24 (p164) ((s.2.2.1.2.2.2.2 p164) ||| ((Int32.ofInt 1) <<< ((nI p155) &&& 31)))) 1 7 ∧ 0 ≤ 8 ∧ (am_wI h158 24 (p164) ((s.2.2.1.2.2.2.2 p164) ||| ((Int32.ofInt 1) <<< ((nI p155) &&& 31)))).2.2.2.2 + am_al 18 ≤ 175 ∧ am_call am_cod 6 18 [.ref 1] (am_wI h158 24 (p164) ((s.2.2.1.2.2.2.2 p164) ||| ((Int32.ofInt 1) <<< ((nI p155) &&& 31)))) (fun vv h' => pz_S 4 (some .boolean) am_r64 6 Q 145 [(3, .int (nI p164)), (2, .int (nI p155)), (0, .ref 3), (1, .ref 17)] (vv.toList ++ []) h') from ⟨Or.inl ⟨by decide, ex_1 (c_P l169.1)⟩, by decide, ex_lim (c_P l169.1) rfl, am_call.up (c_step l169.1 (sp_nn e162) (fun h170 m171 f172 => ?_)) (by decide)⟩)
            have l173 : cr h0 17 T sz (s.1 + 1 + 1 + 1, (sp_cG s.2 p164 p155)) h170 := cr_fr (a := (s.1 + 1 + 1)) (C := (sp_cG s.2 p164 p155)) (by decide) l169 m171 (Nat.le_succ _) f172
            refine am_goX 2 (show am_sh h170 3 = some (1, 0) ∧ pz_S 4 (some .boolean) am_r64 6 Q 149 [(3, .int (nI p164)), (2, .int (nI p155)), (0, .ref 3), (1, .ref 17)] [am_rf (h170.2.2.1 3 0)] h170 from ⟨ex_3 (c_P l173.1), ?_⟩)
            rw [ex_r3_0 (h := h170) (c_P l173.1)]
            refine am_goX 2 (show am_rc h170 1 7 ∧ 0 ≤ 8 ∧ h170.2.2.2.2 + am_al 61 ≤ 175 ∧ am_call am_cod 6 61 [.ref 1, .int (Int8.ofInt 59).toInt32] h170 (fun vv h' => pz_S 4 (some .boolean) am_r64 6 Q 154 [(3, .int (nI p164)), (2, .int (nI p155)), (0, .ref 3), (1, .ref 17)] (vv.toList ++ []) h') from ⟨Or.inl ⟨by decide, ex_1 (c_P l173.1)⟩, by decide, ex_lim (c_P l173.1) rfl, am_call.up (c_tS (s := (s.1 + 1 + 1 + 1, (sp_cG s.2 p164 p155))) (by decide) l173 (fun v174 h175 x176 f177 => ?_)) (by decide)⟩)
            rcases cres_cs x176 with ⟨F178, e180, rfl, y181⟩ | ⟨t179, e180, rfl, y181⟩
            ·
              exact am_goX 1 (show (∃ ty, (some .boolean) = some ty ∧ narrow ty (.int (0)) = .int (0)) ∧ h175.2.2.2.2 = 175 ∧ _ from ⟨⟨.boolean, rfl, rfl⟩, ex_175 y181.1, hQ _ _ (cres_inl (F := F178) (by simp only [sp_comes, sp_b, sp_f, cond_true, cond_false, e153, e154, e162, e163, e167, e180, Option.isSome_some, Option.isSome_none, Bool.true_or, Bool.or_true, Bool.or_false, Bool.false_or]) rfl y181)⟩)
            ·
              obtain rfl := sp_tS_inr e180
              exact am_goX 1 (show (∃ ty, (some .boolean) = some ty ∧ narrow ty (.int (1)) = .int (1)) ∧ h175.2.2.2.2 = 175 ∧ _ from ⟨⟨.boolean, rfl, rfl⟩, ex_175 (c_P y181.1), hQ _ _ (cres_inr (s' := (s.1 + 1 + 1 + 1 + 1, (sp_cG s.2 p164 p155))) (by simp only [sp_comes, sp_b, sp_f, cond_true, cond_false, e153, e154, e162, e163, e167, e180, Option.isSome_some, Option.isSome_none, Bool.true_or, Bool.or_true, Bool.or_false, Bool.false_or]) rfl y181)⟩)
      | false =>
        refine am_goX 1 (show (¬ (pz_b (false)) = 0 → pz_S 4 (some .boolean) am_r64 6 Q 78 [(2, .int (nI p155)), (0, .ref 3), (1, .ref 17)] [] h158) ∧ (¬ ¬ (pz_b (false)) = 0 → pz_S 4 (some .boolean) am_r64 6 Q 69 [(2, .int (nI p155)), (0, .ref 3), (1, .ref 17)] [] h158) from ⟨fun hz => absurd hz (by decide), fun _ => ?_⟩)
        refine am_goX 2 (show am_sh h158 3 = some (1, 0) ∧ pz_S 4 (some .boolean) am_r64 6 Q 73 [(2, .int (nI p155)), (0, .ref 3), (1, .ref 17)] [am_rf (h158.2.2.1 3 0)] h158 from ⟨ex_3 (c_P l161.1), ?_⟩)
        rw [ex_r3_0 (h := h158) (c_P l161.1)]
        refine am_goX 2 (show am_rc h158 1 7 ∧ 0 ≤ 8 ∧ h158.2.2.2.2 + am_al 52 ≤ 175 ∧ am_call am_cod 6 52 [.ref 1, .int (Int32.ofInt 1)] h158 (fun vv h' => pz_S 4 (some .boolean) am_r64 6 Q 77 [(2, .int (nI p155)), (0, .ref 3), (1, .ref 17)] (vv.toList ++ []) h') from ⟨Or.inl ⟨by decide, ex_1 (c_P l161.1)⟩, by decide, ex_lim (c_P l161.1) rfl, am_call.up (c_refuse l161.1 ?_) (by decide)⟩)
        have x182 := cr_x (s := (s.1 + 1 + 1, s.2)) (k := (Int32.ofInt 1)) (by decide) l161 (by decide)
        exact am_goX 1 (show (∃ ty, (some .boolean) = some ty ∧ narrow ty (.int ((Int32.ofInt 0))) = .int ((Int32.ofInt 0))) ∧ (am_wI h158 1 7 (sp_ft (tt T sz) (s.1 + 1 + 1) (Int32.ofInt 1))).2.2.2.2 = 175 ∧ _ from ⟨⟨.boolean, rfl, rfl⟩, ex_175 x182.1, hQ _ _ (cres_inl (F := sp_ft (tt T sz) (s.1 + 1 + 1) (Int32.ofInt 1)) (by simp only [sp_comes, sp_b, sp_f, cond_true, cond_false, e153, e154, e162, Option.isSome_some, Option.isSome_none, Bool.true_or, Bool.or_true, Bool.or_false, Bool.false_or]) rfl x182)⟩)
  | false =>
    refine am_goX 1 (show (¬ (pz_b (false)) = 0 → pz_S 4 (some .boolean) am_r64 6 Q 26 [(0, .ref 3), (1, .ref 17)] [] h149) ∧ (¬ ¬ (pz_b (false)) = 0 → pz_S 4 (some .boolean) am_r64 6 Q 17 [(0, .ref 3), (1, .ref 17)] [] h149) from ⟨fun hz => absurd hz (by decide), fun _ => ?_⟩)
    refine am_goX 2 (show am_sh h149 3 = some (1, 0) ∧ pz_S 4 (some .boolean) am_r64 6 Q 21 [(0, .ref 3), (1, .ref 17)] [am_rf (h149.2.2.1 3 0)] h149 from ⟨ex_3 (c_P l152.1), ?_⟩)
    rw [ex_r3_0 (h := h149) (c_P l152.1)]
    refine am_goX 2 (show am_rc h149 1 7 ∧ 0 ≤ 8 ∧ h149.2.2.2.2 + am_al 52 ≤ 175 ∧ am_call am_cod 6 52 [.ref 1, .int (Int32.ofInt 1)] h149 (fun vv h' => pz_S 4 (some .boolean) am_r64 6 Q 25 [(0, .ref 3), (1, .ref 17)] (vv.toList ++ []) h') from ⟨Or.inl ⟨by decide, ex_1 (c_P l152.1)⟩, by decide, ex_lim (c_P l152.1) rfl, am_call.up (c_refuse l152.1 ?_) (by decide)⟩)
    have x183 := cr_x (s := (s.1 + 1, s.2)) (k := (Int32.ofInt 1)) (by decide) l152 (by decide)
    exact am_goX 1 (show (∃ ty, (some .boolean) = some ty ∧ narrow ty (.int ((Int32.ofInt 0))) = .int ((Int32.ofInt 0))) ∧ (am_wI h149 1 7 (sp_ft (tt T sz) (s.1 + 1) (Int32.ofInt 1))).2.2.2.2 = 175 ∧ _ from ⟨⟨.boolean, rfl, rfl⟩, ex_175 x183.1, hQ _ _ (cres_inl (F := sp_ft (tt T sz) (s.1 + 1) (Int32.ofInt 1)) (by simp only [sp_comes, sp_b, sp_f, cond_true, cond_false, e153, Option.isSome_some, Option.isSome_none, Bool.true_or, Bool.or_true, Bool.or_false, Bool.false_or]) rfl x183)⟩)
theorem c_68_17 {v : Int32} {D : Nat} (hD : D < 28) (hv : v = nI D) (l : cr h0 17 T sz s h) (hQ : Q (some (.int (pz_b (sp_bit s.2.2.2.1.2 v)))) h) : am_call am_cod 2 68 [.ref 17, .int v] h Q := by
  have hP := c_P l.1
  have d2 : h.1 17 10 = s.2.2.2.1.2 := l.2.1.2.2.1.2.1
  refine pz_call (n := 68) (nL := 2) (rt := (some .boolean)) (rows := am_r68) (d := 1) (by decide +kernel) (by decide +kernel) rfl (by funext pc; rfl) (ex_175 hP) (by exact Nat.le_of_ble_eq_true rfl) ?_
  refine am_goX 5 (show am_sh h 17 = some (0, 0) ∧ ¬ (Int8.ofInt 28).toInt32 = 0 ∧ pz_S 2 (some .boolean) am_r68 1 Q 8 [(0, .ref 17), (1, .int v)] [.int (v - v / (Int8.ofInt 28).toInt32 * (Int8.ofInt 28).toInt32), .int (h.1 17 10)] h from ⟨ex_17 hP, by decide, ?_⟩)
  rw [d2, show v - v / (Int8.ofInt 28).toInt32 * (Int8.ofInt 28).toInt32 = v by rw [hv]; exact sp_bit28 hD]
  refine am_goX 1 (show 0 ≤ 8 ∧ h.2.2.2.2 + am_al 65 ≤ 175 ∧ am_call am_cod 1 65 [.int s.2.2.2.1.2, .int v] h (fun vv h' => pz_S 2 (some .boolean) am_r68 1 Q 11 [(0, .ref 17), (1, .int v)] (vv.toList ++ []) h') from ⟨by decide, ex_lim hP rfl, c_65 hP ?_⟩)
  rcases pz_b_v (sp_bit s.2.2.2.1.2 v) with e | e
  all_goals rw [e] at hQ ⊢
  · exact am_goX 1 (show (∃ ty, some FieldType.boolean = some ty ∧ narrow ty (.int 0) = .int 0) ∧ h.2.2.2.2 = 175 ∧ _ from ⟨⟨_, rfl, rfl⟩, ex_175 hP, hQ⟩)
  · exact am_goX 1 (show (∃ ty, some FieldType.boolean = some ty ∧ narrow ty (.int 1) = .int 1) ∧ h.2.2.2.2 = 175 ∧ _ from ⟨⟨_, rfl, rfl⟩, ex_175 hP, hQ⟩)
theorem c_67_17 (ht : s.2.2.2.1.1 = true) (l : cr h0 17 T sz s h) (hQ : ∀ v h1, cres h0 17 T sz (sp_sd (tt T sz) s) v h1 → Q v h1) : am_call am_cod 7 67 [.ref 3, .ref 17] h Q := by
  have hP := c_P l.1
  have hk := ck_2 T sz s.1
  have d2 : h.1 17 10 = s.2.2.2.1.2 := l.2.1.2.2.1.2.1
  refine pz_call (n := 67) (nL := 3) (rt := (some .boolean)) (rows := am_r67) (d := 6) (by decide +kernel) (by decide +kernel) rfl (by funext pc; rfl) (ex_175 hP) (by exact Nat.le_of_ble_eq_true rfl) ?_
  refine am_goX 2 (show am_sh h 3 = some (1, 0) ∧ pz_S 3 (some .boolean) am_r67 6 Q 4 [(0, .ref 3), (1, .ref 17)] [am_rf (h.2.2.1 3 0)] h from ⟨ex_3 (c_P l.1), ?_⟩)
  rw [ex_r3_0 (h := h) (c_P l.1)]
  refine am_goX 2 (show am_sh h 1 = some (7, 0) ∧ pz_S 3 (some .boolean) am_r67 6 Q 8 [(0, .ref 3), (1, .ref 17)] [.int (Int32.ofInt 2), .int (h.1 1 2)] h from ⟨ex_1 (c_P l.1), ?_⟩)
  rw [c_kd l.1]
  refine am_goX 1 (show (¬ (ck (tt T sz s.1).1) = (Int32.ofInt 2) → pz_S 3 (some .boolean) am_r67 6 Q 27 [(0, .ref 3), (1, .ref 17)] [] h) ∧ (¬ ¬ (ck (tt T sz s.1).1) = (Int32.ofInt 2) → pz_S 3 (some .boolean) am_r67 6 Q 11 [(0, .ref 3), (1, .ref 17)] [] h) from ⟨fun hc => ?_, fun hc => ?_⟩)
  ·
    have e2 : sp_k (tt T sz) s.1 2 = false := by rw [← hk]; exact decide_eq_false hc
    clear hc
    refine am_goX 4 (show 2 < 3 ∧ ((Int32.ofInt 0) = 0 → pz_S 3 (some .boolean) am_r67 6 Q 56 [(2, .int (Int32.ofInt 0)), (0, .ref 3), (1, .ref 17)] [] h) ∧ (¬ ((Int32.ofInt 0) = 0) → pz_S 3 (some .boolean) am_r67 6 Q 33 [(2, .int (Int32.ofInt 0)), (0, .ref 3), (1, .ref 17)] [] h) from ⟨by decide, fun _ => ?_, fun hz => absurd (by decide) hz⟩)
    refine am_goX 2 (show am_sh h 3 = some (1, 0) ∧ pz_S 3 (some .boolean) am_r67 6 Q 60 [(2, .int (Int32.ofInt 0)), (0, .ref 3), (1, .ref 17)] [am_rf (h.2.2.1 3 0)] h from ⟨ex_3 (c_P l.1), ?_⟩)
    rw [ex_r3_0 (h := h) (c_P l.1)]
    refine am_goX 3 (show am_rc h 1 7 ∧ 0 ≤ 8 ∧ h.2.2.2.2 + am_al 59 ≤ 175 ∧ am_call am_cod 6 59 [.ref 1, .int (Int32.ofInt 0), .int (Int8.ofInt 27).toInt32] h (fun vv h' => pz_S 3 (some .boolean) am_r67 6 Q 66 [(2, .int (Int32.ofInt 0)), (0, .ref 3), (1, .ref 17)] (vv.toList ++ []) h') from ⟨Or.inl ⟨by decide, ex_1 (c_P l.1)⟩, by decide, ex_lim (c_P l.1) rfl, am_call.up (c_tN (s := s) (by decide) l (fun v184 h185 x186 f187 => ?_)) (by decide)⟩)
    rcases cres_cs x186 with ⟨F188, e190, rfl, y191⟩ | ⟨t189, e190, rfl, y191⟩
    ·
      simp only [sp_tN, e2, cond_true, cond_false, sp_f, Sum.inl.injEq] at e190
      subst e190
      refine am_goX 1 (show (¬ 0 = 0 → pz_S 3 (some .boolean) am_r67 6 Q 71 [(2, .int (Int32.ofInt 0)), (0, .ref 3), (1, .ref 17)] [] h185) ∧ (¬ ¬ 0 = 0 → pz_S 3 (some .boolean) am_r67 6 Q 69 [(2, .int (Int32.ofInt 0)), (0, .ref 3), (1, .ref 17)] [] h185) from ⟨fun hz => absurd hz (by decide), fun _ => ?_⟩)
      exact am_goX 2 (show (∃ ty, (some .boolean) = some ty ∧ narrow ty (.int ((Int32.ofInt 0))) = .int ((Int32.ofInt 0))) ∧ h185.2.2.2.2 = 175 ∧ _ from ⟨⟨.boolean, rfl, rfl⟩, ex_175 y191.1, hQ _ _ (cres_inl (F := sp_ft (tt T sz) s.1 (Int32.ofInt 1)) (by simp only [sp_sd, sp_tN, sp_b, sp_f, cond_true, cond_false, e2, Option.isSome_some, Option.isSome_none, Bool.true_or, Bool.or_true, Bool.or_false, Bool.false_or]) rfl y191)⟩)
    ·
      simp only [sp_tN, e2, cond_true, cond_false, sp_f] at e190
      cases e190
  ·
    have e2 : sp_k (tt T sz) s.1 2 = true := by rw [← hk]; exact decide_eq_true (Decidable.not_not.mp hc)
    clear hc
    obtain ⟨D, hD, ev, en⟩ := c_nm l.1 e2
    have hi := sp_in28 hD ev
    have enn := c_nv l.1 e2
    refine am_goX 2 (show am_sh h 3 = some (1, 0) ∧ pz_S 3 (some .boolean) am_r67 6 Q 15 [(0, .ref 3), (1, .ref 17)] [am_rf (h.2.2.1 3 0)] h from ⟨ex_3 (c_P l.1), ?_⟩)
    rw [ex_r3_0 (h := h) (c_P l.1)]
    refine am_goX 2 (show am_sh h 1 = some (7, 0) ∧ pz_S 3 (some .boolean) am_r67 6 Q 20 [(0, .ref 3), (1, .ref 17)] [.int (Int8.ofInt 28).toInt32, .int (h.1 1 6)] h from ⟨ex_1 (c_P l.1), ?_⟩)
    rw [en]
    refine am_goX 1 (show ((Int8.ofInt 28).toInt32 ≤ (nI D) → pz_S 3 (some .boolean) am_r67 6 Q 27 [(0, .ref 3), (1, .ref 17)] [] h) ∧ (¬ ((Int8.ofInt 28).toInt32 ≤ (nI D)) → pz_S 3 (some .boolean) am_r67 6 Q 23 [(0, .ref 3), (1, .ref 17)] [] h) from ⟨fun hc => ?_, fun hc => ?_⟩)
    ·
      rw [i28 hD] at hc
      have ei := hi.trans (decide_eq_false (by omega : ¬ D < 28))
      refine am_goX 4 (show 2 < 3 ∧ ((Int32.ofInt 0) = 0 → pz_S 3 (some .boolean) am_r67 6 Q 56 [(2, .int (Int32.ofInt 0)), (0, .ref 3), (1, .ref 17)] [] h) ∧ (¬ ((Int32.ofInt 0) = 0) → pz_S 3 (some .boolean) am_r67 6 Q 33 [(2, .int (Int32.ofInt 0)), (0, .ref 3), (1, .ref 17)] [] h) from ⟨by decide, fun _ => ?_, fun hz => absurd (by decide) hz⟩)
      refine am_goX 2 (show am_sh h 3 = some (1, 0) ∧ pz_S 3 (some .boolean) am_r67 6 Q 60 [(2, .int (Int32.ofInt 0)), (0, .ref 3), (1, .ref 17)] [am_rf (h.2.2.1 3 0)] h from ⟨ex_3 (c_P l.1), ?_⟩)
      rw [ex_r3_0 (h := h) (c_P l.1)]
      refine am_goX 3 (show am_rc h 1 7 ∧ 0 ≤ 8 ∧ h.2.2.2.2 + am_al 59 ≤ 175 ∧ am_call am_cod 6 59 [.ref 1, .int (Int32.ofInt 0), .int (Int8.ofInt 27).toInt32] h (fun vv h' => pz_S 3 (some .boolean) am_r67 6 Q 66 [(2, .int (Int32.ofInt 0)), (0, .ref 3), (1, .ref 17)] (vv.toList ++ []) h') from ⟨Or.inl ⟨by decide, ex_1 (c_P l.1)⟩, by decide, ex_lim (c_P l.1) rfl, am_call.up (c_tN (s := s) (by decide) l (fun v192 h193 x194 f195 => ?_)) (by decide)⟩)
      rcases cres_cs x194 with ⟨F196, e198, rfl, y199⟩ | ⟨t197, e198, rfl, y199⟩
      ·
        simp only [sp_tN, e2, ei, cond_true, cond_false, sp_f, Sum.inl.injEq] at e198
        subst e198
        refine am_goX 1 (show (¬ 0 = 0 → pz_S 3 (some .boolean) am_r67 6 Q 71 [(2, .int (Int32.ofInt 0)), (0, .ref 3), (1, .ref 17)] [] h193) ∧ (¬ ¬ 0 = 0 → pz_S 3 (some .boolean) am_r67 6 Q 69 [(2, .int (Int32.ofInt 0)), (0, .ref 3), (1, .ref 17)] [] h193) from ⟨fun hz => absurd hz (by decide), fun _ => ?_⟩)
        exact am_goX 2 (show (∃ ty, (some .boolean) = some ty ∧ narrow ty (.int ((Int32.ofInt 0))) = .int ((Int32.ofInt 0))) ∧ h193.2.2.2.2 = 175 ∧ _ from ⟨⟨.boolean, rfl, rfl⟩, ex_175 y199.1, hQ _ _ (cres_inl (F := sp_ft (tt T sz) s.1 (Int32.ofInt 4)) (by simp only [sp_sd, sp_tN, sp_b, sp_f, cond_true, cond_false, e2, ei, Option.isSome_some, Option.isSome_none, Bool.true_or, Bool.or_true, Bool.or_false, Bool.false_or]) rfl y199)⟩)
      ·
        simp only [sp_tN, e2, ei, cond_true, cond_false, sp_f] at e198
        cases e198
    ·
      rw [i28 hD] at hc
      have ei := hi.trans (decide_eq_true (by omega : D < 28))
      refine am_goX 5 (show 2 < 3 ∧ ((Int32.ofInt 1) = 0 → pz_S 3 (some .boolean) am_r67 6 Q 56 [(2, .int (Int32.ofInt 1)), (0, .ref 3), (1, .ref 17)] [] h) ∧ (¬ ((Int32.ofInt 1) = 0) → pz_S 3 (some .boolean) am_r67 6 Q 33 [(2, .int (Int32.ofInt 1)), (0, .ref 3), (1, .ref 17)] [] h) from ⟨by decide, fun hz => absurd hz (by decide), fun _ => ?_⟩)
      refine am_goX 3 (show am_sh h 3 = some (1, 0) ∧ pz_S 3 (some .boolean) am_r67 6 Q 38 [(2, .int (Int32.ofInt 1)), (0, .ref 3), (1, .ref 17)] [am_rf (h.2.2.1 3 0), .ref 17] h from ⟨ex_3 (c_P l.1), ?_⟩)
      rw [ex_r3_0 (h := h) (c_P l.1)]
      refine am_goX 1 (show am_sh h 1 = some (7, 0) ∧ pz_S 3 (some .boolean) am_r67 6 Q 41 [(2, .int (Int32.ofInt 1)), (0, .ref 3), (1, .ref 17)] [.int (h.1 1 6), .ref 17] h from ⟨ex_1 (c_P l.1), ?_⟩)
      rw [enn]
      refine am_goX 1 (show am_rc h 17 0 ∧ 0 ≤ 8 ∧ h.2.2.2.2 + am_al 68 ≤ 175 ∧ am_call am_cod 6 68 [.ref 17, .int (sp_v (tt T sz) s.1)] h (fun vv h' => pz_S 3 (some .boolean) am_r67 6 Q 44 [(2, .int (Int32.ofInt 1)), (0, .ref 3), (1, .ref 17)] (vv.toList ++ []) h') from ⟨Or.inl ⟨by decide, ex_17 (c_P l.1)⟩, by decide, ex_lim (c_P l.1) rfl, am_call.up (c_68_17 (show D < 28 by omega) ev l ?_) (by decide)⟩)
      cases e4 : sp_bit s.2.2.2.1.2 (sp_v (tt T sz) s.1) with
      | true =>
        refine am_goX 1 (show ((pz_b (true)) = 0 → pz_S 3 (some .boolean) am_r67 6 Q 56 [(2, .int (Int32.ofInt 1)), (0, .ref 3), (1, .ref 17)] [] h) ∧ (¬ ((pz_b (true)) = 0) → pz_S 3 (some .boolean) am_r67 6 Q 47 [(2, .int (Int32.ofInt 1)), (0, .ref 3), (1, .ref 17)] [] h) from ⟨fun hz => absurd hz (by decide), fun _ => ?_⟩)
        refine am_goX 2 (show am_sh h 3 = some (1, 0) ∧ pz_S 3 (some .boolean) am_r67 6 Q 51 [(2, .int (Int32.ofInt 1)), (0, .ref 3), (1, .ref 17)] [am_rf (h.2.2.1 3 0)] h from ⟨ex_3 (c_P l.1), ?_⟩)
        rw [ex_r3_0 (h := h) (c_P l.1)]
        refine am_goX 2 (show am_rc h 1 7 ∧ 0 ≤ 8 ∧ h.2.2.2.2 + am_al 52 ≤ 175 ∧ am_call am_cod 6 52 [.ref 1, .int (Int32.ofInt 3)] h (fun vv h' => pz_S 3 (some .boolean) am_r67 6 Q 55 [(2, .int (Int32.ofInt 1)), (0, .ref 3), (1, .ref 17)] (vv.toList ++ []) h') from ⟨Or.inl ⟨by decide, ex_1 (c_P l.1)⟩, by decide, ex_lim (c_P l.1) rfl, am_call.up (c_refuse l.1 ?_) (by decide)⟩)
        have x200 := cr_x (s := s) (k := (Int32.ofInt 3)) (by decide) l (by decide)
        exact am_goX 1 (show (∃ ty, (some .boolean) = some ty ∧ narrow ty (.int ((Int32.ofInt 0))) = .int ((Int32.ofInt 0))) ∧ (am_wI h 1 7 (sp_ft (tt T sz) s.1 (Int32.ofInt 3))).2.2.2.2 = 175 ∧ _ from ⟨⟨.boolean, rfl, rfl⟩, ex_175 x200.1, hQ _ _ (cres_inl (F := sp_ft (tt T sz) s.1 (Int32.ofInt 3)) (by simp only [sp_sd, sp_tN, sp_b, sp_f, cond_true, cond_false, e2, ei, e4, Option.isSome_some, Option.isSome_none, Bool.true_or, Bool.or_true, Bool.or_false, Bool.false_or]) rfl x200)⟩)
      | false =>
        refine am_goX 1 (show ((pz_b (false)) = 0 → pz_S 3 (some .boolean) am_r67 6 Q 56 [(2, .int (Int32.ofInt 1)), (0, .ref 3), (1, .ref 17)] [] h) ∧ (¬ ((pz_b (false)) = 0) → pz_S 3 (some .boolean) am_r67 6 Q 47 [(2, .int (Int32.ofInt 1)), (0, .ref 3), (1, .ref 17)] [] h) from ⟨fun _ => ?_, fun hz => absurd (by decide) hz⟩)
        refine am_goX 2 (show am_sh h 3 = some (1, 0) ∧ pz_S 3 (some .boolean) am_r67 6 Q 60 [(2, .int (Int32.ofInt 1)), (0, .ref 3), (1, .ref 17)] [am_rf (h.2.2.1 3 0)] h from ⟨ex_3 (c_P l.1), ?_⟩)
        rw [ex_r3_0 (h := h) (c_P l.1)]
        refine am_goX 3 (show am_rc h 1 7 ∧ 0 ≤ 8 ∧ h.2.2.2.2 + am_al 59 ≤ 175 ∧ am_call am_cod 6 59 [.ref 1, .int (Int32.ofInt 0), .int (Int8.ofInt 27).toInt32] h (fun vv h' => pz_S 3 (some .boolean) am_r67 6 Q 66 [(2, .int (Int32.ofInt 1)), (0, .ref 3), (1, .ref 17)] (vv.toList ++ []) h') from ⟨Or.inl ⟨by decide, ex_1 (c_P l.1)⟩, by decide, ex_lim (c_P l.1) rfl, am_call.up (c_tN (s := s) (by decide) l (fun v201 h202 x203 f204 => ?_)) (by decide)⟩)
        rcases cres_cs x203 with ⟨F205, e207, rfl, y208⟩ | ⟨t206, e207, rfl, y208⟩
        ·
          simp only [sp_tN, e2, ei, cond_true, cond_false] at e207
          cases e207
        ·
          obtain ⟨et, _, _⟩ := sp_tN_inr e207
          rw [et] at y208
          refine am_goX 1 (show (¬ 1 = 0 → pz_S 3 (some .boolean) am_r67 6 Q 71 [(2, .int (Int32.ofInt 1)), (0, .ref 3), (1, .ref 17)] [] h202) ∧ (¬ ¬ 1 = 0 → pz_S 3 (some .boolean) am_r67 6 Q 69 [(2, .int (Int32.ofInt 1)), (0, .ref 3), (1, .ref 17)] [] h202) from ⟨fun _ => ?_, fun hz => absurd (by decide) hz⟩)
          refine am_goX 2 (show am_sh h202 17 = some (0, 0) ∧ pz_S 3 (some .boolean) am_r67 6 Q 75 [(2, .int (Int32.ofInt 1)), (0, .ref 3), (1, .ref 17)] [.int (h202.1 17 10)] h202 from ⟨ex_17 (c_P y208.1), ?_⟩)
          rw [show h202.1 17 10 = s.2.2.2.1.2 from y208.2.1.2.2.1.2.1]
          refine am_goX 1 (show 0 ≤ 8 ∧ h202.2.2.2.2 + am_al 69 ≤ 175 ∧ am_call am_cod 6 69 [.int s.2.2.2.1.2] h202 (fun vv h' => pz_S 3 (some .boolean) am_r67 6 Q 78 [(2, .int (Int32.ofInt 1)), (0, .ref 3), (1, .ref 17)] (vv.toList ++ []) h') from ⟨by decide, ex_lim (c_P y208.1) rfl, am_call.up (c_69 (c_P y208.1) y208.2.1.2.2.1.2.2.2 ?_) (by decide)⟩)
          refine am_goX 1 (show pz_S 3 (some .boolean) am_r67 6 Q 80 [(2, .int (Int32.ofInt 1)), (0, .ref 3), (1, .ref 17)] [.int (Int8.ofInt 8).toInt32, .int (nI (sp_pc s.2.2.2.1.2 28))] h202 from ?_)
          cases e5 : Nat.ble 8 (sp_pc s.2.2.2.1.2 28) with
          | true =>
            refine am_goX 1 (show ((nI (sp_pc s.2.2.2.1.2 28)) < (Int8.ofInt 8).toInt32 → pz_S 3 (some .boolean) am_r67 6 Q 92 [(2, .int (Int32.ofInt 1)), (0, .ref 3), (1, .ref 17)] [] h202) ∧ (¬ ((nI (sp_pc s.2.2.2.1.2 28)) < (Int8.ofInt 8).toInt32) → pz_S 3 (some .boolean) am_r67 6 Q 83 [(2, .int (Int32.ofInt 1)), (0, .ref 3), (1, .ref 17)] [] h202) from ⟨fun hz => absurd hz (i8 e5 (by have := sp_pc_le s.2.2.2.1.2 28; omega)), fun _ => ?_⟩)
            refine am_goX 2 (show am_sh h202 3 = some (1, 0) ∧ pz_S 3 (some .boolean) am_r67 6 Q 87 [(2, .int (Int32.ofInt 1)), (0, .ref 3), (1, .ref 17)] [am_rf (h202.2.2.1 3 0)] h202 from ⟨ex_3 (c_P y208.1), ?_⟩)
            rw [ex_r3_0 (h := h202) (c_P y208.1)]
            refine am_goX 2 (show am_rc h202 1 7 ∧ 0 ≤ 8 ∧ h202.2.2.2.2 + am_al 52 ≤ 175 ∧ am_call am_cod 6 52 [.ref 1, .int (Int32.ofInt 5)] h202 (fun vv h' => pz_S 3 (some .boolean) am_r67 6 Q 91 [(2, .int (Int32.ofInt 1)), (0, .ref 3), (1, .ref 17)] (vv.toList ++ []) h') from ⟨Or.inl ⟨by decide, ex_1 (c_P y208.1)⟩, by decide, ex_lim (c_P y208.1) rfl, am_call.up (c_refuse y208.1 ?_) (by decide)⟩)
            have x209 := cr_x (s := s) (k := (Int32.ofInt 5)) (by decide) y208 (by decide)
            exact am_goX 1 (show (∃ ty, (some .boolean) = some ty ∧ narrow ty (.int ((Int32.ofInt 0))) = .int ((Int32.ofInt 0))) ∧ (am_wI h202 1 7 (sp_ft (tt T sz) s.1 (Int32.ofInt 5))).2.2.2.2 = 175 ∧ _ from ⟨⟨.boolean, rfl, rfl⟩, ex_175 x209.1, hQ _ _ (cres_inl (F := sp_ft (tt T sz) s.1 (Int32.ofInt 5)) (by simp only [sp_sd, sp_tN, sp_b, sp_f, cond_true, cond_false, e2, ei, e4, e5, Option.isSome_some, Option.isSome_none, Bool.true_or, Bool.or_true, Bool.or_false, Bool.false_or]) rfl x209)⟩)
          | false =>
            refine am_goX 1 (show ((nI (sp_pc s.2.2.2.1.2 28)) < (Int8.ofInt 8).toInt32 → pz_S 3 (some .boolean) am_r67 6 Q 92 [(2, .int (Int32.ofInt 1)), (0, .ref 3), (1, .ref 17)] [] h202) ∧ (¬ ((nI (sp_pc s.2.2.2.1.2 28)) < (Int8.ofInt 8).toInt32) → pz_S 3 (some .boolean) am_r67 6 Q 83 [(2, .int (Int32.ofInt 1)), (0, .ref 3), (1, .ref 17)] [] h202) from ⟨fun _ => ?_, fun hz => absurd (j8 e5) hz⟩)
            refine am_goX 6 (show (Value.ref 17).category = 1 ∧ am_sh h202 17 = some (0, 0) ∧ am_sh h202 3 = some (1, 0) ∧ pz_S 3 (some .boolean) am_r67 6 Q 102 [(2, .int (Int32.ofInt 1)), (0, .ref 3), (1, .ref 17)] [am_rf (h202.2.2.1 3 0), .int (Int32.ofInt 1), .int (h202.1 17 10), .ref 17] h202 from ⟨rfl, ex_17 (c_P y208.1), ex_3 (c_P y208.1), ?_⟩)
            rw [ex_r3_0 (h := h202) (c_P y208.1)]
            refine am_goX 4 (show am_sh h202 1 = some (7, 0) ∧ am_sh h202 17 = some (0, 0) ∧ narrow (am_fty 0 10) (.int (((h202.1 17 10) ||| ((Int32.ofInt 1) <<< ((h202.1 1 6) &&& 31))))) = .int (((h202.1 17 10) ||| ((Int32.ofInt 1) <<< ((h202.1 1 6) &&& 31)))) ∧ fits (am_fty 0 10) (.int (((h202.1 17 10) ||| ((Int32.ofInt 1) <<< ((h202.1 1 6) &&& 31))))) = true ∧ pz_S 3 (some .boolean) am_r67 6 Q 110 [(2, .int (Int32.ofInt 1)), (0, .ref 3), (1, .ref 17)] [] (am_wI h202 17 10 (((h202.1 17 10) ||| ((Int32.ofInt 1) <<< ((h202.1 1 6) &&& 31))))) from ⟨ex_1 (c_P y208.1), ex_17 (c_P y208.1), rfl, rfl, ?_⟩)
            rw [show h202.1 17 10 = s.2.2.2.1.2 from y208.2.1.2.2.1.2.1, c_nv y208.1 e2]
            have l210 : cr h0 17 T sz (s.1, sp_cS s.2 s.2.2.2.1.1 (s.2.2.2.1.2 ||| ((Int32.ofInt 1) <<< (sp_v (tt T sz) s.1 &&& 31)))) (am_wI h202 17 10 (s.2.2.2.1.2 ||| ((Int32.ofInt 1) <<< (sp_v (tt T sz) s.1 &&& 31)))) := cr_S10 (by decide) ⟨fun z => absurd (ht.symm.trans z) (by decide), by rw [ev]; exact sp_28_or y208.2.1.2.2.1.2.2.2 (by omega)⟩ y208
            refine am_goX 2 (show am_sh (am_wI h202 17 10 (s.2.2.2.1.2 ||| ((Int32.ofInt 1) <<< (sp_v (tt T sz) s.1 &&& 31)))) 3 = some (1, 0) ∧ pz_S 3 (some .boolean) am_r67 6 Q 114 [(2, .int (Int32.ofInt 1)), (0, .ref 3), (1, .ref 17)] [am_rf ((am_wI h202 17 10 (s.2.2.2.1.2 ||| ((Int32.ofInt 1) <<< (sp_v (tt T sz) s.1 &&& 31)))).2.2.1 3 0)] (am_wI h202 17 10 (s.2.2.2.1.2 ||| ((Int32.ofInt 1) <<< (sp_v (tt T sz) s.1 &&& 31)))) from ⟨ex_3 (c_P l210.1), ?_⟩)
            rw [ex_r3_0 (h := am_wI h202 17 10 (s.2.2.2.1.2 ||| ((Int32.ofInt 1) <<< (sp_v (tt T sz) s.1 &&& 31)))) (c_P l210.1)]
            refine am_goX 1 (show am_rc (am_wI h202 17 10 (s.2.2.2.1.2 ||| ((Int32.ofInt 1) <<< (sp_v (tt T sz) s.1 &&& 31)))) 1 7 ∧ 0 ≤ 8 ∧ (am_wI h202 17 10 (s.2.2.2.1.2 ||| ((Int32.ofInt 1) <<< (sp_v (tt T sz) s.1 &&& 31)))).2.2.2.2 + am_al 18 ≤ 175 ∧ am_call am_cod 6 18 [.ref 1] (am_wI h202 17 10 (s.2.2.2.1.2 ||| ((Int32.ofInt 1) <<< (sp_v (tt T sz) s.1 &&& 31)))) (fun vv h' => pz_S 3 (some .boolean) am_r67 6 Q 117 [(2, .int (Int32.ofInt 1)), (0, .ref 3), (1, .ref 17)] (vv.toList ++ []) h') from ⟨Or.inl ⟨by decide, ex_1 (c_P l210.1)⟩, by decide, ex_lim (c_P l210.1) rfl, am_call.up (c_step l210.1 (sp_kn (by decide) e2) (fun h211 m212 f213 => ?_)) (by decide)⟩)
            have l214 : cr h0 17 T sz (s.1 + 1, (sp_cS s.2 s.2.2.2.1.1 (s.2.2.2.1.2 ||| ((Int32.ofInt 1) <<< (sp_v (tt T sz) s.1 &&& 31))))) h211 := cr_fr (a := s.1) (C := (sp_cS s.2 s.2.2.2.1.1 (s.2.2.2.1.2 ||| ((Int32.ofInt 1) <<< (sp_v (tt T sz) s.1 &&& 31))))) (by decide) l210 m212 (Nat.le_succ _) f213
            exact am_goX 2 (show (∃ ty, (some .boolean) = some ty ∧ narrow ty (.int ((Int32.ofInt 1))) = .int ((Int32.ofInt 1))) ∧ h211.2.2.2.2 = 175 ∧ _ from ⟨⟨.boolean, rfl, rfl⟩, ex_175 (c_P l214.1), hQ _ _ (cres_inr (s' := (s.1 + 1, (sp_cS s.2 s.2.2.2.1.1 (s.2.2.2.1.2 ||| ((Int32.ofInt 1) <<< (sp_v (tt T sz) s.1 &&& 31)))))) (by simp only [sp_sd, sp_tN, sp_b, sp_f, cond_true, cond_false, e2, ei, e4, e5, Option.isSome_some, Option.isSome_none, Bool.true_or, Bool.or_true, Bool.or_false, Bool.false_or]) rfl l214)⟩)
theorem c_66l_17 : ∀ (m i : Nat) (s : sp_S) (h : am_H) (Q : am_Q), sz < s.1 + m → i + 1 ≤ s.1 → s.2.2.2.1.1 = true → cr h0 17 T sz s h → (∀ v h1, cres h0 17 T sz (sp_b (sp_sl (tt T sz) m s) (sp_tS (tt T sz) (Int8.ofInt 59).toInt32)) v h1 → Q v h1) → pz_S 4 (some .boolean) am_r66 7 Q 36 [(3, .int (nI i)), (2, .int 1), (0, .ref 3), (1, .ref 17)] [] h := by
  intro m
  induction m with
  | zero =>
    intro i s h Q hm hi ht l hQ
    have := (cr_a l).1
    omega
  | succ m ih =>
    intro i s h Q hm hi ht l hQ
    have ha := cr_a l
    have hk := ck_2 T sz s.1
    refine am_goX 2 (show (1 = 0 → pz_S 4 (some .boolean) am_r66 7 Q 70 [(3, .int (nI i)), (2, .int 1), (0, .ref 3), (1, .ref 17)] [] h) ∧ (¬ (1 = 0) → pz_S 4 (some .boolean) am_r66 7 Q 40 [(3, .int (nI i)), (2, .int 1), (0, .ref 3), (1, .ref 17)] [] h) from ⟨fun hz => absurd hz (by decide), fun _ => ?_⟩)
    refine am_goX 2 (show am_sh h 3 = some (1, 0) ∧ pz_S 4 (some .boolean) am_r66 7 Q 44 [(3, .int (nI i)), (2, .int 1), (0, .ref 3), (1, .ref 17)] [am_rf (h.2.2.1 3 0)] h from ⟨ex_3 (c_P l.1), ?_⟩)
    rw [ex_r3_0 (h := h) (c_P l.1)]
    refine am_goX 2 (show am_sh h 1 = some (7, 0) ∧ pz_S 4 (some .boolean) am_r66 7 Q 48 [(3, .int (nI i)), (2, .int 1), (0, .ref 3), (1, .ref 17)] [.int (Int32.ofInt 2), .int (h.1 1 2)] h from ⟨ex_1 (c_P l.1), ?_⟩)
    rw [c_kd l.1]
    refine am_goX 1 (show (¬ (ck (tt T sz s.1).1) = (Int32.ofInt 2) → pz_S 4 (some .boolean) am_r66 7 Q 70 [(3, .int (nI i)), (2, .int 1), (0, .ref 3), (1, .ref 17)] [] h) ∧ (¬ ¬ (ck (tt T sz s.1).1) = (Int32.ofInt 2) → pz_S 4 (some .boolean) am_r66 7 Q 51 [(3, .int (nI i)), (2, .int 1), (0, .ref 3), (1, .ref 17)] [] h) from ⟨fun hc => ?_, fun hc => ?_⟩)
    ·
      have e2 : sp_k (tt T sz) s.1 2 = false := by rw [← hk]; exact decide_eq_false hc
      clear hc
      refine am_goX 2 (show (1 = 0 → pz_S 4 (some .boolean) am_r66 7 Q 90 [(3, .int (nI i)), (2, .int 1), (0, .ref 3), (1, .ref 17)] [] h) ∧ (¬ (1 = 0) → pz_S 4 (some .boolean) am_r66 7 Q 74 [(3, .int (nI i)), (2, .int 1), (0, .ref 3), (1, .ref 17)] [] h) from ⟨fun hz => absurd hz (by decide), fun _ => ?_⟩)
      refine am_goX 2 (show am_sh h 3 = some (1, 0) ∧ pz_S 4 (some .boolean) am_r66 7 Q 78 [(3, .int (nI i)), (2, .int 1), (0, .ref 3), (1, .ref 17)] [am_rf (h.2.2.1 3 0)] h from ⟨ex_3 (c_P l.1), ?_⟩)
      rw [ex_r3_0 (h := h) (c_P l.1)]
      refine am_goX 2 (show am_rc h 1 7 ∧ 0 ≤ 8 ∧ h.2.2.2.2 + am_al 61 ≤ 175 ∧ am_call am_cod 7 61 [.ref 1, .int (Int8.ofInt 59).toInt32] h (fun vv h' => pz_S 4 (some .boolean) am_r66 7 Q 83 [(3, .int (nI i)), (2, .int 1), (0, .ref 3), (1, .ref 17)] (vv.toList ++ []) h') from ⟨Or.inl ⟨by decide, ex_1 (c_P l.1)⟩, by decide, ex_lim (c_P l.1) rfl, am_call.up (c_tS (s := s) (by decide) l (fun v215 h216 x217 f218 => ?_)) (by decide)⟩)
      rcases cres_cs x217 with ⟨F219, e221, rfl, y222⟩ | ⟨t220, e221, rfl, y222⟩
      ·
        refine am_goX 1 (show (0 = 0 → pz_S 4 (some .boolean) am_r66 7 Q 90 [(3, .int (nI i)), (2, .int 1), (0, .ref 3), (1, .ref 17)] [] h216) ∧ (¬ (0 = 0) → pz_S 4 (some .boolean) am_r66 7 Q 86 [(3, .int (nI i)), (2, .int 1), (0, .ref 3), (1, .ref 17)] [] h216) from ⟨fun _ => ?_, fun hz => absurd (by decide) hz⟩)
        exact am_goX 2 (show (∃ ty, (some .boolean) = some ty ∧ narrow ty (.int ((Int32.ofInt 0))) = .int ((Int32.ofInt 0))) ∧ h216.2.2.2.2 = 175 ∧ _ from ⟨⟨.boolean, rfl, rfl⟩, ex_175 y222.1, hQ _ _ (cres_inl (F := F219) (by simp only [sp_sl, sp_b, sp_f, cond_true, cond_false, e2, e221, Option.isSome_some, Option.isSome_none, Bool.true_or, Bool.or_true, Bool.or_false, Bool.false_or]) rfl y222)⟩)
      ·
        refine am_goX 1 (show (1 = 0 → pz_S 4 (some .boolean) am_r66 7 Q 90 [(3, .int (nI i)), (2, .int 1), (0, .ref 3), (1, .ref 17)] [] h216) ∧ (¬ (1 = 0) → pz_S 4 (some .boolean) am_r66 7 Q 86 [(3, .int (nI i)), (2, .int 1), (0, .ref 3), (1, .ref 17)] [] h216) from ⟨fun hz => absurd hz (by decide), fun _ => ?_⟩)
        exact am_goX 3 (show (∃ ty, (some .boolean) = some ty ∧ narrow ty (.int ((Int32.ofInt 1))) = .int ((Int32.ofInt 1))) ∧ h216.2.2.2.2 = 175 ∧ _ from ⟨⟨.boolean, rfl, rfl⟩, ex_175 (c_P y222.1), hQ _ _ (cres_inr (s' := t220) (by simp only [sp_sl, sp_b, sp_f, cond_true, cond_false, e2, e221, Option.isSome_some, Option.isSome_none, Bool.true_or, Bool.or_true, Bool.or_false, Bool.false_or]) rfl y222)⟩)
    ·
      have e2 : sp_k (tt T sz) s.1 2 = true := by rw [← hk]; exact decide_eq_true (Decidable.not_not.mp hc)
      clear hc
      refine am_goX 3 (show ((Int16.ofInt 1000).toInt32 ≤ (nI i) → pz_S 4 (some .boolean) am_r66 7 Q 70 [(3, .int (nI i)), (2, .int 1), (0, .ref 3), (1, .ref 17)] [] h) ∧ (¬ ((Int16.ofInt 1000).toInt32 ≤ (nI i)) → pz_S 4 (some .boolean) am_r66 7 Q 58 [(3, .int (nI i)), (2, .int 1), (0, .ref 3), (1, .ref 17)] [] h) from ⟨fun hz => absurd hz (i1000 (by omega)), fun _ => ?_⟩)
      refine am_goX 3 (show am_rc h 3 1 ∧ 0 ≤ 8 ∧ h.2.2.2.2 + am_al 67 ≤ 175 ∧ am_call am_cod 7 67 [.ref 3, .ref 17] h (fun vv h' => pz_S 4 (some .boolean) am_r66 7 Q 63 [(3, .int (nI i)), (2, .int 1), (0, .ref 3), (1, .ref 17)] (vv.toList ++ []) h') from ⟨Or.inl ⟨by decide, ex_3 (c_P l.1)⟩, by decide, ex_lim (c_P l.1) rfl, am_call.up (c_67_17 (s := s) ht l (fun v223 h224 x225 => ?_)) (by decide)⟩)
      rcases cres_cs x225 with ⟨F227, e229, rfl, y230⟩ | ⟨t228, e229, rfl, y230⟩
      ·
        refine am_goX 5 (show 2 < 4 ∧ 3 < 4 ∧ (0 = 0 → pz_S 4 (some .boolean) am_r66 7 Q 70 [(3, .int ((nI i) + Int32.ofInt 1)), (2, .int 0), (0, .ref 3), (1, .ref 17)] [] h224) ∧ (¬ (0 = 0) → pz_S 4 (some .boolean) am_r66 7 Q 40 [(3, .int ((nI i) + Int32.ofInt 1)), (2, .int 0), (0, .ref 3), (1, .ref 17)] [] h224) from ⟨by decide, by decide, fun _ => ?_, fun hz => absurd (by decide) hz⟩)
        refine am_goX 2 (show (0 = 0 → pz_S 4 (some .boolean) am_r66 7 Q 90 [(3, .int ((nI i) + Int32.ofInt 1)), (2, .int 0), (0, .ref 3), (1, .ref 17)] [] h224) ∧ (¬ (0 = 0) → pz_S 4 (some .boolean) am_r66 7 Q 74 [(3, .int ((nI i) + Int32.ofInt 1)), (2, .int 0), (0, .ref 3), (1, .ref 17)] [] h224) from ⟨fun _ => ?_, fun hz => absurd (by decide) hz⟩)
        exact am_goX 2 (show (∃ ty, (some .boolean) = some ty ∧ narrow ty (.int ((Int32.ofInt 0))) = .int ((Int32.ofInt 0))) ∧ h224.2.2.2.2 = 175 ∧ _ from ⟨⟨.boolean, rfl, rfl⟩, ex_175 y230.1, hQ _ _ (cres_inl (F := F227) (by simp only [sp_sl, sp_b, sp_f, cond_true, cond_false, e2, e229, Option.isSome_some, Option.isSome_none, Bool.true_or, Bool.or_true, Bool.or_false, Bool.false_or]) rfl y230)⟩)
      ·
        refine am_goX 3 (show 2 < 4 ∧ 3 < 4 ∧ pz_S 4 (some .boolean) am_r66 7 Q 36 [(3, .int ((nI i) + Int32.ofInt 1)), (2, .int 1), (0, .ref 3), (1, .ref 17)] [] h224 from ⟨by decide, by decide, ?_⟩)
        rw [xw_i1]
        obtain ⟨g1, g2⟩ := sp_sd_inr e229
        have hx : sp_b (sp_sl (tt T sz) (m + 1) s) (sp_tS (tt T sz) (Int8.ofInt 59).toInt32) = sp_b (sp_sl (tt T sz) m t228) (sp_tS (tt T sz) (Int8.ofInt 59).toInt32) := by simp only [sp_sl, sp_b, cond_true, cond_false, e2, e229]
        exact ih (i + 1) t228 h224 Q (by omega) (by omega) (g2.trans ht) y230 (fun v h1 q => hQ v h1 (by rw [hx]; exact q))
theorem c_66_17 (hn : ¬ (tt T sz s.1).1 = 0) (l : cr h0 17 T sz s h) (hQ : ∀ v h1, cres h0 17 T sz (sp_snow (tt T sz) s) v h1 → Q v h1) : am_call am_cod 8 66 [.ref 3, .ref 17] h Q := by
  have hP := c_P l.1
  have d1 : h.1 17 9 = pz_b s.2.2.2.1.1 := l.2.1.2.2.1.1
  refine pz_call (n := 66) (nL := 4) (rt := (some .boolean)) (rows := am_r66) (d := 7) (by decide +kernel) (by decide +kernel) rfl (by funext pc; rfl) (ex_175 hP) (by exact Nat.le_of_ble_eq_true rfl) ?_
  refine am_goX 2 (show am_sh h 17 = some (0, 0) ∧ pz_S 4 (some .boolean) am_r66 7 Q 4 [(0, .ref 3), (1, .ref 17)] [.int (h.1 17 9)] h from ⟨ex_17 (c_P l.1), ?_⟩)
  rw [d1]
  cases e1 : s.2.2.2.1.1 with
  | true =>
    refine am_goX 1 (show ((pz_b (true)) = 0 → pz_S 4 (some .boolean) am_r66 7 Q 16 [(0, .ref 3), (1, .ref 17)] [] h) ∧ (¬ ((pz_b (true)) = 0) → pz_S 4 (some .boolean) am_r66 7 Q 7 [(0, .ref 3), (1, .ref 17)] [] h) from ⟨fun hz => absurd hz (by decide), fun _ => ?_⟩)
    refine am_goX 2 (show am_sh h 3 = some (1, 0) ∧ pz_S 4 (some .boolean) am_r66 7 Q 11 [(0, .ref 3), (1, .ref 17)] [am_rf (h.2.2.1 3 0)] h from ⟨ex_3 (c_P l.1), ?_⟩)
    rw [ex_r3_0 (h := h) (c_P l.1)]
    refine am_goX 2 (show am_rc h 1 7 ∧ 0 ≤ 8 ∧ h.2.2.2.2 + am_al 52 ≤ 175 ∧ am_call am_cod 7 52 [.ref 1, .int (Int32.ofInt 3)] h (fun vv h' => pz_S 4 (some .boolean) am_r66 7 Q 15 [(0, .ref 3), (1, .ref 17)] (vv.toList ++ []) h') from ⟨Or.inl ⟨by decide, ex_1 (c_P l.1)⟩, by decide, ex_lim (c_P l.1) rfl, am_call.up (c_refuse l.1 ?_) (by decide)⟩)
    have x231 := cr_x (s := s) (k := (Int32.ofInt 3)) (by decide) l (by decide)
    exact am_goX 1 (show (∃ ty, (some .boolean) = some ty ∧ narrow ty (.int ((Int32.ofInt 0))) = .int ((Int32.ofInt 0))) ∧ (am_wI h 1 7 (sp_ft (tt T sz) s.1 (Int32.ofInt 3))).2.2.2.2 = 175 ∧ _ from ⟨⟨.boolean, rfl, rfl⟩, ex_175 x231.1, hQ _ _ (cres_inl (F := sp_ft (tt T sz) s.1 (Int32.ofInt 3)) (by simp only [sp_snow, sp_b, sp_f, cond_true, cond_false, e1, Option.isSome_some, Option.isSome_none, Bool.true_or, Bool.or_true, Bool.or_false, Bool.false_or]) rfl x231)⟩)
  | false =>
    refine am_goX 1 (show ((pz_b (false)) = 0 → pz_S 4 (some .boolean) am_r66 7 Q 16 [(0, .ref 3), (1, .ref 17)] [] h) ∧ (¬ ((pz_b (false)) = 0) → pz_S 4 (some .boolean) am_r66 7 Q 7 [(0, .ref 3), (1, .ref 17)] [] h) from ⟨fun _ => ?_, fun hz => absurd (by decide) hz⟩)
    refine am_goX 3 (show am_sh h 17 = some (0, 0) ∧ narrow (am_fty 0 9) (.int ((Int32.ofInt 1))) = .int ((Int32.ofInt 1)) ∧ fits (am_fty 0 9) (.int ((Int32.ofInt 1))) = true ∧ pz_S 4 (some .boolean) am_r66 7 Q 21 [(0, .ref 3), (1, .ref 17)] [] (am_wI h 17 9 ((Int32.ofInt 1))) from ⟨ex_17 (c_P l.1), rfl, rfl, ?_⟩)
    have l232 : cr h0 17 T sz (s.1, sp_cS s.2 true s.2.2.2.1.2) (am_wI h 17 9 1) := cr_S9 (by decide) l
    refine am_goX 2 (show am_sh (am_wI h 17 9 1) 3 = some (1, 0) ∧ pz_S 4 (some .boolean) am_r66 7 Q 25 [(0, .ref 3), (1, .ref 17)] [am_rf ((am_wI h 17 9 1).2.2.1 3 0)] (am_wI h 17 9 1) from ⟨ex_3 (c_P l232.1), ?_⟩)
    rw [ex_r3_0 (h := am_wI h 17 9 1) (c_P l232.1)]
    refine am_goX 1 (show am_rc (am_wI h 17 9 1) 1 7 ∧ 0 ≤ 8 ∧ (am_wI h 17 9 1).2.2.2.2 + am_al 18 ≤ 175 ∧ am_call am_cod 7 18 [.ref 1] (am_wI h 17 9 1) (fun vv h' => pz_S 4 (some .boolean) am_r66 7 Q 28 [(0, .ref 3), (1, .ref 17)] (vv.toList ++ []) h') from ⟨Or.inl ⟨by decide, ex_1 (c_P l232.1)⟩, by decide, ex_lim (c_P l232.1) rfl, am_call.up (c_step l232.1 (hn) (fun h233 m234 f235 => ?_)) (by decide)⟩)
    have l236 : cr h0 17 T sz (s.1 + 1, (sp_cS s.2 true s.2.2.2.1.2)) h233 := cr_fr (a := s.1) (C := (sp_cS s.2 true s.2.2.2.1.2)) (by decide) l232 m234 (Nat.le_succ _) f235
    refine am_goX 3 (show am_rc h233 3 1 ∧ 0 ≤ 8 ∧ h233.2.2.2.2 + am_al 67 ≤ 175 ∧ am_call am_cod 7 67 [.ref 3, .ref 17] h233 (fun vv h' => pz_S 4 (some .boolean) am_r66 7 Q 33 [(0, .ref 3), (1, .ref 17)] (vv.toList ++ []) h') from ⟨Or.inl ⟨by decide, ex_3 (c_P l236.1)⟩, by decide, ex_lim (c_P l236.1) rfl, am_call.up (c_67_17 (s := (s.1 + 1, (sp_cS s.2 true s.2.2.2.1.2))) rfl l236 (fun v237 h238 x239 => ?_)) (by decide)⟩)
    rcases cres_cs x239 with ⟨F241, e243, rfl, y244⟩ | ⟨t242, e243, rfl, y244⟩
    ·
      refine am_goX 5 (show 2 < 4 ∧ 3 < 4 ∧ (0 = 0 → pz_S 4 (some .boolean) am_r66 7 Q 70 [(3, .int (Int32.ofInt 0)), (2, .int 0), (0, .ref 3), (1, .ref 17)] [] h238) ∧ (¬ (0 = 0) → pz_S 4 (some .boolean) am_r66 7 Q 40 [(3, .int (Int32.ofInt 0)), (2, .int 0), (0, .ref 3), (1, .ref 17)] [] h238) from ⟨by decide, by decide, fun _ => ?_, fun hz => absurd (by decide) hz⟩)
      refine am_goX 2 (show (0 = 0 → pz_S 4 (some .boolean) am_r66 7 Q 90 [(3, .int (Int32.ofInt 0)), (2, .int 0), (0, .ref 3), (1, .ref 17)] [] h238) ∧ (¬ (0 = 0) → pz_S 4 (some .boolean) am_r66 7 Q 74 [(3, .int (Int32.ofInt 0)), (2, .int 0), (0, .ref 3), (1, .ref 17)] [] h238) from ⟨fun _ => ?_, fun hz => absurd (by decide) hz⟩)
      exact am_goX 2 (show (∃ ty, (some .boolean) = some ty ∧ narrow ty (.int ((Int32.ofInt 0))) = .int ((Int32.ofInt 0))) ∧ h238.2.2.2.2 = 175 ∧ _ from ⟨⟨.boolean, rfl, rfl⟩, ex_175 y244.1, hQ _ _ (cres_inl (F := F241) (by simp only [sp_snow, sp_b, sp_f, cond_true, cond_false, e1, e243, Option.isSome_some, Option.isSome_none, Bool.true_or, Bool.or_true, Bool.or_false, Bool.false_or]) rfl y244)⟩)
    ·
      refine am_goX 3 (show 2 < 4 ∧ 3 < 4 ∧ pz_S 4 (some .boolean) am_r66 7 Q 36 [(3, .int (Int32.ofInt 0)), (2, .int 1), (0, .ref 3), (1, .ref 17)] [] h238 from ⟨by decide, by decide, ?_⟩)
      obtain ⟨g1, g2⟩ := sp_sd_inr e243
      have ha := cr_a y244
      dsimp only at g1
      exact c_66l_17 1001 0 t242 h238 Q (by omega) (by omega) g2 y244 (fun v h1 q => hQ v h1 (by simp only [sp_snow, sp_b, cond_true, cond_false, e1, e243]; exact q))
theorem c_70_17 (hn : ¬ (tt T sz s.1).1 = 0) (l : cr h0 17 T sz s h) (hQ : ∀ v h1, cres h0 17 T sz (sp_goes (tt T sz) s) v h1 → Q v h1) : am_call am_cod 37 70 [.ref 4, .ref 17] h Q := by
  have hP := c_P l.1
  have d1 : h.1 17 11 = pz_b s.2.2.2.2.1 := l.2.1.2.2.2.1
  refine pz_call (n := 70) (nL := 2) (rt := (some .boolean)) (rows := am_r70) (d := 36) (by decide +kernel) (by decide +kernel) rfl (by funext pc; rfl) (ex_175 hP) (by exact Nat.le_of_ble_eq_true rfl) ?_
  refine am_goX 2 (show am_sh h 17 = some (0, 0) ∧ pz_S 2 (some .boolean) am_r70 36 Q 4 [(0, .ref 4), (1, .ref 17)] [.int (h.1 17 11)] h from ⟨ex_17 (c_P l.1), ?_⟩)
  rw [d1]
  cases e1 : s.2.2.2.2.1 with
  | true =>
    refine am_goX 1 (show ((pz_b (true)) = 0 → pz_S 2 (some .boolean) am_r70 36 Q 16 [(0, .ref 4), (1, .ref 17)] [] h) ∧ (¬ ((pz_b (true)) = 0) → pz_S 2 (some .boolean) am_r70 36 Q 7 [(0, .ref 4), (1, .ref 17)] [] h) from ⟨fun hz => absurd hz (by decide), fun _ => ?_⟩)
    refine am_goX 2 (show am_sh h 4 = some (4, 0) ∧ pz_S 2 (some .boolean) am_r70 36 Q 11 [(0, .ref 4), (1, .ref 17)] [am_rf (h.2.2.1 4 0)] h from ⟨ex_4 (c_P l.1), ?_⟩)
    rw [ex_r4_0 (h := h) (c_P l.1)]
    refine am_goX 2 (show am_rc h 1 7 ∧ 0 ≤ 8 ∧ h.2.2.2.2 + am_al 52 ≤ 175 ∧ am_call am_cod 36 52 [.ref 1, .int (Int32.ofInt 3)] h (fun vv h' => pz_S 2 (some .boolean) am_r70 36 Q 15 [(0, .ref 4), (1, .ref 17)] (vv.toList ++ []) h') from ⟨Or.inl ⟨by decide, ex_1 (c_P l.1)⟩, by decide, ex_lim (c_P l.1) rfl, am_call.up (c_refuse l.1 ?_) (by decide)⟩)
    have x245 := cr_x (s := s) (k := (Int32.ofInt 3)) (by decide) l (by decide)
    exact am_goX 1 (show (∃ ty, (some .boolean) = some ty ∧ narrow ty (.int ((Int32.ofInt 0))) = .int ((Int32.ofInt 0))) ∧ (am_wI h 1 7 (sp_ft (tt T sz) s.1 (Int32.ofInt 3))).2.2.2.2 = 175 ∧ _ from ⟨⟨.boolean, rfl, rfl⟩, ex_175 x245.1, hQ _ _ (cres_inl (F := sp_ft (tt T sz) s.1 (Int32.ofInt 3)) (by simp only [sp_goes, sp_b, sp_f, cond_true, cond_false, e1, Option.isSome_some, Option.isSome_none, Bool.true_or, Bool.or_true, Bool.or_false, Bool.false_or]) rfl x245)⟩)
  | false =>
    refine am_goX 1 (show ((pz_b (false)) = 0 → pz_S 2 (some .boolean) am_r70 36 Q 16 [(0, .ref 4), (1, .ref 17)] [] h) ∧ (¬ ((pz_b (false)) = 0) → pz_S 2 (some .boolean) am_r70 36 Q 7 [(0, .ref 4), (1, .ref 17)] [] h) from ⟨fun _ => ?_, fun hz => absurd (by decide) hz⟩)
    refine am_goX 3 (show am_sh h 17 = some (0, 0) ∧ narrow (am_fty 0 11) (.int ((Int32.ofInt 1))) = .int ((Int32.ofInt 1)) ∧ fits (am_fty 0 11) (.int ((Int32.ofInt 1))) = true ∧ pz_S 2 (some .boolean) am_r70 36 Q 21 [(0, .ref 4), (1, .ref 17)] [] (am_wI h 17 11 ((Int32.ofInt 1))) from ⟨ex_17 (c_P l.1), rfl, rfl, ?_⟩)
    have l246 : cr h0 17 T sz (s.1, sp_cL s.2) (am_wI h 17 11 1) := cr_L (by decide) l
    refine am_goX 2 (show am_sh (am_wI h 17 11 1) 4 = some (4, 0) ∧ pz_S 2 (some .boolean) am_r70 36 Q 25 [(0, .ref 4), (1, .ref 17)] [am_rf ((am_wI h 17 11 1).2.2.1 4 0)] (am_wI h 17 11 1) from ⟨ex_4 (c_P l246.1), ?_⟩)
    rw [ex_r4_0 (h := am_wI h 17 11 1) (c_P l246.1)]
    refine am_goX 1 (show am_rc (am_wI h 17 11 1) 1 7 ∧ 0 ≤ 8 ∧ (am_wI h 17 11 1).2.2.2.2 + am_al 18 ≤ 175 ∧ am_call am_cod 36 18 [.ref 1] (am_wI h 17 11 1) (fun vv h' => pz_S 2 (some .boolean) am_r70 36 Q 28 [(0, .ref 4), (1, .ref 17)] (vv.toList ++ []) h') from ⟨Or.inl ⟨by decide, ex_1 (c_P l246.1)⟩, by decide, ex_lim (c_P l246.1) rfl, am_call.up (c_step l246.1 (hn) (fun h247 m248 f249 => ?_)) (by decide)⟩)
    have l250 : cr h0 17 T sz (s.1 + 1, (sp_cL s.2)) h247 := cr_fr (a := s.1) (C := (sp_cL s.2)) (by decide) l246 m248 (Nat.le_succ _) f249
    refine am_goX 3 (show am_sh h247 17 = some (0, 0) ∧ pz_S 2 (some .boolean) am_r70 36 Q 33 [(0, .ref 4), (1, .ref 17)] [am_rf (h247.2.2.1 17 12), .ref 4] h247 from ⟨ex_17 (c_P l250.1), ?_⟩)
    rw [ex_r17_12 (h := h247) (c_P l250.1)]
    refine am_goX 2 (show am_rc h247 4 4 ∧ 0 ≤ 8 ∧ h247.2.2.2.2 + am_al 71 ≤ 175 ∧ am_call am_cod 36 71 [.ref 4, .ref 25, .int (Int32.ofInt 0)] h247 (fun vv h' => pz_S 2 (some .boolean) am_r70 36 Q 37 [(0, .ref 4), (1, .ref 17)] (vv.toList ++ []) h') from ⟨Or.inl ⟨by decide, ex_4 (c_P l250.1)⟩, by decide, ex_lim (c_P l250.1) rfl, (c_law_17 (Or.inr trivial) 5 (Int32.ofInt 0) (by decide) (by decide)).2 _ _ _ l250 (fun v251 h252 x253 => ?_)⟩)
    rcases cres_cs x253 with ⟨F255, e257, rfl, y258⟩ | ⟨t256, e257, rfl, y258⟩
    ·
      refine am_goX 1 (show (0 = 0 → pz_S 2 (some .boolean) am_r70 36 Q 56 [(0, .ref 4), (1, .ref 17)] [] h252) ∧ (¬ (0 = 0) → pz_S 2 (some .boolean) am_r70 36 Q 40 [(0, .ref 4), (1, .ref 17)] [] h252) from ⟨fun _ => ?_, fun hz => absurd (by decide) hz⟩)
      exact am_goX 2 (show (∃ ty, (some .boolean) = some ty ∧ narrow ty (.int ((Int32.ofInt 0))) = .int ((Int32.ofInt 0))) ∧ h252.2.2.2.2 = 175 ∧ _ from ⟨⟨.boolean, rfl, rfl⟩, ex_175 y258.1, hQ _ _ (cres_inl (F := F255) (by simp only [sp_goes, sp_b, sp_f, cond_true, cond_false, e1, e257, Option.isSome_some, Option.isSome_none, Bool.true_or, Bool.or_true, Bool.or_false, Bool.false_or]) rfl y258)⟩)
    ·
      refine am_goX 1 (show (1 = 0 → pz_S 2 (some .boolean) am_r70 36 Q 56 [(0, .ref 4), (1, .ref 17)] [] h252) ∧ (¬ (1 = 0) → pz_S 2 (some .boolean) am_r70 36 Q 40 [(0, .ref 4), (1, .ref 17)] [] h252) from ⟨fun hz => absurd hz (by decide), fun _ => ?_⟩)
      refine am_goX 2 (show am_sh h252 4 = some (4, 0) ∧ pz_S 2 (some .boolean) am_r70 36 Q 44 [(0, .ref 4), (1, .ref 17)] [am_rf (h252.2.2.1 4 0)] h252 from ⟨ex_4 (c_P y258.1), ?_⟩)
      rw [ex_r4_0 (h := h252) (c_P y258.1)]
      refine am_goX 2 (show am_rc h252 1 7 ∧ 0 ≤ 8 ∧ h252.2.2.2.2 + am_al 61 ≤ 175 ∧ am_call am_cod 36 61 [.ref 1, .int (Int8.ofInt 59).toInt32] h252 (fun vv h' => pz_S 2 (some .boolean) am_r70 36 Q 49 [(0, .ref 4), (1, .ref 17)] (vv.toList ++ []) h') from ⟨Or.inl ⟨by decide, ex_1 (c_P y258.1)⟩, by decide, ex_lim (c_P y258.1) rfl, am_call.up (c_tS (s := t256) (by decide) y258 (fun v259 h260 x261 f262 => ?_)) (by decide)⟩)
      rcases cres_cs x261 with ⟨F263, e265, rfl, y266⟩ | ⟨t264, e265, rfl, y266⟩
      ·
        refine am_goX 1 (show (0 = 0 → pz_S 2 (some .boolean) am_r70 36 Q 56 [(0, .ref 4), (1, .ref 17)] [] h260) ∧ (¬ (0 = 0) → pz_S 2 (some .boolean) am_r70 36 Q 52 [(0, .ref 4), (1, .ref 17)] [] h260) from ⟨fun _ => ?_, fun hz => absurd (by decide) hz⟩)
        exact am_goX 2 (show (∃ ty, (some .boolean) = some ty ∧ narrow ty (.int ((Int32.ofInt 0))) = .int ((Int32.ofInt 0))) ∧ h260.2.2.2.2 = 175 ∧ _ from ⟨⟨.boolean, rfl, rfl⟩, ex_175 y266.1, hQ _ _ (cres_inl (F := F263) (by simp only [sp_goes, sp_b, sp_f, cond_true, cond_false, e1, e257, e265, Option.isSome_some, Option.isSome_none, Bool.true_or, Bool.or_true, Bool.or_false, Bool.false_or]) rfl y266)⟩)
      ·
        refine am_goX 1 (show (1 = 0 → pz_S 2 (some .boolean) am_r70 36 Q 56 [(0, .ref 4), (1, .ref 17)] [] h260) ∧ (¬ (1 = 0) → pz_S 2 (some .boolean) am_r70 36 Q 52 [(0, .ref 4), (1, .ref 17)] [] h260) from ⟨fun hz => absurd hz (by decide), fun _ => ?_⟩)
        exact am_goX 3 (show (∃ ty, (some .boolean) = some ty ∧ narrow ty (.int ((Int32.ofInt 1))) = .int ((Int32.ofInt 1))) ∧ h260.2.2.2.2 = 175 ∧ _ from ⟨⟨.boolean, rfl, rfl⟩, ex_175 (c_P y266.1), hQ _ _ (cres_inr (s' := t264) (by simp only [sp_goes, sp_b, sp_f, cond_true, cond_false, e1, e257, e265, Option.isSome_some, Option.isSome_none, Bool.true_or, Bool.or_true, Bool.or_false, Bool.false_or]) rfl y266)⟩)
theorem c_43_17 (l : cr h0 17 T sz s h) (hQ : ∀ v h1, cres h0 17 T sz (sp_line (tt T sz) s) v h1 → Q v h1) : am_call am_cod 38 43 [.ref 3, .ref 17] h Q := by
  have hP := c_P l.1
  refine pz_call (n := 43) (nL := 2) (rt := (some .boolean)) (rows := am_r43) (d := 37) (by decide +kernel) (by decide +kernel) rfl (by funext pc; rfl) (ex_175 hP) (by exact Nat.le_of_ble_eq_true rfl) ?_
  refine am_goX 2 (show am_sh h 3 = some (1, 0) ∧ pz_S 2 (some .boolean) am_r43 37 Q 4 [(0, .ref 3), (1, .ref 17)] [am_rf (h.2.2.1 3 0)] h from ⟨ex_3 (c_P l.1), ?_⟩)
  rw [ex_r3_0 (h := h) (c_P l.1)]
  refine am_goX 2 (show am_rc h 1 7 ∧ 0 ≤ 8 ∧ h.2.2.2.2 + am_al 44 ≤ 175 ∧ am_call am_cod 37 44 [.ref 1, .ref (4000000 + 1)] h (fun vv h' => pz_S 2 (some .boolean) am_r43 37 Q 9 [(0, .ref 3), (1, .ref 17)] (vv.toList ++ []) h') from ⟨Or.inl ⟨by decide, ex_1 (c_P l.1)⟩, by decide, ex_lim (c_P l.1) rfl, am_call.up (c_isw (by decide) wq_1 l.1 ?_) (by decide)⟩)
  cases e267 : sp_w (tt T sz) s.1 1119812451 with
  | true =>
    refine am_goX 1 (show ((pz_b (true)) = 0 → pz_S 2 (some .boolean) am_r43 37 Q 18 [(0, .ref 3), (1, .ref 17)] [] h) ∧ (¬ ((pz_b (true)) = 0) → pz_S 2 (some .boolean) am_r43 37 Q 12 [(0, .ref 3), (1, .ref 17)] [] h) from ⟨fun hz => absurd hz (by decide), fun _ => ?_⟩)
    refine am_goX 3 (show am_rc h 3 1 ∧ 0 ≤ 8 ∧ h.2.2.2.2 + am_al 51 ≤ 175 ∧ am_call am_cod 37 51 [.ref 3, .ref 17] h (fun vv h' => pz_S 2 (some .boolean) am_r43 37 Q 17 [(0, .ref 3), (1, .ref 17)] (vv.toList ++ []) h') from ⟨Or.inl ⟨by decide, ex_3 (c_P l.1)⟩, by decide, ex_lim (c_P l.1) rfl, am_call.up (c_51_17 (sp_wn e267) l (fun v268 h269 x270 => ?_)) (by decide)⟩)
    rcases cres_cs x270 with ⟨F272, e274, rfl, y275⟩ | ⟨t273, e274, rfl, y275⟩
    ·
      exact am_goX 1 (show (∃ ty, (some .boolean) = some ty ∧ narrow ty (.int (0)) = .int (0)) ∧ h269.2.2.2.2 = 175 ∧ _ from ⟨⟨.boolean, rfl, rfl⟩, ex_175 y275.1, hQ _ _ (cres_inl (F := F272) (by simp only [sp_line, sp_b, sp_f, cond_true, cond_false, e267, e274, Option.isSome_some, Option.isSome_none, Bool.true_or, Bool.or_true, Bool.or_false, Bool.false_or]) rfl y275)⟩)
    ·
      exact am_goX 1 (show (∃ ty, (some .boolean) = some ty ∧ narrow ty (.int (1)) = .int (1)) ∧ h269.2.2.2.2 = 175 ∧ _ from ⟨⟨.boolean, rfl, rfl⟩, ex_175 (c_P y275.1), hQ _ _ (cres_inr (s' := t273) (by simp only [sp_line, sp_b, sp_f, cond_true, cond_false, e267, e274, Option.isSome_some, Option.isSome_none, Bool.true_or, Bool.or_true, Bool.or_false, Bool.false_or]) rfl y275)⟩)
  | false =>
    refine am_goX 1 (show ((pz_b (false)) = 0 → pz_S 2 (some .boolean) am_r43 37 Q 18 [(0, .ref 3), (1, .ref 17)] [] h) ∧ (¬ ((pz_b (false)) = 0) → pz_S 2 (some .boolean) am_r43 37 Q 12 [(0, .ref 3), (1, .ref 17)] [] h) from ⟨fun _ => ?_, fun hz => absurd (by decide) hz⟩)
    refine am_goX 2 (show am_sh h 3 = some (1, 0) ∧ pz_S 2 (some .boolean) am_r43 37 Q 22 [(0, .ref 3), (1, .ref 17)] [am_rf (h.2.2.1 3 0)] h from ⟨ex_3 (c_P l.1), ?_⟩)
    rw [ex_r3_0 (h := h) (c_P l.1)]
    refine am_goX 2 (show am_rc h 1 7 ∧ 0 ≤ 8 ∧ h.2.2.2.2 + am_al 44 ≤ 175 ∧ am_call am_cod 37 44 [.ref 1, .ref (4000000 + 8)] h (fun vv h' => pz_S 2 (some .boolean) am_r43 37 Q 27 [(0, .ref 3), (1, .ref 17)] (vv.toList ++ []) h') from ⟨Or.inl ⟨by decide, ex_1 (c_P l.1)⟩, by decide, ex_lim (c_P l.1) rfl, am_call.up (c_isw (by decide) wq_8 l.1 ?_) (by decide)⟩)
    cases e276 : sp_w (tt T sz) s.1 10492554 with
    | true =>
      refine am_goX 1 (show ((pz_b (true)) = 0 → pz_S 2 (some .boolean) am_r43 37 Q 36 [(0, .ref 3), (1, .ref 17)] [] h) ∧ (¬ ((pz_b (true)) = 0) → pz_S 2 (some .boolean) am_r43 37 Q 30 [(0, .ref 3), (1, .ref 17)] [] h) from ⟨fun hz => absurd hz (by decide), fun _ => ?_⟩)
      refine am_goX 3 (show am_rc h 3 1 ∧ 0 ≤ 8 ∧ h.2.2.2.2 + am_al 63 ≤ 175 ∧ am_call am_cod 37 63 [.ref 3, .ref 17] h (fun vv h' => pz_S 2 (some .boolean) am_r43 37 Q 35 [(0, .ref 3), (1, .ref 17)] (vv.toList ++ []) h') from ⟨Or.inl ⟨by decide, ex_3 (c_P l.1)⟩, by decide, ex_lim (c_P l.1) rfl, am_call.up (c_63_17 (sp_wn e276) l (fun v277 h278 x279 => ?_)) (by decide)⟩)
      rcases cres_cs x279 with ⟨F281, e283, rfl, y284⟩ | ⟨t282, e283, rfl, y284⟩
      ·
        exact am_goX 1 (show (∃ ty, (some .boolean) = some ty ∧ narrow ty (.int (0)) = .int (0)) ∧ h278.2.2.2.2 = 175 ∧ _ from ⟨⟨.boolean, rfl, rfl⟩, ex_175 y284.1, hQ _ _ (cres_inl (F := F281) (by simp only [sp_line, sp_b, sp_f, cond_true, cond_false, e267, e276, e283, Option.isSome_some, Option.isSome_none, Bool.true_or, Bool.or_true, Bool.or_false, Bool.false_or]) rfl y284)⟩)
      ·
        exact am_goX 1 (show (∃ ty, (some .boolean) = some ty ∧ narrow ty (.int (1)) = .int (1)) ∧ h278.2.2.2.2 = 175 ∧ _ from ⟨⟨.boolean, rfl, rfl⟩, ex_175 (c_P y284.1), hQ _ _ (cres_inr (s' := t282) (by simp only [sp_line, sp_b, sp_f, cond_true, cond_false, e267, e276, e283, Option.isSome_some, Option.isSome_none, Bool.true_or, Bool.or_true, Bool.or_false, Bool.false_or]) rfl y284)⟩)
    | false =>
      refine am_goX 1 (show ((pz_b (false)) = 0 → pz_S 2 (some .boolean) am_r43 37 Q 36 [(0, .ref 3), (1, .ref 17)] [] h) ∧ (¬ ((pz_b (false)) = 0) → pz_S 2 (some .boolean) am_r43 37 Q 30 [(0, .ref 3), (1, .ref 17)] [] h) from ⟨fun _ => ?_, fun hz => absurd (by decide) hz⟩)
      refine am_goX 2 (show am_sh h 3 = some (1, 0) ∧ pz_S 2 (some .boolean) am_r43 37 Q 40 [(0, .ref 3), (1, .ref 17)] [am_rf (h.2.2.1 3 0)] h from ⟨ex_3 (c_P l.1), ?_⟩)
      rw [ex_r3_0 (h := h) (c_P l.1)]
      refine am_goX 2 (show am_rc h 1 7 ∧ 0 ≤ 8 ∧ h.2.2.2.2 + am_al 44 ≤ 175 ∧ am_call am_cod 37 44 [.ref 1, .ref (4000000 + 11)] h (fun vv h' => pz_S 2 (some .boolean) am_r43 37 Q 45 [(0, .ref 3), (1, .ref 17)] (vv.toList ++ []) h') from ⟨Or.inl ⟨by decide, ex_1 (c_P l.1)⟩, by decide, ex_lim (c_P l.1) rfl, am_call.up (c_isw (by decide) wq_11 l.1 ?_) (by decide)⟩)
      cases e285 : sp_w (tt T sz) s.1 6400279 with
      | true =>
        refine am_goX 1 (show ((pz_b (true)) = 0 → pz_S 2 (some .boolean) am_r43 37 Q 54 [(0, .ref 3), (1, .ref 17)] [] h) ∧ (¬ ((pz_b (true)) = 0) → pz_S 2 (some .boolean) am_r43 37 Q 48 [(0, .ref 3), (1, .ref 17)] [] h) from ⟨fun hz => absurd hz (by decide), fun _ => ?_⟩)
        refine am_goX 3 (show am_rc h 3 1 ∧ 0 ≤ 8 ∧ h.2.2.2.2 + am_al 64 ≤ 175 ∧ am_call am_cod 37 64 [.ref 3, .ref 17] h (fun vv h' => pz_S 2 (some .boolean) am_r43 37 Q 53 [(0, .ref 3), (1, .ref 17)] (vv.toList ++ []) h') from ⟨Or.inl ⟨by decide, ex_3 (c_P l.1)⟩, by decide, ex_lim (c_P l.1) rfl, am_call.up (c_64_17 (sp_wn e285) l (fun v286 h287 x288 => ?_)) (by decide)⟩)
        rcases cres_cs x288 with ⟨F290, e292, rfl, y293⟩ | ⟨t291, e292, rfl, y293⟩
        ·
          exact am_goX 1 (show (∃ ty, (some .boolean) = some ty ∧ narrow ty (.int (0)) = .int (0)) ∧ h287.2.2.2.2 = 175 ∧ _ from ⟨⟨.boolean, rfl, rfl⟩, ex_175 y293.1, hQ _ _ (cres_inl (F := F290) (by simp only [sp_line, sp_b, sp_f, cond_true, cond_false, e267, e276, e285, e292, Option.isSome_some, Option.isSome_none, Bool.true_or, Bool.or_true, Bool.or_false, Bool.false_or]) rfl y293)⟩)
        ·
          exact am_goX 1 (show (∃ ty, (some .boolean) = some ty ∧ narrow ty (.int (1)) = .int (1)) ∧ h287.2.2.2.2 = 175 ∧ _ from ⟨⟨.boolean, rfl, rfl⟩, ex_175 (c_P y293.1), hQ _ _ (cres_inr (s' := t291) (by simp only [sp_line, sp_b, sp_f, cond_true, cond_false, e267, e276, e285, e292, Option.isSome_some, Option.isSome_none, Bool.true_or, Bool.or_true, Bool.or_false, Bool.false_or]) rfl y293)⟩)
      | false =>
        refine am_goX 1 (show ((pz_b (false)) = 0 → pz_S 2 (some .boolean) am_r43 37 Q 54 [(0, .ref 3), (1, .ref 17)] [] h) ∧ (¬ ((pz_b (false)) = 0) → pz_S 2 (some .boolean) am_r43 37 Q 48 [(0, .ref 3), (1, .ref 17)] [] h) from ⟨fun _ => ?_, fun hz => absurd (by decide) hz⟩)
        refine am_goX 2 (show am_sh h 3 = some (1, 0) ∧ pz_S 2 (some .boolean) am_r43 37 Q 58 [(0, .ref 3), (1, .ref 17)] [am_rf (h.2.2.1 3 0)] h from ⟨ex_3 (c_P l.1), ?_⟩)
        rw [ex_r3_0 (h := h) (c_P l.1)]
        refine am_goX 2 (show am_rc h 1 7 ∧ 0 ≤ 8 ∧ h.2.2.2.2 + am_al 44 ≤ 175 ∧ am_call am_cod 37 44 [.ref 1, .ref (4000000 + 12)] h (fun vv h' => pz_S 2 (some .boolean) am_r43 37 Q 63 [(0, .ref 3), (1, .ref 17)] (vv.toList ++ []) h') from ⟨Or.inl ⟨by decide, ex_1 (c_P l.1)⟩, by decide, ex_lim (c_P l.1) rfl, am_call.up (c_isw (by decide) wq_12 l.1 ?_) (by decide)⟩)
        cases e294 : sp_w (tt T sz) s.1 982151 with
        | true =>
          refine am_goX 1 (show ((pz_b (true)) = 0 → pz_S 2 (some .boolean) am_r43 37 Q 72 [(0, .ref 3), (1, .ref 17)] [] h) ∧ (¬ ((pz_b (true)) = 0) → pz_S 2 (some .boolean) am_r43 37 Q 66 [(0, .ref 3), (1, .ref 17)] [] h) from ⟨fun hz => absurd hz (by decide), fun _ => ?_⟩)
          refine am_goX 3 (show am_rc h 3 1 ∧ 0 ≤ 8 ∧ h.2.2.2.2 + am_al 66 ≤ 175 ∧ am_call am_cod 37 66 [.ref 3, .ref 17] h (fun vv h' => pz_S 2 (some .boolean) am_r43 37 Q 71 [(0, .ref 3), (1, .ref 17)] (vv.toList ++ []) h') from ⟨Or.inl ⟨by decide, ex_3 (c_P l.1)⟩, by decide, ex_lim (c_P l.1) rfl, am_call.up (c_66_17 (sp_wn e294) l (fun v295 h296 x297 => ?_)) (by decide)⟩)
          rcases cres_cs x297 with ⟨F299, e301, rfl, y302⟩ | ⟨t300, e301, rfl, y302⟩
          ·
            exact am_goX 1 (show (∃ ty, (some .boolean) = some ty ∧ narrow ty (.int (0)) = .int (0)) ∧ h296.2.2.2.2 = 175 ∧ _ from ⟨⟨.boolean, rfl, rfl⟩, ex_175 y302.1, hQ _ _ (cres_inl (F := F299) (by simp only [sp_line, sp_b, sp_f, cond_true, cond_false, e267, e276, e285, e294, e301, Option.isSome_some, Option.isSome_none, Bool.true_or, Bool.or_true, Bool.or_false, Bool.false_or]) rfl y302)⟩)
          ·
            exact am_goX 1 (show (∃ ty, (some .boolean) = some ty ∧ narrow ty (.int (1)) = .int (1)) ∧ h296.2.2.2.2 = 175 ∧ _ from ⟨⟨.boolean, rfl, rfl⟩, ex_175 (c_P y302.1), hQ _ _ (cres_inr (s' := t300) (by simp only [sp_line, sp_b, sp_f, cond_true, cond_false, e267, e276, e285, e294, e301, Option.isSome_some, Option.isSome_none, Bool.true_or, Bool.or_true, Bool.or_false, Bool.false_or]) rfl y302)⟩)
        | false =>
          refine am_goX 1 (show ((pz_b (false)) = 0 → pz_S 2 (some .boolean) am_r43 37 Q 72 [(0, .ref 3), (1, .ref 17)] [] h) ∧ (¬ ((pz_b (false)) = 0) → pz_S 2 (some .boolean) am_r43 37 Q 66 [(0, .ref 3), (1, .ref 17)] [] h) from ⟨fun _ => ?_, fun hz => absurd (by decide) hz⟩)
          refine am_goX 2 (show am_sh h 3 = some (1, 0) ∧ pz_S 2 (some .boolean) am_r43 37 Q 76 [(0, .ref 3), (1, .ref 17)] [am_rf (h.2.2.1 3 0)] h from ⟨ex_3 (c_P l.1), ?_⟩)
          rw [ex_r3_0 (h := h) (c_P l.1)]
          refine am_goX 2 (show am_rc h 1 7 ∧ 0 ≤ 8 ∧ h.2.2.2.2 + am_al 44 ≤ 175 ∧ am_call am_cod 37 44 [.ref 1, .ref (4000000 + 13)] h (fun vv h' => pz_S 2 (some .boolean) am_r43 37 Q 81 [(0, .ref 3), (1, .ref 17)] (vv.toList ++ []) h') from ⟨Or.inl ⟨by decide, ex_1 (c_P l.1)⟩, by decide, ex_lim (c_P l.1) rfl, am_call.up (c_isw (by decide) wq_13 l.1 ?_) (by decide)⟩)
          cases e303 : sp_w (tt T sz) s.1 375310 with
          | true =>
            refine am_goX 1 (show ((pz_b (true)) = 0 → pz_S 2 (some .boolean) am_r43 37 Q 93 [(0, .ref 3), (1, .ref 17)] [] h) ∧ (¬ ((pz_b (true)) = 0) → pz_S 2 (some .boolean) am_r43 37 Q 84 [(0, .ref 3), (1, .ref 17)] [] h) from ⟨fun hz => absurd hz (by decide), fun _ => ?_⟩)
            refine am_goX 2 (show am_sh h 3 = some (1, 0) ∧ pz_S 2 (some .boolean) am_r43 37 Q 88 [(0, .ref 3), (1, .ref 17)] [am_rf (h.2.2.1 3 1)] h from ⟨ex_3 (c_P l.1), ?_⟩)
            rw [ex_r3_1 (h := h) (c_P l.1)]
            refine am_goX 2 (show am_rc h 4 4 ∧ 0 ≤ 8 ∧ h.2.2.2.2 + am_al 70 ≤ 175 ∧ am_call am_cod 37 70 [.ref 4, .ref 17] h (fun vv h' => pz_S 2 (some .boolean) am_r43 37 Q 92 [(0, .ref 3), (1, .ref 17)] (vv.toList ++ []) h') from ⟨Or.inl ⟨by decide, ex_4 (c_P l.1)⟩, by decide, ex_lim (c_P l.1) rfl, am_call.up (c_70_17 (sp_wn e303) l (fun v304 h305 x306 => ?_)) (by decide)⟩)
            rcases cres_cs x306 with ⟨F308, e310, rfl, y311⟩ | ⟨t309, e310, rfl, y311⟩
            ·
              exact am_goX 1 (show (∃ ty, (some .boolean) = some ty ∧ narrow ty (.int (0)) = .int (0)) ∧ h305.2.2.2.2 = 175 ∧ _ from ⟨⟨.boolean, rfl, rfl⟩, ex_175 y311.1, hQ _ _ (cres_inl (F := F308) (by simp only [sp_line, sp_b, sp_f, cond_true, cond_false, e267, e276, e285, e294, e303, e310, Option.isSome_some, Option.isSome_none, Bool.true_or, Bool.or_true, Bool.or_false, Bool.false_or]) rfl y311)⟩)
            ·
              exact am_goX 1 (show (∃ ty, (some .boolean) = some ty ∧ narrow ty (.int (1)) = .int (1)) ∧ h305.2.2.2.2 = 175 ∧ _ from ⟨⟨.boolean, rfl, rfl⟩, ex_175 (c_P y311.1), hQ _ _ (cres_inr (s' := t309) (by simp only [sp_line, sp_b, sp_f, cond_true, cond_false, e267, e276, e285, e294, e303, e310, Option.isSome_some, Option.isSome_none, Bool.true_or, Bool.or_true, Bool.or_false, Bool.false_or]) rfl y311)⟩)
          | false =>
            refine am_goX 1 (show ((pz_b (false)) = 0 → pz_S 2 (some .boolean) am_r43 37 Q 93 [(0, .ref 3), (1, .ref 17)] [] h) ∧ (¬ ((pz_b (false)) = 0) → pz_S 2 (some .boolean) am_r43 37 Q 84 [(0, .ref 3), (1, .ref 17)] [] h) from ⟨fun _ => ?_, fun hz => absurd (by decide) hz⟩)
            refine am_goX 2 (show am_sh h 3 = some (1, 0) ∧ pz_S 2 (some .boolean) am_r43 37 Q 97 [(0, .ref 3), (1, .ref 17)] [am_rf (h.2.2.1 3 0)] h from ⟨ex_3 (c_P l.1), ?_⟩)
            rw [ex_r3_0 (h := h) (c_P l.1)]
            refine am_goX 2 (show am_rc h 1 7 ∧ 0 ≤ 8 ∧ h.2.2.2.2 + am_al 52 ≤ 175 ∧ am_call am_cod 37 52 [.ref 1, .int (Int32.ofInt 1)] h (fun vv h' => pz_S 2 (some .boolean) am_r43 37 Q 101 [(0, .ref 3), (1, .ref 17)] (vv.toList ++ []) h') from ⟨Or.inl ⟨by decide, ex_1 (c_P l.1)⟩, by decide, ex_lim (c_P l.1) rfl, am_call.up (c_refuse l.1 ?_) (by decide)⟩)
            have x312 := cr_x (s := s) (k := (Int32.ofInt 1)) (by decide) l (by decide)
            exact am_goX 1 (show (∃ ty, (some .boolean) = some ty ∧ narrow ty (.int ((Int32.ofInt 0))) = .int ((Int32.ofInt 0))) ∧ (am_wI h 1 7 (sp_ft (tt T sz) s.1 (Int32.ofInt 1))).2.2.2.2 = 175 ∧ _ from ⟨⟨.boolean, rfl, rfl⟩, ex_175 x312.1, hQ _ _ (cres_inl (F := sp_ft (tt T sz) s.1 (Int32.ofInt 1)) (by simp only [sp_line, sp_b, sp_f, cond_true, cond_false, e267, e276, e285, e294, e303, Option.isSome_some, Option.isSome_none, Bool.true_or, Bool.or_true, Bool.or_false, Bool.false_or]) rfl x312)⟩)
def cl_h_17 (h : am_H) : am_H := am_wI (am_wI (am_wI (am_wI (am_wI (am_wI h 17 0 0) 17 4 0) 17 9 0) 17 10 0) 17 11 0) 25 2 0
theorem c_16_17 (hP : ex_P h) (hQ : Q none (cl_h_17 h)) : am_call am_cod 1 16 [.ref 17] h Q := by
  refine pz_call (n := 16) (nL := 1) (rt := none) (rows := am_r16) (d := 0) (by decide +kernel) (by decide +kernel) rfl (by funext pc; rfl) (ex_175 hP) (by exact Nat.le_of_ble_eq_true rfl) ?_
  refine am_goX 3 (show am_sh h 17 = some (0, 0) ∧ narrow (am_fty 0 0) (.int ((Int32.ofInt 0))) = .int ((Int32.ofInt 0)) ∧ fits (am_fty 0 0) (.int ((Int32.ofInt 0))) = true ∧ pz_S 1 none am_r16 0 Q 5 [(0, .ref 17)] [] (am_wI h 17 0 ((Int32.ofInt 0))) from ⟨ex_17 hP, rfl, rfl, ?_⟩)
  refine am_goX 3 (show am_sh (am_wI h 17 0 (0)) 17 = some (0, 0) ∧ narrow (am_fty 0 4) (.int ((Int32.ofInt 0))) = .int ((Int32.ofInt 0)) ∧ fits (am_fty 0 4) (.int ((Int32.ofInt 0))) = true ∧ pz_S 1 none am_r16 0 Q 10 [(0, .ref 17)] [] (am_wI (am_wI h 17 0 (0)) 17 4 ((Int32.ofInt 0))) from ⟨ex_17 hP, rfl, rfl, ?_⟩)
  refine am_goX 3 (show am_sh (am_wI (am_wI h 17 0 (0)) 17 4 (0)) 17 = some (0, 0) ∧ narrow (am_fty 0 9) (.int ((Int32.ofInt 0))) = .int ((Int32.ofInt 0)) ∧ fits (am_fty 0 9) (.int ((Int32.ofInt 0))) = true ∧ pz_S 1 none am_r16 0 Q 15 [(0, .ref 17)] [] (am_wI (am_wI (am_wI h 17 0 (0)) 17 4 (0)) 17 9 ((Int32.ofInt 0))) from ⟨ex_17 hP, rfl, rfl, ?_⟩)
  refine am_goX 3 (show am_sh (am_wI (am_wI (am_wI h 17 0 (0)) 17 4 (0)) 17 9 (0)) 17 = some (0, 0) ∧ narrow (am_fty 0 10) (.int ((Int32.ofInt 0))) = .int ((Int32.ofInt 0)) ∧ fits (am_fty 0 10) (.int ((Int32.ofInt 0))) = true ∧ pz_S 1 none am_r16 0 Q 20 [(0, .ref 17)] [] (am_wI (am_wI (am_wI (am_wI h 17 0 (0)) 17 4 (0)) 17 9 (0)) 17 10 ((Int32.ofInt 0))) from ⟨ex_17 hP, rfl, rfl, ?_⟩)
  refine am_goX 3 (show am_sh (am_wI (am_wI (am_wI (am_wI h 17 0 (0)) 17 4 (0)) 17 9 (0)) 17 10 (0)) 17 = some (0, 0) ∧ narrow (am_fty 0 11) (.int ((Int32.ofInt 0))) = .int ((Int32.ofInt 0)) ∧ fits (am_fty 0 11) (.int ((Int32.ofInt 0))) = true ∧ pz_S 1 none am_r16 0 Q 25 [(0, .ref 17)] [] (am_wI (am_wI (am_wI (am_wI (am_wI h 17 0 (0)) 17 4 (0)) 17 9 (0)) 17 10 (0)) 17 11 ((Int32.ofInt 0))) from ⟨ex_17 hP, rfl, rfl, ?_⟩)
  refine am_goX 2 (show am_sh (am_wI (am_wI (am_wI (am_wI (am_wI h 17 0 (0)) 17 4 (0)) 17 9 (0)) 17 10 (0)) 17 11 (0)) 17 = some (0, 0) ∧ pz_S 1 none am_r16 0 Q 29 [(0, .ref 17)] [am_rf ((am_wI (am_wI (am_wI (am_wI (am_wI h 17 0 (0)) 17 4 (0)) 17 9 (0)) 17 10 (0)) 17 11 (0)).2.2.1 17 12)] (am_wI (am_wI (am_wI (am_wI (am_wI h 17 0 (0)) 17 4 (0)) 17 9 (0)) 17 10 (0)) 17 11 (0)) from ⟨ex_17 hP, ?_⟩)
  rw [ex_r17_12 (h := am_wI (am_wI (am_wI (am_wI (am_wI h 17 0 (0)) 17 4 (0)) 17 9 (0)) 17 10 (0)) 17 11 (0)) hP]
  refine am_goX 2 (show am_sh (am_wI (am_wI (am_wI (am_wI (am_wI h 17 0 (0)) 17 4 (0)) 17 9 (0)) 17 10 (0)) 17 11 (0)) 25 = some (3, 0) ∧ narrow (am_fty 3 2) (.int ((Int32.ofInt 0))) = .int ((Int32.ofInt 0)) ∧ fits (am_fty 3 2) (.int ((Int32.ofInt 0))) = true ∧ pz_S 1 none am_r16 0 Q 33 [(0, .ref 17)] [] (am_wI (am_wI (am_wI (am_wI (am_wI (am_wI h 17 0 (0)) 17 4 (0)) 17 9 (0)) 17 10 (0)) 17 11 (0)) 25 2 ((Int32.ofInt 0))) from ⟨ex_25 hP, rfl, rfl, ?_⟩)
  exact am_goX 1 (show (none : Option FieldType) = none ∧ (cl_h_17 h).2.2.2.2 = 175 ∧ _ from ⟨rfl, ex_175 hP, hQ⟩)
theorem cl_c_17 (hz : sz ≤ 1000) (hch : ∀ q, q < sz → 0 ≤ (T q).toInt ∧ (T q).toInt ≤ 126) {h1 : am_H} (t : c_t T sz 0 h1) (f : fr1 (cl_h_17 h) h1) : cr h 17 T sz (0, sp_C0) h1 := by
  refine ⟨t, c_c_fr (by decide) (h := cl_h_17 h) ?_ f, c_q_fr (h := cl_h_17 h) ?_ f, Nat.zero_le _⟩
  · exact ⟨⟨rfl, by decide, fun i hi => absurd hi (Nat.not_lt_zero i)⟩, ⟨rfl, by decide, fun i hi => absurd hi (Nat.not_lt_zero i)⟩, ⟨rfl, rfl, fun _ => rfl, (by unfold sp_28; decide)⟩, ⟨rfl, rfl, by decide, fun i hi => absurd hi (Nat.not_lt_zero i)⟩⟩
  · refine ⟨rfl, fun o k ho => ⟨?_, rfl⟩⟩
    have h1 : ¬ o = 17 := fun z => ho (Or.inr (by omega))
    have h2 : ¬ o = 25 := fun z => ho (Or.inr (by omega))
    unfold cl_h_17
    rw [em_wn _ _ (by omega), em_wn _ _ (by omega), em_wn _ _ (by omega), em_wn _ _ (by omega), em_wn _ _ (by omega), em_wn _ _ (by omega)]
theorem c_15l_17 : ∀ (m i : Nat) (s : sp_S) (h : am_H) (Q : am_Q), sz < s.1 + m → i ≤ s.1 → cr h0 17 T sz s h → (∀ h1, cfin h0 17 T sz (sp_all (tt T sz) m s) h1 → Q (some (.int (sp_ans (sp_all (tt T sz) m s)))) h1) → pz_S 4 (some .int) am_r15 38 Q 15 [(3, .int (nI i)), (2, .int 1), (0, .ref 3), (1, .ref 17)] [] h := by
  intro m
  induction m with
  | zero =>
    intro i s h Q hm hi l hQ
    have := (cr_a l).1
    omega
  | succ m ih =>
    intro i s h Q hm hi l hQ
    have ha := cr_a l
    have hk := ck_4 T sz s.1
    have hf : h.1 1 7 = 0 := l.1.2.2.2.1
    refine am_goX 2 (show (1 = 0 → pz_S 4 (some .int) am_r15 38 Q 49 [(3, .int (nI i)), (2, .int 1), (0, .ref 3), (1, .ref 17)] [] h) ∧ (¬ (1 = 0) → pz_S 4 (some .int) am_r15 38 Q 19 [(3, .int (nI i)), (2, .int 1), (0, .ref 3), (1, .ref 17)] [] h) from ⟨fun hz => absurd hz (by decide), fun _ => ?_⟩)
    refine am_goX 2 (show am_sh h 3 = some (1, 0) ∧ pz_S 4 (some .int) am_r15 38 Q 23 [(3, .int (nI i)), (2, .int 1), (0, .ref 3), (1, .ref 17)] [am_rf (h.2.2.1 3 0)] h from ⟨ex_3 (c_P l.1), ?_⟩)
    rw [ex_r3_0 (h := h) (c_P l.1)]
    refine am_goX 2 (show am_sh h 1 = some (7, 0) ∧ pz_S 4 (some .int) am_r15 38 Q 27 [(3, .int (nI i)), (2, .int 1), (0, .ref 3), (1, .ref 17)] [.int (Int32.ofInt 4), .int (h.1 1 2)] h from ⟨ex_1 (c_P l.1), ?_⟩)
    rw [c_kd l.1]
    refine am_goX 1 (show ((ck (tt T sz s.1).1) = (Int32.ofInt 4) → pz_S 4 (some .int) am_r15 38 Q 49 [(3, .int (nI i)), (2, .int 1), (0, .ref 3), (1, .ref 17)] [] h) ∧ (¬ ((ck (tt T sz s.1).1) = (Int32.ofInt 4)) → pz_S 4 (some .int) am_r15 38 Q 30 [(3, .int (nI i)), (2, .int 1), (0, .ref 3), (1, .ref 17)] [] h) from ⟨fun hc => ?_, fun hc => ?_⟩)
    ·
      have e2 : sp_k (tt T sz) s.1 0 = true := by rw [← hk]; exact decide_eq_true hc
      clear hc
      refine am_goX 2 (show am_sh h 3 = some (1, 0) ∧ pz_S 4 (some .int) am_r15 38 Q 53 [(3, .int (nI i)), (2, .int 1), (0, .ref 3), (1, .ref 17)] [am_rf (h.2.2.1 3 0)] h from ⟨ex_3 (c_P l.1), ?_⟩)
      rw [ex_r3_0 (h := h) (c_P l.1)]
      refine am_goX 1 (show am_sh h 1 = some (7, 0) ∧ pz_S 4 (some .int) am_r15 38 Q 56 [(3, .int (nI i)), (2, .int 1), (0, .ref 3), (1, .ref 17)] [.int (h.1 1 7)] h from ⟨ex_1 (c_P l.1), ?_⟩)
      have hx : sp_all (tt T sz) (m + 1) s = .inr s := by simp only [sp_all, e2, cond_true]
      rw [hx] at hQ
      rw [hf]
      exact am_goX 1 (show (∃ ty, (some .int) = some ty ∧ narrow ty (.int (0)) = .int (0)) ∧ h.2.2.2.2 = 175 ∧ _ from ⟨⟨.int, rfl, rfl⟩, ex_175 (c_P l.1), hQ _ l⟩)
    ·
      have e2 : sp_k (tt T sz) s.1 0 = false := by rw [← hk]; exact decide_eq_false hc
      clear hc
      have hlt : s.1 < sz := by
        have w := l.1.2.2.2.2.1
        have w2 : tk_pl T sz s.1 < sz := kz_lt (of_decide_eq_false e2)
        omega
      refine am_goX 3 (show ((Int16.ofInt 1000).toInt32 ≤ (nI i) → pz_S 4 (some .int) am_r15 38 Q 49 [(3, .int (nI i)), (2, .int 1), (0, .ref 3), (1, .ref 17)] [] h) ∧ (¬ ((Int16.ofInt 1000).toInt32 ≤ (nI i)) → pz_S 4 (some .int) am_r15 38 Q 37 [(3, .int (nI i)), (2, .int 1), (0, .ref 3), (1, .ref 17)] [] h) from ⟨fun hz => absurd hz (i1000 (by omega)), fun _ => ?_⟩)
      refine am_goX 3 (show am_rc h 3 1 ∧ 0 ≤ 8 ∧ h.2.2.2.2 + am_al 43 ≤ 175 ∧ am_call am_cod 38 43 [.ref 3, .ref 17] h (fun vv h' => pz_S 4 (some .int) am_r15 38 Q 42 [(3, .int (nI i)), (2, .int 1), (0, .ref 3), (1, .ref 17)] (vv.toList ++ []) h') from ⟨Or.inl ⟨by decide, ex_3 (c_P l.1)⟩, by decide, ex_lim (c_P l.1) rfl, am_call.up (c_43_17 l (fun v313 h314 x315 => ?_)) (by decide)⟩)
      rcases cres_cs x315 with ⟨F317, e319, rfl, y320⟩ | ⟨t318, e319, rfl, y320⟩
      ·
        refine am_goX 5 (show 2 < 4 ∧ 3 < 4 ∧ (0 = 0 → pz_S 4 (some .int) am_r15 38 Q 49 [(3, .int ((nI i) + Int32.ofInt 1)), (2, .int 0), (0, .ref 3), (1, .ref 17)] [] h314) ∧ (¬ (0 = 0) → pz_S 4 (some .int) am_r15 38 Q 19 [(3, .int ((nI i) + Int32.ofInt 1)), (2, .int 0), (0, .ref 3), (1, .ref 17)] [] h314) from ⟨by decide, by decide, fun _ => ?_, fun hz => absurd (by decide) hz⟩)
        refine am_goX 2 (show am_sh h314 3 = some (1, 0) ∧ pz_S 4 (some .int) am_r15 38 Q 53 [(3, .int ((nI i) + Int32.ofInt 1)), (2, .int 0), (0, .ref 3), (1, .ref 17)] [am_rf (h314.2.2.1 3 0)] h314 from ⟨ex_3 y320.1, ?_⟩)
        rw [ex_r3_0 (h := h314) y320.1]
        refine am_goX 1 (show am_sh h314 1 = some (7, 0) ∧ pz_S 4 (some .int) am_r15 38 Q 56 [(3, .int ((nI i) + Int32.ofInt 1)), (2, .int 0), (0, .ref 3), (1, .ref 17)] [.int (h314.1 1 7)] h314 from ⟨ex_1 y320.1, ?_⟩)
        have hx : sp_all (tt T sz) (m + 1) s = .inl F317 := by simp only [sp_all, sp_b, cond_true, cond_false, e2, e319]
        rw [hx] at hQ
        rw [y320.2.1.1]
        exact am_goX 1 (show (∃ ty, (some .int) = some ty ∧ narrow ty (.int (F317)) = .int (F317)) ∧ h314.2.2.2.2 = 175 ∧ _ from ⟨⟨.int, rfl, rfl⟩, ex_175 y320.1, hQ _ y320⟩)
      ·
        refine am_goX 3 (show 2 < 4 ∧ 3 < 4 ∧ pz_S 4 (some .int) am_r15 38 Q 15 [(3, .int ((nI i) + Int32.ofInt 1)), (2, .int 1), (0, .ref 3), (1, .ref 17)] [] h314 from ⟨by decide, by decide, ?_⟩)
        rw [xw_i1]
        have g1 := sp_line_lt e319
        have hx : sp_all (tt T sz) (m + 1) s = sp_all (tt T sz) m t318 := by simp only [sp_all, sp_b, cond_true, cond_false, e2, e319]
        rw [hx] at hQ
        exact ih (i + 1) t318 h314 Q (by omega) (by omega) y320 hQ
theorem c_15_17 (hP : ex_P h) (hz : sz ≤ 1000) (hch : ∀ q, q < sz → 0 ≤ (T q).toInt ∧ (T q).toInt ≤ 126) (l1 : h.1 1 1 = nI sz) (l2 : ∀ q, q < sz → h.1 2 q = T q) (hQ : ∀ h1, cfin h 17 T sz (sp_canton (tt T sz)) h1 → Q (some (.int (sp_ans (sp_canton (tt T sz))))) h1) : am_call am_cod 39 15 [.ref 3, .ref 17] h Q := by
  refine pz_call (n := 15) (nL := 4) (rt := (some .int)) (rows := am_r15) (d := 38) (by decide +kernel) (by decide +kernel) rfl (by funext pc; rfl) (ex_175 hP) (by exact Nat.le_of_ble_eq_true rfl) ?_
  refine am_goX 2 (show am_rc h 17 0 ∧ 0 ≤ 8 ∧ h.2.2.2.2 + am_al 16 ≤ 175 ∧ am_call am_cod 38 16 [.ref 17] h (fun vv h' => pz_S 4 (some .int) am_r15 38 Q 4 [(0, .ref 3), (1, .ref 17)] (vv.toList ++ []) h') from ⟨Or.inl ⟨by decide, ex_17 hP⟩, by decide, ex_lim hP rfl, am_call.up (c_16_17 hP ?_) (by decide)⟩)
  refine am_goX 2 (show am_sh (cl_h_17 h) 3 = some (1, 0) ∧ pz_S 4 (some .int) am_r15 38 Q 8 [(0, .ref 3), (1, .ref 17)] [am_rf ((cl_h_17 h).2.2.1 3 0)] (cl_h_17 h) from ⟨ex_3 hP, ?_⟩)
  rw [ex_r3_0 (h := cl_h_17 h) hP]
  refine am_goX 1 (show am_rc (cl_h_17 h) 1 7 ∧ 0 ≤ 8 ∧ (cl_h_17 h).2.2.2.2 + am_al 17 ≤ 175 ∧ am_call am_cod 38 17 [.ref 1] (cl_h_17 h) (fun vv h' => pz_S 4 (some .int) am_r15 38 Q 11 [(0, .ref 3), (1, .ref 17)] (vv.toList ++ []) h') from ⟨Or.inl ⟨by decide, ex_1 hP⟩, by decide, ex_lim hP rfl, am_call.up (c_begin (T := T) (sz := sz) hP hz hch (by unfold cl_h_17; rw [em_wn _ _ (by omega), em_wn _ _ (by omega), em_wn _ _ (by omega), em_wn _ _ (by omega), em_wn _ _ (by omega), em_wn _ _ (by omega)]; exact l1) (fun q hq => by unfold cl_h_17; rw [em_wn _ _ (by omega), em_wn _ _ (by omega), em_wn _ _ (by omega), em_wn _ _ (by omega), em_wn _ _ (by omega), em_wn _ _ (by omega)]; exact l2 q hq) (fun h1 t f => ?_)) (by decide)⟩)
  have l := cl_c_17 hz hch t f
  refine am_goX 4 (show 2 < 4 ∧ 3 < 4 ∧ pz_S 4 (some .int) am_r15 38 Q 15 [(3, .int (Int32.ofInt 0)), (2, .int (Int32.ofInt 1)), (0, .ref 3), (1, .ref 17)] [] h1 from ⟨by decide, by decide, ?_⟩)
  exact c_15l_17 1001 0 (0, sp_C0) h1 Q (by dsimp only; omega) (Nat.zero_le _) l hQ
