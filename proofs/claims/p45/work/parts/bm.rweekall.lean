/-! WEEK OF THE REFERENCE, WHOLE -/
variable {h : am_H} {N a c sz : Nat} {C : sp_C} {Q : am_Q}
theorem at163 (q : Nat) : ag_atM pz_Mt 163 q = false ∧ ag_atM pz_Mt 165 q = false ∧ ag_atM pz_Mt 154 18 = false := by
  refine ⟨?_, ?_, by decide⟩ <;> (unfold ag_atM pz_Mt; simp [List.any])
theorem rkN_e {h h1 : am_H} (e1 : h1.1 154 18 = h.1 154 18) (e2 : ∀ k, h1.1 165 k = h.1 165 k) (e3 : ∀ k, h1.2.1 163 k = h.2.1 163 k) (l : rkN C h) : rkN C h1 := by
  obtain ⟨l1, l2, l3, l4, l5⟩ := l
  refine ⟨e1.trans l1, fun i hi => ?_, fun i hi => ?_, fun i hi => ?_, fun k k' a b e => l5 k k' a b (by rw [← e3, ← e3]; exact e)⟩
  · rw [e2, e3]; exact l2 i hi
  · obtain ⟨j, h1, h2, h3⟩ := l3 i hi
    exact ⟨j, h1, by rw [e2]; exact h2, by rw [e3]; exact h3⟩
  · obtain ⟨j, h1, h2, h3⟩ := l4 i hi
    exact ⟨j, h1, by rw [e2]; exact h2, by rw [e3]; exact h3⟩
theorem k_219 (hsz : h.1 154 2 = nI sz) (hz : sz ≤ 1000) (hw : ∀ w, w < 21 → h.2.1 159 w = rw_w w) (hP0 : pz_P N a c h) (hC : C.1.1 ≤ 6 ∧ C.2.1.1 ≤ 5 ∧ rkN C h) (hC0 : C.2.2.2.2.1 = 0) (hF : ∀ F h1, sw_week (tt (h.1 155) sz) (C.1.1, C.1.2.1) = .inl F → Q (some (.int F)) h1) (hS : ∀ t h1, sw_week (tt (h.1 155) sz) (C.1.1, C.1.2.1) = .inr t → rkV t.2 h1 → Q (some (.int (Int32.ofInt 0))) h1) : am_call am_cod 6 219 [.ref 154] h Q := by
  refine pz_call (n := 219) (nL := 4) (rt := (some .int)) (rows := am_r219) (d := 5) (by decide +kernel) (by decide +kernel) rfl (by funext pc; rfl) (pz_175 hP0) (by exact Nat.le_of_ble_eq_true rfl) ?_
  refine am_goX 3 (show am_sh h 154 = some (11, 0) ∧ narrow (am_fty 11 0) (.int ((Int32.ofInt 0))) = .int ((Int32.ofInt 0)) ∧ fits (am_fty 11 0) (.int ((Int32.ofInt 0))) = true ∧ pz_S 4 (some .int) am_r219 5 Q 5 [(0, .ref 154)] [] (am_wI h 154 0 ((Int32.ofInt 0))) from ⟨pz_154 hP0, rfl, rfl, ?_⟩)
  have hP1 := pz_w (o := 154) (k := 0) (v := Int32.ofInt 0) hP0 (by omega) (by unfold ag_kp; omega) pz_s0
  have sz1 : (am_wI h 154 0 (Int32.ofInt 0)).1 154 2 = nI sz := by rw [em_wn h _ (by omega)]; exact hsz
  have hw1 : ∀ w, w < 21 → (am_wI h 154 0 (Int32.ofInt 0)).2.1 159 w = rw_w w := hw
  have hC1 : rkN C (am_wI h 154 0 (Int32.ofInt 0)) := rkN_w (by omega) hC.2.2
  have hT : (am_wI h 154 0 (Int32.ofInt 0)).1 155 = h.1 155 := by funext q; exact em_wn h _ (by omega)
  rw [← hT] at hS hF
  generalize am_wI h 154 0 (Int32.ofInt 0) = h1 at hP1 sz1 hw1 hC1 hS hF ⊢
  refine am_goX 2 (show am_rc h1 154 11 ∧ 0 ≤ 8 ∧ h1.2.2.2.2 + am_al 189 ≤ 175 ∧ am_call am_cod 5 189 [.ref 154] h1 (fun vv h' => pz_S 4 (some .int) am_r219 5 Q 9 [(0, .ref 154)] (vv.toList ++ []) h') from ⟨pz_rc hP1, by decide, pz_lim hP1 rfl, am_call.up (rx_cutall hP1 sz1 hz (fun N2 h2 hP2 f2 b2 t2 nsz k2 ep2 y6 y7 => ?_)) (by decide)⟩)
  have hw2 : ∀ w, w < 21 → h2.2.1 159 w = rw_w w := fun w hw => ((f2.2 159 w (at155 w).2.1).2.1).trans (hw1 w hw)
  have x2 : ex_P h2 := ex_G hP2.1.1 hP2.1.2.1
  have t3 : rt (tt (h1.1 155) sz) N2 h2 := rt_of x2 hz nsz k2 ep2 y6 y7 hw2
  have l : rk h2 0 (tt (h1.1 155) sz) N2 (0, C) h2 := ⟨⟨t3, ⟨hP2.2.2.2.1, Nat.zero_le _⟩, b2⟩, ⟨hC.1, hC.2.1, rkN_e (f2.2 154 18 (at163 0).2.2).1 (fun k => (f2.2 165 k (at163 k).2.1).1) (fun k => (f2.2 163 k (at163 k).1).2.1) hC1⟩, ⟨rfl, fun _ _ _ => ⟨rfl, rfl⟩⟩, Nat.le_of_eq hC0⟩
  refine am_goX 2 (show 1 < 4 ∧ pz_S 4 (some .int) am_r219 5 Q 11 [(1, .int (nI sw_W0.1)), (0, .ref 154)] [] h2 from ⟨by decide, ?_⟩)
  exact k_219h (m := 1000) (h0 := h2) (W := sw_W0) (by omega) l ⟨by decide, fun i hi => absurd hi (Nat.not_lt_zero i)⟩ ⟨rfl, fun _ _ _ => ⟨rfl, rfl⟩⟩ (fun F h3 e _ _ => hF F h3 e) (fun t h3 e _ v _ => hS t h3 e v)
