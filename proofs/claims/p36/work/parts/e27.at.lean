/-! WHAT DAY IT IS -/
variable {h : am_H} {Q : am_Q} {C V : sp_C} {x y z w : Int32} {e l p q : Nat} {s : dS}
theorem sv2_152 : am_r152.all (fun q => sv2_ok q.2) = true := by decide +kernel
theorem sv2_153 : am_r153.all (fun q => sv2_ok q.2) = true := by decide +kernel
theorem sv2_155 : am_r155.all (fun q => sv2_ok q.2) = true := by decide +kernel
theorem sv2_156 : am_r156.all (fun q => sv2_ok q.2) = true := by decide +kernel
theorem sv2_272 : am_r272.all (fun q => sv2_ok q.2) = true := by decide +kernel
theorem sv2_273 : am_r273.all (fun q => sv2_ok q.2) = true := by decide +kernel
theorem sv2_276 : am_r276.all (fun q => sv2_ok q.2) = true := by decide +kernel
theorem sv2_277 : am_r277.all (fun q => sv2_ok q.2) = true := by decide +kernel
theorem sv2_278 : am_r278.all (fun q => sv2_ok q.2) = true := by decide +kernel
def d_153_20 (C : sp_C) (s : dS) (y : Int32) (x2 : Int32) : Nat → Nat → Int32 → Int32
  | 0, _, a3 => a3
  | m + 1, k, a3 => d_153_20 C s y x2 m (k + 1) (if ¬ (d_88 C s k x2) = y then a3 else a3 ||| ((Int32.ofInt 1) <<< ((nI k) &&& 31)))
theorem d_153_20_N6 (x2 : Int32) (hP : ex_P h) (hI : cI C) (hT : c_v 6 C h) (hD : c_d 6 C h) (hR : h.2.2.1 0 3 = some 6) (hS : sC 36 s h) : ∀ (m k : Nat) (a3 : Int32), k + m = dP C → (pz_S 5 (some .int) am_r153 3 Q 63 [(3, .int (d_153_20 C s y x2 m k a3))] [] h) → pz_S 5 (some .int) am_r153 3 Q 20 [(0, .ref 0), (1, .int y), (2, .int x2), (3, .int a3), (4, .int (nI k))] [] h := by
  intro m
  induction m with
  | zero =>
    intro k a3 hk hZ
    have h6 := hT.1.2.1
    have h5 := hT.2.1.2.1
    refine am_goX 3 (show am_sh h 0 = some (10, 0) ∧ pz_S 5 (some .int) am_r153 3 Q 26 [(0, .ref 0), (1, .int y), (2, .int x2), (3, .int a3), (4, .int (nI k))] [am_rf (h.2.2.1 0 3), .int (nI k)] h from ⟨ex_0 hP, ?_⟩)
    rw [show am_rf (h.2.2.1 0 3) = .ref 6 from congrArg am_rf (hR)]
    refine am_goX 1 (show am_sh h 6 = some (0, 0) ∧ pz_S 5 (some .int) am_r153 3 Q 29 [(0, .ref 0), (1, .int y), (2, .int x2), (3, .int a3), (4, .int (nI k))] [.int (h.1 6 0), .int (nI k)] h from ⟨ex_6 hP, ?_⟩)
    rw [show h.1 6 0 = nI (dP C) from hT.1.1]
    refine am_goX 1 (show ((nI (dP C)) ≤ (nI k) → pz_S 5 (some .int) am_r153 3 Q 63 [(0, .ref 0), (1, .int y), (2, .int x2), (3, .int a3), (4, .int (nI k))] [] h) ∧ (¬ ((nI (dP C)) ≤ (nI k)) → pz_S 5 (some .int) am_r153 3 Q 32 [(0, .ref 0), (1, .int y), (2, .int x2), (3, .int a3), (4, .int (nI k))] [] h) from ⟨fun _ => ?_, fun hz => absurd (show nI (dP C) ≤ nI k from nI_le (by omega) (by omega)) hz⟩)
    exact sv_S2 sv2_153 (by intro q hq; simp only [List.mem_cons, List.not_mem_nil, or_false] at hq; rcases hq with rfl <;> rfl) (hZ)
  | succ m ih =>
    intro k a3 hk hZ
    have h6 := hT.1.2.1
    have h5 := hT.2.1.2.1
    refine am_goX 3 (show am_sh h 0 = some (10, 0) ∧ pz_S 5 (some .int) am_r153 3 Q 26 [(0, .ref 0), (1, .int y), (2, .int x2), (3, .int a3), (4, .int (nI k))] [am_rf (h.2.2.1 0 3), .int (nI k)] h from ⟨ex_0 hP, ?_⟩)
    rw [show am_rf (h.2.2.1 0 3) = .ref 6 from congrArg am_rf (hR)]
    refine am_goX 1 (show am_sh h 6 = some (0, 0) ∧ pz_S 5 (some .int) am_r153 3 Q 29 [(0, .ref 0), (1, .int y), (2, .int x2), (3, .int a3), (4, .int (nI k))] [.int (h.1 6 0), .int (nI k)] h from ⟨ex_6 hP, ?_⟩)
    rw [show h.1 6 0 = nI (dP C) from hT.1.1]
    refine am_goX 1 (show ((nI (dP C)) ≤ (nI k) → pz_S 5 (some .int) am_r153 3 Q 63 [(0, .ref 0), (1, .int y), (2, .int x2), (3, .int a3), (4, .int (nI k))] [] h) ∧ (¬ ((nI (dP C)) ≤ (nI k)) → pz_S 5 (some .int) am_r153 3 Q 32 [(0, .ref 0), (1, .int y), (2, .int x2), (3, .int a3), (4, .int (nI k))] [] h) from ⟨fun hz => absurd hz (show ¬ (nI (dP C) ≤ nI k) by rw [nI_leI (by omega) (by omega)]; omega), fun _ => ?_⟩)
    refine am_goX 2 (show am_sh h 0 = some (10, 0) ∧ pz_S 5 (some .int) am_r153 3 Q 36 [(0, .ref 0), (1, .int y), (2, .int x2), (3, .int a3), (4, .int (nI k))] [am_rf (h.2.2.1 0 3)] h from ⟨ex_0 hP, ?_⟩)
    rw [show am_rf (h.2.2.1 0 3) = .ref 6 from congrArg am_rf (hR)]
    refine am_goX 3 (show am_sh h 0 = some (10, 0) ∧ pz_S 5 (some .int) am_r153 3 Q 42 [(0, .ref 0), (1, .int y), (2, .int x2), (3, .int a3), (4, .int (nI k))] [am_rf (h.2.2.1 0 7), .int (nI k), .ref 6] h from ⟨ex_0 hP, ?_⟩)
    rw [show am_rf (h.2.2.1 0 7) = .ref 36 from congrArg am_rf (ex_r0_7 hP)]
    refine am_goX 2 (show am_rc h 6 0 ∧ 0 ≤ 8 ∧ h.2.2.2.2 + am_al 88 ≤ 175 ∧ am_call am_cod 3 88 [.ref 6, .int (nI k), .ref 36, .int x2] h (fun vv h' => pz_S 5 (some .int) am_r153 3 Q 46 [(0, .ref 0), (1, .int y), (2, .int x2), (3, .int a3), (4, .int (nI k))] (vv.toList ++ []) h') from ⟨Or.inl ⟨by decide, ex_6 hP⟩, by decide, ex_lim hP rfl, am_call.up (d_88_t6_36 hP hI hT hD hS (fC_0 (c := 6) (h := h)) (by omega) ?_) (by decide)⟩)
    suffices key : ∀ (v2 : Int32), v2 = (if ¬ (d_88 C s k x2) = y then a3 else a3 ||| ((Int32.ofInt 1) <<< ((nI k) &&& 31))) → pz_S 5 (some .int) am_r153 3 Q 57 [(0, .ref 0), (1, .int y), (2, .int x2), (3, .int v2), (4, .int (nI k))] [] h by
      refine am_goX 2 (show (¬ (d_88 C s k x2) = y → pz_S 5 (some .int) am_r153 3 Q 57 [(0, .ref 0), (1, .int y), (2, .int x2), (3, .int a3), (4, .int (nI k))] [] h) ∧ (¬ ¬ (d_88 C s k x2) = y → pz_S 5 (some .int) am_r153 3 Q 50 [(0, .ref 0), (1, .int y), (2, .int x2), (3, .int a3), (4, .int (nI k))] [] h) from ⟨fun c1 => ?_, fun c1 => ?_⟩)
      · exact sv_S2 sv2_153 (by intro q hq; simp only [List.mem_cons, List.not_mem_nil, or_false] at hq; rcases hq with rfl | rfl | rfl | rfl | rfl <;> rfl) (key _ (if_pos c1).symm)
      · refine am_goX 6 (show 3 < 5 ∧ pz_S 5 (some .int) am_r153 3 Q 57 [(3, .int (a3 ||| ((Int32.ofInt 1) <<< ((nI k) &&& 31)))), (0, .ref 0), (1, .int y), (2, .int x2), (4, .int (nI k))] [] h from ⟨by decide, ?_⟩)
        exact sv_S2 sv2_153 (by intro q hq; simp only [List.mem_cons, List.not_mem_nil, or_false] at hq; rcases hq with rfl | rfl | rfl | rfl | rfl <;> rfl) (key _ (if_neg c1).symm)
    intro v2 e3
    subst e3
    refine am_goX 2 (show 4 < 5 ∧ pz_S 5 (some .int) am_r153 3 Q 20 [(4, .int ((nI k) + (Int32.ofInt 1))), (0, .ref 0), (1, .int y), (2, .int x2), (3, .int (if ¬ (d_88 C s k x2) = y then a3 else a3 ||| ((Int32.ofInt 1) <<< ((nI k) &&& 31))))] [] h from ⟨by decide, ?_⟩)
    rw [show (nI k) + (Int32.ofInt 1) = nI (k + 1) from (dn_a rfl rfl)]
    exact sv_S2 sv2_153 (by intro q hq; simp only [List.mem_cons, List.not_mem_nil, or_false] at hq; rcases hq with rfl | rfl | rfl | rfl | rfl <;> rfl) (ih (k + 1) (if ¬ (d_88 C s k x2) = y then a3 else a3 ||| ((Int32.ofInt 1) <<< ((nI k) &&& 31))) (by omega) hZ)
def d_153 (C : sp_C) (s : dS) (y : Int32) : Int32 := d_153_20 C s y (d_68 C s.1) (dP C) 0 (Int32.ofInt 0)
theorem d_153_N6 (hP : ex_P h) (hI : cI C) (hT : c_v 6 C h) (hD : c_d 6 C h) (hR : h.2.2.1 0 3 = some 6) (hS : sC 36 s h)  (hQ : Q (some (.int (d_153 C s y))) h) : am_call am_cod 4 153 [.ref 0, .int y] h Q := by
  have h6 := hT.1.2.1
  have h5 := hT.2.1.2.1
  refine pz_call (n := 153) (nL := 5) (rt := (some .int)) (rows := am_r153) (d := 3) (by decide +kernel) (by decide +kernel) rfl (by funext pc; rfl) (ex_175 hP) (by exact Nat.le_of_ble_eq_true rfl) ?_
  refine am_goX 2 (show am_sh h 0 = some (10, 0) ∧ pz_S 5 (some .int) am_r153 3 Q 4 [(0, .ref 0), (1, .int y)] [am_rf (h.2.2.1 0 3)] h from ⟨ex_0 hP, ?_⟩)
  rw [show am_rf (h.2.2.1 0 3) = .ref 6 from congrArg am_rf (hR)]
  refine am_goX 2 (show am_sh h 0 = some (10, 0) ∧ pz_S 5 (some .int) am_r153 3 Q 8 [(0, .ref 0), (1, .int y)] [am_rf (h.2.2.1 0 7), .ref 6] h from ⟨ex_0 hP, ?_⟩)
  rw [show am_rf (h.2.2.1 0 7) = .ref 36 from congrArg am_rf (ex_r0_7 hP)]
  refine am_goX 1 (show am_sh h 36 = some (6, 0) ∧ pz_S 5 (some .int) am_r153 3 Q 11 [(0, .ref 0), (1, .int y)] [.int (h.1 36 0), .ref 6] h from ⟨ex_36 hP, ?_⟩)
  rw [show h.1 36 0 = s.1 from hS.1.1]
  refine am_goX 1 (show am_rc h 6 0 ∧ 0 ≤ 8 ∧ h.2.2.2.2 + am_al 68 ≤ 175 ∧ am_call am_cod 3 68 [.ref 6, .int s.1] h (fun vv h' => pz_S 5 (some .int) am_r153 3 Q 14 [(0, .ref 0), (1, .int y)] (vv.toList ++ []) h') from ⟨Or.inl ⟨by decide, ex_6 hP⟩, by decide, ex_lim hP rfl, am_call.up (d_68_t6 hP hT ?_) (by decide)⟩)
  refine am_goX 5 (show 2 < 5 ∧ 3 < 5 ∧ 4 < 5 ∧ pz_S 5 (some .int) am_r153 3 Q 20 [(4, .int (Int32.ofInt 0)), (3, .int (Int32.ofInt 0)), (2, .int (d_68 C s.1)), (0, .ref 0), (1, .int y)] [] h from ⟨by decide, by decide, by decide, ?_⟩)
  refine sv_S2 sv2_153 (by intro q hq; simp only [List.mem_cons, List.not_mem_nil, or_false] at hq; rcases hq with rfl | rfl | rfl | rfl | rfl <;> rfl) (d_153_20_N6 (d_68 C s.1) hP hI hT hD hR hS (dP C) 0 (Int32.ofInt 0) (by omega) ?_)
  exact am_goX 2 (show (∃ ty, (some .int) = some ty ∧ narrow ty (.int (d_153_20 C s y (d_68 C s.1) (dP C) 0 (Int32.ofInt 0))) = .int (d_153_20 C s y (d_68 C s.1) (dP C) 0 (Int32.ofInt 0))) ∧ h.2.2.2.2 = 175 ∧ _ from ⟨⟨.int, rfl, rfl⟩, ex_175 hP, hQ⟩)
def d_152_6 (C : sp_C) (s : dS) : Nat → Nat → Int32 → Int32 → Int32 × Int32
  | 0, _, a1, a2 => (a1, a2)
  | m + 1, k, a1, a2 => d_152_6 C s m (k + 1) (if (d_69 (d_153 C s (nI k))) ≤ a1 then a1 else d_69 (d_153 C s (nI k))) (if (d_69 (d_153 C s (nI k))) ≤ a1 then a2 else nI k)
theorem d_152_6_N6 (hP : ex_P h) (hI : cI C) (hT : c_v 6 C h) (hD : c_d 6 C h) (hR : h.2.2.1 0 3 = some 6) (hS : sC 36 s h) : ∀ (m k : Nat) (a1 : Int32) (a2 : Int32), k + m = 7 → (pz_S 5 (some .int) am_r152 4 Q 39 [(2, .int ((d_152_6 C s m k a1 a2).2))] [] h) → pz_S 5 (some .int) am_r152 4 Q 6 [(0, .ref 0), (1, .int a1), (2, .int a2), (3, .int (nI k))] [] h := by
  intro m
  induction m with
  | zero =>
    intro k a1 a2 hk hZ
    have h6 := hT.1.2.1
    have h5 := hT.2.1.2.1
    refine am_goX 3 (show (((Int8.ofInt 7).toInt32) ≤ (nI k) → pz_S 5 (some .int) am_r152 4 Q 39 [(0, .ref 0), (1, .int a1), (2, .int a2), (3, .int (nI k))] [] h) ∧ (¬ (((Int8.ofInt 7).toInt32) ≤ (nI k)) → pz_S 5 (some .int) am_r152 4 Q 12 [(0, .ref 0), (1, .int a1), (2, .int a2), (3, .int (nI k))] [] h) from ⟨fun _ => ?_, fun hz => absurd (show nI 7 ≤ nI k from nI_le (by omega) (by omega)) hz⟩)
    exact sv_S2 sv2_152 (by intro q hq; simp only [List.mem_cons, List.not_mem_nil, or_false] at hq; rcases hq with rfl <;> rfl) (hZ)
  | succ m ih =>
    intro k a1 a2 hk hZ
    have h6 := hT.1.2.1
    have h5 := hT.2.1.2.1
    refine am_goX 3 (show (((Int8.ofInt 7).toInt32) ≤ (nI k) → pz_S 5 (some .int) am_r152 4 Q 39 [(0, .ref 0), (1, .int a1), (2, .int a2), (3, .int (nI k))] [] h) ∧ (¬ (((Int8.ofInt 7).toInt32) ≤ (nI k)) → pz_S 5 (some .int) am_r152 4 Q 12 [(0, .ref 0), (1, .int a1), (2, .int a2), (3, .int (nI k))] [] h) from ⟨fun hz => absurd hz (show ¬ (nI 7 ≤ nI k) by rw [nI_leI (by omega) (by omega)]; omega), fun _ => ?_⟩)
    refine am_goX 3 (show am_rc h 0 10 ∧ 0 ≤ 8 ∧ h.2.2.2.2 + am_al 153 ≤ 175 ∧ am_call am_cod 4 153 [.ref 0, .int (nI k)] h (fun vv h' => pz_S 5 (some .int) am_r152 4 Q 17 [(0, .ref 0), (1, .int a1), (2, .int a2), (3, .int (nI k))] (vv.toList ++ []) h') from ⟨Or.inl ⟨by decide, ex_0 hP⟩, by decide, ex_lim hP rfl, am_call.up (d_153_N6 hP hI hT hD hR hS ?_) (by decide)⟩)
    refine am_goX 1 (show 0 ≤ 8 ∧ h.2.2.2.2 + am_al 69 ≤ 175 ∧ am_call am_cod 4 69 [.int (d_153 C s (nI k))] h (fun vv h' => pz_S 5 (some .int) am_r152 4 Q 20 [(0, .ref 0), (1, .int a1), (2, .int a2), (3, .int (nI k))] (vv.toList ++ []) h') from ⟨by decide, ex_lim hP rfl, am_call.up (d_69_w hP ?_) (by decide)⟩)
    suffices key : ∀ (v5 : Int32) (v6 : Int32), v5 = (if (d_69 (d_153 C s (nI k))) ≤ a1 then a1 else d_69 (d_153 C s (nI k))) → v6 = (if (d_69 (d_153 C s (nI k))) ≤ a1 then a2 else nI k) → pz_S 5 (some .int) am_r152 4 Q 33 [(0, .ref 0), (1, .int v5), (2, .int v6), (3, .int (nI k))] [] h by
      refine am_goX 4 (show 4 < 5 ∧ ((d_69 (d_153 C s (nI k))) ≤ a1 → pz_S 5 (some .int) am_r152 4 Q 33 [(4, .int (d_69 (d_153 C s (nI k)))), (0, .ref 0), (1, .int a1), (2, .int a2), (3, .int (nI k))] [] h) ∧ (¬ ((d_69 (d_153 C s (nI k))) ≤ a1) → pz_S 5 (some .int) am_r152 4 Q 28 [(4, .int (d_69 (d_153 C s (nI k)))), (0, .ref 0), (1, .int a1), (2, .int a2), (3, .int (nI k))] [] h) from ⟨by decide, fun c4 => ?_, fun c4 => ?_⟩)
      · exact sv_S2 sv2_152 (by intro q hq; simp only [List.mem_cons, List.not_mem_nil, or_false] at hq; rcases hq with rfl | rfl | rfl | rfl <;> rfl) (key _ _ (if_pos c4).symm (if_pos c4).symm)
      · refine am_goX 4 (show 1 < 5 ∧ 2 < 5 ∧ pz_S 5 (some .int) am_r152 4 Q 33 [(2, .int (nI k)), (1, .int (d_69 (d_153 C s (nI k)))), (4, .int (d_69 (d_153 C s (nI k)))), (0, .ref 0), (3, .int (nI k))] [] h from ⟨by decide, by decide, ?_⟩)
        exact sv_S2 sv2_152 (by intro q hq; simp only [List.mem_cons, List.not_mem_nil, or_false] at hq; rcases hq with rfl | rfl | rfl | rfl <;> rfl) (key _ _ (if_neg c4).symm (if_neg c4).symm)
    intro v5 v6 e7 e8
    subst e7 e8
    refine am_goX 2 (show 3 < 5 ∧ pz_S 5 (some .int) am_r152 4 Q 6 [(3, .int ((nI k) + (Int32.ofInt 1))), (0, .ref 0), (1, .int (if (d_69 (d_153 C s (nI k))) ≤ a1 then a1 else d_69 (d_153 C s (nI k)))), (2, .int (if (d_69 (d_153 C s (nI k))) ≤ a1 then a2 else nI k))] [] h from ⟨by decide, ?_⟩)
    rw [show (nI k) + (Int32.ofInt 1) = nI (k + 1) from (dn_a rfl rfl)]
    exact sv_S2 sv2_152 (by intro q hq; simp only [List.mem_cons, List.not_mem_nil, or_false] at hq; rcases hq with rfl | rfl | rfl | rfl <;> rfl) (ih (k + 1) (if (d_69 (d_153 C s (nI k))) ≤ a1 then a1 else d_69 (d_153 C s (nI k))) (if (d_69 (d_153 C s (nI k))) ≤ a1 then a2 else nI k) (by omega) hZ)
def d_152 (C : sp_C) (s : dS) : Int32 := (d_152_6 C s 7 0 (Int32.ofInt 0) (Int32.ofInt (-1))).2
theorem d_152_N6 (hP : ex_P h) (hI : cI C) (hT : c_v 6 C h) (hD : c_d 6 C h) (hR : h.2.2.1 0 3 = some 6) (hS : sC 36 s h)  (hQ : Q (some (.int (d_152 C s))) h) : am_call am_cod 5 152 [.ref 0] h Q := by
  have h6 := hT.1.2.1
  have h5 := hT.2.1.2.1
  refine pz_call (n := 152) (nL := 5) (rt := (some .int)) (rows := am_r152) (d := 4) (by decide +kernel) (by decide +kernel) rfl (by funext pc; rfl) (ex_175 hP) (by exact Nat.le_of_ble_eq_true rfl) ?_
  refine am_goX 6 (show 1 < 5 ∧ 2 < 5 ∧ 3 < 5 ∧ pz_S 5 (some .int) am_r152 4 Q 6 [(3, .int (Int32.ofInt 0)), (2, .int (Int32.ofInt (-1))), (1, .int (Int32.ofInt 0)), (0, .ref 0)] [] h from ⟨by decide, by decide, by decide, ?_⟩)
  refine sv_S2 sv2_152 (by intro q hq; simp only [List.mem_cons, List.not_mem_nil, or_false] at hq; rcases hq with rfl | rfl | rfl | rfl <;> rfl) (d_152_6_N6 hP hI hT hD hR hS 7 0 (Int32.ofInt 0) (Int32.ofInt (-1)) (by omega) ?_)
  exact am_goX 2 (show (∃ ty, (some .int) = some ty ∧ narrow ty (.int ((d_152_6 C s 7 0 (Int32.ofInt 0) (Int32.ofInt (-1))).2)) = .int ((d_152_6 C s 7 0 (Int32.ofInt 0) (Int32.ofInt (-1))).2)) ∧ h.2.2.2.2 = 175 ∧ _ from ⟨⟨.int, rfl, rfl⟩, ex_175 hP, hQ⟩)
def d_154 (C : sp_C) (s : dS) : Int32 := (if ¬ (d_152 C s) = (Int32.ofInt (-1)) then (d_90 (((d_152 C s) - s.1) + (Int32.ofInt 3))) - (Int32.ofInt 3) else (Int8.ofInt (-4)).toInt32)
theorem d_154_N6 (hP : ex_P h) (hI : cI C) (hT : c_v 6 C h) (hD : c_d 6 C h) (hR : h.2.2.1 0 3 = some 6) (hS : sC 36 s h)  (hQ : Q (some (.int (d_154 C s))) h) : am_call am_cod 7 154 [.ref 0] h Q := by
  have h6 := hT.1.2.1
  have h5 := hT.2.1.2.1
  refine pz_call (n := 154) (nL := 2) (rt := (some .int)) (rows := am_r154) (d := 6) (by decide +kernel) (by decide +kernel) rfl (by funext pc; rfl) (ex_175 hP) (by exact Nat.le_of_ble_eq_true rfl) ?_
  refine am_goX 2 (show am_rc h 0 10 ∧ 0 ≤ 8 ∧ h.2.2.2.2 + am_al 152 ≤ 175 ∧ am_call am_cod 6 152 [.ref 0] h (fun vv h' => pz_S 2 (some .int) am_r154 6 Q 4 [(0, .ref 0)] (vv.toList ++ []) h') from ⟨Or.inl ⟨by decide, ex_0 hP⟩, by decide, ex_lim hP rfl, am_call.up (d_152_N6 hP hI hT hD hR hS ?_) (by decide)⟩)
  refine am_goX 4 (show 1 < 2 ∧ (¬ (d_152 C s) = (Int32.ofInt (-1)) → pz_S 2 (some .int) am_r154 6 Q 13 [(1, .int (d_152 C s)), (0, .ref 0)] [] h) ∧ (¬ ¬ (d_152 C s) = (Int32.ofInt (-1)) → pz_S 2 (some .int) am_r154 6 Q 10 [(1, .int (d_152 C s)), (0, .ref 0)] [] h) from ⟨by decide, fun c9 => ?_, fun c9 => ?_⟩)
  · refine am_goX 3 (show am_sh h 0 = some (10, 0) ∧ pz_S 2 (some .int) am_r154 6 Q 18 [(1, .int (d_152 C s)), (0, .ref 0)] [am_rf (h.2.2.1 0 7), .int (d_152 C s)] h from ⟨ex_0 hP, ?_⟩)
    rw [show am_rf (h.2.2.1 0 7) = .ref 36 from congrArg am_rf (ex_r0_7 hP)]
    refine am_goX 1 (show am_sh h 36 = some (6, 0) ∧ pz_S 2 (some .int) am_r154 6 Q 21 [(1, .int (d_152 C s)), (0, .ref 0)] [.int (h.1 36 0), .int (d_152 C s)] h from ⟨ex_36 hP, ?_⟩)
    rw [show h.1 36 0 = s.1 from hS.1.1]
    refine am_goX 5 (show 0 ≤ 8 ∧ h.2.2.2.2 + am_al 90 ≤ 175 ∧ am_call am_cod 6 90 [.int (((d_152 C s) - s.1) + (Int32.ofInt 3)), .int ((Int8.ofInt 7).toInt32)] h (fun vv h' => pz_S 2 (some .int) am_r154 6 Q 29 [(1, .int (d_152 C s)), (0, .ref 0)] (vv.toList ++ []) h') from ⟨by decide, ex_lim hP rfl, am_call.up (d_90_w hP ?_) (by decide)⟩)
    exact am_goX 3 (show (∃ ty, (some .int) = some ty ∧ narrow ty (.int ((d_90 (((d_152 C s) - s.1) + (Int32.ofInt 3))) - (Int32.ofInt 3))) = .int ((d_90 (((d_152 C s) - s.1) + (Int32.ofInt 3))) - (Int32.ofInt 3))) ∧ h.2.2.2.2 = 175 ∧ _ from ⟨⟨.int, rfl, rfl⟩, ex_175 hP, dn_q (if_pos c9) hQ⟩)
  · exact am_goX 2 (show (∃ ty, (some .int) = some ty ∧ narrow ty (.int ((Int8.ofInt (-4)).toInt32)) = .int ((Int8.ofInt (-4)).toInt32)) ∧ h.2.2.2.2 = 175 ∧ _ from ⟨⟨.int, rfl, rfl⟩, ex_175 hP, dn_q (if_neg c9) hQ⟩)
def d_155_4 (C : sp_C) (s : dS) : Nat → Nat → Int32 → Int32
  | 0, _, a1 => a1
  | m + 1, k, a1 => d_155_4 C s m (k + 1) (if (d_153 C s (nI k)) = 0 then a1 else a1 + (Int32.ofInt 1))
theorem d_155_4_N6 (hP : ex_P h) (hI : cI C) (hT : c_v 6 C h) (hD : c_d 6 C h) (hR : h.2.2.1 0 3 = some 6) (hS : sC 36 s h) : ∀ (m k : Nat) (a1 : Int32), k + m = 7 → (pz_S 3 (some .int) am_r155 4 Q 27 [(1, .int (d_155_4 C s m k a1))] [] h) → pz_S 3 (some .int) am_r155 4 Q 4 [(0, .ref 0), (1, .int a1), (2, .int (nI k))] [] h := by
  intro m
  induction m with
  | zero =>
    intro k a1 hk hZ
    have h6 := hT.1.2.1
    have h5 := hT.2.1.2.1
    refine am_goX 3 (show (((Int8.ofInt 7).toInt32) ≤ (nI k) → pz_S 3 (some .int) am_r155 4 Q 27 [(0, .ref 0), (1, .int a1), (2, .int (nI k))] [] h) ∧ (¬ (((Int8.ofInt 7).toInt32) ≤ (nI k)) → pz_S 3 (some .int) am_r155 4 Q 10 [(0, .ref 0), (1, .int a1), (2, .int (nI k))] [] h) from ⟨fun _ => ?_, fun hz => absurd (show nI 7 ≤ nI k from nI_le (by omega) (by omega)) hz⟩)
    exact sv_S2 sv2_155 (by intro q hq; simp only [List.mem_cons, List.not_mem_nil, or_false] at hq; rcases hq with rfl <;> rfl) (hZ)
  | succ m ih =>
    intro k a1 hk hZ
    have h6 := hT.1.2.1
    have h5 := hT.2.1.2.1
    refine am_goX 3 (show (((Int8.ofInt 7).toInt32) ≤ (nI k) → pz_S 3 (some .int) am_r155 4 Q 27 [(0, .ref 0), (1, .int a1), (2, .int (nI k))] [] h) ∧ (¬ (((Int8.ofInt 7).toInt32) ≤ (nI k)) → pz_S 3 (some .int) am_r155 4 Q 10 [(0, .ref 0), (1, .int a1), (2, .int (nI k))] [] h) from ⟨fun hz => absurd hz (show ¬ (nI 7 ≤ nI k) by rw [nI_leI (by omega) (by omega)]; omega), fun _ => ?_⟩)
    refine am_goX 3 (show am_rc h 0 10 ∧ 0 ≤ 8 ∧ h.2.2.2.2 + am_al 153 ≤ 175 ∧ am_call am_cod 4 153 [.ref 0, .int (nI k)] h (fun vv h' => pz_S 3 (some .int) am_r155 4 Q 15 [(0, .ref 0), (1, .int a1), (2, .int (nI k))] (vv.toList ++ []) h') from ⟨Or.inl ⟨by decide, ex_0 hP⟩, by decide, ex_lim hP rfl, am_call.up (d_153_N6 hP hI hT hD hR hS ?_) (by decide)⟩)
    suffices key : ∀ (v11 : Int32), v11 = (if (d_153 C s (nI k)) = 0 then a1 else a1 + (Int32.ofInt 1)) → pz_S 3 (some .int) am_r155 4 Q 21 [(0, .ref 0), (1, .int v11), (2, .int (nI k))] [] h by
      refine am_goX 1 (show ((d_153 C s (nI k)) = 0 → pz_S 3 (some .int) am_r155 4 Q 21 [(0, .ref 0), (1, .int a1), (2, .int (nI k))] [] h) ∧ (¬ ((d_153 C s (nI k)) = 0) → pz_S 3 (some .int) am_r155 4 Q 18 [(0, .ref 0), (1, .int a1), (2, .int (nI k))] [] h) from ⟨fun c10 => ?_, fun c10 => ?_⟩)
      · exact sv_S2 sv2_155 (by intro q hq; simp only [List.mem_cons, List.not_mem_nil, or_false] at hq; rcases hq with rfl | rfl | rfl <;> rfl) (key _ (if_pos c10).symm)
      · refine am_goX 1 (show 1 < 3 ∧ pz_S 3 (some .int) am_r155 4 Q 21 [(1, .int (a1 + (Int32.ofInt 1))), (0, .ref 0), (2, .int (nI k))] [] h from ⟨by decide, ?_⟩)
        exact sv_S2 sv2_155 (by intro q hq; simp only [List.mem_cons, List.not_mem_nil, or_false] at hq; rcases hq with rfl | rfl | rfl <;> rfl) (key _ (if_neg c10).symm)
    intro v11 e12
    subst e12
    refine am_goX 2 (show 2 < 3 ∧ pz_S 3 (some .int) am_r155 4 Q 4 [(2, .int ((nI k) + (Int32.ofInt 1))), (0, .ref 0), (1, .int (if (d_153 C s (nI k)) = 0 then a1 else a1 + (Int32.ofInt 1)))] [] h from ⟨by decide, ?_⟩)
    rw [show (nI k) + (Int32.ofInt 1) = nI (k + 1) from (dn_a rfl rfl)]
    exact sv_S2 sv2_155 (by intro q hq; simp only [List.mem_cons, List.not_mem_nil, or_false] at hq; rcases hq with rfl | rfl | rfl <;> rfl) (ih (k + 1) (if (d_153 C s (nI k)) = 0 then a1 else a1 + (Int32.ofInt 1)) (by omega) hZ)
def d_155 (C : sp_C) (s : dS) : Int32 := d_155_4 C s 7 0 (Int32.ofInt 0)
theorem d_155_N6 (hP : ex_P h) (hI : cI C) (hT : c_v 6 C h) (hD : c_d 6 C h) (hR : h.2.2.1 0 3 = some 6) (hS : sC 36 s h)  (hQ : Q (some (.int (d_155 C s))) h) : am_call am_cod 5 155 [.ref 0] h Q := by
  have h6 := hT.1.2.1
  have h5 := hT.2.1.2.1
  refine pz_call (n := 155) (nL := 3) (rt := (some .int)) (rows := am_r155) (d := 4) (by decide +kernel) (by decide +kernel) rfl (by funext pc; rfl) (ex_175 hP) (by exact Nat.le_of_ble_eq_true rfl) ?_
  refine am_goX 4 (show 1 < 3 ∧ 2 < 3 ∧ pz_S 3 (some .int) am_r155 4 Q 4 [(2, .int (Int32.ofInt 0)), (1, .int (Int32.ofInt 0)), (0, .ref 0)] [] h from ⟨by decide, by decide, ?_⟩)
  refine sv_S2 sv2_155 (by intro q hq; simp only [List.mem_cons, List.not_mem_nil, or_false] at hq; rcases hq with rfl | rfl | rfl <;> rfl) (d_155_4_N6 hP hI hT hD hR hS 7 0 (Int32.ofInt 0) (by omega) ?_)
  exact am_goX 2 (show (∃ ty, (some .int) = some ty ∧ narrow ty (.int (d_155_4 C s 7 0 (Int32.ofInt 0))) = .int (d_155_4 C s 7 0 (Int32.ofInt 0))) ∧ h.2.2.2.2 = 175 ∧ _ from ⟨⟨.int, rfl, rfl⟩, ex_175 hP, hQ⟩)
def d_156_4 (C : sp_C) (s : dS) : Nat → Nat → Int32 → Int32
  | 0, _, a1 => a1
  | m + 1, k, a1 => d_156_4 C s m (k + 1) (a1 + (((d_69 (d_153 C s (nI k))) * ((d_69 (d_153 C s (nI k))) - (Int32.ofInt 1))) / (Int32.ofInt 2)))
theorem d_156_4_N6 (hP : ex_P h) (hI : cI C) (hT : c_v 6 C h) (hD : c_d 6 C h) (hR : h.2.2.1 0 3 = some 6) (hS : sC 36 s h) : ∀ (m k : Nat) (a1 : Int32), k + m = 7 → (pz_S 4 (some .int) am_r156 4 Q 35 [(1, .int (d_156_4 C s m k a1))] [] h) → pz_S 4 (some .int) am_r156 4 Q 4 [(0, .ref 0), (1, .int a1), (2, .int (nI k))] [] h := by
  intro m
  induction m with
  | zero =>
    intro k a1 hk hZ
    have h6 := hT.1.2.1
    have h5 := hT.2.1.2.1
    refine am_goX 3 (show (((Int8.ofInt 7).toInt32) ≤ (nI k) → pz_S 4 (some .int) am_r156 4 Q 35 [(0, .ref 0), (1, .int a1), (2, .int (nI k))] [] h) ∧ (¬ (((Int8.ofInt 7).toInt32) ≤ (nI k)) → pz_S 4 (some .int) am_r156 4 Q 10 [(0, .ref 0), (1, .int a1), (2, .int (nI k))] [] h) from ⟨fun _ => ?_, fun hz => absurd (show nI 7 ≤ nI k from nI_le (by omega) (by omega)) hz⟩)
    exact sv_S2 sv2_156 (by intro q hq; simp only [List.mem_cons, List.not_mem_nil, or_false] at hq; rcases hq with rfl <;> rfl) (hZ)
  | succ m ih =>
    intro k a1 hk hZ
    have h6 := hT.1.2.1
    have h5 := hT.2.1.2.1
    refine am_goX 3 (show (((Int8.ofInt 7).toInt32) ≤ (nI k) → pz_S 4 (some .int) am_r156 4 Q 35 [(0, .ref 0), (1, .int a1), (2, .int (nI k))] [] h) ∧ (¬ (((Int8.ofInt 7).toInt32) ≤ (nI k)) → pz_S 4 (some .int) am_r156 4 Q 10 [(0, .ref 0), (1, .int a1), (2, .int (nI k))] [] h) from ⟨fun hz => absurd hz (show ¬ (nI 7 ≤ nI k) by rw [nI_leI (by omega) (by omega)]; omega), fun _ => ?_⟩)
    refine am_goX 3 (show am_rc h 0 10 ∧ 0 ≤ 8 ∧ h.2.2.2.2 + am_al 153 ≤ 175 ∧ am_call am_cod 4 153 [.ref 0, .int (nI k)] h (fun vv h' => pz_S 4 (some .int) am_r156 4 Q 15 [(0, .ref 0), (1, .int a1), (2, .int (nI k))] (vv.toList ++ []) h') from ⟨Or.inl ⟨by decide, ex_0 hP⟩, by decide, ex_lim hP rfl, am_call.up (d_153_N6 hP hI hT hD hR hS ?_) (by decide)⟩)
    refine am_goX 1 (show 0 ≤ 8 ∧ h.2.2.2.2 + am_al 69 ≤ 175 ∧ am_call am_cod 4 69 [.int (d_153 C s (nI k))] h (fun vv h' => pz_S 4 (some .int) am_r156 4 Q 18 [(0, .ref 0), (1, .int a1), (2, .int (nI k))] (vv.toList ++ []) h') from ⟨by decide, ex_lim hP rfl, am_call.up (d_69_w hP ?_) (by decide)⟩)
    refine am_goX 13 (show 3 < 4 ∧ ¬ (Int32.ofInt 2) = 0 ∧ 1 < 4 ∧ 2 < 4 ∧ pz_S 4 (some .int) am_r156 4 Q 4 [(2, .int ((nI k) + (Int32.ofInt 1))), (1, .int (a1 + (((d_69 (d_153 C s (nI k))) * ((d_69 (d_153 C s (nI k))) - (Int32.ofInt 1))) / (Int32.ofInt 2)))), (3, .int (d_69 (d_153 C s (nI k)))), (0, .ref 0)] [] h from ⟨by decide, by decide, by decide, by decide, ?_⟩)
    rw [show (nI k) + (Int32.ofInt 1) = nI (k + 1) from (dn_a rfl rfl)]
    exact sv_S2 sv2_156 (by intro q hq; simp only [List.mem_cons, List.not_mem_nil, or_false] at hq; rcases hq with rfl | rfl | rfl <;> rfl) (ih (k + 1) (a1 + (((d_69 (d_153 C s (nI k))) * ((d_69 (d_153 C s (nI k))) - (Int32.ofInt 1))) / (Int32.ofInt 2))) (by omega) hZ)
def d_156 (C : sp_C) (s : dS) : Int32 := d_156_4 C s 7 0 (Int32.ofInt 0)
theorem d_156_N6 (hP : ex_P h) (hI : cI C) (hT : c_v 6 C h) (hD : c_d 6 C h) (hR : h.2.2.1 0 3 = some 6) (hS : sC 36 s h)  (hQ : Q (some (.int (d_156 C s))) h) : am_call am_cod 5 156 [.ref 0] h Q := by
  have h6 := hT.1.2.1
  have h5 := hT.2.1.2.1
  refine pz_call (n := 156) (nL := 4) (rt := (some .int)) (rows := am_r156) (d := 4) (by decide +kernel) (by decide +kernel) rfl (by funext pc; rfl) (ex_175 hP) (by exact Nat.le_of_ble_eq_true rfl) ?_
  refine am_goX 4 (show 1 < 4 ∧ 2 < 4 ∧ pz_S 4 (some .int) am_r156 4 Q 4 [(2, .int (Int32.ofInt 0)), (1, .int (Int32.ofInt 0)), (0, .ref 0)] [] h from ⟨by decide, by decide, ?_⟩)
  refine sv_S2 sv2_156 (by intro q hq; simp only [List.mem_cons, List.not_mem_nil, or_false] at hq; rcases hq with rfl | rfl | rfl <;> rfl) (d_156_4_N6 hP hI hT hD hR hS 7 0 (Int32.ofInt 0) (by omega) ?_)
  exact am_goX 2 (show (∃ ty, (some .int) = some ty ∧ narrow ty (.int (d_156_4 C s 7 0 (Int32.ofInt 0))) = .int (d_156_4 C s 7 0 (Int32.ofInt 0))) ∧ h.2.2.2.2 = 175 ∧ _ from ⟨⟨.int, rfl, rfl⟩, ex_175 hP, hQ⟩)
def d_157 (C : sp_C) (s : dS) : Int32 := d_153 C s (s.1 - s.1 / ((Int8.ofInt 7).toInt32) * ((Int8.ofInt 7).toInt32))
theorem d_157_N6 (hP : ex_P h) (hI : cI C) (hT : c_v 6 C h) (hD : c_d 6 C h) (hR : h.2.2.1 0 3 = some 6) (hS : sC 36 s h)  (hQ : Q (some (.int (d_157 C s))) h) : am_call am_cod 5 157 [.ref 0] h Q := by
  have h6 := hT.1.2.1
  have h5 := hT.2.1.2.1
  refine pz_call (n := 157) (nL := 1) (rt := (some .int)) (rows := am_r157) (d := 4) (by decide +kernel) (by decide +kernel) rfl (by funext pc; rfl) (ex_175 hP) (by exact Nat.le_of_ble_eq_true rfl) ?_
  refine am_goX 3 (show am_sh h 0 = some (10, 0) ∧ pz_S 1 (some .int) am_r157 4 Q 5 [(0, .ref 0)] [am_rf (h.2.2.1 0 7), .ref 0] h from ⟨ex_0 hP, ?_⟩)
  rw [show am_rf (h.2.2.1 0 7) = .ref 36 from congrArg am_rf (ex_r0_7 hP)]
  refine am_goX 1 (show am_sh h 36 = some (6, 0) ∧ pz_S 1 (some .int) am_r157 4 Q 8 [(0, .ref 0)] [.int (h.1 36 0), .ref 0] h from ⟨ex_36 hP, ?_⟩)
  rw [show h.1 36 0 = s.1 from hS.1.1]
  refine am_goX 3 (show ¬ ((Int8.ofInt 7).toInt32) = 0 ∧ am_rc h 0 10 ∧ 0 ≤ 8 ∧ h.2.2.2.2 + am_al 153 ≤ 175 ∧ am_call am_cod 4 153 [.ref 0, .int (s.1 - s.1 / ((Int8.ofInt 7).toInt32) * ((Int8.ofInt 7).toInt32))] h (fun vv h' => pz_S 1 (some .int) am_r157 4 Q 14 [(0, .ref 0)] (vv.toList ++ []) h') from ⟨by decide, Or.inl ⟨by decide, ex_0 hP⟩, by decide, ex_lim hP rfl, am_call.up (d_153_N6 hP hI hT hD hR hS ?_) (by decide)⟩)
  exact am_goX 1 (show (∃ ty, (some .int) = some ty ∧ narrow ty (.int (d_153 C s (s.1 - s.1 / ((Int8.ofInt 7).toInt32) * ((Int8.ofInt 7).toInt32)))) = .int (d_153 C s (s.1 - s.1 / ((Int8.ofInt 7).toInt32) * ((Int8.ofInt 7).toInt32)))) ∧ h.2.2.2.2 = 175 ∧ _ from ⟨⟨.int, rfl, rfl⟩, ex_175 hP, hQ⟩)
theorem d_153_20_N17 (x2 : Int32) (hP : ex_P h) (hI : cI C) (hT : c_v 17 C h) (hD : c_d 17 C h) (hR : h.2.2.1 0 3 = some 17) (hS : sC 36 s h) : ∀ (m k : Nat) (a3 : Int32), k + m = dP C → (pz_S 5 (some .int) am_r153 3 Q 63 [(3, .int (d_153_20 C s y x2 m k a3))] [] h) → pz_S 5 (some .int) am_r153 3 Q 20 [(0, .ref 0), (1, .int y), (2, .int x2), (3, .int a3), (4, .int (nI k))] [] h := by
  intro m
  induction m with
  | zero =>
    intro k a3 hk hZ
    have h6 := hT.1.2.1
    have h5 := hT.2.1.2.1
    refine am_goX 3 (show am_sh h 0 = some (10, 0) ∧ pz_S 5 (some .int) am_r153 3 Q 26 [(0, .ref 0), (1, .int y), (2, .int x2), (3, .int a3), (4, .int (nI k))] [am_rf (h.2.2.1 0 3), .int (nI k)] h from ⟨ex_0 hP, ?_⟩)
    rw [show am_rf (h.2.2.1 0 3) = .ref 17 from congrArg am_rf (hR)]
    refine am_goX 1 (show am_sh h 17 = some (0, 0) ∧ pz_S 5 (some .int) am_r153 3 Q 29 [(0, .ref 0), (1, .int y), (2, .int x2), (3, .int a3), (4, .int (nI k))] [.int (h.1 17 0), .int (nI k)] h from ⟨ex_17 hP, ?_⟩)
    rw [show h.1 17 0 = nI (dP C) from hT.1.1]
    refine am_goX 1 (show ((nI (dP C)) ≤ (nI k) → pz_S 5 (some .int) am_r153 3 Q 63 [(0, .ref 0), (1, .int y), (2, .int x2), (3, .int a3), (4, .int (nI k))] [] h) ∧ (¬ ((nI (dP C)) ≤ (nI k)) → pz_S 5 (some .int) am_r153 3 Q 32 [(0, .ref 0), (1, .int y), (2, .int x2), (3, .int a3), (4, .int (nI k))] [] h) from ⟨fun _ => ?_, fun hz => absurd (show nI (dP C) ≤ nI k from nI_le (by omega) (by omega)) hz⟩)
    exact sv_S2 sv2_153 (by intro q hq; simp only [List.mem_cons, List.not_mem_nil, or_false] at hq; rcases hq with rfl <;> rfl) (hZ)
  | succ m ih =>
    intro k a3 hk hZ
    have h6 := hT.1.2.1
    have h5 := hT.2.1.2.1
    refine am_goX 3 (show am_sh h 0 = some (10, 0) ∧ pz_S 5 (some .int) am_r153 3 Q 26 [(0, .ref 0), (1, .int y), (2, .int x2), (3, .int a3), (4, .int (nI k))] [am_rf (h.2.2.1 0 3), .int (nI k)] h from ⟨ex_0 hP, ?_⟩)
    rw [show am_rf (h.2.2.1 0 3) = .ref 17 from congrArg am_rf (hR)]
    refine am_goX 1 (show am_sh h 17 = some (0, 0) ∧ pz_S 5 (some .int) am_r153 3 Q 29 [(0, .ref 0), (1, .int y), (2, .int x2), (3, .int a3), (4, .int (nI k))] [.int (h.1 17 0), .int (nI k)] h from ⟨ex_17 hP, ?_⟩)
    rw [show h.1 17 0 = nI (dP C) from hT.1.1]
    refine am_goX 1 (show ((nI (dP C)) ≤ (nI k) → pz_S 5 (some .int) am_r153 3 Q 63 [(0, .ref 0), (1, .int y), (2, .int x2), (3, .int a3), (4, .int (nI k))] [] h) ∧ (¬ ((nI (dP C)) ≤ (nI k)) → pz_S 5 (some .int) am_r153 3 Q 32 [(0, .ref 0), (1, .int y), (2, .int x2), (3, .int a3), (4, .int (nI k))] [] h) from ⟨fun hz => absurd hz (show ¬ (nI (dP C) ≤ nI k) by rw [nI_leI (by omega) (by omega)]; omega), fun _ => ?_⟩)
    refine am_goX 2 (show am_sh h 0 = some (10, 0) ∧ pz_S 5 (some .int) am_r153 3 Q 36 [(0, .ref 0), (1, .int y), (2, .int x2), (3, .int a3), (4, .int (nI k))] [am_rf (h.2.2.1 0 3)] h from ⟨ex_0 hP, ?_⟩)
    rw [show am_rf (h.2.2.1 0 3) = .ref 17 from congrArg am_rf (hR)]
    refine am_goX 3 (show am_sh h 0 = some (10, 0) ∧ pz_S 5 (some .int) am_r153 3 Q 42 [(0, .ref 0), (1, .int y), (2, .int x2), (3, .int a3), (4, .int (nI k))] [am_rf (h.2.2.1 0 7), .int (nI k), .ref 17] h from ⟨ex_0 hP, ?_⟩)
    rw [show am_rf (h.2.2.1 0 7) = .ref 36 from congrArg am_rf (ex_r0_7 hP)]
    refine am_goX 2 (show am_rc h 17 0 ∧ 0 ≤ 8 ∧ h.2.2.2.2 + am_al 88 ≤ 175 ∧ am_call am_cod 3 88 [.ref 17, .int (nI k), .ref 36, .int x2] h (fun vv h' => pz_S 5 (some .int) am_r153 3 Q 46 [(0, .ref 0), (1, .int y), (2, .int x2), (3, .int a3), (4, .int (nI k))] (vv.toList ++ []) h') from ⟨Or.inl ⟨by decide, ex_17 hP⟩, by decide, ex_lim hP rfl, am_call.up (d_88_t17_36 hP hI hT hD hS (fC_0 (c := 17) (h := h)) (by omega) ?_) (by decide)⟩)
    suffices key : ∀ (v14 : Int32), v14 = (if ¬ (d_88 C s k x2) = y then a3 else a3 ||| ((Int32.ofInt 1) <<< ((nI k) &&& 31))) → pz_S 5 (some .int) am_r153 3 Q 57 [(0, .ref 0), (1, .int y), (2, .int x2), (3, .int v14), (4, .int (nI k))] [] h by
      refine am_goX 2 (show (¬ (d_88 C s k x2) = y → pz_S 5 (some .int) am_r153 3 Q 57 [(0, .ref 0), (1, .int y), (2, .int x2), (3, .int a3), (4, .int (nI k))] [] h) ∧ (¬ ¬ (d_88 C s k x2) = y → pz_S 5 (some .int) am_r153 3 Q 50 [(0, .ref 0), (1, .int y), (2, .int x2), (3, .int a3), (4, .int (nI k))] [] h) from ⟨fun c13 => ?_, fun c13 => ?_⟩)
      · exact sv_S2 sv2_153 (by intro q hq; simp only [List.mem_cons, List.not_mem_nil, or_false] at hq; rcases hq with rfl | rfl | rfl | rfl | rfl <;> rfl) (key _ (if_pos c13).symm)
      · refine am_goX 6 (show 3 < 5 ∧ pz_S 5 (some .int) am_r153 3 Q 57 [(3, .int (a3 ||| ((Int32.ofInt 1) <<< ((nI k) &&& 31)))), (0, .ref 0), (1, .int y), (2, .int x2), (4, .int (nI k))] [] h from ⟨by decide, ?_⟩)
        exact sv_S2 sv2_153 (by intro q hq; simp only [List.mem_cons, List.not_mem_nil, or_false] at hq; rcases hq with rfl | rfl | rfl | rfl | rfl <;> rfl) (key _ (if_neg c13).symm)
    intro v14 e15
    subst e15
    refine am_goX 2 (show 4 < 5 ∧ pz_S 5 (some .int) am_r153 3 Q 20 [(4, .int ((nI k) + (Int32.ofInt 1))), (0, .ref 0), (1, .int y), (2, .int x2), (3, .int (if ¬ (d_88 C s k x2) = y then a3 else a3 ||| ((Int32.ofInt 1) <<< ((nI k) &&& 31))))] [] h from ⟨by decide, ?_⟩)
    rw [show (nI k) + (Int32.ofInt 1) = nI (k + 1) from (dn_a rfl rfl)]
    exact sv_S2 sv2_153 (by intro q hq; simp only [List.mem_cons, List.not_mem_nil, or_false] at hq; rcases hq with rfl | rfl | rfl | rfl | rfl <;> rfl) (ih (k + 1) (if ¬ (d_88 C s k x2) = y then a3 else a3 ||| ((Int32.ofInt 1) <<< ((nI k) &&& 31))) (by omega) hZ)
theorem d_153_N17 (hP : ex_P h) (hI : cI C) (hT : c_v 17 C h) (hD : c_d 17 C h) (hR : h.2.2.1 0 3 = some 17) (hS : sC 36 s h)  (hQ : Q (some (.int (d_153 C s y))) h) : am_call am_cod 4 153 [.ref 0, .int y] h Q := by
  have h6 := hT.1.2.1
  have h5 := hT.2.1.2.1
  refine pz_call (n := 153) (nL := 5) (rt := (some .int)) (rows := am_r153) (d := 3) (by decide +kernel) (by decide +kernel) rfl (by funext pc; rfl) (ex_175 hP) (by exact Nat.le_of_ble_eq_true rfl) ?_
  refine am_goX 2 (show am_sh h 0 = some (10, 0) ∧ pz_S 5 (some .int) am_r153 3 Q 4 [(0, .ref 0), (1, .int y)] [am_rf (h.2.2.1 0 3)] h from ⟨ex_0 hP, ?_⟩)
  rw [show am_rf (h.2.2.1 0 3) = .ref 17 from congrArg am_rf (hR)]
  refine am_goX 2 (show am_sh h 0 = some (10, 0) ∧ pz_S 5 (some .int) am_r153 3 Q 8 [(0, .ref 0), (1, .int y)] [am_rf (h.2.2.1 0 7), .ref 17] h from ⟨ex_0 hP, ?_⟩)
  rw [show am_rf (h.2.2.1 0 7) = .ref 36 from congrArg am_rf (ex_r0_7 hP)]
  refine am_goX 1 (show am_sh h 36 = some (6, 0) ∧ pz_S 5 (some .int) am_r153 3 Q 11 [(0, .ref 0), (1, .int y)] [.int (h.1 36 0), .ref 17] h from ⟨ex_36 hP, ?_⟩)
  rw [show h.1 36 0 = s.1 from hS.1.1]
  refine am_goX 1 (show am_rc h 17 0 ∧ 0 ≤ 8 ∧ h.2.2.2.2 + am_al 68 ≤ 175 ∧ am_call am_cod 3 68 [.ref 17, .int s.1] h (fun vv h' => pz_S 5 (some .int) am_r153 3 Q 14 [(0, .ref 0), (1, .int y)] (vv.toList ++ []) h') from ⟨Or.inl ⟨by decide, ex_17 hP⟩, by decide, ex_lim hP rfl, am_call.up (d_68_t17 hP hT ?_) (by decide)⟩)
  refine am_goX 5 (show 2 < 5 ∧ 3 < 5 ∧ 4 < 5 ∧ pz_S 5 (some .int) am_r153 3 Q 20 [(4, .int (Int32.ofInt 0)), (3, .int (Int32.ofInt 0)), (2, .int (d_68 C s.1)), (0, .ref 0), (1, .int y)] [] h from ⟨by decide, by decide, by decide, ?_⟩)
  refine sv_S2 sv2_153 (by intro q hq; simp only [List.mem_cons, List.not_mem_nil, or_false] at hq; rcases hq with rfl | rfl | rfl | rfl | rfl <;> rfl) (d_153_20_N17 (d_68 C s.1) hP hI hT hD hR hS (dP C) 0 (Int32.ofInt 0) (by omega) ?_)
  exact am_goX 2 (show (∃ ty, (some .int) = some ty ∧ narrow ty (.int (d_153_20 C s y (d_68 C s.1) (dP C) 0 (Int32.ofInt 0))) = .int (d_153_20 C s y (d_68 C s.1) (dP C) 0 (Int32.ofInt 0))) ∧ h.2.2.2.2 = 175 ∧ _ from ⟨⟨.int, rfl, rfl⟩, ex_175 hP, hQ⟩)
theorem d_152_6_N17 (hP : ex_P h) (hI : cI C) (hT : c_v 17 C h) (hD : c_d 17 C h) (hR : h.2.2.1 0 3 = some 17) (hS : sC 36 s h) : ∀ (m k : Nat) (a1 : Int32) (a2 : Int32), k + m = 7 → (pz_S 5 (some .int) am_r152 4 Q 39 [(2, .int ((d_152_6 C s m k a1 a2).2))] [] h) → pz_S 5 (some .int) am_r152 4 Q 6 [(0, .ref 0), (1, .int a1), (2, .int a2), (3, .int (nI k))] [] h := by
  intro m
  induction m with
  | zero =>
    intro k a1 a2 hk hZ
    have h6 := hT.1.2.1
    have h5 := hT.2.1.2.1
    refine am_goX 3 (show (((Int8.ofInt 7).toInt32) ≤ (nI k) → pz_S 5 (some .int) am_r152 4 Q 39 [(0, .ref 0), (1, .int a1), (2, .int a2), (3, .int (nI k))] [] h) ∧ (¬ (((Int8.ofInt 7).toInt32) ≤ (nI k)) → pz_S 5 (some .int) am_r152 4 Q 12 [(0, .ref 0), (1, .int a1), (2, .int a2), (3, .int (nI k))] [] h) from ⟨fun _ => ?_, fun hz => absurd (show nI 7 ≤ nI k from nI_le (by omega) (by omega)) hz⟩)
    exact sv_S2 sv2_152 (by intro q hq; simp only [List.mem_cons, List.not_mem_nil, or_false] at hq; rcases hq with rfl <;> rfl) (hZ)
  | succ m ih =>
    intro k a1 a2 hk hZ
    have h6 := hT.1.2.1
    have h5 := hT.2.1.2.1
    refine am_goX 3 (show (((Int8.ofInt 7).toInt32) ≤ (nI k) → pz_S 5 (some .int) am_r152 4 Q 39 [(0, .ref 0), (1, .int a1), (2, .int a2), (3, .int (nI k))] [] h) ∧ (¬ (((Int8.ofInt 7).toInt32) ≤ (nI k)) → pz_S 5 (some .int) am_r152 4 Q 12 [(0, .ref 0), (1, .int a1), (2, .int a2), (3, .int (nI k))] [] h) from ⟨fun hz => absurd hz (show ¬ (nI 7 ≤ nI k) by rw [nI_leI (by omega) (by omega)]; omega), fun _ => ?_⟩)
    refine am_goX 3 (show am_rc h 0 10 ∧ 0 ≤ 8 ∧ h.2.2.2.2 + am_al 153 ≤ 175 ∧ am_call am_cod 4 153 [.ref 0, .int (nI k)] h (fun vv h' => pz_S 5 (some .int) am_r152 4 Q 17 [(0, .ref 0), (1, .int a1), (2, .int a2), (3, .int (nI k))] (vv.toList ++ []) h') from ⟨Or.inl ⟨by decide, ex_0 hP⟩, by decide, ex_lim hP rfl, am_call.up (d_153_N17 hP hI hT hD hR hS ?_) (by decide)⟩)
    refine am_goX 1 (show 0 ≤ 8 ∧ h.2.2.2.2 + am_al 69 ≤ 175 ∧ am_call am_cod 4 69 [.int (d_153 C s (nI k))] h (fun vv h' => pz_S 5 (some .int) am_r152 4 Q 20 [(0, .ref 0), (1, .int a1), (2, .int a2), (3, .int (nI k))] (vv.toList ++ []) h') from ⟨by decide, ex_lim hP rfl, am_call.up (d_69_w hP ?_) (by decide)⟩)
    suffices key : ∀ (v17 : Int32) (v18 : Int32), v17 = (if (d_69 (d_153 C s (nI k))) ≤ a1 then a1 else d_69 (d_153 C s (nI k))) → v18 = (if (d_69 (d_153 C s (nI k))) ≤ a1 then a2 else nI k) → pz_S 5 (some .int) am_r152 4 Q 33 [(0, .ref 0), (1, .int v17), (2, .int v18), (3, .int (nI k))] [] h by
      refine am_goX 4 (show 4 < 5 ∧ ((d_69 (d_153 C s (nI k))) ≤ a1 → pz_S 5 (some .int) am_r152 4 Q 33 [(4, .int (d_69 (d_153 C s (nI k)))), (0, .ref 0), (1, .int a1), (2, .int a2), (3, .int (nI k))] [] h) ∧ (¬ ((d_69 (d_153 C s (nI k))) ≤ a1) → pz_S 5 (some .int) am_r152 4 Q 28 [(4, .int (d_69 (d_153 C s (nI k)))), (0, .ref 0), (1, .int a1), (2, .int a2), (3, .int (nI k))] [] h) from ⟨by decide, fun c16 => ?_, fun c16 => ?_⟩)
      · exact sv_S2 sv2_152 (by intro q hq; simp only [List.mem_cons, List.not_mem_nil, or_false] at hq; rcases hq with rfl | rfl | rfl | rfl <;> rfl) (key _ _ (if_pos c16).symm (if_pos c16).symm)
      · refine am_goX 4 (show 1 < 5 ∧ 2 < 5 ∧ pz_S 5 (some .int) am_r152 4 Q 33 [(2, .int (nI k)), (1, .int (d_69 (d_153 C s (nI k)))), (4, .int (d_69 (d_153 C s (nI k)))), (0, .ref 0), (3, .int (nI k))] [] h from ⟨by decide, by decide, ?_⟩)
        exact sv_S2 sv2_152 (by intro q hq; simp only [List.mem_cons, List.not_mem_nil, or_false] at hq; rcases hq with rfl | rfl | rfl | rfl <;> rfl) (key _ _ (if_neg c16).symm (if_neg c16).symm)
    intro v17 v18 e19 e20
    subst e19 e20
    refine am_goX 2 (show 3 < 5 ∧ pz_S 5 (some .int) am_r152 4 Q 6 [(3, .int ((nI k) + (Int32.ofInt 1))), (0, .ref 0), (1, .int (if (d_69 (d_153 C s (nI k))) ≤ a1 then a1 else d_69 (d_153 C s (nI k)))), (2, .int (if (d_69 (d_153 C s (nI k))) ≤ a1 then a2 else nI k))] [] h from ⟨by decide, ?_⟩)
    rw [show (nI k) + (Int32.ofInt 1) = nI (k + 1) from (dn_a rfl rfl)]
    exact sv_S2 sv2_152 (by intro q hq; simp only [List.mem_cons, List.not_mem_nil, or_false] at hq; rcases hq with rfl | rfl | rfl | rfl <;> rfl) (ih (k + 1) (if (d_69 (d_153 C s (nI k))) ≤ a1 then a1 else d_69 (d_153 C s (nI k))) (if (d_69 (d_153 C s (nI k))) ≤ a1 then a2 else nI k) (by omega) hZ)
theorem d_152_N17 (hP : ex_P h) (hI : cI C) (hT : c_v 17 C h) (hD : c_d 17 C h) (hR : h.2.2.1 0 3 = some 17) (hS : sC 36 s h)  (hQ : Q (some (.int (d_152 C s))) h) : am_call am_cod 5 152 [.ref 0] h Q := by
  have h6 := hT.1.2.1
  have h5 := hT.2.1.2.1
  refine pz_call (n := 152) (nL := 5) (rt := (some .int)) (rows := am_r152) (d := 4) (by decide +kernel) (by decide +kernel) rfl (by funext pc; rfl) (ex_175 hP) (by exact Nat.le_of_ble_eq_true rfl) ?_
  refine am_goX 6 (show 1 < 5 ∧ 2 < 5 ∧ 3 < 5 ∧ pz_S 5 (some .int) am_r152 4 Q 6 [(3, .int (Int32.ofInt 0)), (2, .int (Int32.ofInt (-1))), (1, .int (Int32.ofInt 0)), (0, .ref 0)] [] h from ⟨by decide, by decide, by decide, ?_⟩)
  refine sv_S2 sv2_152 (by intro q hq; simp only [List.mem_cons, List.not_mem_nil, or_false] at hq; rcases hq with rfl | rfl | rfl | rfl <;> rfl) (d_152_6_N17 hP hI hT hD hR hS 7 0 (Int32.ofInt 0) (Int32.ofInt (-1)) (by omega) ?_)
  exact am_goX 2 (show (∃ ty, (some .int) = some ty ∧ narrow ty (.int ((d_152_6 C s 7 0 (Int32.ofInt 0) (Int32.ofInt (-1))).2)) = .int ((d_152_6 C s 7 0 (Int32.ofInt 0) (Int32.ofInt (-1))).2)) ∧ h.2.2.2.2 = 175 ∧ _ from ⟨⟨.int, rfl, rfl⟩, ex_175 hP, hQ⟩)
theorem d_154_N17 (hP : ex_P h) (hI : cI C) (hT : c_v 17 C h) (hD : c_d 17 C h) (hR : h.2.2.1 0 3 = some 17) (hS : sC 36 s h)  (hQ : Q (some (.int (d_154 C s))) h) : am_call am_cod 7 154 [.ref 0] h Q := by
  have h6 := hT.1.2.1
  have h5 := hT.2.1.2.1
  refine pz_call (n := 154) (nL := 2) (rt := (some .int)) (rows := am_r154) (d := 6) (by decide +kernel) (by decide +kernel) rfl (by funext pc; rfl) (ex_175 hP) (by exact Nat.le_of_ble_eq_true rfl) ?_
  refine am_goX 2 (show am_rc h 0 10 ∧ 0 ≤ 8 ∧ h.2.2.2.2 + am_al 152 ≤ 175 ∧ am_call am_cod 6 152 [.ref 0] h (fun vv h' => pz_S 2 (some .int) am_r154 6 Q 4 [(0, .ref 0)] (vv.toList ++ []) h') from ⟨Or.inl ⟨by decide, ex_0 hP⟩, by decide, ex_lim hP rfl, am_call.up (d_152_N17 hP hI hT hD hR hS ?_) (by decide)⟩)
  refine am_goX 4 (show 1 < 2 ∧ (¬ (d_152 C s) = (Int32.ofInt (-1)) → pz_S 2 (some .int) am_r154 6 Q 13 [(1, .int (d_152 C s)), (0, .ref 0)] [] h) ∧ (¬ ¬ (d_152 C s) = (Int32.ofInt (-1)) → pz_S 2 (some .int) am_r154 6 Q 10 [(1, .int (d_152 C s)), (0, .ref 0)] [] h) from ⟨by decide, fun c21 => ?_, fun c21 => ?_⟩)
  · refine am_goX 3 (show am_sh h 0 = some (10, 0) ∧ pz_S 2 (some .int) am_r154 6 Q 18 [(1, .int (d_152 C s)), (0, .ref 0)] [am_rf (h.2.2.1 0 7), .int (d_152 C s)] h from ⟨ex_0 hP, ?_⟩)
    rw [show am_rf (h.2.2.1 0 7) = .ref 36 from congrArg am_rf (ex_r0_7 hP)]
    refine am_goX 1 (show am_sh h 36 = some (6, 0) ∧ pz_S 2 (some .int) am_r154 6 Q 21 [(1, .int (d_152 C s)), (0, .ref 0)] [.int (h.1 36 0), .int (d_152 C s)] h from ⟨ex_36 hP, ?_⟩)
    rw [show h.1 36 0 = s.1 from hS.1.1]
    refine am_goX 5 (show 0 ≤ 8 ∧ h.2.2.2.2 + am_al 90 ≤ 175 ∧ am_call am_cod 6 90 [.int (((d_152 C s) - s.1) + (Int32.ofInt 3)), .int ((Int8.ofInt 7).toInt32)] h (fun vv h' => pz_S 2 (some .int) am_r154 6 Q 29 [(1, .int (d_152 C s)), (0, .ref 0)] (vv.toList ++ []) h') from ⟨by decide, ex_lim hP rfl, am_call.up (d_90_w hP ?_) (by decide)⟩)
    exact am_goX 3 (show (∃ ty, (some .int) = some ty ∧ narrow ty (.int ((d_90 (((d_152 C s) - s.1) + (Int32.ofInt 3))) - (Int32.ofInt 3))) = .int ((d_90 (((d_152 C s) - s.1) + (Int32.ofInt 3))) - (Int32.ofInt 3))) ∧ h.2.2.2.2 = 175 ∧ _ from ⟨⟨.int, rfl, rfl⟩, ex_175 hP, dn_q (if_pos c21) hQ⟩)
  · exact am_goX 2 (show (∃ ty, (some .int) = some ty ∧ narrow ty (.int ((Int8.ofInt (-4)).toInt32)) = .int ((Int8.ofInt (-4)).toInt32)) ∧ h.2.2.2.2 = 175 ∧ _ from ⟨⟨.int, rfl, rfl⟩, ex_175 hP, dn_q (if_neg c21) hQ⟩)
theorem d_155_4_N17 (hP : ex_P h) (hI : cI C) (hT : c_v 17 C h) (hD : c_d 17 C h) (hR : h.2.2.1 0 3 = some 17) (hS : sC 36 s h) : ∀ (m k : Nat) (a1 : Int32), k + m = 7 → (pz_S 3 (some .int) am_r155 4 Q 27 [(1, .int (d_155_4 C s m k a1))] [] h) → pz_S 3 (some .int) am_r155 4 Q 4 [(0, .ref 0), (1, .int a1), (2, .int (nI k))] [] h := by
  intro m
  induction m with
  | zero =>
    intro k a1 hk hZ
    have h6 := hT.1.2.1
    have h5 := hT.2.1.2.1
    refine am_goX 3 (show (((Int8.ofInt 7).toInt32) ≤ (nI k) → pz_S 3 (some .int) am_r155 4 Q 27 [(0, .ref 0), (1, .int a1), (2, .int (nI k))] [] h) ∧ (¬ (((Int8.ofInt 7).toInt32) ≤ (nI k)) → pz_S 3 (some .int) am_r155 4 Q 10 [(0, .ref 0), (1, .int a1), (2, .int (nI k))] [] h) from ⟨fun _ => ?_, fun hz => absurd (show nI 7 ≤ nI k from nI_le (by omega) (by omega)) hz⟩)
    exact sv_S2 sv2_155 (by intro q hq; simp only [List.mem_cons, List.not_mem_nil, or_false] at hq; rcases hq with rfl <;> rfl) (hZ)
  | succ m ih =>
    intro k a1 hk hZ
    have h6 := hT.1.2.1
    have h5 := hT.2.1.2.1
    refine am_goX 3 (show (((Int8.ofInt 7).toInt32) ≤ (nI k) → pz_S 3 (some .int) am_r155 4 Q 27 [(0, .ref 0), (1, .int a1), (2, .int (nI k))] [] h) ∧ (¬ (((Int8.ofInt 7).toInt32) ≤ (nI k)) → pz_S 3 (some .int) am_r155 4 Q 10 [(0, .ref 0), (1, .int a1), (2, .int (nI k))] [] h) from ⟨fun hz => absurd hz (show ¬ (nI 7 ≤ nI k) by rw [nI_leI (by omega) (by omega)]; omega), fun _ => ?_⟩)
    refine am_goX 3 (show am_rc h 0 10 ∧ 0 ≤ 8 ∧ h.2.2.2.2 + am_al 153 ≤ 175 ∧ am_call am_cod 4 153 [.ref 0, .int (nI k)] h (fun vv h' => pz_S 3 (some .int) am_r155 4 Q 15 [(0, .ref 0), (1, .int a1), (2, .int (nI k))] (vv.toList ++ []) h') from ⟨Or.inl ⟨by decide, ex_0 hP⟩, by decide, ex_lim hP rfl, am_call.up (d_153_N17 hP hI hT hD hR hS ?_) (by decide)⟩)
    suffices key : ∀ (v23 : Int32), v23 = (if (d_153 C s (nI k)) = 0 then a1 else a1 + (Int32.ofInt 1)) → pz_S 3 (some .int) am_r155 4 Q 21 [(0, .ref 0), (1, .int v23), (2, .int (nI k))] [] h by
      refine am_goX 1 (show ((d_153 C s (nI k)) = 0 → pz_S 3 (some .int) am_r155 4 Q 21 [(0, .ref 0), (1, .int a1), (2, .int (nI k))] [] h) ∧ (¬ ((d_153 C s (nI k)) = 0) → pz_S 3 (some .int) am_r155 4 Q 18 [(0, .ref 0), (1, .int a1), (2, .int (nI k))] [] h) from ⟨fun c22 => ?_, fun c22 => ?_⟩)
      · exact sv_S2 sv2_155 (by intro q hq; simp only [List.mem_cons, List.not_mem_nil, or_false] at hq; rcases hq with rfl | rfl | rfl <;> rfl) (key _ (if_pos c22).symm)
      · refine am_goX 1 (show 1 < 3 ∧ pz_S 3 (some .int) am_r155 4 Q 21 [(1, .int (a1 + (Int32.ofInt 1))), (0, .ref 0), (2, .int (nI k))] [] h from ⟨by decide, ?_⟩)
        exact sv_S2 sv2_155 (by intro q hq; simp only [List.mem_cons, List.not_mem_nil, or_false] at hq; rcases hq with rfl | rfl | rfl <;> rfl) (key _ (if_neg c22).symm)
    intro v23 e24
    subst e24
    refine am_goX 2 (show 2 < 3 ∧ pz_S 3 (some .int) am_r155 4 Q 4 [(2, .int ((nI k) + (Int32.ofInt 1))), (0, .ref 0), (1, .int (if (d_153 C s (nI k)) = 0 then a1 else a1 + (Int32.ofInt 1)))] [] h from ⟨by decide, ?_⟩)
    rw [show (nI k) + (Int32.ofInt 1) = nI (k + 1) from (dn_a rfl rfl)]
    exact sv_S2 sv2_155 (by intro q hq; simp only [List.mem_cons, List.not_mem_nil, or_false] at hq; rcases hq with rfl | rfl | rfl <;> rfl) (ih (k + 1) (if (d_153 C s (nI k)) = 0 then a1 else a1 + (Int32.ofInt 1)) (by omega) hZ)
theorem d_155_N17 (hP : ex_P h) (hI : cI C) (hT : c_v 17 C h) (hD : c_d 17 C h) (hR : h.2.2.1 0 3 = some 17) (hS : sC 36 s h)  (hQ : Q (some (.int (d_155 C s))) h) : am_call am_cod 5 155 [.ref 0] h Q := by
  have h6 := hT.1.2.1
  have h5 := hT.2.1.2.1
  refine pz_call (n := 155) (nL := 3) (rt := (some .int)) (rows := am_r155) (d := 4) (by decide +kernel) (by decide +kernel) rfl (by funext pc; rfl) (ex_175 hP) (by exact Nat.le_of_ble_eq_true rfl) ?_
  refine am_goX 4 (show 1 < 3 ∧ 2 < 3 ∧ pz_S 3 (some .int) am_r155 4 Q 4 [(2, .int (Int32.ofInt 0)), (1, .int (Int32.ofInt 0)), (0, .ref 0)] [] h from ⟨by decide, by decide, ?_⟩)
  refine sv_S2 sv2_155 (by intro q hq; simp only [List.mem_cons, List.not_mem_nil, or_false] at hq; rcases hq with rfl | rfl | rfl <;> rfl) (d_155_4_N17 hP hI hT hD hR hS 7 0 (Int32.ofInt 0) (by omega) ?_)
  exact am_goX 2 (show (∃ ty, (some .int) = some ty ∧ narrow ty (.int (d_155_4 C s 7 0 (Int32.ofInt 0))) = .int (d_155_4 C s 7 0 (Int32.ofInt 0))) ∧ h.2.2.2.2 = 175 ∧ _ from ⟨⟨.int, rfl, rfl⟩, ex_175 hP, hQ⟩)
theorem d_156_4_N17 (hP : ex_P h) (hI : cI C) (hT : c_v 17 C h) (hD : c_d 17 C h) (hR : h.2.2.1 0 3 = some 17) (hS : sC 36 s h) : ∀ (m k : Nat) (a1 : Int32), k + m = 7 → (pz_S 4 (some .int) am_r156 4 Q 35 [(1, .int (d_156_4 C s m k a1))] [] h) → pz_S 4 (some .int) am_r156 4 Q 4 [(0, .ref 0), (1, .int a1), (2, .int (nI k))] [] h := by
  intro m
  induction m with
  | zero =>
    intro k a1 hk hZ
    have h6 := hT.1.2.1
    have h5 := hT.2.1.2.1
    refine am_goX 3 (show (((Int8.ofInt 7).toInt32) ≤ (nI k) → pz_S 4 (some .int) am_r156 4 Q 35 [(0, .ref 0), (1, .int a1), (2, .int (nI k))] [] h) ∧ (¬ (((Int8.ofInt 7).toInt32) ≤ (nI k)) → pz_S 4 (some .int) am_r156 4 Q 10 [(0, .ref 0), (1, .int a1), (2, .int (nI k))] [] h) from ⟨fun _ => ?_, fun hz => absurd (show nI 7 ≤ nI k from nI_le (by omega) (by omega)) hz⟩)
    exact sv_S2 sv2_156 (by intro q hq; simp only [List.mem_cons, List.not_mem_nil, or_false] at hq; rcases hq with rfl <;> rfl) (hZ)
  | succ m ih =>
    intro k a1 hk hZ
    have h6 := hT.1.2.1
    have h5 := hT.2.1.2.1
    refine am_goX 3 (show (((Int8.ofInt 7).toInt32) ≤ (nI k) → pz_S 4 (some .int) am_r156 4 Q 35 [(0, .ref 0), (1, .int a1), (2, .int (nI k))] [] h) ∧ (¬ (((Int8.ofInt 7).toInt32) ≤ (nI k)) → pz_S 4 (some .int) am_r156 4 Q 10 [(0, .ref 0), (1, .int a1), (2, .int (nI k))] [] h) from ⟨fun hz => absurd hz (show ¬ (nI 7 ≤ nI k) by rw [nI_leI (by omega) (by omega)]; omega), fun _ => ?_⟩)
    refine am_goX 3 (show am_rc h 0 10 ∧ 0 ≤ 8 ∧ h.2.2.2.2 + am_al 153 ≤ 175 ∧ am_call am_cod 4 153 [.ref 0, .int (nI k)] h (fun vv h' => pz_S 4 (some .int) am_r156 4 Q 15 [(0, .ref 0), (1, .int a1), (2, .int (nI k))] (vv.toList ++ []) h') from ⟨Or.inl ⟨by decide, ex_0 hP⟩, by decide, ex_lim hP rfl, am_call.up (d_153_N17 hP hI hT hD hR hS ?_) (by decide)⟩)
    refine am_goX 1 (show 0 ≤ 8 ∧ h.2.2.2.2 + am_al 69 ≤ 175 ∧ am_call am_cod 4 69 [.int (d_153 C s (nI k))] h (fun vv h' => pz_S 4 (some .int) am_r156 4 Q 18 [(0, .ref 0), (1, .int a1), (2, .int (nI k))] (vv.toList ++ []) h') from ⟨by decide, ex_lim hP rfl, am_call.up (d_69_w hP ?_) (by decide)⟩)
    refine am_goX 13 (show 3 < 4 ∧ ¬ (Int32.ofInt 2) = 0 ∧ 1 < 4 ∧ 2 < 4 ∧ pz_S 4 (some .int) am_r156 4 Q 4 [(2, .int ((nI k) + (Int32.ofInt 1))), (1, .int (a1 + (((d_69 (d_153 C s (nI k))) * ((d_69 (d_153 C s (nI k))) - (Int32.ofInt 1))) / (Int32.ofInt 2)))), (3, .int (d_69 (d_153 C s (nI k)))), (0, .ref 0)] [] h from ⟨by decide, by decide, by decide, by decide, ?_⟩)
    rw [show (nI k) + (Int32.ofInt 1) = nI (k + 1) from (dn_a rfl rfl)]
    exact sv_S2 sv2_156 (by intro q hq; simp only [List.mem_cons, List.not_mem_nil, or_false] at hq; rcases hq with rfl | rfl | rfl <;> rfl) (ih (k + 1) (a1 + (((d_69 (d_153 C s (nI k))) * ((d_69 (d_153 C s (nI k))) - (Int32.ofInt 1))) / (Int32.ofInt 2))) (by omega) hZ)
theorem d_156_N17 (hP : ex_P h) (hI : cI C) (hT : c_v 17 C h) (hD : c_d 17 C h) (hR : h.2.2.1 0 3 = some 17) (hS : sC 36 s h)  (hQ : Q (some (.int (d_156 C s))) h) : am_call am_cod 5 156 [.ref 0] h Q := by
  have h6 := hT.1.2.1
  have h5 := hT.2.1.2.1
  refine pz_call (n := 156) (nL := 4) (rt := (some .int)) (rows := am_r156) (d := 4) (by decide +kernel) (by decide +kernel) rfl (by funext pc; rfl) (ex_175 hP) (by exact Nat.le_of_ble_eq_true rfl) ?_
  refine am_goX 4 (show 1 < 4 ∧ 2 < 4 ∧ pz_S 4 (some .int) am_r156 4 Q 4 [(2, .int (Int32.ofInt 0)), (1, .int (Int32.ofInt 0)), (0, .ref 0)] [] h from ⟨by decide, by decide, ?_⟩)
  refine sv_S2 sv2_156 (by intro q hq; simp only [List.mem_cons, List.not_mem_nil, or_false] at hq; rcases hq with rfl | rfl | rfl <;> rfl) (d_156_4_N17 hP hI hT hD hR hS 7 0 (Int32.ofInt 0) (by omega) ?_)
  exact am_goX 2 (show (∃ ty, (some .int) = some ty ∧ narrow ty (.int (d_156_4 C s 7 0 (Int32.ofInt 0))) = .int (d_156_4 C s 7 0 (Int32.ofInt 0))) ∧ h.2.2.2.2 = 175 ∧ _ from ⟨⟨.int, rfl, rfl⟩, ex_175 hP, hQ⟩)
theorem d_157_N17 (hP : ex_P h) (hI : cI C) (hT : c_v 17 C h) (hD : c_d 17 C h) (hR : h.2.2.1 0 3 = some 17) (hS : sC 36 s h)  (hQ : Q (some (.int (d_157 C s))) h) : am_call am_cod 5 157 [.ref 0] h Q := by
  have h6 := hT.1.2.1
  have h5 := hT.2.1.2.1
  refine pz_call (n := 157) (nL := 1) (rt := (some .int)) (rows := am_r157) (d := 4) (by decide +kernel) (by decide +kernel) rfl (by funext pc; rfl) (ex_175 hP) (by exact Nat.le_of_ble_eq_true rfl) ?_
  refine am_goX 3 (show am_sh h 0 = some (10, 0) ∧ pz_S 1 (some .int) am_r157 4 Q 5 [(0, .ref 0)] [am_rf (h.2.2.1 0 7), .ref 0] h from ⟨ex_0 hP, ?_⟩)
  rw [show am_rf (h.2.2.1 0 7) = .ref 36 from congrArg am_rf (ex_r0_7 hP)]
  refine am_goX 1 (show am_sh h 36 = some (6, 0) ∧ pz_S 1 (some .int) am_r157 4 Q 8 [(0, .ref 0)] [.int (h.1 36 0), .ref 0] h from ⟨ex_36 hP, ?_⟩)
  rw [show h.1 36 0 = s.1 from hS.1.1]
  refine am_goX 3 (show ¬ ((Int8.ofInt 7).toInt32) = 0 ∧ am_rc h 0 10 ∧ 0 ≤ 8 ∧ h.2.2.2.2 + am_al 153 ≤ 175 ∧ am_call am_cod 4 153 [.ref 0, .int (s.1 - s.1 / ((Int8.ofInt 7).toInt32) * ((Int8.ofInt 7).toInt32))] h (fun vv h' => pz_S 1 (some .int) am_r157 4 Q 14 [(0, .ref 0)] (vv.toList ++ []) h') from ⟨by decide, Or.inl ⟨by decide, ex_0 hP⟩, by decide, ex_lim hP rfl, am_call.up (d_153_N17 hP hI hT hD hR hS ?_) (by decide)⟩)
  exact am_goX 1 (show (∃ ty, (some .int) = some ty ∧ narrow ty (.int (d_153 C s (s.1 - s.1 / ((Int8.ofInt 7).toInt32) * ((Int8.ofInt 7).toInt32)))) = .int (d_153 C s (s.1 - s.1 / ((Int8.ofInt 7).toInt32) * ((Int8.ofInt 7).toInt32)))) ∧ h.2.2.2.2 = 175 ∧ _ from ⟨⟨.int, rfl, rfl⟩, ex_175 hP, hQ⟩)
def d_273_4 (C : sp_C) (s : dS) (y : Int32) : Nat → Nat → Int32 → Int32
  | 0, _, a2 => a2
  | m + 1, k, a2 => d_273_4 C s y m (k + 1) (a2 + (if ¬ (d_222 C s k) = y then Int32.ofInt 0 else Int32.ofInt 1))
theorem d_273_4_M (hP : ex_P h) (hI : cI C) (hT : tR C h) (hO : ∀ e, e < dE C → h.1 172 e = dW V e) (hS : sR 0 (dP C) s h) : ∀ (m k : Nat) (a2 : Int32), k + m = dP C → (pz_S 4 (some .int) am_r273 4 Q 35 [(2, .int (d_273_4 C s y m k a2))] [] h) → pz_S 4 (some .int) am_r273 4 Q 4 [(0, .ref 154), (1, .int y), (2, .int a2), (3, .int (nI k))] [] h := by
  intro m
  induction m with
  | zero =>
    intro k a2 hk hZ
    have h6 := hT.1.2.1
    have h5 := hT.2.1.2.1
    refine am_goX 3 (show am_rc h 154 11 ∧ 1 ≤ 8 ∧ h.2.2.2.2 + am_al 186 ≤ 175 ∧ am_call am_cod 4 186 [.ref 154] h (fun vv h' => pz_S 4 (some .int) am_r273 4 Q 9 [(0, .ref 154), (1, .int y), (2, .int a2), (3, .int (nI k))] (vv.toList ++ [.int (nI k)]) h') from ⟨Or.inl ⟨by decide, ex_154 hP⟩, by decide, ex_lim hP rfl, am_call.up (d_186_r hP hT ?_) (by decide)⟩)
    refine am_goX 1 (show ((nI (dP C)) ≤ (nI k) → pz_S 4 (some .int) am_r273 4 Q 35 [(0, .ref 154), (1, .int y), (2, .int a2), (3, .int (nI k))] [] h) ∧ (¬ ((nI (dP C)) ≤ (nI k)) → pz_S 4 (some .int) am_r273 4 Q 12 [(0, .ref 154), (1, .int y), (2, .int a2), (3, .int (nI k))] [] h) from ⟨fun _ => ?_, fun hz => absurd (show nI (dP C) ≤ nI k from nI_le (by omega) (by omega)) hz⟩)
    exact sv_S2 sv2_273 (by intro q hq; simp only [List.mem_cons, List.not_mem_nil, or_false] at hq; rcases hq with rfl <;> rfl) (hZ)
  | succ m ih =>
    intro k a2 hk hZ
    have h6 := hT.1.2.1
    have h5 := hT.2.1.2.1
    refine am_goX 3 (show am_rc h 154 11 ∧ 1 ≤ 8 ∧ h.2.2.2.2 + am_al 186 ≤ 175 ∧ am_call am_cod 4 186 [.ref 154] h (fun vv h' => pz_S 4 (some .int) am_r273 4 Q 9 [(0, .ref 154), (1, .int y), (2, .int a2), (3, .int (nI k))] (vv.toList ++ [.int (nI k)]) h') from ⟨Or.inl ⟨by decide, ex_154 hP⟩, by decide, ex_lim hP rfl, am_call.up (d_186_r hP hT ?_) (by decide)⟩)
    refine am_goX 1 (show ((nI (dP C)) ≤ (nI k) → pz_S 4 (some .int) am_r273 4 Q 35 [(0, .ref 154), (1, .int y), (2, .int a2), (3, .int (nI k))] [] h) ∧ (¬ ((nI (dP C)) ≤ (nI k)) → pz_S 4 (some .int) am_r273 4 Q 12 [(0, .ref 154), (1, .int y), (2, .int a2), (3, .int (nI k))] [] h) from ⟨fun hz => absurd hz (show ¬ (nI (dP C) ≤ nI k) by rw [nI_leI (by omega) (by omega)]; omega), fun _ => ?_⟩)
    refine am_goX 4 (show am_rc h 154 11 ∧ 1 ≤ 8 ∧ h.2.2.2.2 + am_al 222 ≤ 175 ∧ am_call am_cod 4 222 [.ref 154, .int (nI k)] h (fun vv h' => pz_S 4 (some .int) am_r273 4 Q 18 [(0, .ref 154), (1, .int y), (2, .int a2), (3, .int (nI k))] (vv.toList ++ [.int a2]) h') from ⟨Or.inl ⟨by decide, ex_154 hP⟩, by decide, ex_lim hP rfl, am_call.up (d_222_r0 hP hI hT hO hS (fR_0 (h := h)) (by omega) ?_) (by decide)⟩)
    suffices key : ∀ (v26 : Int32), v26 = (if ¬ (d_222 C s k) = y then Int32.ofInt 0 else Int32.ofInt 1) → pz_S 4 (some .int) am_r273 4 Q 27 [(0, .ref 154), (1, .int y), (3, .int (nI k))] [.int v26, .int a2] h by
      refine am_goX 2 (show (¬ (d_222 C s k) = y → pz_S 4 (some .int) am_r273 4 Q 26 [(0, .ref 154), (1, .int y), (2, .int a2), (3, .int (nI k))] [.int a2] h) ∧ (¬ ¬ (d_222 C s k) = y → pz_S 4 (some .int) am_r273 4 Q 22 [(0, .ref 154), (1, .int y), (2, .int a2), (3, .int (nI k))] [.int a2] h) from ⟨fun c25 => ?_, fun c25 => ?_⟩)
      · refine am_goX 1 (show pz_S 4 (some .int) am_r273 4 Q 27 [(0, .ref 154), (1, .int y), (2, .int a2), (3, .int (nI k))] [.int (Int32.ofInt 0), .int a2] h from ?_)
        exact sv_S2 sv2_273 (by intro q hq; simp only [List.mem_cons, List.not_mem_nil, or_false] at hq; rcases hq with rfl | rfl | rfl <;> rfl) (key _ (if_pos c25).symm)
      · refine am_goX 2 (show pz_S 4 (some .int) am_r273 4 Q 27 [(0, .ref 154), (1, .int y), (2, .int a2), (3, .int (nI k))] [.int (Int32.ofInt 1), .int a2] h from ?_)
        exact sv_S2 sv2_273 (by intro q hq; simp only [List.mem_cons, List.not_mem_nil, or_false] at hq; rcases hq with rfl | rfl | rfl <;> rfl) (key _ (if_neg c25).symm)
    intro v26 e27
    subst e27
    refine am_goX 4 (show 2 < 4 ∧ 3 < 4 ∧ pz_S 4 (some .int) am_r273 4 Q 4 [(3, .int ((nI k) + (Int32.ofInt 1))), (2, .int (a2 + (if ¬ (d_222 C s k) = y then Int32.ofInt 0 else Int32.ofInt 1))), (0, .ref 154), (1, .int y)] [] h from ⟨by decide, by decide, ?_⟩)
    rw [show (nI k) + (Int32.ofInt 1) = nI (k + 1) from (dn_a rfl rfl)]
    exact sv_S2 sv2_273 (by intro q hq; simp only [List.mem_cons, List.not_mem_nil, or_false] at hq; rcases hq with rfl | rfl | rfl | rfl <;> rfl) (ih (k + 1) (a2 + (if ¬ (d_222 C s k) = y then Int32.ofInt 0 else Int32.ofInt 1)) (by omega) hZ)
def d_273 (C : sp_C) (s : dS) (y : Int32) : Int32 := d_273_4 C s y (dP C) 0 (Int32.ofInt 0)
theorem d_273_M (hP : ex_P h) (hI : cI C) (hT : tR C h) (hO : ∀ e, e < dE C → h.1 172 e = dW V e) (hS : sR 0 (dP C) s h)  (hQ : Q (some (.int (d_273 C s y))) h) : am_call am_cod 5 273 [.ref 154, .int y] h Q := by
  have h6 := hT.1.2.1
  have h5 := hT.2.1.2.1
  refine pz_call (n := 273) (nL := 4) (rt := (some .int)) (rows := am_r273) (d := 4) (by decide +kernel) (by decide +kernel) rfl (by funext pc; rfl) (ex_175 hP) (by exact Nat.le_of_ble_eq_true rfl) ?_
  refine am_goX 4 (show 2 < 4 ∧ 3 < 4 ∧ pz_S 4 (some .int) am_r273 4 Q 4 [(3, .int (Int32.ofInt 0)), (2, .int (Int32.ofInt 0)), (0, .ref 154), (1, .int y)] [] h from ⟨by decide, by decide, ?_⟩)
  refine sv_S2 sv2_273 (by intro q hq; simp only [List.mem_cons, List.not_mem_nil, or_false] at hq; rcases hq with rfl | rfl | rfl | rfl <;> rfl) (d_273_4_M hP hI hT hO hS (dP C) 0 (Int32.ofInt 0) (by omega) ?_)
  exact am_goX 2 (show (∃ ty, (some .int) = some ty ∧ narrow ty (.int (d_273_4 C s y (dP C) 0 (Int32.ofInt 0))) = .int (d_273_4 C s y (dP C) 0 (Int32.ofInt 0))) ∧ h.2.2.2.2 = 175 ∧ _ from ⟨⟨.int, rfl, rfl⟩, ex_175 hP, hQ⟩)
def d_272_6 (C : sp_C) (s : dS) : Nat → Nat → Int32 → Int32 → Int32 × Int32
  | 0, _, a1, a2 => (a1, a2)
  | m + 1, k, a1, a2 => d_272_6 C s m (k + 1) (if (d_273 C s (nI k)) ≤ a2 then a1 else nI k) (if (d_273 C s (nI k)) ≤ a2 then a2 else d_273 C s (nI k))
theorem d_272_6_M (hP : ex_P h) (hI : cI C) (hT : tR C h) (hO : ∀ e, e < dE C → h.1 172 e = dW V e) (hS : sR 0 (dP C) s h) : ∀ (m k : Nat) (a1 : Int32) (a2 : Int32), k + m = 7 → (pz_S 4 (some .int) am_r272 6 Q 52 [(1, .int ((d_272_6 C s m k a1 a2).1))] [] h) → pz_S 4 (some .int) am_r272 6 Q 6 [(0, .ref 154), (1, .int a1), (2, .int a2), (3, .int (nI k))] [] h := by
  intro m
  induction m with
  | zero =>
    intro k a1 a2 hk hZ
    have h6 := hT.1.2.1
    have h5 := hT.2.1.2.1
    refine am_goX 3 (show (((Int8.ofInt 7).toInt32) ≤ (nI k) → pz_S 4 (some .int) am_r272 6 Q 52 [(0, .ref 154), (1, .int a1), (2, .int a2), (3, .int (nI k))] [] h) ∧ (¬ (((Int8.ofInt 7).toInt32) ≤ (nI k)) → pz_S 4 (some .int) am_r272 6 Q 12 [(0, .ref 154), (1, .int a1), (2, .int a2), (3, .int (nI k))] [] h) from ⟨fun _ => ?_, fun hz => absurd (show nI 7 ≤ nI k from nI_le (by omega) (by omega)) hz⟩)
    exact sv_S2 sv2_272 (by intro q hq; simp only [List.mem_cons, List.not_mem_nil, or_false] at hq; rcases hq with rfl <;> rfl) (hZ)
  | succ m ih =>
    intro k a1 a2 hk hZ
    have h6 := hT.1.2.1
    have h5 := hT.2.1.2.1
    refine am_goX 3 (show (((Int8.ofInt 7).toInt32) ≤ (nI k) → pz_S 4 (some .int) am_r272 6 Q 52 [(0, .ref 154), (1, .int a1), (2, .int a2), (3, .int (nI k))] [] h) ∧ (¬ (((Int8.ofInt 7).toInt32) ≤ (nI k)) → pz_S 4 (some .int) am_r272 6 Q 12 [(0, .ref 154), (1, .int a1), (2, .int a2), (3, .int (nI k))] [] h) from ⟨fun hz => absurd hz (show ¬ (nI 7 ≤ nI k) by rw [nI_leI (by omega) (by omega)]; omega), fun _ => ?_⟩)
    refine am_goX 3 (show am_rc h 154 11 ∧ 0 ≤ 8 ∧ h.2.2.2.2 + am_al 273 ≤ 175 ∧ am_call am_cod 6 273 [.ref 154, .int (nI k)] h (fun vv h' => pz_S 4 (some .int) am_r272 6 Q 17 [(0, .ref 154), (1, .int a1), (2, .int a2), (3, .int (nI k))] (vv.toList ++ []) h') from ⟨Or.inl ⟨by decide, ex_154 hP⟩, by decide, ex_lim hP rfl, am_call.up (d_273_M hP hI hT hO hS ?_) (by decide)⟩)
    suffices key : ∀ (v29 : Int32), v29 = (if (d_273 C s (nI k)) ≤ a2 then a1 else nI k) → pz_S 4 (some .int) am_r272 6 Q 26 [(0, .ref 154), (2, .int a2), (3, .int (nI k))] [.int v29] h by
      refine am_goX 2 (show ((d_273 C s (nI k)) ≤ a2 → pz_S 4 (some .int) am_r272 6 Q 25 [(0, .ref 154), (1, .int a1), (2, .int a2), (3, .int (nI k))] [] h) ∧ (¬ ((d_273 C s (nI k)) ≤ a2) → pz_S 4 (some .int) am_r272 6 Q 21 [(0, .ref 154), (1, .int a1), (2, .int a2), (3, .int (nI k))] [] h) from ⟨fun c28 => ?_, fun c28 => ?_⟩)
      · refine am_goX 1 (show pz_S 4 (some .int) am_r272 6 Q 26 [(0, .ref 154), (1, .int a1), (2, .int a2), (3, .int (nI k))] [.int a1] h from ?_)
        exact sv_S2 sv2_272 (by intro q hq; simp only [List.mem_cons, List.not_mem_nil, or_false] at hq; rcases hq with rfl | rfl | rfl <;> rfl) (key _ (if_pos c28).symm)
      · refine am_goX 2 (show pz_S 4 (some .int) am_r272 6 Q 26 [(0, .ref 154), (1, .int a1), (2, .int a2), (3, .int (nI k))] [.int (nI k)] h from ?_)
        exact sv_S2 sv2_272 (by intro q hq; simp only [List.mem_cons, List.not_mem_nil, or_false] at hq; rcases hq with rfl | rfl | rfl <;> rfl) (key _ (if_neg c28).symm)
    intro v29 e30
    subst e30
    refine am_goX 4 (show 1 < 4 ∧ am_rc h 154 11 ∧ 0 ≤ 8 ∧ h.2.2.2.2 + am_al 273 ≤ 175 ∧ am_call am_cod 6 273 [.ref 154, .int (nI k)] h (fun vv h' => pz_S 4 (some .int) am_r272 6 Q 32 [(1, .int (if (d_273 C s (nI k)) ≤ a2 then a1 else nI k)), (0, .ref 154), (2, .int a2), (3, .int (nI k))] (vv.toList ++ []) h') from ⟨by decide, Or.inl ⟨by decide, ex_154 hP⟩, by decide, ex_lim hP rfl, am_call.up (d_273_M hP hI hT hO hS ?_) (by decide)⟩)
    suffices key : ∀ (v32 : Int32), v32 = (if (d_273 C s (nI k)) ≤ a2 then a2 else d_273 C s (nI k)) → pz_S 4 (some .int) am_r272 6 Q 45 [(0, .ref 154), (1, .int (if (d_273 C s (nI k)) ≤ a2 then a1 else nI k)), (3, .int (nI k))] [.int v32] h by
      refine am_goX 2 (show ((d_273 C s (nI k)) ≤ a2 → pz_S 4 (some .int) am_r272 6 Q 44 [(1, .int (if (d_273 C s (nI k)) ≤ a2 then a1 else nI k)), (0, .ref 154), (2, .int a2), (3, .int (nI k))] [] h) ∧ (¬ ((d_273 C s (nI k)) ≤ a2) → pz_S 4 (some .int) am_r272 6 Q 36 [(1, .int (if (d_273 C s (nI k)) ≤ a2 then a1 else nI k)), (0, .ref 154), (2, .int a2), (3, .int (nI k))] [] h) from ⟨fun c31 => ?_, fun c31 => ?_⟩)
      · refine am_goX 1 (show pz_S 4 (some .int) am_r272 6 Q 45 [(1, .int (if (d_273 C s (nI k)) ≤ a2 then a1 else nI k)), (0, .ref 154), (2, .int a2), (3, .int (nI k))] [.int a2] h from ?_)
        exact sv_S2 sv2_272 (by intro q hq; simp only [List.mem_cons, List.not_mem_nil, or_false] at hq; rcases hq with rfl | rfl | rfl <;> rfl) (key _ (if_pos c31).symm)
      · refine am_goX 3 (show am_rc h 154 11 ∧ 0 ≤ 8 ∧ h.2.2.2.2 + am_al 273 ≤ 175 ∧ am_call am_cod 6 273 [.ref 154, .int (nI k)] h (fun vv h' => pz_S 4 (some .int) am_r272 6 Q 41 [(1, .int (if (d_273 C s (nI k)) ≤ a2 then a1 else nI k)), (0, .ref 154), (2, .int a2), (3, .int (nI k))] (vv.toList ++ []) h') from ⟨Or.inl ⟨by decide, ex_154 hP⟩, by decide, ex_lim hP rfl, am_call.up (d_273_M hP hI hT hO hS ?_) (by decide)⟩)
        refine am_goX 1 (show pz_S 4 (some .int) am_r272 6 Q 45 [(1, .int (if (d_273 C s (nI k)) ≤ a2 then a1 else nI k)), (0, .ref 154), (2, .int a2), (3, .int (nI k))] [.int (d_273 C s (nI k))] h from ?_)
        exact sv_S2 sv2_272 (by intro q hq; simp only [List.mem_cons, List.not_mem_nil, or_false] at hq; rcases hq with rfl | rfl | rfl <;> rfl) (key _ (if_neg c31).symm)
    intro v32 e33
    subst e33
    refine am_goX 3 (show 2 < 4 ∧ 3 < 4 ∧ pz_S 4 (some .int) am_r272 6 Q 6 [(3, .int ((nI k) + (Int32.ofInt 1))), (2, .int (if (d_273 C s (nI k)) ≤ a2 then a2 else d_273 C s (nI k))), (0, .ref 154), (1, .int (if (d_273 C s (nI k)) ≤ a2 then a1 else nI k))] [] h from ⟨by decide, by decide, ?_⟩)
    rw [show (nI k) + (Int32.ofInt 1) = nI (k + 1) from (dn_a rfl rfl)]
    exact sv_S2 sv2_272 (by intro q hq; simp only [List.mem_cons, List.not_mem_nil, or_false] at hq; rcases hq with rfl | rfl | rfl | rfl <;> rfl) (ih (k + 1) (if (d_273 C s (nI k)) ≤ a2 then a1 else nI k) (if (d_273 C s (nI k)) ≤ a2 then a2 else d_273 C s (nI k)) (by omega) hZ)
def d_272 (C : sp_C) (s : dS) : Int32 := (d_272_6 C s 7 0 (Int32.ofInt (-1)) (Int32.ofInt 0)).1
theorem d_272_M (hP : ex_P h) (hI : cI C) (hT : tR C h) (hO : ∀ e, e < dE C → h.1 172 e = dW V e) (hS : sR 0 (dP C) s h)  (hQ : Q (some (.int (d_272 C s))) h) : am_call am_cod 7 272 [.ref 154] h Q := by
  have h6 := hT.1.2.1
  have h5 := hT.2.1.2.1
  refine pz_call (n := 272) (nL := 4) (rt := (some .int)) (rows := am_r272) (d := 6) (by decide +kernel) (by decide +kernel) rfl (by funext pc; rfl) (ex_175 hP) (by exact Nat.le_of_ble_eq_true rfl) ?_
  refine am_goX 6 (show 1 < 4 ∧ 2 < 4 ∧ 3 < 4 ∧ pz_S 4 (some .int) am_r272 6 Q 6 [(3, .int (Int32.ofInt 0)), (2, .int (Int32.ofInt 0)), (1, .int (Int32.ofInt (-1))), (0, .ref 154)] [] h from ⟨by decide, by decide, by decide, ?_⟩)
  refine sv_S2 sv2_272 (by intro q hq; simp only [List.mem_cons, List.not_mem_nil, or_false] at hq; rcases hq with rfl | rfl | rfl | rfl <;> rfl) (d_272_6_M hP hI hT hO hS 7 0 (Int32.ofInt (-1)) (Int32.ofInt 0) (by omega) ?_)
  exact am_goX 2 (show (∃ ty, (some .int) = some ty ∧ narrow ty (.int ((d_272_6 C s 7 0 (Int32.ofInt (-1)) (Int32.ofInt 0)).1)) = .int ((d_272_6 C s 7 0 (Int32.ofInt (-1)) (Int32.ofInt 0)).1)) ∧ h.2.2.2.2 = 175 ∧ _ from ⟨⟨.int, rfl, rfl⟩, ex_175 hP, hQ⟩)
def d_271 (C : sp_C) (s : dS) : Int32 := d_272 C s
theorem d_271_M (hP : ex_P h) (hI : cI C) (hT : tR C h) (hO : ∀ e, e < dE C → h.1 172 e = dW V e) (hS : sR 0 (dP C) s h)  (hQ : ∀ g, Q (some (.int (d_271 C s))) g) : am_call am_cod 9 271 [.ref 154] h Q := by
  have h6 := hT.1.2.1
  have h5 := hT.2.1.2.1
  refine pz_call (n := 271) (nL := 1) (rt := (some .int)) (rows := am_r271) (d := 8) (by decide +kernel) (by decide +kernel) rfl (by funext pc; rfl) (ex_175 hP) (by exact Nat.le_of_ble_eq_true rfl) ?_
  refine am_goX 3 (show am_sh h 154 = some (11, 0) ∧ narrow (am_fty 11 0) (.int (Int32.ofInt 0)) = .int (Int32.ofInt 0) ∧ fits (am_fty 11 0) (.int (Int32.ofInt 0)) = true ∧ pz_S 1 (some .int) am_r271 8 Q 5 [(0, .ref 154)] [] (am_wI h 154 0 (Int32.ofInt 0)) from ⟨ex_154 hP, rfl, rfl, ?_⟩)
  have f35 : ex_P (am_wI h 154 0 (Int32.ofInt 0)) := hP
  have f36 : cI C := hI
  have f37 : tR C (am_wI h 154 0 (Int32.ofInt 0)) := tR_w (by omega) hT
  have f38 : ∀ e, e < dE C → (am_wI h 154 0 (Int32.ofInt 0)).1 172 e = dW V e := on_w (by omega) hO
  have f39 : sR 0 (dP C) s (am_wI h 154 0 (Int32.ofInt 0)) := sR_o (by omega) hS
  generalize am_wI h 154 0 (Int32.ofInt 0) = h34 at f35 f36 f37 f38 f39 ⊢
  refine am_goX 2 (show am_rc h34 154 11 ∧ 0 ≤ 8 ∧ h34.2.2.2.2 + am_al 272 ≤ 175 ∧ am_call am_cod 8 272 [.ref 154] h34 (fun vv h' => pz_S 1 (some .int) am_r271 8 Q 9 [(0, .ref 154)] (vv.toList ++ []) h') from ⟨Or.inl ⟨by decide, ex_154 f35⟩, by decide, ex_lim f35 rfl, am_call.up (d_272_M f35 f36 f37 f38 f39 ?_) (by decide)⟩)
  exact am_goX 1 (show (∃ ty, (some .int) = some ty ∧ narrow ty (.int (d_272 C s)) = .int (d_272 C s)) ∧ h34.2.2.2.2 = 175 ∧ _ from ⟨⟨.int, rfl, rfl⟩, ex_175 f35, hQ _⟩)
def d_274 (C : sp_C) (s : dS) : Int32 := (if 0 ≤ (d_272 C s) then (if ((((d_272 C s) - (s.1 - s.1 / ((Int8.ofInt 7).toInt32) * ((Int8.ofInt 7).toInt32))) + ((Int8.ofInt 7).toInt32)) - (((d_272 C s) - (s.1 - s.1 / ((Int8.ofInt 7).toInt32) * ((Int8.ofInt 7).toInt32))) + ((Int8.ofInt 7).toInt32)) / ((Int8.ofInt 7).toInt32) * ((Int8.ofInt 7).toInt32)) ≤ (Int32.ofInt 3) then (((d_272 C s) - (s.1 - s.1 / ((Int8.ofInt 7).toInt32) * ((Int8.ofInt 7).toInt32))) + ((Int8.ofInt 7).toInt32)) - (((d_272 C s) - (s.1 - s.1 / ((Int8.ofInt 7).toInt32) * ((Int8.ofInt 7).toInt32))) + ((Int8.ofInt 7).toInt32)) / ((Int8.ofInt 7).toInt32) * ((Int8.ofInt 7).toInt32) else ((((d_272 C s) - (s.1 - s.1 / ((Int8.ofInt 7).toInt32) * ((Int8.ofInt 7).toInt32))) + ((Int8.ofInt 7).toInt32)) - (((d_272 C s) - (s.1 - s.1 / ((Int8.ofInt 7).toInt32) * ((Int8.ofInt 7).toInt32))) + ((Int8.ofInt 7).toInt32)) / ((Int8.ofInt 7).toInt32) * ((Int8.ofInt 7).toInt32)) - ((Int8.ofInt 7).toInt32)) else (Int8.ofInt (-4)).toInt32)
theorem d_274_M (hP : ex_P h) (hI : cI C) (hT : tR C h) (hO : ∀ e, e < dE C → h.1 172 e = dW V e) (hS : sR 0 (dP C) s h)  (hQ : ∀ g, Q (some (.int (d_274 C s))) g) : am_call am_cod 9 274 [.ref 154] h Q := by
  have h6 := hT.1.2.1
  have h5 := hT.2.1.2.1
  refine pz_call (n := 274) (nL := 3) (rt := (some .int)) (rows := am_r274) (d := 8) (by decide +kernel) (by decide +kernel) rfl (by funext pc; rfl) (ex_175 hP) (by exact Nat.le_of_ble_eq_true rfl) ?_
  refine am_goX 3 (show am_sh h 154 = some (11, 0) ∧ narrow (am_fty 11 0) (.int (Int32.ofInt 0)) = .int (Int32.ofInt 0) ∧ fits (am_fty 11 0) (.int (Int32.ofInt 0)) = true ∧ pz_S 3 (some .int) am_r274 8 Q 5 [(0, .ref 154)] [] (am_wI h 154 0 (Int32.ofInt 0)) from ⟨ex_154 hP, rfl, rfl, ?_⟩)
  have f41 : ex_P (am_wI h 154 0 (Int32.ofInt 0)) := hP
  have f42 : cI C := hI
  have f43 : tR C (am_wI h 154 0 (Int32.ofInt 0)) := tR_w (by omega) hT
  have f44 : ∀ e, e < dE C → (am_wI h 154 0 (Int32.ofInt 0)).1 172 e = dW V e := on_w (by omega) hO
  have f45 : sR 0 (dP C) s (am_wI h 154 0 (Int32.ofInt 0)) := sR_o (by omega) hS
  generalize am_wI h 154 0 (Int32.ofInt 0) = h40 at f41 f42 f43 f44 f45 ⊢
  refine am_goX 2 (show am_rc h40 154 11 ∧ 0 ≤ 8 ∧ h40.2.2.2.2 + am_al 272 ≤ 175 ∧ am_call am_cod 8 272 [.ref 154] h40 (fun vv h' => pz_S 3 (some .int) am_r274 8 Q 9 [(0, .ref 154)] (vv.toList ++ []) h') from ⟨Or.inl ⟨by decide, ex_154 f41⟩, by decide, ex_lim f41 rfl, am_call.up (d_272_M f41 f42 f43 f44 f45 ?_) (by decide)⟩)
  refine am_goX 4 (show 1 < 3 ∧ am_sh h40 154 = some (11, 0) ∧ pz_S 3 (some .int) am_r274 8 Q 15 [(1, .int (d_272 C s)), (0, .ref 154)] [am_rf (h40.2.2.1 154 24), .int (d_272 C s)] h40 from ⟨by decide, ex_154 f41, ?_⟩)
  rw [show am_rf (h40.2.2.1 154 24) = .ref 170 from congrArg am_rf (ex_r154_24 f41)]
  refine am_goX 2 (show ∃ jj nn : Nat, am_sh h40 170 = some (13, nn) ∧ jj < nn ∧ Int32.ofInt 0 = nI jj ∧ pz_S 3 (some .int) am_r274 8 Q 17 [(1, .int (d_272 C s)), (0, .ref 154)] [.int (h40.1 170 jj), .int (d_272 C s)] h40 from ⟨0, 1127, ex_170 f41, (by omega), rfl, ?_⟩)
  rw [show h40.1 170 0 = s.1 from f45.1.1]
  refine am_goX 10 (show ¬ ((Int8.ofInt 7).toInt32) = 0 ∧ ¬ ((Int8.ofInt 7).toInt32) = 0 ∧ 2 < 3 ∧ (0 ≤ (d_272 C s) → pz_S 3 (some .int) am_r274 8 Q 37 [(2, .int ((((d_272 C s) - (s.1 - s.1 / ((Int8.ofInt 7).toInt32) * ((Int8.ofInt 7).toInt32))) + ((Int8.ofInt 7).toInt32)) - (((d_272 C s) - (s.1 - s.1 / ((Int8.ofInt 7).toInt32) * ((Int8.ofInt 7).toInt32))) + ((Int8.ofInt 7).toInt32)) / ((Int8.ofInt 7).toInt32) * ((Int8.ofInt 7).toInt32))), (1, .int (d_272 C s)), (0, .ref 154)] [] h40) ∧ (¬ (0 ≤ (d_272 C s)) → pz_S 3 (some .int) am_r274 8 Q 32 [(2, .int ((((d_272 C s) - (s.1 - s.1 / ((Int8.ofInt 7).toInt32) * ((Int8.ofInt 7).toInt32))) + ((Int8.ofInt 7).toInt32)) - (((d_272 C s) - (s.1 - s.1 / ((Int8.ofInt 7).toInt32) * ((Int8.ofInt 7).toInt32))) + ((Int8.ofInt 7).toInt32)) / ((Int8.ofInt 7).toInt32) * ((Int8.ofInt 7).toInt32))), (1, .int (d_272 C s)), (0, .ref 154)] [] h40) from ⟨by decide, by decide, by decide, fun c46 => ?_, fun c46 => ?_⟩)
  · refine am_goX 3 (show (((((d_272 C s) - (s.1 - s.1 / ((Int8.ofInt 7).toInt32) * ((Int8.ofInt 7).toInt32))) + ((Int8.ofInt 7).toInt32)) - (((d_272 C s) - (s.1 - s.1 / ((Int8.ofInt 7).toInt32) * ((Int8.ofInt 7).toInt32))) + ((Int8.ofInt 7).toInt32)) / ((Int8.ofInt 7).toInt32) * ((Int8.ofInt 7).toInt32)) ≤ (Int32.ofInt 3) → pz_S 3 (some .int) am_r274 8 Q 49 [(2, .int ((((d_272 C s) - (s.1 - s.1 / ((Int8.ofInt 7).toInt32) * ((Int8.ofInt 7).toInt32))) + ((Int8.ofInt 7).toInt32)) - (((d_272 C s) - (s.1 - s.1 / ((Int8.ofInt 7).toInt32) * ((Int8.ofInt 7).toInt32))) + ((Int8.ofInt 7).toInt32)) / ((Int8.ofInt 7).toInt32) * ((Int8.ofInt 7).toInt32))), (1, .int (d_272 C s)), (0, .ref 154)] [] h40) ∧ (¬ (((((d_272 C s) - (s.1 - s.1 / ((Int8.ofInt 7).toInt32) * ((Int8.ofInt 7).toInt32))) + ((Int8.ofInt 7).toInt32)) - (((d_272 C s) - (s.1 - s.1 / ((Int8.ofInt 7).toInt32) * ((Int8.ofInt 7).toInt32))) + ((Int8.ofInt 7).toInt32)) / ((Int8.ofInt 7).toInt32) * ((Int8.ofInt 7).toInt32)) ≤ (Int32.ofInt 3)) → pz_S 3 (some .int) am_r274 8 Q 42 [(2, .int ((((d_272 C s) - (s.1 - s.1 / ((Int8.ofInt 7).toInt32) * ((Int8.ofInt 7).toInt32))) + ((Int8.ofInt 7).toInt32)) - (((d_272 C s) - (s.1 - s.1 / ((Int8.ofInt 7).toInt32) * ((Int8.ofInt 7).toInt32))) + ((Int8.ofInt 7).toInt32)) / ((Int8.ofInt 7).toInt32) * ((Int8.ofInt 7).toInt32))), (1, .int (d_272 C s)), (0, .ref 154)] [] h40) from ⟨fun c47 => ?_, fun c47 => ?_⟩)
    · exact am_goX 2 (show (∃ ty, (some .int) = some ty ∧ narrow ty (.int ((((d_272 C s) - (s.1 - s.1 / ((Int8.ofInt 7).toInt32) * ((Int8.ofInt 7).toInt32))) + ((Int8.ofInt 7).toInt32)) - (((d_272 C s) - (s.1 - s.1 / ((Int8.ofInt 7).toInt32) * ((Int8.ofInt 7).toInt32))) + ((Int8.ofInt 7).toInt32)) / ((Int8.ofInt 7).toInt32) * ((Int8.ofInt 7).toInt32))) = .int ((((d_272 C s) - (s.1 - s.1 / ((Int8.ofInt 7).toInt32) * ((Int8.ofInt 7).toInt32))) + ((Int8.ofInt 7).toInt32)) - (((d_272 C s) - (s.1 - s.1 / ((Int8.ofInt 7).toInt32) * ((Int8.ofInt 7).toInt32))) + ((Int8.ofInt 7).toInt32)) / ((Int8.ofInt 7).toInt32) * ((Int8.ofInt 7).toInt32))) ∧ h40.2.2.2.2 = 175 ∧ _ from ⟨⟨.int, rfl, rfl⟩, ex_175 f41, dn_q ((if_pos c46).trans (if_pos c47)) (hQ _)⟩)
    · exact am_goX 5 (show (∃ ty, (some .int) = some ty ∧ narrow ty (.int (((((d_272 C s) - (s.1 - s.1 / ((Int8.ofInt 7).toInt32) * ((Int8.ofInt 7).toInt32))) + ((Int8.ofInt 7).toInt32)) - (((d_272 C s) - (s.1 - s.1 / ((Int8.ofInt 7).toInt32) * ((Int8.ofInt 7).toInt32))) + ((Int8.ofInt 7).toInt32)) / ((Int8.ofInt 7).toInt32) * ((Int8.ofInt 7).toInt32)) - ((Int8.ofInt 7).toInt32))) = .int (((((d_272 C s) - (s.1 - s.1 / ((Int8.ofInt 7).toInt32) * ((Int8.ofInt 7).toInt32))) + ((Int8.ofInt 7).toInt32)) - (((d_272 C s) - (s.1 - s.1 / ((Int8.ofInt 7).toInt32) * ((Int8.ofInt 7).toInt32))) + ((Int8.ofInt 7).toInt32)) / ((Int8.ofInt 7).toInt32) * ((Int8.ofInt 7).toInt32)) - ((Int8.ofInt 7).toInt32))) ∧ h40.2.2.2.2 = 175 ∧ _ from ⟨⟨.int, rfl, rfl⟩, ex_175 f41, dn_q ((if_pos c46).trans (if_neg c47)) (hQ _)⟩)
  · exact am_goX 3 (show (∃ ty, (some .int) = some ty ∧ narrow ty (.int ((Int8.ofInt (-4)).toInt32)) = .int ((Int8.ofInt (-4)).toInt32)) ∧ h40.2.2.2.2 = 175 ∧ _ from ⟨⟨.int, rfl, rfl⟩, ex_175 f41, dn_q (if_neg c46) (hQ _)⟩)
def d_276_9 (C : sp_C) (s : dS) : Nat → Nat → Int32 → Int32
  | 0, _, a1 => a1
  | m + 1, k, a1 => d_276_9 C s m (k + 1) (a1 + (if (d_273 C s (nI k)) ≤ 0 then Int32.ofInt 0 else Int32.ofInt 1))
theorem d_276_9_M (hP : ex_P h) (hI : cI C) (hT : tR C h) (hO : ∀ e, e < dE C → h.1 172 e = dW V e) (hS : sR 0 (dP C) s h) : ∀ (m k : Nat) (a1 : Int32), k + m = 7 → (pz_S 3 (some .int) am_r276 6 Q 37 [(1, .int (d_276_9 C s m k a1))] [] h) → pz_S 3 (some .int) am_r276 6 Q 9 [(0, .ref 154), (1, .int a1), (2, .int (nI k))] [] h := by
  intro m
  induction m with
  | zero =>
    intro k a1 hk hZ
    have h6 := hT.1.2.1
    have h5 := hT.2.1.2.1
    refine am_goX 3 (show (((Int8.ofInt 7).toInt32) ≤ (nI k) → pz_S 3 (some .int) am_r276 6 Q 37 [(0, .ref 154), (1, .int a1), (2, .int (nI k))] [] h) ∧ (¬ (((Int8.ofInt 7).toInt32) ≤ (nI k)) → pz_S 3 (some .int) am_r276 6 Q 15 [(0, .ref 154), (1, .int a1), (2, .int (nI k))] [] h) from ⟨fun _ => ?_, fun hz => absurd (show nI 7 ≤ nI k from nI_le (by omega) (by omega)) hz⟩)
    exact sv_S2 sv2_276 (by intro q hq; simp only [List.mem_cons, List.not_mem_nil, or_false] at hq; rcases hq with rfl <;> rfl) (hZ)
  | succ m ih =>
    intro k a1 hk hZ
    have h6 := hT.1.2.1
    have h5 := hT.2.1.2.1
    refine am_goX 3 (show (((Int8.ofInt 7).toInt32) ≤ (nI k) → pz_S 3 (some .int) am_r276 6 Q 37 [(0, .ref 154), (1, .int a1), (2, .int (nI k))] [] h) ∧ (¬ (((Int8.ofInt 7).toInt32) ≤ (nI k)) → pz_S 3 (some .int) am_r276 6 Q 15 [(0, .ref 154), (1, .int a1), (2, .int (nI k))] [] h) from ⟨fun hz => absurd hz (show ¬ (nI 7 ≤ nI k) by rw [nI_leI (by omega) (by omega)]; omega), fun _ => ?_⟩)
    refine am_goX 4 (show am_rc h 154 11 ∧ 1 ≤ 8 ∧ h.2.2.2.2 + am_al 273 ≤ 175 ∧ am_call am_cod 6 273 [.ref 154, .int (nI k)] h (fun vv h' => pz_S 3 (some .int) am_r276 6 Q 21 [(0, .ref 154), (1, .int a1), (2, .int (nI k))] (vv.toList ++ [.int a1]) h') from ⟨Or.inl ⟨by decide, ex_154 hP⟩, by decide, ex_lim hP rfl, am_call.up (d_273_M hP hI hT hO hS ?_) (by decide)⟩)
    suffices key : ∀ (v55 : Int32), v55 = (if (d_273 C s (nI k)) ≤ 0 then Int32.ofInt 0 else Int32.ofInt 1) → pz_S 3 (some .int) am_r276 6 Q 29 [(0, .ref 154), (2, .int (nI k))] [.int v55, .int a1] h by
      refine am_goX 1 (show ((d_273 C s (nI k)) ≤ 0 → pz_S 3 (some .int) am_r276 6 Q 28 [(0, .ref 154), (1, .int a1), (2, .int (nI k))] [.int a1] h) ∧ (¬ ((d_273 C s (nI k)) ≤ 0) → pz_S 3 (some .int) am_r276 6 Q 24 [(0, .ref 154), (1, .int a1), (2, .int (nI k))] [.int a1] h) from ⟨fun c54 => ?_, fun c54 => ?_⟩)
      · refine am_goX 1 (show pz_S 3 (some .int) am_r276 6 Q 29 [(0, .ref 154), (1, .int a1), (2, .int (nI k))] [.int (Int32.ofInt 0), .int a1] h from ?_)
        exact sv_S2 sv2_276 (by intro q hq; simp only [List.mem_cons, List.not_mem_nil, or_false] at hq; rcases hq with rfl | rfl <;> rfl) (key _ (if_pos c54).symm)
      · refine am_goX 2 (show pz_S 3 (some .int) am_r276 6 Q 29 [(0, .ref 154), (1, .int a1), (2, .int (nI k))] [.int (Int32.ofInt 1), .int a1] h from ?_)
        exact sv_S2 sv2_276 (by intro q hq; simp only [List.mem_cons, List.not_mem_nil, or_false] at hq; rcases hq with rfl | rfl <;> rfl) (key _ (if_neg c54).symm)
    intro v55 e56
    subst e56
    refine am_goX 4 (show 1 < 3 ∧ 2 < 3 ∧ pz_S 3 (some .int) am_r276 6 Q 9 [(2, .int ((nI k) + (Int32.ofInt 1))), (1, .int (a1 + (if (d_273 C s (nI k)) ≤ 0 then Int32.ofInt 0 else Int32.ofInt 1))), (0, .ref 154)] [] h from ⟨by decide, by decide, ?_⟩)
    rw [show (nI k) + (Int32.ofInt 1) = nI (k + 1) from (dn_a rfl rfl)]
    exact sv_S2 sv2_276 (by intro q hq; simp only [List.mem_cons, List.not_mem_nil, or_false] at hq; rcases hq with rfl | rfl | rfl <;> rfl) (ih (k + 1) (a1 + (if (d_273 C s (nI k)) ≤ 0 then Int32.ofInt 0 else Int32.ofInt 1)) (by omega) hZ)
def d_276 (C : sp_C) (s : dS) : Int32 := d_276_9 C s 7 0 (Int32.ofInt 0)
theorem d_276_M (hP : ex_P h) (hI : cI C) (hT : tR C h) (hO : ∀ e, e < dE C → h.1 172 e = dW V e) (hS : sR 0 (dP C) s h)  (hQ : ∀ g, Q (some (.int (d_276 C s))) g) : am_call am_cod 7 276 [.ref 154] h Q := by
  have h6 := hT.1.2.1
  have h5 := hT.2.1.2.1
  refine pz_call (n := 276) (nL := 3) (rt := (some .int)) (rows := am_r276) (d := 6) (by decide +kernel) (by decide +kernel) rfl (by funext pc; rfl) (ex_175 hP) (by exact Nat.le_of_ble_eq_true rfl) ?_
  refine am_goX 3 (show am_sh h 154 = some (11, 0) ∧ narrow (am_fty 11 0) (.int (Int32.ofInt 0)) = .int (Int32.ofInt 0) ∧ fits (am_fty 11 0) (.int (Int32.ofInt 0)) = true ∧ pz_S 3 (some .int) am_r276 6 Q 5 [(0, .ref 154)] [] (am_wI h 154 0 (Int32.ofInt 0)) from ⟨ex_154 hP, rfl, rfl, ?_⟩)
  have f49 : ex_P (am_wI h 154 0 (Int32.ofInt 0)) := hP
  have f50 : cI C := hI
  have f51 : tR C (am_wI h 154 0 (Int32.ofInt 0)) := tR_w (by omega) hT
  have f52 : ∀ e, e < dE C → (am_wI h 154 0 (Int32.ofInt 0)).1 172 e = dW V e := on_w (by omega) hO
  have f53 : sR 0 (dP C) s (am_wI h 154 0 (Int32.ofInt 0)) := sR_o (by omega) hS
  generalize am_wI h 154 0 (Int32.ofInt 0) = h48 at f49 f50 f51 f52 f53 ⊢
  refine am_goX 4 (show 1 < 3 ∧ 2 < 3 ∧ pz_S 3 (some .int) am_r276 6 Q 9 [(2, .int (Int32.ofInt 0)), (1, .int (Int32.ofInt 0)), (0, .ref 154)] [] h48 from ⟨by decide, by decide, ?_⟩)
  refine sv_S2 sv2_276 (by intro q hq; simp only [List.mem_cons, List.not_mem_nil, or_false] at hq; rcases hq with rfl | rfl | rfl <;> rfl) (d_276_9_M f49 f50 f51 f52 f53 7 0 (Int32.ofInt 0) (by omega) ?_)
  exact am_goX 2 (show (∃ ty, (some .int) = some ty ∧ narrow ty (.int (d_276_9 C s 7 0 (Int32.ofInt 0))) = .int (d_276_9 C s 7 0 (Int32.ofInt 0))) ∧ h48.2.2.2.2 = 175 ∧ _ from ⟨⟨.int, rfl, rfl⟩, ex_175 f49, hQ _⟩)
def d_277_9 (C : sp_C) (s : dS) : Nat → Nat → Int32 → Int32
  | 0, _, a1 => a1
  | m + 1, k, a1 => d_277_9 C s m (k + 1) (a1 + (((d_273 C s (nI k)) * ((d_273 C s (nI k)) - (Int32.ofInt 1))) / (Int32.ofInt 2)))
theorem d_277_9_M (hP : ex_P h) (hI : cI C) (hT : tR C h) (hO : ∀ e, e < dE C → h.1 172 e = dW V e) (hS : sR 0 (dP C) s h) : ∀ (m k : Nat) (a1 : Int32), k + m = 7 → (pz_S 3 (some .int) am_r277 6 Q 39 [(1, .int (d_277_9 C s m k a1))] [] h) → pz_S 3 (some .int) am_r277 6 Q 9 [(0, .ref 154), (1, .int a1), (2, .int (nI k))] [] h := by
  intro m
  induction m with
  | zero =>
    intro k a1 hk hZ
    have h6 := hT.1.2.1
    have h5 := hT.2.1.2.1
    refine am_goX 3 (show (((Int8.ofInt 7).toInt32) ≤ (nI k) → pz_S 3 (some .int) am_r277 6 Q 39 [(0, .ref 154), (1, .int a1), (2, .int (nI k))] [] h) ∧ (¬ (((Int8.ofInt 7).toInt32) ≤ (nI k)) → pz_S 3 (some .int) am_r277 6 Q 15 [(0, .ref 154), (1, .int a1), (2, .int (nI k))] [] h) from ⟨fun _ => ?_, fun hz => absurd (show nI 7 ≤ nI k from nI_le (by omega) (by omega)) hz⟩)
    exact sv_S2 sv2_277 (by intro q hq; simp only [List.mem_cons, List.not_mem_nil, or_false] at hq; rcases hq with rfl <;> rfl) (hZ)
  | succ m ih =>
    intro k a1 hk hZ
    have h6 := hT.1.2.1
    have h5 := hT.2.1.2.1
    refine am_goX 3 (show (((Int8.ofInt 7).toInt32) ≤ (nI k) → pz_S 3 (some .int) am_r277 6 Q 39 [(0, .ref 154), (1, .int a1), (2, .int (nI k))] [] h) ∧ (¬ (((Int8.ofInt 7).toInt32) ≤ (nI k)) → pz_S 3 (some .int) am_r277 6 Q 15 [(0, .ref 154), (1, .int a1), (2, .int (nI k))] [] h) from ⟨fun hz => absurd hz (show ¬ (nI 7 ≤ nI k) by rw [nI_leI (by omega) (by omega)]; omega), fun _ => ?_⟩)
    refine am_goX 4 (show am_rc h 154 11 ∧ 1 ≤ 8 ∧ h.2.2.2.2 + am_al 273 ≤ 175 ∧ am_call am_cod 6 273 [.ref 154, .int (nI k)] h (fun vv h' => pz_S 3 (some .int) am_r277 6 Q 21 [(0, .ref 154), (1, .int a1), (2, .int (nI k))] (vv.toList ++ [.int a1]) h') from ⟨Or.inl ⟨by decide, ex_154 hP⟩, by decide, ex_lim hP rfl, am_call.up (d_273_M hP hI hT hO hS ?_) (by decide)⟩)
    refine am_goX 3 (show am_rc h 154 11 ∧ 2 ≤ 8 ∧ h.2.2.2.2 + am_al 273 ≤ 175 ∧ am_call am_cod 6 273 [.ref 154, .int (nI k)] h (fun vv h' => pz_S 3 (some .int) am_r277 6 Q 26 [(0, .ref 154), (1, .int a1), (2, .int (nI k))] (vv.toList ++ [.int (d_273 C s (nI k)), .int a1]) h') from ⟨Or.inl ⟨by decide, ex_154 hP⟩, by decide, ex_lim hP rfl, am_call.up (d_273_M hP hI hT hO hS ?_) (by decide)⟩)
    refine am_goX 9 (show ¬ (Int32.ofInt 2) = 0 ∧ 1 < 3 ∧ 2 < 3 ∧ pz_S 3 (some .int) am_r277 6 Q 9 [(2, .int ((nI k) + (Int32.ofInt 1))), (1, .int (a1 + (((d_273 C s (nI k)) * ((d_273 C s (nI k)) - (Int32.ofInt 1))) / (Int32.ofInt 2)))), (0, .ref 154)] [] h from ⟨by decide, by decide, by decide, ?_⟩)
    rw [show (nI k) + (Int32.ofInt 1) = nI (k + 1) from (dn_a rfl rfl)]
    exact sv_S2 sv2_277 (by intro q hq; simp only [List.mem_cons, List.not_mem_nil, or_false] at hq; rcases hq with rfl | rfl | rfl <;> rfl) (ih (k + 1) (a1 + (((d_273 C s (nI k)) * ((d_273 C s (nI k)) - (Int32.ofInt 1))) / (Int32.ofInt 2))) (by omega) hZ)
def d_277 (C : sp_C) (s : dS) : Int32 := d_277_9 C s 7 0 (Int32.ofInt 0)
theorem d_277_M (hP : ex_P h) (hI : cI C) (hT : tR C h) (hO : ∀ e, e < dE C → h.1 172 e = dW V e) (hS : sR 0 (dP C) s h)  (hQ : ∀ g, Q (some (.int (d_277 C s))) g) : am_call am_cod 7 277 [.ref 154] h Q := by
  have h6 := hT.1.2.1
  have h5 := hT.2.1.2.1
  refine pz_call (n := 277) (nL := 3) (rt := (some .int)) (rows := am_r277) (d := 6) (by decide +kernel) (by decide +kernel) rfl (by funext pc; rfl) (ex_175 hP) (by exact Nat.le_of_ble_eq_true rfl) ?_
  refine am_goX 3 (show am_sh h 154 = some (11, 0) ∧ narrow (am_fty 11 0) (.int (Int32.ofInt 0)) = .int (Int32.ofInt 0) ∧ fits (am_fty 11 0) (.int (Int32.ofInt 0)) = true ∧ pz_S 3 (some .int) am_r277 6 Q 5 [(0, .ref 154)] [] (am_wI h 154 0 (Int32.ofInt 0)) from ⟨ex_154 hP, rfl, rfl, ?_⟩)
  have f58 : ex_P (am_wI h 154 0 (Int32.ofInt 0)) := hP
  have f59 : cI C := hI
  have f60 : tR C (am_wI h 154 0 (Int32.ofInt 0)) := tR_w (by omega) hT
  have f61 : ∀ e, e < dE C → (am_wI h 154 0 (Int32.ofInt 0)).1 172 e = dW V e := on_w (by omega) hO
  have f62 : sR 0 (dP C) s (am_wI h 154 0 (Int32.ofInt 0)) := sR_o (by omega) hS
  generalize am_wI h 154 0 (Int32.ofInt 0) = h57 at f58 f59 f60 f61 f62 ⊢
  refine am_goX 4 (show 1 < 3 ∧ 2 < 3 ∧ pz_S 3 (some .int) am_r277 6 Q 9 [(2, .int (Int32.ofInt 0)), (1, .int (Int32.ofInt 0)), (0, .ref 154)] [] h57 from ⟨by decide, by decide, ?_⟩)
  refine sv_S2 sv2_277 (by intro q hq; simp only [List.mem_cons, List.not_mem_nil, or_false] at hq; rcases hq with rfl | rfl | rfl <;> rfl) (d_277_9_M f58 f59 f60 f61 f62 7 0 (Int32.ofInt 0) (by omega) ?_)
  exact am_goX 2 (show (∃ ty, (some .int) = some ty ∧ narrow ty (.int (d_277_9 C s 7 0 (Int32.ofInt 0))) = .int (d_277_9 C s 7 0 (Int32.ofInt 0))) ∧ h57.2.2.2.2 = 175 ∧ _ from ⟨⟨.int, rfl, rfl⟩, ex_175 f58, hQ _⟩)
def d_278_9 (C : sp_C) (s : dS) : Nat → Nat → Int32 → Int32
  | 0, _, a1 => a1
  | m + 1, k, a1 => d_278_9 C s m (k + 1) (a1 ||| (if ¬ (d_222 C s k) = (s.1 - s.1 / ((Int8.ofInt 7).toInt32) * ((Int8.ofInt 7).toInt32)) then Int32.ofInt 0 else (Int32.ofInt 1) <<< ((nI k) &&& 31)))
theorem d_278_9_M (hP : ex_P h) (hI : cI C) (hT : tR C h) (hO : ∀ e, e < dE C → h.1 172 e = dW V e) (hS : sR 0 (dP C) s h) : ∀ (m k : Nat) (a1 : Int32), k + m = dP C → (pz_S 3 (some .int) am_r278 6 Q 50 [(1, .int (d_278_9 C s m k a1))] [] h) → pz_S 3 (some .int) am_r278 6 Q 9 [(0, .ref 154), (1, .int a1), (2, .int (nI k))] [] h := by
  intro m
  induction m with
  | zero =>
    intro k a1 hk hZ
    have h6 := hT.1.2.1
    have h5 := hT.2.1.2.1
    refine am_goX 3 (show am_rc h 154 11 ∧ 1 ≤ 8 ∧ h.2.2.2.2 + am_al 186 ≤ 175 ∧ am_call am_cod 6 186 [.ref 154] h (fun vv h' => pz_S 3 (some .int) am_r278 6 Q 14 [(0, .ref 154), (1, .int a1), (2, .int (nI k))] (vv.toList ++ [.int (nI k)]) h') from ⟨Or.inl ⟨by decide, ex_154 hP⟩, by decide, ex_lim hP rfl, am_call.up (d_186_r hP hT ?_) (by decide)⟩)
    refine am_goX 1 (show ((nI (dP C)) ≤ (nI k) → pz_S 3 (some .int) am_r278 6 Q 50 [(0, .ref 154), (1, .int a1), (2, .int (nI k))] [] h) ∧ (¬ ((nI (dP C)) ≤ (nI k)) → pz_S 3 (some .int) am_r278 6 Q 17 [(0, .ref 154), (1, .int a1), (2, .int (nI k))] [] h) from ⟨fun _ => ?_, fun hz => absurd (show nI (dP C) ≤ nI k from nI_le (by omega) (by omega)) hz⟩)
    exact sv_S2 sv2_278 (by intro q hq; simp only [List.mem_cons, List.not_mem_nil, or_false] at hq; rcases hq with rfl <;> rfl) (hZ)
  | succ m ih =>
    intro k a1 hk hZ
    have h6 := hT.1.2.1
    have h5 := hT.2.1.2.1
    refine am_goX 3 (show am_rc h 154 11 ∧ 1 ≤ 8 ∧ h.2.2.2.2 + am_al 186 ≤ 175 ∧ am_call am_cod 6 186 [.ref 154] h (fun vv h' => pz_S 3 (some .int) am_r278 6 Q 14 [(0, .ref 154), (1, .int a1), (2, .int (nI k))] (vv.toList ++ [.int (nI k)]) h') from ⟨Or.inl ⟨by decide, ex_154 hP⟩, by decide, ex_lim hP rfl, am_call.up (d_186_r hP hT ?_) (by decide)⟩)
    refine am_goX 1 (show ((nI (dP C)) ≤ (nI k) → pz_S 3 (some .int) am_r278 6 Q 50 [(0, .ref 154), (1, .int a1), (2, .int (nI k))] [] h) ∧ (¬ ((nI (dP C)) ≤ (nI k)) → pz_S 3 (some .int) am_r278 6 Q 17 [(0, .ref 154), (1, .int a1), (2, .int (nI k))] [] h) from ⟨fun hz => absurd hz (show ¬ (nI (dP C) ≤ nI k) by rw [nI_leI (by omega) (by omega)]; omega), fun _ => ?_⟩)
    refine am_goX 4 (show am_rc h 154 11 ∧ 1 ≤ 8 ∧ h.2.2.2.2 + am_al 222 ≤ 175 ∧ am_call am_cod 6 222 [.ref 154, .int (nI k)] h (fun vv h' => pz_S 3 (some .int) am_r278 6 Q 23 [(0, .ref 154), (1, .int a1), (2, .int (nI k))] (vv.toList ++ [.int a1]) h') from ⟨Or.inl ⟨by decide, ex_154 hP⟩, by decide, ex_lim hP rfl, am_call.up (d_222_r0 hP hI hT hO hS (fR_0 (h := h)) (by omega) ?_) (by decide)⟩)
    refine am_goX 2 (show am_sh h 154 = some (11, 0) ∧ pz_S 3 (some .int) am_r278 6 Q 27 [(0, .ref 154), (1, .int a1), (2, .int (nI k))] [am_rf (h.2.2.1 154 24), .int (d_222 C s k), .int a1] h from ⟨ex_154 hP, ?_⟩)
    rw [show am_rf (h.2.2.1 154 24) = .ref 170 from congrArg am_rf (ex_r154_24 hP)]
    refine am_goX 2 (show ∃ jj nn : Nat, am_sh h 170 = some (13, nn) ∧ jj < nn ∧ Int32.ofInt 0 = nI jj ∧ pz_S 3 (some .int) am_r278 6 Q 29 [(0, .ref 154), (1, .int a1), (2, .int (nI k))] [.int (h.1 170 jj), .int (d_222 C s k), .int a1] h from ⟨0, 1127, ex_170 hP, (by omega), rfl, ?_⟩)
    rw [show h.1 170 0 = s.1 from hS.1.1]
    suffices key : ∀ (v70 : Int32), v70 = (if ¬ (d_222 C s k) = (s.1 - s.1 / ((Int8.ofInt 7).toInt32) * ((Int8.ofInt 7).toInt32)) then Int32.ofInt 0 else (Int32.ofInt 1) <<< ((nI k) &&& 31)) → pz_S 3 (some .int) am_r278 6 Q 42 [(0, .ref 154), (2, .int (nI k))] [.int v70, .int a1] h by
      refine am_goX 3 (show ¬ ((Int8.ofInt 7).toInt32) = 0 ∧ (¬ (d_222 C s k) = (s.1 - s.1 / ((Int8.ofInt 7).toInt32) * ((Int8.ofInt 7).toInt32)) → pz_S 3 (some .int) am_r278 6 Q 41 [(0, .ref 154), (1, .int a1), (2, .int (nI k))] [.int a1] h) ∧ (¬ ¬ (d_222 C s k) = (s.1 - s.1 / ((Int8.ofInt 7).toInt32) * ((Int8.ofInt 7).toInt32)) → pz_S 3 (some .int) am_r278 6 Q 35 [(0, .ref 154), (1, .int a1), (2, .int (nI k))] [.int a1] h) from ⟨by decide, fun c69 => ?_, fun c69 => ?_⟩)
      · refine am_goX 1 (show pz_S 3 (some .int) am_r278 6 Q 42 [(0, .ref 154), (1, .int a1), (2, .int (nI k))] [.int (Int32.ofInt 0), .int a1] h from ?_)
        exact sv_S2 sv2_278 (by intro q hq; simp only [List.mem_cons, List.not_mem_nil, or_false] at hq; rcases hq with rfl | rfl <;> rfl) (key _ (if_pos c69).symm)
      · refine am_goX 4 (show pz_S 3 (some .int) am_r278 6 Q 42 [(0, .ref 154), (1, .int a1), (2, .int (nI k))] [.int ((Int32.ofInt 1) <<< ((nI k) &&& 31)), .int a1] h from ?_)
        exact sv_S2 sv2_278 (by intro q hq; simp only [List.mem_cons, List.not_mem_nil, or_false] at hq; rcases hq with rfl | rfl <;> rfl) (key _ (if_neg c69).symm)
    intro v70 e71
    subst e71
    refine am_goX 4 (show 1 < 3 ∧ 2 < 3 ∧ pz_S 3 (some .int) am_r278 6 Q 9 [(2, .int ((nI k) + (Int32.ofInt 1))), (1, .int (a1 ||| (if ¬ (d_222 C s k) = (s.1 - s.1 / ((Int8.ofInt 7).toInt32) * ((Int8.ofInt 7).toInt32)) then Int32.ofInt 0 else (Int32.ofInt 1) <<< ((nI k) &&& 31)))), (0, .ref 154)] [] h from ⟨by decide, by decide, ?_⟩)
    rw [show (nI k) + (Int32.ofInt 1) = nI (k + 1) from (dn_a rfl rfl)]
    exact sv_S2 sv2_278 (by intro q hq; simp only [List.mem_cons, List.not_mem_nil, or_false] at hq; rcases hq with rfl | rfl | rfl <;> rfl) (ih (k + 1) (a1 ||| (if ¬ (d_222 C s k) = (s.1 - s.1 / ((Int8.ofInt 7).toInt32) * ((Int8.ofInt 7).toInt32)) then Int32.ofInt 0 else (Int32.ofInt 1) <<< ((nI k) &&& 31))) (by omega) hZ)
def d_278 (C : sp_C) (s : dS) : Int32 := d_278_9 C s (dP C) 0 (Int32.ofInt 0)
theorem d_278_M (hP : ex_P h) (hI : cI C) (hT : tR C h) (hO : ∀ e, e < dE C → h.1 172 e = dW V e) (hS : sR 0 (dP C) s h)  (hQ : ∀ g, Q (some (.int (d_278 C s))) g) : am_call am_cod 7 278 [.ref 154] h Q := by
  have h6 := hT.1.2.1
  have h5 := hT.2.1.2.1
  refine pz_call (n := 278) (nL := 3) (rt := (some .int)) (rows := am_r278) (d := 6) (by decide +kernel) (by decide +kernel) rfl (by funext pc; rfl) (ex_175 hP) (by exact Nat.le_of_ble_eq_true rfl) ?_
  refine am_goX 3 (show am_sh h 154 = some (11, 0) ∧ narrow (am_fty 11 0) (.int (Int32.ofInt 0)) = .int (Int32.ofInt 0) ∧ fits (am_fty 11 0) (.int (Int32.ofInt 0)) = true ∧ pz_S 3 (some .int) am_r278 6 Q 5 [(0, .ref 154)] [] (am_wI h 154 0 (Int32.ofInt 0)) from ⟨ex_154 hP, rfl, rfl, ?_⟩)
  have f64 : ex_P (am_wI h 154 0 (Int32.ofInt 0)) := hP
  have f65 : cI C := hI
  have f66 : tR C (am_wI h 154 0 (Int32.ofInt 0)) := tR_w (by omega) hT
  have f67 : ∀ e, e < dE C → (am_wI h 154 0 (Int32.ofInt 0)).1 172 e = dW V e := on_w (by omega) hO
  have f68 : sR 0 (dP C) s (am_wI h 154 0 (Int32.ofInt 0)) := sR_o (by omega) hS
  generalize am_wI h 154 0 (Int32.ofInt 0) = h63 at f64 f65 f66 f67 f68 ⊢
  refine am_goX 4 (show 1 < 3 ∧ 2 < 3 ∧ pz_S 3 (some .int) am_r278 6 Q 9 [(2, .int (Int32.ofInt 0)), (1, .int (Int32.ofInt 0)), (0, .ref 154)] [] h63 from ⟨by decide, by decide, ?_⟩)
  refine sv_S2 sv2_278 (by intro q hq; simp only [List.mem_cons, List.not_mem_nil, or_false] at hq; rcases hq with rfl | rfl | rfl <;> rfl) (d_278_9_M f64 f65 f66 f67 f68 (dP C) 0 (Int32.ofInt 0) (by omega) ?_)
  exact am_goX 2 (show (∃ ty, (some .int) = some ty ∧ narrow ty (.int (d_278_9 C s (dP C) 0 (Int32.ofInt 0))) = .int (d_278_9 C s (dP C) 0 (Int32.ofInt 0))) ∧ h63.2.2.2.2 = 175 ∧ _ from ⟨⟨.int, rfl, rfl⟩, ex_175 f64, hQ _⟩)
theorem bc1 : ∀ k, k < 6 → ∀ a, a < 64 → a < 2 ^ k → d_69 (nI a ||| ((Int32.ofInt 1) <<< ((nI k) &&& 31))) = d_69 (nI a) + Int32.ofInt 1 ∧ bN (nI a ||| ((Int32.ofInt 1) <<< ((nI k) &&& 31))) < 2 ^ (k + 1) := by decide +kernel
theorem bc1x {k : Nat} (hk : k < 6) {a : Int32} (ha : bN a < 2 ^ k) : d_69 (a ||| ((Int32.ofInt 1) <<< ((nI k) &&& 31))) = d_69 a + Int32.ofInt 1 ∧ bN (a ||| ((Int32.ofInt 1) <<< ((nI k) &&& 31))) < 2 ^ (k + 1) := by
  have h64 : bN a < 64 := Nat.lt_of_lt_of_le ha (p64 (by omega))
  have w := bc1 k hk (bN a) h64 ha
  rw [← nI_bN h64 (by decide)] at w
  exact w
theorem to_one {C : sp_C} {D : Nat} {s : dS} (hs : sI C D s) (hD : D ≤ 4200) {p : Nat} (hp : p < dP C) : d_88 C s p (d_68 C s.1) = d_222 C s p := by
  rw [d_68_e, to_e hs hD hp (d_224_01 C _)]
  rfl
theorem cnt_e {C : sp_C} {D : Nat} {s : dS} (h6 : dP C ≤ 6) (hs : sI C D s) (hD : D ≤ 4200) (y : Int32) : ∀ (m k : Nat) (a : Int32), k + m = dP C → bN a < 2 ^ k → d_273_4 C s y m k (d_69 a) = d_69 (d_153_20 C s y (d_68 C s.1) m k a) ∧ bN (d_153_20 C s y (d_68 C s.1) m k a) < 2 ^ dP C := by
  intro m
  induction m with
  | zero =>
    intro k a hk ha
    exact ⟨rfl, by rw [← (show k = dP C by omega)]; exact ha⟩
  | succ m ih =>
    intro k a hk ha
    rw [d_273_4, d_153_20, to_one hs hD (by omega)]
    by_cases e : d_222 C s k = y
    · rw [if_neg (fun z => z e), if_neg (fun z => z e)]
      obtain ⟨w1, w2⟩ := bc1x (show k < 6 by omega) ha
      rw [← w1]
      exact ih (k + 1) _ (by omega) w2
    · rw [if_pos e, if_pos e]
      have z : d_69 a + Int32.ofInt 0 = d_69 a := Int32.add_zero _
      rw [z]
      exact ih (k + 1) a (by omega) (Nat.lt_of_lt_of_le ha (Nat.pow_le_pow_right (by decide) (by omega)))
theorem how_e {C : sp_C} {D : Nat} {s : dS} (h6 : dP C ≤ 6) (hs : sI C D s) (hD : D ≤ 4200) (y : Int32) : d_273 C s y = d_69 (d_153 C s y) ∧ bN (d_153 C s y) < 64 := by
  obtain ⟨w1, w2⟩ := cnt_e h6 hs hD y (dP C) 0 (Int32.ofInt 0) (by omega) (by decide)
  exact ⟨w1, Nat.lt_of_lt_of_le w2 (p64 h6)⟩
theorem z64 : ∀ n, n < 64 → (nI n = 0 ↔ d_69 (nI n) ≤ 0) := by decide +kernel
theorem guess_e {C : sp_C} {D : Nat} {s : dS} (h6 : dP C ≤ 6) (hs : sI C D s) (hD : D ≤ 4200) : ∀ (m k : Nat) (a b : Int32), d_272_6 C s m k b a = ((d_152_6 C s m k a b).2, (d_152_6 C s m k a b).1) := by
  intro m
  induction m with
  | zero => exact fun _ _ _ => rfl
  | succ m ih =>
    intro k a b
    rw [d_272_6, d_152_6, (how_e h6 hs hD _).1]
    by_cases e : d_69 (d_153 C s (nI k)) ≤ a
    · simp only [e, if_true, if_false, not_true_eq_false, not_false_eq_true]
      exact ih _ _ _
    · simp only [e, if_true, if_false, not_true_eq_false, not_false_eq_true]
      exact ih _ _ _
theorem spread_e {C : sp_C} {D : Nat} {s : dS} (h6 : dP C ≤ 6) (hs : sI C D s) (hD : D ≤ 4200) : ∀ (m k : Nat) (a : Int32), d_276_9 C s m k a = d_155_4 C s m k a := by
  intro m
  induction m with
  | zero => exact fun _ _ => rfl
  | succ m ih =>
    intro k a
    obtain ⟨w1, w2⟩ := how_e h6 hs hD (nI k)
    rw [d_276_9, d_155_4, w1]
    have w3 := z64 _ w2
    rw [← nI_bN w2 (by decide)] at w3
    by_cases e : d_153 C s (nI k) = 0
    · rw [if_pos (w3.mp e), if_pos e, show a + Int32.ofInt 0 = a from Int32.add_zero _]
      exact ih _ _
    · rw [if_neg (fun z => e (w3.mpr z)), if_neg e]
      exact ih _ _
theorem pairs_e {C : sp_C} {D : Nat} {s : dS} (h6 : dP C ≤ 6) (hs : sI C D s) (hD : D ≤ 4200) : ∀ (m k : Nat) (a : Int32), d_277_9 C s m k a = d_156_4 C s m k a := by
  intro m
  induction m with
  | zero => exact fun _ _ => rfl
  | succ m ih =>
    intro k a
    rw [d_277_9, d_156_4, (how_e h6 hs hD _).1]
    exact ih _ _
theorem right_e {C : sp_C} {D : Nat} {s : dS} (hs : sI C D s) (hD : D ≤ 4200) : ∀ (m k : Nat) (a : Int32), k + m = dP C → d_278_9 C s m k a = d_153_20 C s (s.1 - s.1 / ((Int8.ofInt 7).toInt32) * ((Int8.ofInt 7).toInt32)) (d_68 C s.1) m k a := by
  intro m
  induction m with
  | zero => exact fun _ _ _ => rfl
  | succ m ih =>
    intro k a hk
    rw [d_278_9, d_153_20, to_one hs hD (by omega)]
    split
    · rw [or0]; exact ih _ _ (by omega)
    · exact ih _ _ (by omega)
theorem wr_k : ∀ i, i < 16 → ∀ j, j < 64 → ∀ g, g < 7 → ((fun d => (if (((nI g - (nI d - nI d / ((Int8.ofInt 7).toInt32) * ((Int8.ofInt 7).toInt32))) + ((Int8.ofInt 7).toInt32)) - ((nI g - (nI d - nI d / ((Int8.ofInt 7).toInt32) * ((Int8.ofInt 7).toInt32))) + ((Int8.ofInt 7).toInt32)) / ((Int8.ofInt 7).toInt32) * ((Int8.ofInt 7).toInt32)) ≤ Int32.ofInt 3 then (((nI g - (nI d - nI d / ((Int8.ofInt 7).toInt32) * ((Int8.ofInt 7).toInt32))) + ((Int8.ofInt 7).toInt32)) - ((nI g - (nI d - nI d / ((Int8.ofInt 7).toInt32) * ((Int8.ofInt 7).toInt32))) + ((Int8.ofInt 7).toInt32)) / ((Int8.ofInt 7).toInt32) * ((Int8.ofInt 7).toInt32)) else (((nI g - (nI d - nI d / ((Int8.ofInt 7).toInt32) * ((Int8.ofInt 7).toInt32))) + ((Int8.ofInt 7).toInt32)) - ((nI g - (nI d - nI d / ((Int8.ofInt 7).toInt32) * ((Int8.ofInt 7).toInt32))) + ((Int8.ofInt 7).toInt32)) / ((Int8.ofInt 7).toInt32) * ((Int8.ofInt 7).toInt32)) - ((Int8.ofInt 7).toInt32)) = d_90 ((nI g - nI d) + Int32.ofInt 3) - Int32.ofInt 3) (64 * i + j)) := by decide +kernel
theorem wr_e {d g : Nat} (hd : d < 1024) (hg : g < 7) : (if (((nI g - (nI d - nI d / ((Int8.ofInt 7).toInt32) * ((Int8.ofInt 7).toInt32))) + ((Int8.ofInt 7).toInt32)) - ((nI g - (nI d - nI d / ((Int8.ofInt 7).toInt32) * ((Int8.ofInt 7).toInt32))) + ((Int8.ofInt 7).toInt32)) / ((Int8.ofInt 7).toInt32) * ((Int8.ofInt 7).toInt32)) ≤ Int32.ofInt 3 then (((nI g - (nI d - nI d / ((Int8.ofInt 7).toInt32) * ((Int8.ofInt 7).toInt32))) + ((Int8.ofInt 7).toInt32)) - ((nI g - (nI d - nI d / ((Int8.ofInt 7).toInt32) * ((Int8.ofInt 7).toInt32))) + ((Int8.ofInt 7).toInt32)) / ((Int8.ofInt 7).toInt32) * ((Int8.ofInt 7).toInt32)) else (((nI g - (nI d - nI d / ((Int8.ofInt 7).toInt32) * ((Int8.ofInt 7).toInt32))) + ((Int8.ofInt 7).toInt32)) - ((nI g - (nI d - nI d / ((Int8.ofInt 7).toInt32) * ((Int8.ofInt 7).toInt32))) + ((Int8.ofInt 7).toInt32)) / ((Int8.ofInt 7).toInt32) * ((Int8.ofInt 7).toInt32)) - ((Int8.ofInt 7).toInt32)) = d_90 ((nI g - nI d) + Int32.ofInt 3) - Int32.ofInt 3 := by
  have h := wr_k (d / 64) (by omega) (d % 64) (by omega) g hg
  rw [show 64 * (d / 64) + d % 64 = d by omega] at h
  exact h
theorem gs_v {C : sp_C} {s : dS} : ∀ (m k : Nat) (a b : Int32), k + m = 7 → (b = Int32.ofInt (-1) ∨ ∃ g, g < 7 ∧ b = nI g) → ((d_152_6 C s m k a b).2 = Int32.ofInt (-1) ∨ ∃ g, g < 7 ∧ (d_152_6 C s m k a b).2 = nI g) := by
  intro m
  induction m with
  | zero => exact fun k a b _ hb => hb
  | succ m ih =>
    intro k a b hk hb
    rw [d_152_6]
    refine ih (k + 1) _ _ (by omega) ?_
    by_cases e : d_69 (d_153 C s (nI k)) ≤ a
    · rw [if_pos e]; exact hb
    · rw [if_neg e]; exact Or.inr ⟨k, by omega, rfl⟩
theorem g_e {C : sp_C} {D : Nat} {s : dS} (h6 : dP C ≤ 6) (hs : sI C D s) (hD : D ≤ 4200) : d_272 C s = d_152 C s := by
  unfold d_272 d_152
  rw [guess_e h6 hs hD]
theorem wrong_e {C : sp_C} {D : Nat} {s : dS} (h6 : dP C ≤ 6) (hs : sI C D s) (hD : D ≤ 1000) : d_274 C s = d_154 C s := by
  unfold d_274 d_154
  rw [g_e h6 hs (by omega)]
  obtain ⟨⟨d, hd, ed⟩, -⟩ := hs
  rcases gs_v (C := C) (s := s) 7 0 (Int32.ofInt 0) (Int32.ofInt (-1)) (by omega) (Or.inl rfl) with e | ⟨g, hg, e⟩
  · rw [show d_152 C s = Int32.ofInt (-1) from e, if_neg (show ¬ (0 : Int32) ≤ Int32.ofInt (-1) by decide), if_neg (show ¬ ¬ (Int32.ofInt (-1)) = Int32.ofInt (-1) from fun z => z rfl)]
  · rw [show d_152 C s = nI g from e, ed, if_pos (show (0 : Int32) ≤ nI g from Int32.not_lt.mp (nI_pos (by omega))), if_pos (show ¬ nI g = Int32.ofInt (-1) from by
      have key : ∀ g, g < 7 → ¬ nI g = Int32.ofInt (-1) := by decide +kernel
      exact key g hg)]
    exact wr_e (by omega) hg
theorem q_155 {h : am_H} {C : sp_C} {D : Nat} {s : dS} {H : dH} {M : dMk} {n : Nat} (hI : iv_I h) (i : KI C D s H M n) (j : KC C s H M n h) : am_call am_cod 60 155 [.ref 0] h (fun v _ => v = some (.int (d_155 C s))) := by
  have hP := iv_P hI
  have hc := i.1
  obtain ⟨c, c1, c2, c3, c4, c5, -⟩ := j
  rcases c1 with rfl | rfl
  · exact am_call.up (d_155_N6 hP hc c3 c4 c2 c5 rfl) (by decide)
  · exact am_call.up (d_155_N17 hP hc c3 c4 c2 c5 rfl) (by decide)
theorem q_276 {h : am_H} {C : sp_C} {D : Nat} {s : dS} {H : dH} {M : dMk} {n : Nat} (hI : iv_I h) (i : KI C D s H M n) (hD : D ≤ 1000) (j : KR C s H M n h) : am_call am_cod 60 276 [.ref 154] h (fun v _ => v = some (.int (d_155 C s))) := by
  have hP := iv_P hI
  have hc := i.1
  have h6 := hc.1.1
  obtain ⟨r1, r2, r3, -⟩ := j
  have e : d_276 C s = d_155 C s := spread_e h6 i.2.1 (by omega) 7 0 (Int32.ofInt 0)
  exact am_call.up (d_276_M hP hc r1 r2 r3 (fun g => by rw [e])) (by decide)
theorem q_156 {h : am_H} {C : sp_C} {D : Nat} {s : dS} {H : dH} {M : dMk} {n : Nat} (hI : iv_I h) (i : KI C D s H M n) (j : KC C s H M n h) : am_call am_cod 60 156 [.ref 0] h (fun v _ => v = some (.int (d_156 C s))) := by
  have hP := iv_P hI
  have hc := i.1
  obtain ⟨c, c1, c2, c3, c4, c5, -⟩ := j
  rcases c1 with rfl | rfl
  · exact am_call.up (d_156_N6 hP hc c3 c4 c2 c5 rfl) (by decide)
  · exact am_call.up (d_156_N17 hP hc c3 c4 c2 c5 rfl) (by decide)
theorem q_277 {h : am_H} {C : sp_C} {D : Nat} {s : dS} {H : dH} {M : dMk} {n : Nat} (hI : iv_I h) (i : KI C D s H M n) (hD : D ≤ 1000) (j : KR C s H M n h) : am_call am_cod 60 277 [.ref 154] h (fun v _ => v = some (.int (d_156 C s))) := by
  have hP := iv_P hI
  have hc := i.1
  have h6 := hc.1.1
  obtain ⟨r1, r2, r3, -⟩ := j
  have e : d_277 C s = d_156 C s := pairs_e h6 i.2.1 (by omega) 7 0 (Int32.ofInt 0)
  exact am_call.up (d_277_M hP hc r1 r2 r3 (fun g => by rw [e])) (by decide)
theorem q_152 {h : am_H} {C : sp_C} {D : Nat} {s : dS} {H : dH} {M : dMk} {n : Nat} (hI : iv_I h) (i : KI C D s H M n) (j : KC C s H M n h) : am_call am_cod 60 152 [.ref 0] h (fun v _ => v = some (.int (d_152 C s))) := by
  have hP := iv_P hI
  have hc := i.1
  obtain ⟨c, c1, c2, c3, c4, c5, -⟩ := j
  rcases c1 with rfl | rfl
  · exact am_call.up (d_152_N6 hP hc c3 c4 c2 c5 rfl) (by decide)
  · exact am_call.up (d_152_N17 hP hc c3 c4 c2 c5 rfl) (by decide)
theorem q_271 {h : am_H} {C : sp_C} {D : Nat} {s : dS} {H : dH} {M : dMk} {n : Nat} (hI : iv_I h) (i : KI C D s H M n) (hD : D ≤ 1000) (j : KR C s H M n h) : am_call am_cod 60 271 [.ref 154] h (fun v _ => v = some (.int (d_152 C s))) := by
  have hP := iv_P hI
  have hc := i.1
  have h6 := hc.1.1
  obtain ⟨r1, r2, r3, -⟩ := j
  have e : d_271 C s = d_152 C s := g_e h6 i.2.1 (by omega)
  exact am_call.up (d_271_M hP hc r1 r2 r3 (fun g => by rw [e])) (by decide)
theorem q_154 {h : am_H} {C : sp_C} {D : Nat} {s : dS} {H : dH} {M : dMk} {n : Nat} (hI : iv_I h) (i : KI C D s H M n) (j : KC C s H M n h) : am_call am_cod 60 154 [.ref 0] h (fun v _ => v = some (.int (d_154 C s))) := by
  have hP := iv_P hI
  have hc := i.1
  obtain ⟨c, c1, c2, c3, c4, c5, -⟩ := j
  rcases c1 with rfl | rfl
  · exact am_call.up (d_154_N6 hP hc c3 c4 c2 c5 rfl) (by decide)
  · exact am_call.up (d_154_N17 hP hc c3 c4 c2 c5 rfl) (by decide)
theorem q_274 {h : am_H} {C : sp_C} {D : Nat} {s : dS} {H : dH} {M : dMk} {n : Nat} (hI : iv_I h) (i : KI C D s H M n) (hD : D ≤ 1000) (j : KR C s H M n h) : am_call am_cod 60 274 [.ref 154] h (fun v _ => v = some (.int (d_154 C s))) := by
  have hP := iv_P hI
  have hc := i.1
  have h6 := hc.1.1
  obtain ⟨r1, r2, r3, -⟩ := j
  have e : d_274 C s = d_154 C s := wrong_e h6 i.2.1 (by omega)
  exact am_call.up (d_274_M hP hc r1 r2 r3 (fun g => by rw [e])) (by decide)
theorem q_157 {h : am_H} {C : sp_C} {D : Nat} {s : dS} {H : dH} {M : dMk} {n : Nat} (hI : iv_I h) (i : KI C D s H M n) (j : KC C s H M n h) : am_call am_cod 60 157 [.ref 0] h (fun v _ => v = some (.int (d_157 C s))) := by
  have hP := iv_P hI
  have hc := i.1
  obtain ⟨c, c1, c2, c3, c4, c5, -⟩ := j
  rcases c1 with rfl | rfl
  · exact am_call.up (d_157_N6 hP hc c3 c4 c2 c5 rfl) (by decide)
  · exact am_call.up (d_157_N17 hP hc c3 c4 c2 c5 rfl) (by decide)
theorem q_278 {h : am_H} {C : sp_C} {D : Nat} {s : dS} {H : dH} {M : dMk} {n : Nat} (hI : iv_I h) (i : KI C D s H M n) (hD : D ≤ 1000) (j : KR C s H M n h) : am_call am_cod 60 278 [.ref 154] h (fun v _ => v = some (.int (d_157 C s))) := by
  have hP := iv_P hI
  have hc := i.1
  have h6 := hc.1.1
  obtain ⟨r1, r2, r3, -⟩ := j
  have e : d_278 C s = d_157 C s := right_e i.2.1 (by omega) (dP C) 0 (Int32.ofInt 0) (by omega)
  exact am_call.up (d_278_M hP hc r1 r2 r3 (fun g => by rw [e])) (by decide)
