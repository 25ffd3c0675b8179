/-! LEADS -/
variable {h : am_H} {Q : am_Q} {C V : sp_C} {x y z w : Int32} {e l p q : Nat} {s : dS}
theorem sv2_142 : am_r142.all (fun q => sv2_ok q.2) = true := by decide +kernel
theorem sv2_262 : am_r262.all (fun q => sv2_ok q.2) = true := by decide +kernel
def d_142_4 (C : sp_C) (s : dS) (y : Int32) : Nat → Nat → Int32 → Int32
  | 0, _, a2 => a2
  | m + 1, k, a2 => d_142_4 C s y m (k + 1) (if ¬ (d_89 C s k) = y then a2 else a2 ||| ((Int32.ofInt 1) <<< ((nI k) &&& 31)))
theorem d_142_4_N6 (hP : ex_P h) (hI : cI C) (hT : c_v 6 C h) (hD : c_d 6 C h) (hR : h.2.2.1 0 3 = some 6) (hS : sC 36 s h) : ∀ (m k : Nat) (a2 : Int32), k + m = dP C → (pz_S 4 (some .int) am_r142 1 Q 43 [(2, .int (d_142_4 C s y m k a2))] [] h) → pz_S 4 (some .int) am_r142 1 Q 4 [(0, .ref 0), (1, .int y), (2, .int a2), (3, .int (nI k))] [] h := by
  intro m
  induction m with
  | zero =>
    intro k a2 hk hZ
    have h6 := hT.1.2.1
    have h5 := hT.2.1.2.1
    refine am_goX 3 (show am_sh h 0 = some (10, 0) ∧ pz_S 4 (some .int) am_r142 1 Q 9 [(0, .ref 0), (1, .int y), (2, .int a2), (3, .int (nI k))] [am_rf (h.2.2.1 0 3), .int (nI k)] h from ⟨ex_0 hP, ?_⟩)
    rw [show am_rf (h.2.2.1 0 3) = .ref 6 from congrArg am_rf (hR)]
    refine am_goX 1 (show am_sh h 6 = some (0, 0) ∧ pz_S 4 (some .int) am_r142 1 Q 12 [(0, .ref 0), (1, .int y), (2, .int a2), (3, .int (nI k))] [.int (h.1 6 0), .int (nI k)] h from ⟨ex_6 hP, ?_⟩)
    rw [show h.1 6 0 = nI (dP C) from hT.1.1]
    refine am_goX 1 (show ((nI (dP C)) ≤ (nI k) → pz_S 4 (some .int) am_r142 1 Q 43 [(0, .ref 0), (1, .int y), (2, .int a2), (3, .int (nI k))] [] h) ∧ (¬ ((nI (dP C)) ≤ (nI k)) → pz_S 4 (some .int) am_r142 1 Q 15 [(0, .ref 0), (1, .int y), (2, .int a2), (3, .int (nI k))] [] h) from ⟨fun _ => ?_, fun hz => absurd (show nI (dP C) ≤ nI k from nI_le (by omega) (by omega)) hz⟩)
    exact sv_S2 sv2_142 (by intro q hq; simp only [List.mem_cons, List.not_mem_nil, or_false] at hq; rcases hq with rfl <;> rfl) (hZ)
  | succ m ih =>
    intro k a2 hk hZ
    have h6 := hT.1.2.1
    have h5 := hT.2.1.2.1
    refine am_goX 3 (show am_sh h 0 = some (10, 0) ∧ pz_S 4 (some .int) am_r142 1 Q 9 [(0, .ref 0), (1, .int y), (2, .int a2), (3, .int (nI k))] [am_rf (h.2.2.1 0 3), .int (nI k)] h from ⟨ex_0 hP, ?_⟩)
    rw [show am_rf (h.2.2.1 0 3) = .ref 6 from congrArg am_rf (hR)]
    refine am_goX 1 (show am_sh h 6 = some (0, 0) ∧ pz_S 4 (some .int) am_r142 1 Q 12 [(0, .ref 0), (1, .int y), (2, .int a2), (3, .int (nI k))] [.int (h.1 6 0), .int (nI k)] h from ⟨ex_6 hP, ?_⟩)
    rw [show h.1 6 0 = nI (dP C) from hT.1.1]
    refine am_goX 1 (show ((nI (dP C)) ≤ (nI k) → pz_S 4 (some .int) am_r142 1 Q 43 [(0, .ref 0), (1, .int y), (2, .int a2), (3, .int (nI k))] [] h) ∧ (¬ ((nI (dP C)) ≤ (nI k)) → pz_S 4 (some .int) am_r142 1 Q 15 [(0, .ref 0), (1, .int y), (2, .int a2), (3, .int (nI k))] [] h) from ⟨fun hz => absurd hz (show ¬ (nI (dP C) ≤ nI k) by rw [nI_leI (by omega) (by omega)]; omega), fun _ => ?_⟩)
    refine am_goX 2 (show am_sh h 0 = some (10, 0) ∧ pz_S 4 (some .int) am_r142 1 Q 19 [(0, .ref 0), (1, .int y), (2, .int a2), (3, .int (nI k))] [am_rf (h.2.2.1 0 3)] h from ⟨ex_0 hP, ?_⟩)
    rw [show am_rf (h.2.2.1 0 3) = .ref 6 from congrArg am_rf (hR)]
    refine am_goX 3 (show am_sh h 0 = some (10, 0) ∧ pz_S 4 (some .int) am_r142 1 Q 24 [(0, .ref 0), (1, .int y), (2, .int a2), (3, .int (nI k))] [am_rf (h.2.2.1 0 7), .int (nI k), .ref 6] h from ⟨ex_0 hP, ?_⟩)
    rw [show am_rf (h.2.2.1 0 7) = .ref 36 from congrArg am_rf (ex_r0_7 hP)]
    refine am_goX 1 (show am_rc h 6 0 ∧ 0 ≤ 8 ∧ h.2.2.2.2 + am_al 89 ≤ 175 ∧ am_call am_cod 1 89 [.ref 6, .int (nI k), .ref 36] h (fun vv h' => pz_S 4 (some .int) am_r142 1 Q 27 [(0, .ref 0), (1, .int y), (2, .int a2), (3, .int (nI k))] (vv.toList ++ []) h') from ⟨Or.inl ⟨by decide, ex_6 hP⟩, by decide, ex_lim hP rfl, am_call.up (d_89_t6_36 hP hI hT hD hS (fC_0 (c := 6) (h := h)) (by omega) ?_) (by decide)⟩)
    suffices key : ∀ (v2 : Int32), v2 = (if ¬ (d_89 C s k) = y then a2 else a2 ||| ((Int32.ofInt 1) <<< ((nI k) &&& 31))) → pz_S 4 (some .int) am_r142 1 Q 37 [(0, .ref 0), (1, .int y), (2, .int v2), (3, .int (nI k))] [] h by
      refine am_goX 2 (show (¬ (d_89 C s k) = y → pz_S 4 (some .int) am_r142 1 Q 37 [(0, .ref 0), (1, .int y), (2, .int a2), (3, .int (nI k))] [] h) ∧ (¬ ¬ (d_89 C s k) = y → pz_S 4 (some .int) am_r142 1 Q 31 [(0, .ref 0), (1, .int y), (2, .int a2), (3, .int (nI k))] [] h) from ⟨fun c1 => ?_, fun c1 => ?_⟩)
      · exact sv_S2 sv2_142 (by intro q hq; simp only [List.mem_cons, List.not_mem_nil, or_false] at hq; rcases hq with rfl | rfl | rfl | rfl <;> rfl) (key _ (if_pos c1).symm)
      · refine am_goX 6 (show 2 < 4 ∧ pz_S 4 (some .int) am_r142 1 Q 37 [(2, .int (a2 ||| ((Int32.ofInt 1) <<< ((nI k) &&& 31)))), (0, .ref 0), (1, .int y), (3, .int (nI k))] [] h from ⟨by decide, ?_⟩)
        exact sv_S2 sv2_142 (by intro q hq; simp only [List.mem_cons, List.not_mem_nil, or_false] at hq; rcases hq with rfl | rfl | rfl | rfl <;> rfl) (key _ (if_neg c1).symm)
    intro v2 e3
    subst e3
    refine am_goX 2 (show 3 < 4 ∧ pz_S 4 (some .int) am_r142 1 Q 4 [(3, .int ((nI k) + (Int32.ofInt 1))), (0, .ref 0), (1, .int y), (2, .int (if ¬ (d_89 C s k) = y then a2 else a2 ||| ((Int32.ofInt 1) <<< ((nI k) &&& 31))))] [] h from ⟨by decide, ?_⟩)
    rw [show (nI k) + (Int32.ofInt 1) = nI (k + 1) from (dn_a rfl rfl)]
    exact sv_S2 sv2_142 (by intro q hq; simp only [List.mem_cons, List.not_mem_nil, or_false] at hq; rcases hq with rfl | rfl | rfl | rfl <;> rfl) (ih (k + 1) (if ¬ (d_89 C s k) = y then a2 else a2 ||| ((Int32.ofInt 1) <<< ((nI k) &&& 31))) (by omega) hZ)
def d_142 (C : sp_C) (s : dS) (y : Int32) : Int32 := d_142_4 C s y (dP C) 0 (Int32.ofInt 0)
theorem d_142_N6 (hP : ex_P h) (hI : cI C) (hT : c_v 6 C h) (hD : c_d 6 C h) (hR : h.2.2.1 0 3 = some 6) (hS : sC 36 s h)  (hQ : Q (some (.int (d_142 C s y))) h) : am_call am_cod 2 142 [.ref 0, .int y] h Q := by
  have h6 := hT.1.2.1
  have h5 := hT.2.1.2.1
  refine pz_call (n := 142) (nL := 4) (rt := (some .int)) (rows := am_r142) (d := 1) (by decide +kernel) (by decide +kernel) rfl (by funext pc; rfl) (ex_175 hP) (by exact Nat.le_of_ble_eq_true rfl) ?_
  refine am_goX 4 (show 2 < 4 ∧ 3 < 4 ∧ pz_S 4 (some .int) am_r142 1 Q 4 [(3, .int (Int32.ofInt 0)), (2, .int (Int32.ofInt 0)), (0, .ref 0), (1, .int y)] [] h from ⟨by decide, by decide, ?_⟩)
  refine sv_S2 sv2_142 (by intro q hq; simp only [List.mem_cons, List.not_mem_nil, or_false] at hq; rcases hq with rfl | rfl | rfl | rfl <;> rfl) (d_142_4_N6 hP hI hT hD hR hS (dP C) 0 (Int32.ofInt 0) (by omega) ?_)
  exact am_goX 2 (show (∃ ty, (some .int) = some ty ∧ narrow ty (.int (d_142_4 C s y (dP C) 0 (Int32.ofInt 0))) = .int (d_142_4 C s y (dP C) 0 (Int32.ofInt 0))) ∧ h.2.2.2.2 = 175 ∧ _ from ⟨⟨.int, rfl, rfl⟩, ex_175 hP, hQ⟩)
def d_147 (C : sp_C) (s : dS) (p : Nat) : Int32 := d_142 C s ((d_89 C s p) + (Int32.ofInt 1))
theorem d_147_N6 (hP : ex_P h) (hI : cI C) (hT : c_v 6 C h) (hD : c_d 6 C h) (hR : h.2.2.1 0 3 = some 6) (hS : sC 36 s h) (hp : p < dP C) (hQ : Q (some (.int (d_147 C s p))) h) : am_call am_cod 3 147 [.ref 0, .int (nI p)] h Q := by
  have h6 := hT.1.2.1
  have h5 := hT.2.1.2.1
  refine pz_call (n := 147) (nL := 2) (rt := (some .int)) (rows := am_r147) (d := 2) (by decide +kernel) (by decide +kernel) rfl (by funext pc; rfl) (ex_175 hP) (by exact Nat.le_of_ble_eq_true rfl) ?_
  refine am_goX 3 (show am_rc h 0 10 ∧ 0 ≤ 8 ∧ h.2.2.2.2 + am_al 87 ≤ 175 ∧ am_call am_cod 2 87 [.ref 0, .int (nI p)] h (fun vv h' => pz_S 2 (some .int) am_r147 2 Q 5 [(0, .ref 0), (1, .int (nI p))] (vv.toList ++ []) h') from ⟨Or.inl ⟨by decide, ex_0 hP⟩, by decide, ex_lim hP rfl, am_call.up (d_87_t6 hP hT hR ?_) (by decide)⟩)
  rw [show d_87 C (nI p) = Int32.ofInt 1 from (v_87 hp)]
  refine am_goX 1 (show (¬ (Int32.ofInt 1) = 0 → pz_S 2 (some .int) am_r147 2 Q 10 [(0, .ref 0), (1, .int (nI p))] [] h) ∧ (¬ ¬ (Int32.ofInt 1) = 0 → pz_S 2 (some .int) am_r147 2 Q 8 [(0, .ref 0), (1, .int (nI p))] [] h) from ⟨fun _ => ?_, fun hz => absurd (by decide) hz⟩)
  refine am_goX 3 (show am_sh h 0 = some (10, 0) ∧ pz_S 2 (some .int) am_r147 2 Q 15 [(0, .ref 0), (1, .int (nI p))] [am_rf (h.2.2.1 0 3), .ref 0] h from ⟨ex_0 hP, ?_⟩)
  rw [show am_rf (h.2.2.1 0 3) = .ref 6 from congrArg am_rf (hR)]
  refine am_goX 3 (show am_sh h 0 = some (10, 0) ∧ pz_S 2 (some .int) am_r147 2 Q 20 [(0, .ref 0), (1, .int (nI p))] [am_rf (h.2.2.1 0 7), .int (nI p), .ref 6, .ref 0] h from ⟨ex_0 hP, ?_⟩)
  rw [show am_rf (h.2.2.1 0 7) = .ref 36 from congrArg am_rf (ex_r0_7 hP)]
  refine am_goX 1 (show am_rc h 6 0 ∧ 1 ≤ 8 ∧ h.2.2.2.2 + am_al 89 ≤ 175 ∧ am_call am_cod 2 89 [.ref 6, .int (nI p), .ref 36] h (fun vv h' => pz_S 2 (some .int) am_r147 2 Q 23 [(0, .ref 0), (1, .int (nI p))] (vv.toList ++ [.ref 0]) h') from ⟨Or.inl ⟨by decide, ex_6 hP⟩, by decide, ex_lim hP rfl, am_call.up (d_89_t6_36 hP hI hT hD hS (fC_0 (c := 6) (h := h)) (by omega) ?_) (by decide)⟩)
  refine am_goX 3 (show am_rc h 0 10 ∧ 0 ≤ 8 ∧ h.2.2.2.2 + am_al 142 ≤ 175 ∧ am_call am_cod 2 142 [.ref 0, .int ((d_89 C s p) + (Int32.ofInt 1))] h (fun vv h' => pz_S 2 (some .int) am_r147 2 Q 28 [(0, .ref 0), (1, .int (nI p))] (vv.toList ++ []) h') from ⟨Or.inl ⟨by decide, ex_0 hP⟩, by decide, ex_lim hP rfl, am_call.up (d_142_N6 hP hI hT hD hR hS ?_) (by decide)⟩)
  exact am_goX 1 (show (∃ ty, (some .int) = some ty ∧ narrow ty (.int (d_142 C s ((d_89 C s p) + (Int32.ofInt 1)))) = .int (d_142 C s ((d_89 C s p) + (Int32.ofInt 1)))) ∧ h.2.2.2.2 = 175 ∧ _ from ⟨⟨.int, rfl, rfl⟩, ex_175 hP, hQ⟩)
def d_147x  : Int32 := Int32.ofInt (-1)
theorem d_147_xN6 (hP : ex_P h) (hI : cI C) (hT : c_v 6 C h) (hD : c_d 6 C h) (hR : h.2.2.1 0 3 = some 6) (hS : sC 36 s h) (ey : d_87 C y = Int32.ofInt 0) (hQ : Q (some (.int d_147x)) h) : am_call am_cod 3 147 [.ref 0, .int y] h Q := by
  have h6 := hT.1.2.1
  have h5 := hT.2.1.2.1
  refine pz_call (n := 147) (nL := 2) (rt := (some .int)) (rows := am_r147) (d := 2) (by decide +kernel) (by decide +kernel) rfl (by funext pc; rfl) (ex_175 hP) (by exact Nat.le_of_ble_eq_true rfl) ?_
  refine am_goX 3 (show am_rc h 0 10 ∧ 0 ≤ 8 ∧ h.2.2.2.2 + am_al 87 ≤ 175 ∧ am_call am_cod 2 87 [.ref 0, .int y] h (fun vv h' => pz_S 2 (some .int) am_r147 2 Q 5 [(0, .ref 0), (1, .int y)] (vv.toList ++ []) h') from ⟨Or.inl ⟨by decide, ex_0 hP⟩, by decide, ex_lim hP rfl, am_call.up (d_87_t6 hP hT hR ?_) (by decide)⟩)
  rw [show d_87 C y = Int32.ofInt 0 from ey]
  refine am_goX 1 (show (¬ (Int32.ofInt 0) = 0 → pz_S 2 (some .int) am_r147 2 Q 10 [(0, .ref 0), (1, .int y)] [] h) ∧ (¬ ¬ (Int32.ofInt 0) = 0 → pz_S 2 (some .int) am_r147 2 Q 8 [(0, .ref 0), (1, .int y)] [] h) from ⟨fun hz => absurd hz (by decide), fun _ => ?_⟩)
  exact am_goX 2 (show (∃ ty, (some .int) = some ty ∧ narrow ty (.int (Int32.ofInt (-1))) = .int (Int32.ofInt (-1))) ∧ h.2.2.2.2 = 175 ∧ _ from ⟨⟨.int, rfl, rfl⟩, ex_175 hP, hQ⟩)
theorem d_142_4_N17 (hP : ex_P h) (hI : cI C) (hT : c_v 17 C h) (hD : c_d 17 C h) (hR : h.2.2.1 0 3 = some 17) (hS : sC 36 s h) : ∀ (m k : Nat) (a2 : Int32), k + m = dP C → (pz_S 4 (some .int) am_r142 1 Q 43 [(2, .int (d_142_4 C s y m k a2))] [] h) → pz_S 4 (some .int) am_r142 1 Q 4 [(0, .ref 0), (1, .int y), (2, .int a2), (3, .int (nI k))] [] h := by
  intro m
  induction m with
  | zero =>
    intro k a2 hk hZ
    have h6 := hT.1.2.1
    have h5 := hT.2.1.2.1
    refine am_goX 3 (show am_sh h 0 = some (10, 0) ∧ pz_S 4 (some .int) am_r142 1 Q 9 [(0, .ref 0), (1, .int y), (2, .int a2), (3, .int (nI k))] [am_rf (h.2.2.1 0 3), .int (nI k)] h from ⟨ex_0 hP, ?_⟩)
    rw [show am_rf (h.2.2.1 0 3) = .ref 17 from congrArg am_rf (hR)]
    refine am_goX 1 (show am_sh h 17 = some (0, 0) ∧ pz_S 4 (some .int) am_r142 1 Q 12 [(0, .ref 0), (1, .int y), (2, .int a2), (3, .int (nI k))] [.int (h.1 17 0), .int (nI k)] h from ⟨ex_17 hP, ?_⟩)
    rw [show h.1 17 0 = nI (dP C) from hT.1.1]
    refine am_goX 1 (show ((nI (dP C)) ≤ (nI k) → pz_S 4 (some .int) am_r142 1 Q 43 [(0, .ref 0), (1, .int y), (2, .int a2), (3, .int (nI k))] [] h) ∧ (¬ ((nI (dP C)) ≤ (nI k)) → pz_S 4 (some .int) am_r142 1 Q 15 [(0, .ref 0), (1, .int y), (2, .int a2), (3, .int (nI k))] [] h) from ⟨fun _ => ?_, fun hz => absurd (show nI (dP C) ≤ nI k from nI_le (by omega) (by omega)) hz⟩)
    exact sv_S2 sv2_142 (by intro q hq; simp only [List.mem_cons, List.not_mem_nil, or_false] at hq; rcases hq with rfl <;> rfl) (hZ)
  | succ m ih =>
    intro k a2 hk hZ
    have h6 := hT.1.2.1
    have h5 := hT.2.1.2.1
    refine am_goX 3 (show am_sh h 0 = some (10, 0) ∧ pz_S 4 (some .int) am_r142 1 Q 9 [(0, .ref 0), (1, .int y), (2, .int a2), (3, .int (nI k))] [am_rf (h.2.2.1 0 3), .int (nI k)] h from ⟨ex_0 hP, ?_⟩)
    rw [show am_rf (h.2.2.1 0 3) = .ref 17 from congrArg am_rf (hR)]
    refine am_goX 1 (show am_sh h 17 = some (0, 0) ∧ pz_S 4 (some .int) am_r142 1 Q 12 [(0, .ref 0), (1, .int y), (2, .int a2), (3, .int (nI k))] [.int (h.1 17 0), .int (nI k)] h from ⟨ex_17 hP, ?_⟩)
    rw [show h.1 17 0 = nI (dP C) from hT.1.1]
    refine am_goX 1 (show ((nI (dP C)) ≤ (nI k) → pz_S 4 (some .int) am_r142 1 Q 43 [(0, .ref 0), (1, .int y), (2, .int a2), (3, .int (nI k))] [] h) ∧ (¬ ((nI (dP C)) ≤ (nI k)) → pz_S 4 (some .int) am_r142 1 Q 15 [(0, .ref 0), (1, .int y), (2, .int a2), (3, .int (nI k))] [] h) from ⟨fun hz => absurd hz (show ¬ (nI (dP C) ≤ nI k) by rw [nI_leI (by omega) (by omega)]; omega), fun _ => ?_⟩)
    refine am_goX 2 (show am_sh h 0 = some (10, 0) ∧ pz_S 4 (some .int) am_r142 1 Q 19 [(0, .ref 0), (1, .int y), (2, .int a2), (3, .int (nI k))] [am_rf (h.2.2.1 0 3)] h from ⟨ex_0 hP, ?_⟩)
    rw [show am_rf (h.2.2.1 0 3) = .ref 17 from congrArg am_rf (hR)]
    refine am_goX 3 (show am_sh h 0 = some (10, 0) ∧ pz_S 4 (some .int) am_r142 1 Q 24 [(0, .ref 0), (1, .int y), (2, .int a2), (3, .int (nI k))] [am_rf (h.2.2.1 0 7), .int (nI k), .ref 17] h from ⟨ex_0 hP, ?_⟩)
    rw [show am_rf (h.2.2.1 0 7) = .ref 36 from congrArg am_rf (ex_r0_7 hP)]
    refine am_goX 1 (show am_rc h 17 0 ∧ 0 ≤ 8 ∧ h.2.2.2.2 + am_al 89 ≤ 175 ∧ am_call am_cod 1 89 [.ref 17, .int (nI k), .ref 36] h (fun vv h' => pz_S 4 (some .int) am_r142 1 Q 27 [(0, .ref 0), (1, .int y), (2, .int a2), (3, .int (nI k))] (vv.toList ++ []) h') from ⟨Or.inl ⟨by decide, ex_17 hP⟩, by decide, ex_lim hP rfl, am_call.up (d_89_t17_36 hP hI hT hD hS (fC_0 (c := 17) (h := h)) (by omega) ?_) (by decide)⟩)
    suffices key : ∀ (v5 : Int32), v5 = (if ¬ (d_89 C s k) = y then a2 else a2 ||| ((Int32.ofInt 1) <<< ((nI k) &&& 31))) → pz_S 4 (some .int) am_r142 1 Q 37 [(0, .ref 0), (1, .int y), (2, .int v5), (3, .int (nI k))] [] h by
      refine am_goX 2 (show (¬ (d_89 C s k) = y → pz_S 4 (some .int) am_r142 1 Q 37 [(0, .ref 0), (1, .int y), (2, .int a2), (3, .int (nI k))] [] h) ∧ (¬ ¬ (d_89 C s k) = y → pz_S 4 (some .int) am_r142 1 Q 31 [(0, .ref 0), (1, .int y), (2, .int a2), (3, .int (nI k))] [] h) from ⟨fun c4 => ?_, fun c4 => ?_⟩)
      · exact sv_S2 sv2_142 (by intro q hq; simp only [List.mem_cons, List.not_mem_nil, or_false] at hq; rcases hq with rfl | rfl | rfl | rfl <;> rfl) (key _ (if_pos c4).symm)
      · refine am_goX 6 (show 2 < 4 ∧ pz_S 4 (some .int) am_r142 1 Q 37 [(2, .int (a2 ||| ((Int32.ofInt 1) <<< ((nI k) &&& 31)))), (0, .ref 0), (1, .int y), (3, .int (nI k))] [] h from ⟨by decide, ?_⟩)
        exact sv_S2 sv2_142 (by intro q hq; simp only [List.mem_cons, List.not_mem_nil, or_false] at hq; rcases hq with rfl | rfl | rfl | rfl <;> rfl) (key _ (if_neg c4).symm)
    intro v5 e6
    subst e6
    refine am_goX 2 (show 3 < 4 ∧ pz_S 4 (some .int) am_r142 1 Q 4 [(3, .int ((nI k) + (Int32.ofInt 1))), (0, .ref 0), (1, .int y), (2, .int (if ¬ (d_89 C s k) = y then a2 else a2 ||| ((Int32.ofInt 1) <<< ((nI k) &&& 31))))] [] h from ⟨by decide, ?_⟩)
    rw [show (nI k) + (Int32.ofInt 1) = nI (k + 1) from (dn_a rfl rfl)]
    exact sv_S2 sv2_142 (by intro q hq; simp only [List.mem_cons, List.not_mem_nil, or_false] at hq; rcases hq with rfl | rfl | rfl | rfl <;> rfl) (ih (k + 1) (if ¬ (d_89 C s k) = y then a2 else a2 ||| ((Int32.ofInt 1) <<< ((nI k) &&& 31))) (by omega) hZ)
theorem d_142_N17 (hP : ex_P h) (hI : cI C) (hT : c_v 17 C h) (hD : c_d 17 C h) (hR : h.2.2.1 0 3 = some 17) (hS : sC 36 s h)  (hQ : Q (some (.int (d_142 C s y))) h) : am_call am_cod 2 142 [.ref 0, .int y] h Q := by
  have h6 := hT.1.2.1
  have h5 := hT.2.1.2.1
  refine pz_call (n := 142) (nL := 4) (rt := (some .int)) (rows := am_r142) (d := 1) (by decide +kernel) (by decide +kernel) rfl (by funext pc; rfl) (ex_175 hP) (by exact Nat.le_of_ble_eq_true rfl) ?_
  refine am_goX 4 (show 2 < 4 ∧ 3 < 4 ∧ pz_S 4 (some .int) am_r142 1 Q 4 [(3, .int (Int32.ofInt 0)), (2, .int (Int32.ofInt 0)), (0, .ref 0), (1, .int y)] [] h from ⟨by decide, by decide, ?_⟩)
  refine sv_S2 sv2_142 (by intro q hq; simp only [List.mem_cons, List.not_mem_nil, or_false] at hq; rcases hq with rfl | rfl | rfl | rfl <;> rfl) (d_142_4_N17 hP hI hT hD hR hS (dP C) 0 (Int32.ofInt 0) (by omega) ?_)
  exact am_goX 2 (show (∃ ty, (some .int) = some ty ∧ narrow ty (.int (d_142_4 C s y (dP C) 0 (Int32.ofInt 0))) = .int (d_142_4 C s y (dP C) 0 (Int32.ofInt 0))) ∧ h.2.2.2.2 = 175 ∧ _ from ⟨⟨.int, rfl, rfl⟩, ex_175 hP, hQ⟩)
theorem d_147_N17 (hP : ex_P h) (hI : cI C) (hT : c_v 17 C h) (hD : c_d 17 C h) (hR : h.2.2.1 0 3 = some 17) (hS : sC 36 s h) (hp : p < dP C) (hQ : Q (some (.int (d_147 C s p))) h) : am_call am_cod 3 147 [.ref 0, .int (nI p)] h Q := by
  have h6 := hT.1.2.1
  have h5 := hT.2.1.2.1
  refine pz_call (n := 147) (nL := 2) (rt := (some .int)) (rows := am_r147) (d := 2) (by decide +kernel) (by decide +kernel) rfl (by funext pc; rfl) (ex_175 hP) (by exact Nat.le_of_ble_eq_true rfl) ?_
  refine am_goX 3 (show am_rc h 0 10 ∧ 0 ≤ 8 ∧ h.2.2.2.2 + am_al 87 ≤ 175 ∧ am_call am_cod 2 87 [.ref 0, .int (nI p)] h (fun vv h' => pz_S 2 (some .int) am_r147 2 Q 5 [(0, .ref 0), (1, .int (nI p))] (vv.toList ++ []) h') from ⟨Or.inl ⟨by decide, ex_0 hP⟩, by decide, ex_lim hP rfl, am_call.up (d_87_t17 hP hT hR ?_) (by decide)⟩)
  rw [show d_87 C (nI p) = Int32.ofInt 1 from (v_87 hp)]
  refine am_goX 1 (show (¬ (Int32.ofInt 1) = 0 → pz_S 2 (some .int) am_r147 2 Q 10 [(0, .ref 0), (1, .int (nI p))] [] h) ∧ (¬ ¬ (Int32.ofInt 1) = 0 → pz_S 2 (some .int) am_r147 2 Q 8 [(0, .ref 0), (1, .int (nI p))] [] h) from ⟨fun _ => ?_, fun hz => absurd (by decide) hz⟩)
  refine am_goX 3 (show am_sh h 0 = some (10, 0) ∧ pz_S 2 (some .int) am_r147 2 Q 15 [(0, .ref 0), (1, .int (nI p))] [am_rf (h.2.2.1 0 3), .ref 0] h from ⟨ex_0 hP, ?_⟩)
  rw [show am_rf (h.2.2.1 0 3) = .ref 17 from congrArg am_rf (hR)]
  refine am_goX 3 (show am_sh h 0 = some (10, 0) ∧ pz_S 2 (some .int) am_r147 2 Q 20 [(0, .ref 0), (1, .int (nI p))] [am_rf (h.2.2.1 0 7), .int (nI p), .ref 17, .ref 0] h from ⟨ex_0 hP, ?_⟩)
  rw [show am_rf (h.2.2.1 0 7) = .ref 36 from congrArg am_rf (ex_r0_7 hP)]
  refine am_goX 1 (show am_rc h 17 0 ∧ 1 ≤ 8 ∧ h.2.2.2.2 + am_al 89 ≤ 175 ∧ am_call am_cod 2 89 [.ref 17, .int (nI p), .ref 36] h (fun vv h' => pz_S 2 (some .int) am_r147 2 Q 23 [(0, .ref 0), (1, .int (nI p))] (vv.toList ++ [.ref 0]) h') from ⟨Or.inl ⟨by decide, ex_17 hP⟩, by decide, ex_lim hP rfl, am_call.up (d_89_t17_36 hP hI hT hD hS (fC_0 (c := 17) (h := h)) (by omega) ?_) (by decide)⟩)
  refine am_goX 3 (show am_rc h 0 10 ∧ 0 ≤ 8 ∧ h.2.2.2.2 + am_al 142 ≤ 175 ∧ am_call am_cod 2 142 [.ref 0, .int ((d_89 C s p) + (Int32.ofInt 1))] h (fun vv h' => pz_S 2 (some .int) am_r147 2 Q 28 [(0, .ref 0), (1, .int (nI p))] (vv.toList ++ []) h') from ⟨Or.inl ⟨by decide, ex_0 hP⟩, by decide, ex_lim hP rfl, am_call.up (d_142_N17 hP hI hT hD hR hS ?_) (by decide)⟩)
  exact am_goX 1 (show (∃ ty, (some .int) = some ty ∧ narrow ty (.int (d_142 C s ((d_89 C s p) + (Int32.ofInt 1)))) = .int (d_142 C s ((d_89 C s p) + (Int32.ofInt 1)))) ∧ h.2.2.2.2 = 175 ∧ _ from ⟨⟨.int, rfl, rfl⟩, ex_175 hP, hQ⟩)
theorem d_147_xN17 (hP : ex_P h) (hI : cI C) (hT : c_v 17 C h) (hD : c_d 17 C h) (hR : h.2.2.1 0 3 = some 17) (hS : sC 36 s h) (ey : d_87 C y = Int32.ofInt 0) (hQ : Q (some (.int d_147x)) h) : am_call am_cod 3 147 [.ref 0, .int y] h Q := by
  have h6 := hT.1.2.1
  have h5 := hT.2.1.2.1
  refine pz_call (n := 147) (nL := 2) (rt := (some .int)) (rows := am_r147) (d := 2) (by decide +kernel) (by decide +kernel) rfl (by funext pc; rfl) (ex_175 hP) (by exact Nat.le_of_ble_eq_true rfl) ?_
  refine am_goX 3 (show am_rc h 0 10 ∧ 0 ≤ 8 ∧ h.2.2.2.2 + am_al 87 ≤ 175 ∧ am_call am_cod 2 87 [.ref 0, .int y] h (fun vv h' => pz_S 2 (some .int) am_r147 2 Q 5 [(0, .ref 0), (1, .int y)] (vv.toList ++ []) h') from ⟨Or.inl ⟨by decide, ex_0 hP⟩, by decide, ex_lim hP rfl, am_call.up (d_87_t17 hP hT hR ?_) (by decide)⟩)
  rw [show d_87 C y = Int32.ofInt 0 from ey]
  refine am_goX 1 (show (¬ (Int32.ofInt 0) = 0 → pz_S 2 (some .int) am_r147 2 Q 10 [(0, .ref 0), (1, .int y)] [] h) ∧ (¬ ¬ (Int32.ofInt 0) = 0 → pz_S 2 (some .int) am_r147 2 Q 8 [(0, .ref 0), (1, .int y)] [] h) from ⟨fun hz => absurd hz (by decide), fun _ => ?_⟩)
  exact am_goX 2 (show (∃ ty, (some .int) = some ty ∧ narrow ty (.int (Int32.ofInt (-1))) = .int (Int32.ofInt (-1))) ∧ h.2.2.2.2 = 175 ∧ _ from ⟨⟨.int, rfl, rfl⟩, ex_175 hP, hQ⟩)
def d_262_4 (C : sp_C) (s : dS) (y : Int32) : Nat → Nat → Int32 → Int32
  | 0, _, a2 => a2
  | m + 1, k, a2 => d_262_4 C s y m (k + 1) (a2 ||| (if ¬ (d_223 C s k) = y then Int32.ofInt 0 else (Int32.ofInt 1) <<< ((nI k) &&& 31)))
theorem d_262_4_M (hP : ex_P h) (hI : cI C) (hT : tR C h) (hO : ∀ e, e < dE C → h.1 172 e = dW V e) (hS : sR 0 (dP C) s h) : ∀ (m k : Nat) (a2 : Int32), k + m = dP C → (pz_S 4 (some .int) am_r262 2 Q 38 [(2, .int (d_262_4 C s y m k a2))] [] h) → pz_S 4 (some .int) am_r262 2 Q 4 [(0, .ref 154), (1, .int y), (2, .int a2), (3, .int (nI k))] [] h := by
  intro m
  induction m with
  | zero =>
    intro k a2 hk hZ
    have h6 := hT.1.2.1
    have h5 := hT.2.1.2.1
    refine am_goX 3 (show am_rc h 154 11 ∧ 1 ≤ 8 ∧ h.2.2.2.2 + am_al 186 ≤ 175 ∧ am_call am_cod 2 186 [.ref 154] h (fun vv h' => pz_S 4 (some .int) am_r262 2 Q 9 [(0, .ref 154), (1, .int y), (2, .int a2), (3, .int (nI k))] (vv.toList ++ [.int (nI k)]) h') from ⟨Or.inl ⟨by decide, ex_154 hP⟩, by decide, ex_lim hP rfl, am_call.up (d_186_r hP hT ?_) (by decide)⟩)
    refine am_goX 1 (show ((nI (dP C)) ≤ (nI k) → pz_S 4 (some .int) am_r262 2 Q 38 [(0, .ref 154), (1, .int y), (2, .int a2), (3, .int (nI k))] [] h) ∧ (¬ ((nI (dP C)) ≤ (nI k)) → pz_S 4 (some .int) am_r262 2 Q 12 [(0, .ref 154), (1, .int y), (2, .int a2), (3, .int (nI k))] [] h) from ⟨fun _ => ?_, fun hz => absurd (show nI (dP C) ≤ nI k from nI_le (by omega) (by omega)) hz⟩)
    exact sv_S2 sv2_262 (by intro q hq; simp only [List.mem_cons, List.not_mem_nil, or_false] at hq; rcases hq with rfl <;> rfl) (hZ)
  | succ m ih =>
    intro k a2 hk hZ
    have h6 := hT.1.2.1
    have h5 := hT.2.1.2.1
    refine am_goX 3 (show am_rc h 154 11 ∧ 1 ≤ 8 ∧ h.2.2.2.2 + am_al 186 ≤ 175 ∧ am_call am_cod 2 186 [.ref 154] h (fun vv h' => pz_S 4 (some .int) am_r262 2 Q 9 [(0, .ref 154), (1, .int y), (2, .int a2), (3, .int (nI k))] (vv.toList ++ [.int (nI k)]) h') from ⟨Or.inl ⟨by decide, ex_154 hP⟩, by decide, ex_lim hP rfl, am_call.up (d_186_r hP hT ?_) (by decide)⟩)
    refine am_goX 1 (show ((nI (dP C)) ≤ (nI k) → pz_S 4 (some .int) am_r262 2 Q 38 [(0, .ref 154), (1, .int y), (2, .int a2), (3, .int (nI k))] [] h) ∧ (¬ ((nI (dP C)) ≤ (nI k)) → pz_S 4 (some .int) am_r262 2 Q 12 [(0, .ref 154), (1, .int y), (2, .int a2), (3, .int (nI k))] [] h) from ⟨fun hz => absurd hz (show ¬ (nI (dP C) ≤ nI k) by rw [nI_leI (by omega) (by omega)]; omega), fun _ => ?_⟩)
    refine am_goX 5 (show am_rc h 154 11 ∧ 1 ≤ 8 ∧ h.2.2.2.2 + am_al 223 ≤ 175 ∧ am_call am_cod 2 223 [.ref 154, .int (Int32.ofInt 0), .int (nI k)] h (fun vv h' => pz_S 4 (some .int) am_r262 2 Q 19 [(0, .ref 154), (1, .int y), (2, .int a2), (3, .int (nI k))] (vv.toList ++ [.int a2]) h') from ⟨Or.inl ⟨by decide, ex_154 hP⟩, by decide, ex_lim hP rfl, am_call.up (d_223_r0 hP hI hT hO hS (fR_0 (h := h)) (by omega) ?_) (by decide)⟩)
    suffices key : ∀ (v8 : Int32), v8 = (if ¬ (d_223 C s k) = y then Int32.ofInt 0 else (Int32.ofInt 1) <<< ((nI k) &&& 31)) → pz_S 4 (some .int) am_r262 2 Q 30 [(0, .ref 154), (1, .int y), (3, .int (nI k))] [.int v8, .int a2] h by
      refine am_goX 2 (show (¬ (d_223 C s k) = y → pz_S 4 (some .int) am_r262 2 Q 29 [(0, .ref 154), (1, .int y), (2, .int a2), (3, .int (nI k))] [.int a2] h) ∧ (¬ ¬ (d_223 C s k) = y → pz_S 4 (some .int) am_r262 2 Q 23 [(0, .ref 154), (1, .int y), (2, .int a2), (3, .int (nI k))] [.int a2] h) from ⟨fun c7 => ?_, fun c7 => ?_⟩)
      · refine am_goX 1 (show pz_S 4 (some .int) am_r262 2 Q 30 [(0, .ref 154), (1, .int y), (2, .int a2), (3, .int (nI k))] [.int (Int32.ofInt 0), .int a2] h from ?_)
        exact sv_S2 sv2_262 (by intro q hq; simp only [List.mem_cons, List.not_mem_nil, or_false] at hq; rcases hq with rfl | rfl | rfl <;> rfl) (key _ (if_pos c7).symm)
      · refine am_goX 4 (show pz_S 4 (some .int) am_r262 2 Q 30 [(0, .ref 154), (1, .int y), (2, .int a2), (3, .int (nI k))] [.int ((Int32.ofInt 1) <<< ((nI k) &&& 31)), .int a2] h from ?_)
        exact sv_S2 sv2_262 (by intro q hq; simp only [List.mem_cons, List.not_mem_nil, or_false] at hq; rcases hq with rfl | rfl | rfl <;> rfl) (key _ (if_neg c7).symm)
    intro v8 e9
    subst e9
    refine am_goX 4 (show 2 < 4 ∧ 3 < 4 ∧ pz_S 4 (some .int) am_r262 2 Q 4 [(3, .int ((nI k) + (Int32.ofInt 1))), (2, .int (a2 ||| (if ¬ (d_223 C s k) = y then Int32.ofInt 0 else (Int32.ofInt 1) <<< ((nI k) &&& 31)))), (0, .ref 154), (1, .int y)] [] h from ⟨by decide, by decide, ?_⟩)
    rw [show (nI k) + (Int32.ofInt 1) = nI (k + 1) from (dn_a rfl rfl)]
    exact sv_S2 sv2_262 (by intro q hq; simp only [List.mem_cons, List.not_mem_nil, or_false] at hq; rcases hq with rfl | rfl | rfl | rfl <;> rfl) (ih (k + 1) (a2 ||| (if ¬ (d_223 C s k) = y then Int32.ofInt 0 else (Int32.ofInt 1) <<< ((nI k) &&& 31))) (by omega) hZ)
def d_262 (C : sp_C) (s : dS) (y : Int32) : Int32 := d_262_4 C s y (dP C) 0 (Int32.ofInt 0)
theorem d_262_M (hP : ex_P h) (hI : cI C) (hT : tR C h) (hO : ∀ e, e < dE C → h.1 172 e = dW V e) (hS : sR 0 (dP C) s h)  (hQ : Q (some (.int (d_262 C s y))) h) : am_call am_cod 3 262 [.ref 154, .int y] h Q := by
  have h6 := hT.1.2.1
  have h5 := hT.2.1.2.1
  refine pz_call (n := 262) (nL := 4) (rt := (some .int)) (rows := am_r262) (d := 2) (by decide +kernel) (by decide +kernel) rfl (by funext pc; rfl) (ex_175 hP) (by exact Nat.le_of_ble_eq_true rfl) ?_
  refine am_goX 4 (show 2 < 4 ∧ 3 < 4 ∧ pz_S 4 (some .int) am_r262 2 Q 4 [(3, .int (Int32.ofInt 0)), (2, .int (Int32.ofInt 0)), (0, .ref 154), (1, .int y)] [] h from ⟨by decide, by decide, ?_⟩)
  refine sv_S2 sv2_262 (by intro q hq; simp only [List.mem_cons, List.not_mem_nil, or_false] at hq; rcases hq with rfl | rfl | rfl | rfl <;> rfl) (d_262_4_M hP hI hT hO hS (dP C) 0 (Int32.ofInt 0) (by omega) ?_)
  exact am_goX 2 (show (∃ ty, (some .int) = some ty ∧ narrow ty (.int (d_262_4 C s y (dP C) 0 (Int32.ofInt 0))) = .int (d_262_4 C s y (dP C) 0 (Int32.ofInt 0))) ∧ h.2.2.2.2 = 175 ∧ _ from ⟨⟨.int, rfl, rfl⟩, ex_175 hP, hQ⟩)
def d_275 (C : sp_C) (s : dS) (p : Nat) : Int32 := d_262 C s ((d_223 C s p) + (Int32.ofInt 1))
theorem d_275_M (hP : ex_P h) (hI : cI C) (hT : tR C h) (hO : ∀ e, e < dE C → h.1 172 e = dW V e) (hS : sR 0 (dP C) s h) (hp : p < dP C) (hQ : ∀ g, Q (some (.int (d_275 C s p))) g) : am_call am_cod 4 275 [.ref 154, .int (nI p)] h Q := by
  have h6 := hT.1.2.1
  have h5 := hT.2.1.2.1
  refine pz_call (n := 275) (nL := 2) (rt := (some .int)) (rows := am_r275) (d := 3) (by decide +kernel) (by decide +kernel) rfl (by funext pc; rfl) (ex_175 hP) (by exact Nat.le_of_ble_eq_true rfl) ?_
  refine am_goX 3 (show am_sh h 154 = some (11, 0) ∧ narrow (am_fty 11 0) (.int (Int32.ofInt 0)) = .int (Int32.ofInt 0) ∧ fits (am_fty 11 0) (.int (Int32.ofInt 0)) = true ∧ pz_S 2 (some .int) am_r275 3 Q 5 [(0, .ref 154), (1, .int (nI p))] [] (am_wI h 154 0 (Int32.ofInt 0)) from ⟨ex_154 hP, rfl, rfl, ?_⟩)
  have f11 : ex_P (am_wI h 154 0 (Int32.ofInt 0)) := hP
  have f12 : cI C := hI
  have f13 : tR C (am_wI h 154 0 (Int32.ofInt 0)) := tR_w (by omega) hT
  have f14 : ∀ e, e < dE C → (am_wI h 154 0 (Int32.ofInt 0)).1 172 e = dW V e := on_w (by omega) hO
  have f15 : sR 0 (dP C) s (am_wI h 154 0 (Int32.ofInt 0)) := sR_o (by omega) hS
  generalize am_wI h 154 0 (Int32.ofInt 0) = h10 at f11 f12 f13 f14 f15 ⊢
  refine am_goX 3 (show am_rc h10 154 11 ∧ 0 ≤ 8 ∧ h10.2.2.2.2 + am_al 221 ≤ 175 ∧ am_call am_cod 3 221 [.ref 154, .int (nI p)] h10 (fun vv h' => pz_S 2 (some .int) am_r275 3 Q 10 [(0, .ref 154), (1, .int (nI p))] (vv.toList ++ []) h') from ⟨Or.inl ⟨by decide, ex_154 f11⟩, by decide, ex_lim f11 rfl, am_call.up (d_221_r f11 f13 ?_) (by decide)⟩)
  rw [show d_221 C (nI p) = Int32.ofInt 1 from ((d_221_e _).trans (v_87 hp))]
  refine am_goX 1 (show ((Int32.ofInt 1) = 0 → pz_S 2 (some .int) am_r275 3 Q 28 [(0, .ref 154), (1, .int (nI p))] [] h10) ∧ (¬ ((Int32.ofInt 1) = 0) → pz_S 2 (some .int) am_r275 3 Q 13 [(0, .ref 154), (1, .int (nI p))] [] h10) from ⟨fun hz => absurd hz (by decide), fun _ => ?_⟩)
  refine am_goX 5 (show am_rc h10 154 11 ∧ 1 ≤ 8 ∧ h10.2.2.2.2 + am_al 223 ≤ 175 ∧ am_call am_cod 3 223 [.ref 154, .int (Int32.ofInt 0), .int (nI p)] h10 (fun vv h' => pz_S 2 (some .int) am_r275 3 Q 20 [(0, .ref 154), (1, .int (nI p))] (vv.toList ++ [.ref 154]) h') from ⟨Or.inl ⟨by decide, ex_154 f11⟩, by decide, ex_lim f11 rfl, am_call.up (d_223_r0 f11 f12 f13 f14 f15 (fR_0 (h := h10)) (by omega) ?_) (by decide)⟩)
  refine am_goX 3 (show am_rc h10 154 11 ∧ 0 ≤ 8 ∧ h10.2.2.2.2 + am_al 262 ≤ 175 ∧ am_call am_cod 3 262 [.ref 154, .int ((d_223 C s p) + (Int32.ofInt 1))] h10 (fun vv h' => pz_S 2 (some .int) am_r275 3 Q 25 [(0, .ref 154), (1, .int (nI p))] (vv.toList ++ []) h') from ⟨Or.inl ⟨by decide, ex_154 f11⟩, by decide, ex_lim f11 rfl, am_call.up (d_262_M f11 f12 f13 f14 f15 ?_) (by decide)⟩)
  exact am_goX 2 (show (∃ ty, (some .int) = some ty ∧ narrow ty (.int (d_262 C s ((d_223 C s p) + (Int32.ofInt 1)))) = .int (d_262 C s ((d_223 C s p) + (Int32.ofInt 1)))) ∧ h10.2.2.2.2 = 175 ∧ _ from ⟨⟨.int, rfl, rfl⟩, ex_175 f11, hQ _⟩)
def d_275x  : Int32 := Int32.ofInt (-1)
theorem d_275_xM (hP : ex_P h) (hI : cI C) (hT : tR C h) (hO : ∀ e, e < dE C → h.1 172 e = dW V e) (hS : sR 0 (dP C) s h) (ey : d_87 C y = Int32.ofInt 0) (hQ : ∀ g, Q (some (.int d_275x)) g) : am_call am_cod 4 275 [.ref 154, .int y] h Q := by
  have h6 := hT.1.2.1
  have h5 := hT.2.1.2.1
  refine pz_call (n := 275) (nL := 2) (rt := (some .int)) (rows := am_r275) (d := 3) (by decide +kernel) (by decide +kernel) rfl (by funext pc; rfl) (ex_175 hP) (by exact Nat.le_of_ble_eq_true rfl) ?_
  refine am_goX 3 (show am_sh h 154 = some (11, 0) ∧ narrow (am_fty 11 0) (.int (Int32.ofInt 0)) = .int (Int32.ofInt 0) ∧ fits (am_fty 11 0) (.int (Int32.ofInt 0)) = true ∧ pz_S 2 (some .int) am_r275 3 Q 5 [(0, .ref 154), (1, .int y)] [] (am_wI h 154 0 (Int32.ofInt 0)) from ⟨ex_154 hP, rfl, rfl, ?_⟩)
  have f17 : ex_P (am_wI h 154 0 (Int32.ofInt 0)) := hP
  have f18 : cI C := hI
  have f19 : tR C (am_wI h 154 0 (Int32.ofInt 0)) := tR_w (by omega) hT
  have f20 : ∀ e, e < dE C → (am_wI h 154 0 (Int32.ofInt 0)).1 172 e = dW V e := on_w (by omega) hO
  have f21 : sR 0 (dP C) s (am_wI h 154 0 (Int32.ofInt 0)) := sR_o (by omega) hS
  generalize am_wI h 154 0 (Int32.ofInt 0) = h16 at f17 f18 f19 f20 f21 ⊢
  refine am_goX 3 (show am_rc h16 154 11 ∧ 0 ≤ 8 ∧ h16.2.2.2.2 + am_al 221 ≤ 175 ∧ am_call am_cod 3 221 [.ref 154, .int y] h16 (fun vv h' => pz_S 2 (some .int) am_r275 3 Q 10 [(0, .ref 154), (1, .int y)] (vv.toList ++ []) h') from ⟨Or.inl ⟨by decide, ex_154 f17⟩, by decide, ex_lim f17 rfl, am_call.up (d_221_r f17 f19 ?_) (by decide)⟩)
  rw [show d_221 C y = Int32.ofInt 0 from ((d_221_e _).trans ey)]
  refine am_goX 1 (show ((Int32.ofInt 0) = 0 → pz_S 2 (some .int) am_r275 3 Q 28 [(0, .ref 154), (1, .int y)] [] h16) ∧ (¬ ((Int32.ofInt 0) = 0) → pz_S 2 (some .int) am_r275 3 Q 13 [(0, .ref 154), (1, .int y)] [] h16) from ⟨fun _ => ?_, fun hz => absurd (by decide) hz⟩)
  exact am_goX 2 (show (∃ ty, (some .int) = some ty ∧ narrow ty (.int (Int32.ofInt (-1))) = .int (Int32.ofInt (-1))) ∧ h16.2.2.2.2 = 175 ∧ _ from ⟨⟨.int, rfl, rfl⟩, ex_175 f17, hQ _⟩)
theorem off_e {C : sp_C} {s : dS} {p : Nat} : d_223 C s p = d_89 C s p := rfl
theorem of_e {C : sp_C} {s : dS} {y : Int32} : ∀ (m k : Nat) (a : Int32), d_262_4 C s y m k a = d_142_4 C s y m k a := by
  intro m
  induction m with
  | zero => exact fun _ _ => rfl
  | succ m ih =>
    intro k a
    rw [d_262_4, d_142_4, off_e]
    by_cases e : d_89 C s k = y
    · simp only [e, if_true, if_false, not_true_eq_false, not_false_eq_true]
      exact ih _ _
    · simp only [e, if_true, if_false, not_true_eq_false, not_false_eq_true, or0]
      exact ih _ _
def a_le (C : sp_C) (s : dS) (x : Int32) : Int32 := if d_87 C x = Int32.ofInt 0 then Int32.ofInt (-1) else d_147 C s x.toInt.toNat
theorem a_le1 {C : sp_C} {s : dS} {x : Int32} (e : d_87 C x = Int32.ofInt 0) : a_le C s x = Int32.ofInt (-1) := if_pos e
theorem a_le2 {C : sp_C} {s : dS} {p : Nat} (hp : p < dP C) (h6 : dP C ≤ 6) : a_le C s (nI p) = d_147 C s p := by
  unfold a_le
  rw [if_neg (v_87b hp h6), nI_tnn (by omega)]
theorem q_147 {h : am_H} {C : sp_C} {D : Nat} {s : dS} {H : dH} {M : dMk} {n : Nat} (hI : iv_I h) (i : KI C D s H M n) (j : KC C s H M n h) (x : Int32) : am_call am_cod 60 147 [.ref 0, .int x] h (fun v _ => v = some (.int (a_le C s x))) := by
  have hP := iv_P hI
  have hc := i.1
  have h6 := hc.1.1
  obtain ⟨c, c1, c2, c3, c4, c5, -⟩ := j
  rcases c_87 h6 x with e | ⟨p, hp, rfl⟩
  · rcases c1 with rfl | rfl
    · exact am_call.up (d_147_xN6 hP hc c3 c4 c2 c5 e (by rw [a_le1 e]; rfl)) (by decide)
    · exact am_call.up (d_147_xN17 hP hc c3 c4 c2 c5 e (by rw [a_le1 e]; rfl)) (by decide)
  · rcases c1 with rfl | rfl
    · exact am_call.up (d_147_N6 hP hc c3 c4 c2 c5 hp (by rw [a_le2 hp h6])) (by decide)
    · exact am_call.up (d_147_N17 hP hc c3 c4 c2 c5 hp (by rw [a_le2 hp h6])) (by decide)
theorem q_275 {h : am_H} {C : sp_C} {D : Nat} {s : dS} {H : dH} {M : dMk} {n : Nat} (hI : iv_I h) (i : KI C D s H M n) (j : KR C s H M n h) (x : Int32) : am_call am_cod 60 275 [.ref 154, .int x] h (fun v _ => v = some (.int (a_le C s x))) := by
  have hP := iv_P hI
  have hc := i.1
  have h6 := hc.1.1
  obtain ⟨r1, r2, r3, -⟩ := j
  rcases c_87 h6 x with e | ⟨p, hp, rfl⟩
  · exact am_call.up (d_275_xM hP hc r1 r2 r3 e (fun g => by rw [a_le1 e]; rfl)) (by decide)
  · refine am_call.up (d_275_M hP hc r1 r2 r3 hp (fun g => ?_)) (by decide)
    rw [a_le2 hp h6]
    unfold d_275 d_147 d_262 d_142
    rw [of_e, off_e]
