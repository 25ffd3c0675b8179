section
/-! THROUGH, WEDDED, CIRCLES: THE WALKS -/
variable {h : am_H} {Q : am_Q} {C V : sp_C} {x y z w : Int32} {e l p q : Nat} {s : dS}
theorem sv2_160 : am_r160.all (fun q => sv2_ok q.2) = true := by decide +kernel
theorem sv2_161 : am_r161.all (fun q => sv2_ok q.2) = true := by decide +kernel
theorem sv2_162 : am_r162.all (fun q => sv2_ok q.2) = true := by decide +kernel
theorem sv2_163 : am_r163.all (fun q => sv2_ok q.2) = true := by decide +kernel
theorem sv2_164 : am_r164.all (fun q => sv2_ok q.2) = true := by decide +kernel
theorem sv2_279 : am_r279.all (fun q => sv2_ok q.2) = true := by decide +kernel
theorem sv2_280 : am_r280.all (fun q => sv2_ok q.2) = true := by decide +kernel
theorem sv2_281 : am_r281.all (fun q => sv2_ok q.2) = true := by decide +kernel
theorem sv2_282 : am_r282.all (fun q => sv2_ok q.2) = true := by decide +kernel
def d_161_4 (C : sp_C) (s : dS) (y : Int32) : Nat → Nat → Int32 → Int32
  | 0, _, a2 => a2
  | m + 1, k, a2 => d_161_4 C s y m (k + 1) (if (d_65 y (nI k)) = 0 then a2 else a2 ||| (s.2.2.2.1 k))
theorem d_161_4_N6 (hP : ex_P h) (hI : cI C) (hT : c_v 6 C h) (hD : c_d 6 C h) (hR : h.2.2.1 0 3 = some 6) (hS : sC 36 s h) : ∀ (m k : Nat) (a2 : Int32), k + m = dP C → (pz_S 4 (some .int) am_r161 2 Q 41 [(2, .int (d_161_4 C s y m k a2))] [] h) → pz_S 4 (some .int) am_r161 2 Q 4 [(0, .ref 0), (1, .int y), (2, .int a2), (3, .int (nI k))] [] h := by
  intro m
  induction m with
  | zero =>
    intro k a2 hk hZ
    have h6 := hT.1.2.1
    have h5 := hT.2.1.2.1
    refine am_goX 3 (show am_sh h 0 = some (10, 0) ∧ pz_S 4 (some .int) am_r161 2 Q 9 [(0, .ref 0), (1, .int y), (2, .int a2), (3, .int (nI k))] [am_rf (h.2.2.1 0 3), .int (nI k)] h from ⟨ex_0 hP, ?_⟩)
    rw [show am_rf (h.2.2.1 0 3) = .ref 6 from congrArg am_rf (hR)]
    refine am_goX 1 (show am_sh h 6 = some (0, 0) ∧ pz_S 4 (some .int) am_r161 2 Q 12 [(0, .ref 0), (1, .int y), (2, .int a2), (3, .int (nI k))] [.int (h.1 6 0), .int (nI k)] h from ⟨ex_6 hP, ?_⟩)
    rw [show h.1 6 0 = nI (dP C) from hT.1.1]
    refine am_goX 1 (show ((nI (dP C)) ≤ (nI k) → pz_S 4 (some .int) am_r161 2 Q 41 [(0, .ref 0), (1, .int y), (2, .int a2), (3, .int (nI k))] [] h) ∧ (¬ ((nI (dP C)) ≤ (nI k)) → pz_S 4 (some .int) am_r161 2 Q 15 [(0, .ref 0), (1, .int y), (2, .int a2), (3, .int (nI k))] [] h) from ⟨fun _ => ?_, fun hz => absurd (show nI (dP C) ≤ nI k from nI_le (by omega) (by omega)) hz⟩)
    exact sv_S2 sv2_161 (by intro q hq; simp only [List.mem_cons, List.not_mem_nil, or_false] at hq; rcases hq with rfl <;> rfl) (hZ)
  | succ m ih =>
    intro k a2 hk hZ
    have h6 := hT.1.2.1
    have h5 := hT.2.1.2.1
    refine am_goX 3 (show am_sh h 0 = some (10, 0) ∧ pz_S 4 (some .int) am_r161 2 Q 9 [(0, .ref 0), (1, .int y), (2, .int a2), (3, .int (nI k))] [am_rf (h.2.2.1 0 3), .int (nI k)] h from ⟨ex_0 hP, ?_⟩)
    rw [show am_rf (h.2.2.1 0 3) = .ref 6 from congrArg am_rf (hR)]
    refine am_goX 1 (show am_sh h 6 = some (0, 0) ∧ pz_S 4 (some .int) am_r161 2 Q 12 [(0, .ref 0), (1, .int y), (2, .int a2), (3, .int (nI k))] [.int (h.1 6 0), .int (nI k)] h from ⟨ex_6 hP, ?_⟩)
    rw [show h.1 6 0 = nI (dP C) from hT.1.1]
    refine am_goX 1 (show ((nI (dP C)) ≤ (nI k) → pz_S 4 (some .int) am_r161 2 Q 41 [(0, .ref 0), (1, .int y), (2, .int a2), (3, .int (nI k))] [] h) ∧ (¬ ((nI (dP C)) ≤ (nI k)) → pz_S 4 (some .int) am_r161 2 Q 15 [(0, .ref 0), (1, .int y), (2, .int a2), (3, .int (nI k))] [] h) from ⟨fun hz => absurd hz (show ¬ (nI (dP C) ≤ nI k) by rw [nI_leI (by omega) (by omega)]; omega), fun _ => ?_⟩)
    refine am_goX 3 (show 0 ≤ 8 ∧ h.2.2.2.2 + am_al 65 ≤ 175 ∧ am_call am_cod 2 65 [.int y, .int (nI k)] h (fun vv h' => pz_S 4 (some .int) am_r161 2 Q 20 [(0, .ref 0), (1, .int y), (2, .int a2), (3, .int (nI k))] (vv.toList ++ []) h') from ⟨by decide, ex_lim hP rfl, am_call.up (d_65_w hP ?_) (by decide)⟩)
    suffices key : ∀ (v2 : Int32), v2 = (if (d_65 y (nI k)) = 0 then a2 else a2 ||| (s.2.2.2.1 k)) → pz_S 4 (some .int) am_r161 2 Q 35 [(0, .ref 0), (1, .int y), (2, .int v2), (3, .int (nI k))] [] h by
      refine am_goX 1 (show ((d_65 y (nI k)) = 0 → pz_S 4 (some .int) am_r161 2 Q 35 [(0, .ref 0), (1, .int y), (2, .int a2), (3, .int (nI k))] [] h) ∧ (¬ ((d_65 y (nI k)) = 0) → pz_S 4 (some .int) am_r161 2 Q 23 [(0, .ref 0), (1, .int y), (2, .int a2), (3, .int (nI k))] [] h) from ⟨fun c1 => ?_, fun c1 => ?_⟩)
      · exact sv_S2 sv2_161 (by intro q hq; simp only [List.mem_cons, List.not_mem_nil, or_false] at hq; rcases hq with rfl | rfl | rfl | rfl <;> rfl) (key _ (if_pos c1).symm)
      · refine am_goX 3 (show am_sh h 0 = some (10, 0) ∧ pz_S 4 (some .int) am_r161 2 Q 28 [(0, .ref 0), (1, .int y), (2, .int a2), (3, .int (nI k))] [am_rf (h.2.2.1 0 7), .int a2] h from ⟨ex_0 hP, ?_⟩)
        rw [show am_rf (h.2.2.1 0 7) = .ref 36 from congrArg am_rf (ex_r0_7 hP)]
        refine am_goX 1 (show am_sh h 36 = some (6, 0) ∧ pz_S 4 (some .int) am_r161 2 Q 31 [(0, .ref 0), (1, .int y), (2, .int a2), (3, .int (nI k))] [am_rf (h.2.2.1 36 3), .int a2] h from ⟨ex_36 hP, ?_⟩)
        rw [show am_rf (h.2.2.1 36 3) = .ref 38 from congrArg am_rf (ex_r36_3 hP)]
        refine am_goX 2 (show ∃ jj nn : Nat, am_sh h 38 = some (13, nn) ∧ jj < nn ∧ nI k = nI jj ∧ pz_S 4 (some .int) am_r161 2 Q 33 [(0, .ref 0), (1, .int y), (2, .int a2), (3, .int (nI k))] [.int (h.1 38 jj), .int a2] h from ⟨k, 6, ex_38 hP, (by omega), rfl, ?_⟩)
        rw [show h.1 38 k = s.2.2.2.1 k from (hS.2.1 k (by omega)).2]
        refine am_goX 2 (show 2 < 4 ∧ pz_S 4 (some .int) am_r161 2 Q 35 [(2, .int (a2 ||| (s.2.2.2.1 k))), (0, .ref 0), (1, .int y), (3, .int (nI k))] [] h from ⟨by decide, ?_⟩)
        exact sv_S2 sv2_161 (by intro q hq; simp only [List.mem_cons, List.not_mem_nil, or_false] at hq; rcases hq with rfl | rfl | rfl | rfl <;> rfl) (key _ (if_neg c1).symm)
    intro v2 e3
    subst e3
    refine am_goX 2 (show 3 < 4 ∧ pz_S 4 (some .int) am_r161 2 Q 4 [(3, .int ((nI k) + (Int32.ofInt 1))), (0, .ref 0), (1, .int y), (2, .int (if (d_65 y (nI k)) = 0 then a2 else a2 ||| (s.2.2.2.1 k)))] [] h from ⟨by decide, ?_⟩)
    rw [show (nI k) + (Int32.ofInt 1) = nI (k + 1) from (dn_a rfl rfl)]
    exact sv_S2 sv2_161 (by intro q hq; simp only [List.mem_cons, List.not_mem_nil, or_false] at hq; rcases hq with rfl | rfl | rfl | rfl <;> rfl) (ih (k + 1) (if (d_65 y (nI k)) = 0 then a2 else a2 ||| (s.2.2.2.1 k)) (by omega) hZ)
def d_161 (C : sp_C) (s : dS) (y : Int32) : Int32 := d_161_4 C s y (dP C) 0 y
theorem d_161_N6 (hP : ex_P h) (hI : cI C) (hT : c_v 6 C h) (hD : c_d 6 C h) (hR : h.2.2.1 0 3 = some 6) (hS : sC 36 s h)  (hQ : Q (some (.int (d_161 C s y))) h) : am_call am_cod 3 161 [.ref 0, .int y] h Q := by
  have h6 := hT.1.2.1
  have h5 := hT.2.1.2.1
  refine pz_call (n := 161) (nL := 4) (rt := (some .int)) (rows := am_r161) (d := 2) (by decide +kernel) (by decide +kernel) rfl (by funext pc; rfl) (ex_175 hP) (by exact Nat.le_of_ble_eq_true rfl) ?_
  refine am_goX 4 (show 2 < 4 ∧ 3 < 4 ∧ pz_S 4 (some .int) am_r161 2 Q 4 [(3, .int (Int32.ofInt 0)), (2, .int y), (0, .ref 0), (1, .int y)] [] h from ⟨by decide, by decide, ?_⟩)
  refine sv_S2 sv2_161 (by intro q hq; simp only [List.mem_cons, List.not_mem_nil, or_false] at hq; rcases hq with rfl | rfl | rfl | rfl <;> rfl) (d_161_4_N6 hP hI hT hD hR hS (dP C) 0 y (by omega) ?_)
  exact am_goX 2 (show (∃ ty, (some .int) = some ty ∧ narrow ty (.int (d_161_4 C s y (dP C) 0 y)) = .int (d_161_4 C s y (dP C) 0 y)) ∧ h.2.2.2.2 = 175 ∧ _ from ⟨⟨.int, rfl, rfl⟩, ex_175 hP, hQ⟩)
def d_160_25 (C : sp_C) (s : dS) (q : Nat) : Nat → Nat → Int32 → Int32
  | 0, _, _ => Int32.ofInt (-1)
  | m + 1, k, a3 => (if (d_65 a3 (nI q)) = 0 then (d_160_25 C s q m (k + 1) (d_161 C s a3)) else nI k)
theorem d_160_25_N6 (hP : ex_P h) (hI : cI C) (hT : c_v 6 C h) (hD : c_d 6 C h) (hR : h.2.2.1 0 3 = some 6) (hS : sC 36 s h) : ∀ (m k : Nat) (a3 : Int32), k + m = 6 → (Q (some (.int (d_160_25 C s q m k a3))) h) → pz_S 5 (some .int) am_r160 3 Q 25 [(0, .ref 0), (2, .int (nI q)), (3, .int a3), (4, .int (nI k))] [] h := by
  intro m
  induction m with
  | zero =>
    intro k a3 hk hQ
    have h6 := hT.1.2.1
    have h5 := hT.2.1.2.1
    refine am_goX 3 (show (((Int8.ofInt 6).toInt32) ≤ (nI k) → pz_S 5 (some .int) am_r160 3 Q 55 [(0, .ref 0), (2, .int (nI q)), (3, .int a3), (4, .int (nI k))] [] h) ∧ (¬ (((Int8.ofInt 6).toInt32) ≤ (nI k)) → pz_S 5 (some .int) am_r160 3 Q 32 [(0, .ref 0), (2, .int (nI q)), (3, .int a3), (4, .int (nI k))] [] h) from ⟨fun _ => ?_, fun hz => absurd (show nI 6 ≤ nI k from nI_le (by omega) (by omega)) hz⟩)
    exact am_goX 2 (show (∃ ty, (some .int) = some ty ∧ narrow ty (.int (Int32.ofInt (-1))) = .int (Int32.ofInt (-1))) ∧ h.2.2.2.2 = 175 ∧ _ from ⟨⟨.int, rfl, rfl⟩, ex_175 hP, hQ⟩)
  | succ m ih =>
    intro k a3 hk hQ
    have h6 := hT.1.2.1
    have h5 := hT.2.1.2.1
    refine am_goX 3 (show (((Int8.ofInt 6).toInt32) ≤ (nI k) → pz_S 5 (some .int) am_r160 3 Q 55 [(0, .ref 0), (2, .int (nI q)), (3, .int a3), (4, .int (nI k))] [] h) ∧ (¬ (((Int8.ofInt 6).toInt32) ≤ (nI k)) → pz_S 5 (some .int) am_r160 3 Q 32 [(0, .ref 0), (2, .int (nI q)), (3, .int a3), (4, .int (nI k))] [] h) from ⟨fun hz => absurd hz (show ¬ (nI 6 ≤ nI k) by rw [nI_leI (by omega) (by omega)]; omega), fun _ => ?_⟩)
    refine am_goX 3 (show 0 ≤ 8 ∧ h.2.2.2.2 + am_al 65 ≤ 175 ∧ am_call am_cod 3 65 [.int a3, .int (nI q)] h (fun vv h' => pz_S 5 (some .int) am_r160 3 Q 37 [(0, .ref 0), (2, .int (nI q)), (3, .int a3), (4, .int (nI k))] (vv.toList ++ []) h') from ⟨by decide, ex_lim hP rfl, am_call.up (d_65_w hP ?_) (by decide)⟩)
    refine am_goX 1 (show ((d_65 a3 (nI q)) = 0 → pz_S 5 (some .int) am_r160 3 Q 43 [(0, .ref 0), (2, .int (nI q)), (3, .int a3), (4, .int (nI k))] [] h) ∧ (¬ ((d_65 a3 (nI q)) = 0) → pz_S 5 (some .int) am_r160 3 Q 40 [(0, .ref 0), (2, .int (nI q)), (3, .int a3), (4, .int (nI k))] [] h) from ⟨fun c4 => ?_, fun c4 => ?_⟩)
    · refine am_goX 3 (show am_rc h 0 10 ∧ 0 ≤ 8 ∧ h.2.2.2.2 + am_al 161 ≤ 175 ∧ am_call am_cod 3 161 [.ref 0, .int a3] h (fun vv h' => pz_S 5 (some .int) am_r160 3 Q 48 [(0, .ref 0), (2, .int (nI q)), (3, .int a3), (4, .int (nI k))] (vv.toList ++ []) h') from ⟨Or.inl ⟨by decide, ex_0 hP⟩, by decide, ex_lim hP rfl, am_call.up (d_161_N6 hP hI hT hD hR hS ?_) (by decide)⟩)
      refine am_goX 3 (show 3 < 5 ∧ 4 < 5 ∧ pz_S 5 (some .int) am_r160 3 Q 25 [(4, .int ((nI k) + (Int32.ofInt 1))), (3, .int (d_161 C s a3)), (0, .ref 0), (2, .int (nI q))] [] h from ⟨by decide, by decide, ?_⟩)
      rw [show (nI k) + (Int32.ofInt 1) = nI (k + 1) from (dn_a rfl rfl)]
      exact sv_S2 sv2_160 (by intro q hq; simp only [List.mem_cons, List.not_mem_nil, or_false] at hq; rcases hq with rfl | rfl | rfl | rfl <;> rfl) (ih (k + 1) (d_161 C s a3) (by omega) (dn_q (if_pos c4) hQ))
    · exact am_goX 2 (show (∃ ty, (some .int) = some ty ∧ narrow ty (.int (nI k)) = .int (nI k)) ∧ h.2.2.2.2 = 175 ∧ _ from ⟨⟨.int, rfl, rfl⟩, ex_175 hP, dn_q (if_neg c4) hQ⟩)
def d_160 (C : sp_C) (s : dS) (p q : Nat) : Int32 := d_160_25 C s q 6 0 ((Int32.ofInt 1) <<< ((nI p) &&& 31))
theorem d_160_N6 (hP : ex_P h) (hI : cI C) (hT : c_v 6 C h) (hD : c_d 6 C h) (hR : h.2.2.1 0 3 = some 6) (hS : sC 36 s h) (hp : p < dP C) (hq : q < dP C) (hQ : Q (some (.int (d_160 C s p q))) h) : am_call am_cod 4 160 [.ref 0, .int (nI p), .int (nI q)] h Q := by
  have h6 := hT.1.2.1
  have h5 := hT.2.1.2.1
  refine pz_call (n := 160) (nL := 5) (rt := (some .int)) (rows := am_r160) (d := 3) (by decide +kernel) (by decide +kernel) rfl (by funext pc; rfl) (ex_175 hP) (by exact Nat.le_of_ble_eq_true rfl) ?_
  refine am_goX 3 (show am_rc h 0 10 ∧ 0 ≤ 8 ∧ h.2.2.2.2 + am_al 87 ≤ 175 ∧ am_call am_cod 3 87 [.ref 0, .int (nI p)] h (fun vv h' => pz_S 5 (some .int) am_r160 3 Q 5 [(0, .ref 0), (1, .int (nI p)), (2, .int (nI q))] (vv.toList ++ []) h') from ⟨Or.inl ⟨by decide, ex_0 hP⟩, by decide, ex_lim hP rfl, am_call.up (d_87_t6 hP hT hR ?_) (by decide)⟩)
  rw [show d_87 C (nI p) = Int32.ofInt 1 from (v_87 hp)]
  refine am_goX 1 (show ((Int32.ofInt 1) = 0 → pz_S 5 (some .int) am_r160 3 Q 16 [(0, .ref 0), (1, .int (nI p)), (2, .int (nI q))] [] h) ∧ (¬ ((Int32.ofInt 1) = 0) → pz_S 5 (some .int) am_r160 3 Q 8 [(0, .ref 0), (1, .int (nI p)), (2, .int (nI q))] [] h) from ⟨fun hz => absurd hz (by decide), fun _ => ?_⟩)
  refine am_goX 3 (show am_rc h 0 10 ∧ 0 ≤ 8 ∧ h.2.2.2.2 + am_al 87 ≤ 175 ∧ am_call am_cod 3 87 [.ref 0, .int (nI q)] h (fun vv h' => pz_S 5 (some .int) am_r160 3 Q 13 [(0, .ref 0), (1, .int (nI p)), (2, .int (nI q))] (vv.toList ++ []) h') from ⟨Or.inl ⟨by decide, ex_0 hP⟩, by decide, ex_lim hP rfl, am_call.up (d_87_t6 hP hT hR ?_) (by decide)⟩)
  rw [show d_87 C (nI q) = Int32.ofInt 1 from (v_87 hq)]
  refine am_goX 1 (show (¬ (Int32.ofInt 1) = 0 → pz_S 5 (some .int) am_r160 3 Q 18 [(0, .ref 0), (1, .int (nI p)), (2, .int (nI q))] [] h) ∧ (¬ ¬ (Int32.ofInt 1) = 0 → pz_S 5 (some .int) am_r160 3 Q 16 [(0, .ref 0), (1, .int (nI p)), (2, .int (nI q))] [] h) from ⟨fun _ => ?_, fun hz => absurd (by decide) hz⟩)
  refine am_goX 6 (show 3 < 5 ∧ 4 < 5 ∧ pz_S 5 (some .int) am_r160 3 Q 25 [(4, .int (Int32.ofInt 0)), (3, .int ((Int32.ofInt 1) <<< ((nI p) &&& 31))), (0, .ref 0), (1, .int (nI p)), (2, .int (nI q))] [] h from ⟨by decide, by decide, ?_⟩)
  exact sv_S2 sv2_160 (by intro q hq; simp only [List.mem_cons, List.not_mem_nil, or_false] at hq; rcases hq with rfl | rfl | rfl | rfl <;> rfl) (d_160_25_N6 hP hI hT hD hR hS 6 0 ((Int32.ofInt 1) <<< ((nI p) &&& 31)) (by omega) hQ)
def d_160x  : Int32 := Int32.ofInt (-1)
theorem d_160_xN6 (hP : ex_P h) (hI : cI C) (hT : c_v 6 C h) (hD : c_d 6 C h) (hR : h.2.2.1 0 3 = some 6) (hS : sC 36 s h) (ey : d_87 C y = Int32.ofInt 0) (hQ : Q (some (.int d_160x)) h) : am_call am_cod 4 160 [.ref 0, .int y, .int z] h Q := by
  have h6 := hT.1.2.1
  have h5 := hT.2.1.2.1
  refine pz_call (n := 160) (nL := 5) (rt := (some .int)) (rows := am_r160) (d := 3) (by decide +kernel) (by decide +kernel) rfl (by funext pc; rfl) (ex_175 hP) (by exact Nat.le_of_ble_eq_true rfl) ?_
  refine am_goX 3 (show am_rc h 0 10 ∧ 0 ≤ 8 ∧ h.2.2.2.2 + am_al 87 ≤ 175 ∧ am_call am_cod 3 87 [.ref 0, .int y] h (fun vv h' => pz_S 5 (some .int) am_r160 3 Q 5 [(0, .ref 0), (1, .int y), (2, .int z)] (vv.toList ++ []) h') from ⟨Or.inl ⟨by decide, ex_0 hP⟩, by decide, ex_lim hP rfl, am_call.up (d_87_t6 hP hT hR ?_) (by decide)⟩)
  rw [show d_87 C y = Int32.ofInt 0 from ey]
  refine am_goX 1 (show ((Int32.ofInt 0) = 0 → pz_S 5 (some .int) am_r160 3 Q 16 [(0, .ref 0), (1, .int y), (2, .int z)] [] h) ∧ (¬ ((Int32.ofInt 0) = 0) → pz_S 5 (some .int) am_r160 3 Q 8 [(0, .ref 0), (1, .int y), (2, .int z)] [] h) from ⟨fun _ => ?_, fun hz => absurd (by decide) hz⟩)
  exact am_goX 2 (show (∃ ty, (some .int) = some ty ∧ narrow ty (.int (Int32.ofInt (-1))) = .int (Int32.ofInt (-1))) ∧ h.2.2.2.2 = 175 ∧ _ from ⟨⟨.int, rfl, rfl⟩, ex_175 hP, hQ⟩)
theorem d_160_yN6 (hP : ex_P h) (hI : cI C) (hT : c_v 6 C h) (hD : c_d 6 C h) (hR : h.2.2.1 0 3 = some 6) (hS : sC 36 s h) (hp : p < dP C) (ey : d_87 C y = Int32.ofInt 0) (hQ : Q (some (.int d_160x)) h) : am_call am_cod 4 160 [.ref 0, .int (nI p), .int y] h Q := by
  have h6 := hT.1.2.1
  have h5 := hT.2.1.2.1
  refine pz_call (n := 160) (nL := 5) (rt := (some .int)) (rows := am_r160) (d := 3) (by decide +kernel) (by decide +kernel) rfl (by funext pc; rfl) (ex_175 hP) (by exact Nat.le_of_ble_eq_true rfl) ?_
  refine am_goX 3 (show am_rc h 0 10 ∧ 0 ≤ 8 ∧ h.2.2.2.2 + am_al 87 ≤ 175 ∧ am_call am_cod 3 87 [.ref 0, .int (nI p)] h (fun vv h' => pz_S 5 (some .int) am_r160 3 Q 5 [(0, .ref 0), (1, .int (nI p)), (2, .int y)] (vv.toList ++ []) h') from ⟨Or.inl ⟨by decide, ex_0 hP⟩, by decide, ex_lim hP rfl, am_call.up (d_87_t6 hP hT hR ?_) (by decide)⟩)
  rw [show d_87 C (nI p) = Int32.ofInt 1 from (v_87 hp)]
  refine am_goX 1 (show ((Int32.ofInt 1) = 0 → pz_S 5 (some .int) am_r160 3 Q 16 [(0, .ref 0), (1, .int (nI p)), (2, .int y)] [] h) ∧ (¬ ((Int32.ofInt 1) = 0) → pz_S 5 (some .int) am_r160 3 Q 8 [(0, .ref 0), (1, .int (nI p)), (2, .int y)] [] h) from ⟨fun hz => absurd hz (by decide), fun _ => ?_⟩)
  refine am_goX 3 (show am_rc h 0 10 ∧ 0 ≤ 8 ∧ h.2.2.2.2 + am_al 87 ≤ 175 ∧ am_call am_cod 3 87 [.ref 0, .int y] h (fun vv h' => pz_S 5 (some .int) am_r160 3 Q 13 [(0, .ref 0), (1, .int (nI p)), (2, .int y)] (vv.toList ++ []) h') from ⟨Or.inl ⟨by decide, ex_0 hP⟩, by decide, ex_lim hP rfl, am_call.up (d_87_t6 hP hT hR ?_) (by decide)⟩)
  rw [show d_87 C y = Int32.ofInt 0 from ey]
  refine am_goX 1 (show (¬ (Int32.ofInt 0) = 0 → pz_S 5 (some .int) am_r160 3 Q 18 [(0, .ref 0), (1, .int (nI p)), (2, .int y)] [] h) ∧ (¬ ¬ (Int32.ofInt 0) = 0 → pz_S 5 (some .int) am_r160 3 Q 16 [(0, .ref 0), (1, .int (nI p)), (2, .int y)] [] h) from ⟨fun hz => absurd hz (by decide), fun _ => ?_⟩)
  exact am_goX 2 (show (∃ ty, (some .int) = some ty ∧ narrow ty (.int (Int32.ofInt (-1))) = .int (Int32.ofInt (-1))) ∧ h.2.2.2.2 = 175 ∧ _ from ⟨⟨.int, rfl, rfl⟩, ex_175 hP, hQ⟩)
def d_162_4 (C : sp_C) (s : dS) : Nat → Nat → Int32 → Int32
  | 0, _, a1 => a1
  | m + 1, k, a1 => d_162_4 C s m (k + 1) (if ¬ (d_69 (s.2.2.2.1 k)) = (Int32.ofInt 1) then a1 else a1 ||| ((Int32.ofInt 1) <<< ((nI k) &&& 31)))
theorem d_162_4_N6 (hP : ex_P h) (hI : cI C) (hT : c_v 6 C h) (hD : c_d 6 C h) (hR : h.2.2.1 0 3 = some 6) (hS : sC 36 s h) : ∀ (m k : Nat) (a1 : Int32), k + m = dP C → (pz_S 3 (some .int) am_r162 1 Q 43 [(1, .int (d_162_4 C s m k a1))] [] h) → pz_S 3 (some .int) am_r162 1 Q 4 [(0, .ref 0), (1, .int a1), (2, .int (nI k))] [] h := by
  intro m
  induction m with
  | zero =>
    intro k a1 hk hZ
    have h6 := hT.1.2.1
    have h5 := hT.2.1.2.1
    refine am_goX 3 (show am_sh h 0 = some (10, 0) ∧ pz_S 3 (some .int) am_r162 1 Q 9 [(0, .ref 0), (1, .int a1), (2, .int (nI k))] [am_rf (h.2.2.1 0 3), .int (nI k)] h from ⟨ex_0 hP, ?_⟩)
    rw [show am_rf (h.2.2.1 0 3) = .ref 6 from congrArg am_rf (hR)]
    refine am_goX 1 (show am_sh h 6 = some (0, 0) ∧ pz_S 3 (some .int) am_r162 1 Q 12 [(0, .ref 0), (1, .int a1), (2, .int (nI k))] [.int (h.1 6 0), .int (nI k)] h from ⟨ex_6 hP, ?_⟩)
    rw [show h.1 6 0 = nI (dP C) from hT.1.1]
    refine am_goX 1 (show ((nI (dP C)) ≤ (nI k) → pz_S 3 (some .int) am_r162 1 Q 43 [(0, .ref 0), (1, .int a1), (2, .int (nI k))] [] h) ∧ (¬ ((nI (dP C)) ≤ (nI k)) → pz_S 3 (some .int) am_r162 1 Q 15 [(0, .ref 0), (1, .int a1), (2, .int (nI k))] [] h) from ⟨fun _ => ?_, fun hz => absurd (show nI (dP C) ≤ nI k from nI_le (by omega) (by omega)) hz⟩)
    exact sv_S2 sv2_162 (by intro q hq; simp only [List.mem_cons, List.not_mem_nil, or_false] at hq; rcases hq with rfl <;> rfl) (hZ)
  | succ m ih =>
    intro k a1 hk hZ
    have h6 := hT.1.2.1
    have h5 := hT.2.1.2.1
    refine am_goX 3 (show am_sh h 0 = some (10, 0) ∧ pz_S 3 (some .int) am_r162 1 Q 9 [(0, .ref 0), (1, .int a1), (2, .int (nI k))] [am_rf (h.2.2.1 0 3), .int (nI k)] h from ⟨ex_0 hP, ?_⟩)
    rw [show am_rf (h.2.2.1 0 3) = .ref 6 from congrArg am_rf (hR)]
    refine am_goX 1 (show am_sh h 6 = some (0, 0) ∧ pz_S 3 (some .int) am_r162 1 Q 12 [(0, .ref 0), (1, .int a1), (2, .int (nI k))] [.int (h.1 6 0), .int (nI k)] h from ⟨ex_6 hP, ?_⟩)
    rw [show h.1 6 0 = nI (dP C) from hT.1.1]
    refine am_goX 1 (show ((nI (dP C)) ≤ (nI k) → pz_S 3 (some .int) am_r162 1 Q 43 [(0, .ref 0), (1, .int a1), (2, .int (nI k))] [] h) ∧ (¬ ((nI (dP C)) ≤ (nI k)) → pz_S 3 (some .int) am_r162 1 Q 15 [(0, .ref 0), (1, .int a1), (2, .int (nI k))] [] h) from ⟨fun hz => absurd hz (show ¬ (nI (dP C) ≤ nI k) by rw [nI_leI (by omega) (by omega)]; omega), fun _ => ?_⟩)
    refine am_goX 2 (show am_sh h 0 = some (10, 0) ∧ pz_S 3 (some .int) am_r162 1 Q 19 [(0, .ref 0), (1, .int a1), (2, .int (nI k))] [am_rf (h.2.2.1 0 7)] h from ⟨ex_0 hP, ?_⟩)
    rw [show am_rf (h.2.2.1 0 7) = .ref 36 from congrArg am_rf (ex_r0_7 hP)]
    refine am_goX 1 (show am_sh h 36 = some (6, 0) ∧ pz_S 3 (some .int) am_r162 1 Q 22 [(0, .ref 0), (1, .int a1), (2, .int (nI k))] [am_rf (h.2.2.1 36 3)] h from ⟨ex_36 hP, ?_⟩)
    rw [show am_rf (h.2.2.1 36 3) = .ref 38 from congrArg am_rf (ex_r36_3 hP)]
    refine am_goX 2 (show ∃ jj nn : Nat, am_sh h 38 = some (13, nn) ∧ jj < nn ∧ nI k = nI jj ∧ pz_S 3 (some .int) am_r162 1 Q 24 [(0, .ref 0), (1, .int a1), (2, .int (nI k))] [.int (h.1 38 jj)] h from ⟨k, 6, ex_38 hP, (by omega), rfl, ?_⟩)
    rw [show h.1 38 k = s.2.2.2.1 k from (hS.2.1 k (by omega)).2]
    refine am_goX 1 (show 0 ≤ 8 ∧ h.2.2.2.2 + am_al 69 ≤ 175 ∧ am_call am_cod 1 69 [.int (s.2.2.2.1 k)] h (fun vv h' => pz_S 3 (some .int) am_r162 1 Q 27 [(0, .ref 0), (1, .int a1), (2, .int (nI k))] (vv.toList ++ []) h') from ⟨by decide, ex_lim hP rfl, am_call.up (d_69_w hP ?_) (by decide)⟩)
    suffices key : ∀ (v6 : Int32), v6 = (if ¬ (d_69 (s.2.2.2.1 k)) = (Int32.ofInt 1) then a1 else a1 ||| ((Int32.ofInt 1) <<< ((nI k) &&& 31))) → pz_S 3 (some .int) am_r162 1 Q 37 [(0, .ref 0), (1, .int v6), (2, .int (nI k))] [] h by
      refine am_goX 2 (show (¬ (d_69 (s.2.2.2.1 k)) = (Int32.ofInt 1) → pz_S 3 (some .int) am_r162 1 Q 37 [(0, .ref 0), (1, .int a1), (2, .int (nI k))] [] h) ∧ (¬ ¬ (d_69 (s.2.2.2.1 k)) = (Int32.ofInt 1) → pz_S 3 (some .int) am_r162 1 Q 31 [(0, .ref 0), (1, .int a1), (2, .int (nI k))] [] h) from ⟨fun c5 => ?_, fun c5 => ?_⟩)
      · exact sv_S2 sv2_162 (by intro q hq; simp only [List.mem_cons, List.not_mem_nil, or_false] at hq; rcases hq with rfl | rfl | rfl <;> rfl) (key _ (if_pos c5).symm)
      · refine am_goX 6 (show 1 < 3 ∧ pz_S 3 (some .int) am_r162 1 Q 37 [(1, .int (a1 ||| ((Int32.ofInt 1) <<< ((nI k) &&& 31)))), (0, .ref 0), (2, .int (nI k))] [] h from ⟨by decide, ?_⟩)
        exact sv_S2 sv2_162 (by intro q hq; simp only [List.mem_cons, List.not_mem_nil, or_false] at hq; rcases hq with rfl | rfl | rfl <;> rfl) (key _ (if_neg c5).symm)
    intro v6 e7
    subst e7
    refine am_goX 2 (show 2 < 3 ∧ pz_S 3 (some .int) am_r162 1 Q 4 [(2, .int ((nI k) + (Int32.ofInt 1))), (0, .ref 0), (1, .int (if ¬ (d_69 (s.2.2.2.1 k)) = (Int32.ofInt 1) then a1 else a1 ||| ((Int32.ofInt 1) <<< ((nI k) &&& 31))))] [] h from ⟨by decide, ?_⟩)
    rw [show (nI k) + (Int32.ofInt 1) = nI (k + 1) from (dn_a rfl rfl)]
    exact sv_S2 sv2_162 (by intro q hq; simp only [List.mem_cons, List.not_mem_nil, or_false] at hq; rcases hq with rfl | rfl | rfl <;> rfl) (ih (k + 1) (if ¬ (d_69 (s.2.2.2.1 k)) = (Int32.ofInt 1) then a1 else a1 ||| ((Int32.ofInt 1) <<< ((nI k) &&& 31))) (by omega) hZ)
def d_162 (C : sp_C) (s : dS) : Int32 := d_162_4 C s (dP C) 0 (Int32.ofInt 0)
theorem d_162_N6 (hP : ex_P h) (hI : cI C) (hT : c_v 6 C h) (hD : c_d 6 C h) (hR : h.2.2.1 0 3 = some 6) (hS : sC 36 s h)  (hQ : Q (some (.int (d_162 C s))) h) : am_call am_cod 2 162 [.ref 0] h Q := by
  have h6 := hT.1.2.1
  have h5 := hT.2.1.2.1
  refine pz_call (n := 162) (nL := 3) (rt := (some .int)) (rows := am_r162) (d := 1) (by decide +kernel) (by decide +kernel) rfl (by funext pc; rfl) (ex_175 hP) (by exact Nat.le_of_ble_eq_true rfl) ?_
  refine am_goX 4 (show 1 < 3 ∧ 2 < 3 ∧ pz_S 3 (some .int) am_r162 1 Q 4 [(2, .int (Int32.ofInt 0)), (1, .int (Int32.ofInt 0)), (0, .ref 0)] [] h from ⟨by decide, by decide, ?_⟩)
  refine sv_S2 sv2_162 (by intro q hq; simp only [List.mem_cons, List.not_mem_nil, or_false] at hq; rcases hq with rfl | rfl | rfl <;> rfl) (d_162_4_N6 hP hI hT hD hR hS (dP C) 0 (Int32.ofInt 0) (by omega) ?_)
  exact am_goX 2 (show (∃ ty, (some .int) = some ty ∧ narrow ty (.int (d_162_4 C s (dP C) 0 (Int32.ofInt 0))) = .int (d_162_4 C s (dP C) 0 (Int32.ofInt 0))) ∧ h.2.2.2.2 = 175 ∧ _ from ⟨⟨.int, rfl, rfl⟩, ex_175 hP, hQ⟩)
def d_164_6 (C : sp_C) (s : dS) : Nat → Nat → Int32 → Int32
  | 0, _, a2 => a2
  | m + 1, k, a2 => d_164_6 C s m (k + 1) (d_161 C s a2)
theorem d_164_6_N6 (hP : ex_P h) (hI : cI C) (hT : c_v 6 C h) (hD : c_d 6 C h) (hR : h.2.2.1 0 3 = some 6) (hS : sC 36 s h) : ∀ (m k : Nat) (a2 : Int32), k + m = 6 → (pz_S 4 (some .int) am_r164 3 Q 24 [(2, .int (d_164_6 C s m k a2))] [] h) → pz_S 4 (some .int) am_r164 3 Q 6 [(0, .ref 0), (2, .int a2), (3, .int (nI k))] [] h := by
  intro m
  induction m with
  | zero =>
    intro k a2 hk hZ
    have h6 := hT.1.2.1
    have h5 := hT.2.1.2.1
    refine am_goX 3 (show (((Int8.ofInt 6).toInt32) ≤ (nI k) → pz_S 4 (some .int) am_r164 3 Q 24 [(0, .ref 0), (2, .int a2), (3, .int (nI k))] [] h) ∧ (¬ (((Int8.ofInt 6).toInt32) ≤ (nI k)) → pz_S 4 (some .int) am_r164 3 Q 12 [(0, .ref 0), (2, .int a2), (3, .int (nI k))] [] h) from ⟨fun _ => ?_, fun hz => absurd (show nI 6 ≤ nI k from nI_le (by omega) (by omega)) hz⟩)
    exact sv_S2 sv2_164 (by intro q hq; simp only [List.mem_cons, List.not_mem_nil, or_false] at hq; rcases hq with rfl <;> rfl) (hZ)
  | succ m ih =>
    intro k a2 hk hZ
    have h6 := hT.1.2.1
    have h5 := hT.2.1.2.1
    refine am_goX 3 (show (((Int8.ofInt 6).toInt32) ≤ (nI k) → pz_S 4 (some .int) am_r164 3 Q 24 [(0, .ref 0), (2, .int a2), (3, .int (nI k))] [] h) ∧ (¬ (((Int8.ofInt 6).toInt32) ≤ (nI k)) → pz_S 4 (some .int) am_r164 3 Q 12 [(0, .ref 0), (2, .int a2), (3, .int (nI k))] [] h) from ⟨fun hz => absurd hz (show ¬ (nI 6 ≤ nI k) by rw [nI_leI (by omega) (by omega)]; omega), fun _ => ?_⟩)
    refine am_goX 3 (show am_rc h 0 10 ∧ 0 ≤ 8 ∧ h.2.2.2.2 + am_al 161 ≤ 175 ∧ am_call am_cod 3 161 [.ref 0, .int a2] h (fun vv h' => pz_S 4 (some .int) am_r164 3 Q 17 [(0, .ref 0), (2, .int a2), (3, .int (nI k))] (vv.toList ++ []) h') from ⟨Or.inl ⟨by decide, ex_0 hP⟩, by decide, ex_lim hP rfl, am_call.up (d_161_N6 hP hI hT hD hR hS ?_) (by decide)⟩)
    refine am_goX 3 (show 2 < 4 ∧ 3 < 4 ∧ pz_S 4 (some .int) am_r164 3 Q 6 [(3, .int ((nI k) + (Int32.ofInt 1))), (2, .int (d_161 C s a2)), (0, .ref 0)] [] h from ⟨by decide, by decide, ?_⟩)
    rw [show (nI k) + (Int32.ofInt 1) = nI (k + 1) from (dn_a rfl rfl)]
    exact sv_S2 sv2_164 (by intro q hq; simp only [List.mem_cons, List.not_mem_nil, or_false] at hq; rcases hq with rfl | rfl | rfl <;> rfl) (ih (k + 1) (d_161 C s a2) (by omega) hZ)
def d_164 (C : sp_C) (s : dS) (p : Nat) : Int32 := d_164_6 C s 5 1 ((Int32.ofInt 1) <<< ((nI p) &&& 31))
theorem d_164_N6 (hP : ex_P h) (hI : cI C) (hT : c_v 6 C h) (hD : c_d 6 C h) (hR : h.2.2.1 0 3 = some 6) (hS : sC 36 s h)  (hQ : Q (some (.int (d_164 C s p))) h) : am_call am_cod 4 164 [.ref 0, .int (nI p)] h Q := by
  have h6 := hT.1.2.1
  have h5 := hT.2.1.2.1
  refine pz_call (n := 164) (nL := 4) (rt := (some .int)) (rows := am_r164) (d := 3) (by decide +kernel) (by decide +kernel) rfl (by funext pc; rfl) (ex_175 hP) (by exact Nat.le_of_ble_eq_true rfl) ?_
  refine am_goX 6 (show 2 < 4 ∧ 3 < 4 ∧ pz_S 4 (some .int) am_r164 3 Q 6 [(3, .int (Int32.ofInt 1)), (2, .int ((Int32.ofInt 1) <<< ((nI p) &&& 31))), (0, .ref 0), (1, .int (nI p))] [] h from ⟨by decide, by decide, ?_⟩)
  refine sv_S2 sv2_164 (by intro q hq; simp only [List.mem_cons, List.not_mem_nil, or_false] at hq; rcases hq with rfl | rfl | rfl <;> rfl) (d_164_6_N6 hP hI hT hD hR hS 5 1 ((Int32.ofInt 1) <<< ((nI p) &&& 31)) (by omega) ?_)
  exact am_goX 2 (show (∃ ty, (some .int) = some ty ∧ narrow ty (.int (d_164_6 C s 5 1 ((Int32.ofInt 1) <<< ((nI p) &&& 31)))) = .int (d_164_6 C s 5 1 ((Int32.ofInt 1) <<< ((nI p) &&& 31)))) ∧ h.2.2.2.2 = 175 ∧ _ from ⟨⟨.int, rfl, rfl⟩, ex_175 hP, hQ⟩)
def d_163_6 (C : sp_C) (s : dS) : Nat → Nat → Int32 → Int32 → Int32 × Int32
  | 0, _, a1, a2 => (a1, a2)
  | m + 1, k, a1, a2 => d_163_6 C s m (k + 1) (if ¬ (d_65 a2 (nI k)) = 0 then a1 else a1 + (Int32.ofInt 1)) (if ¬ (d_65 a2 (nI k)) = 0 then a2 else a2 ||| (d_164 C s k))
theorem d_163_6_N6 (hP : ex_P h) (hI : cI C) (hT : c_v 6 C h) (hD : c_d 6 C h) (hR : h.2.2.1 0 3 = some 6) (hS : sC 36 s h) : ∀ (m k : Nat) (a1 : Int32) (a2 : Int32), k + m = dP C → (pz_S 4 (some .int) am_r163 4 Q 42 [(1, .int ((d_163_6 C s m k a1 a2).1))] [] h) → pz_S 4 (some .int) am_r163 4 Q 6 [(0, .ref 0), (1, .int a1), (2, .int a2), (3, .int (nI k))] [] h := by
  intro m
  induction m with
  | zero =>
    intro k a1 a2 hk hZ
    have h6 := hT.1.2.1
    have h5 := hT.2.1.2.1
    refine am_goX 3 (show am_sh h 0 = some (10, 0) ∧ pz_S 4 (some .int) am_r163 4 Q 11 [(0, .ref 0), (1, .int a1), (2, .int a2), (3, .int (nI k))] [am_rf (h.2.2.1 0 3), .int (nI k)] h from ⟨ex_0 hP, ?_⟩)
    rw [show am_rf (h.2.2.1 0 3) = .ref 6 from congrArg am_rf (hR)]
    refine am_goX 1 (show am_sh h 6 = some (0, 0) ∧ pz_S 4 (some .int) am_r163 4 Q 14 [(0, .ref 0), (1, .int a1), (2, .int a2), (3, .int (nI k))] [.int (h.1 6 0), .int (nI k)] h from ⟨ex_6 hP, ?_⟩)
    rw [show h.1 6 0 = nI (dP C) from hT.1.1]
    refine am_goX 1 (show ((nI (dP C)) ≤ (nI k) → pz_S 4 (some .int) am_r163 4 Q 42 [(0, .ref 0), (1, .int a1), (2, .int a2), (3, .int (nI k))] [] h) ∧ (¬ ((nI (dP C)) ≤ (nI k)) → pz_S 4 (some .int) am_r163 4 Q 17 [(0, .ref 0), (1, .int a1), (2, .int a2), (3, .int (nI k))] [] h) from ⟨fun _ => ?_, fun hz => absurd (show nI (dP C) ≤ nI k from nI_le (by omega) (by omega)) hz⟩)
    exact sv_S2 sv2_163 (by intro q hq; simp only [List.mem_cons, List.not_mem_nil, or_false] at hq; rcases hq with rfl <;> rfl) (hZ)
  | succ m ih =>
    intro k a1 a2 hk hZ
    have h6 := hT.1.2.1
    have h5 := hT.2.1.2.1
    refine am_goX 3 (show am_sh h 0 = some (10, 0) ∧ pz_S 4 (some .int) am_r163 4 Q 11 [(0, .ref 0), (1, .int a1), (2, .int a2), (3, .int (nI k))] [am_rf (h.2.2.1 0 3), .int (nI k)] h from ⟨ex_0 hP, ?_⟩)
    rw [show am_rf (h.2.2.1 0 3) = .ref 6 from congrArg am_rf (hR)]
    refine am_goX 1 (show am_sh h 6 = some (0, 0) ∧ pz_S 4 (some .int) am_r163 4 Q 14 [(0, .ref 0), (1, .int a1), (2, .int a2), (3, .int (nI k))] [.int (h.1 6 0), .int (nI k)] h from ⟨ex_6 hP, ?_⟩)
    rw [show h.1 6 0 = nI (dP C) from hT.1.1]
    refine am_goX 1 (show ((nI (dP C)) ≤ (nI k) → pz_S 4 (some .int) am_r163 4 Q 42 [(0, .ref 0), (1, .int a1), (2, .int a2), (3, .int (nI k))] [] h) ∧ (¬ ((nI (dP C)) ≤ (nI k)) → pz_S 4 (some .int) am_r163 4 Q 17 [(0, .ref 0), (1, .int a1), (2, .int a2), (3, .int (nI k))] [] h) from ⟨fun hz => absurd hz (show ¬ (nI (dP C) ≤ nI k) by rw [nI_leI (by omega) (by omega)]; omega), fun _ => ?_⟩)
    refine am_goX 3 (show 0 ≤ 8 ∧ h.2.2.2.2 + am_al 65 ≤ 175 ∧ am_call am_cod 4 65 [.int a2, .int (nI k)] h (fun vv h' => pz_S 4 (some .int) am_r163 4 Q 22 [(0, .ref 0), (1, .int a1), (2, .int a2), (3, .int (nI k))] (vv.toList ++ []) h') from ⟨by decide, ex_lim hP rfl, am_call.up (d_65_w hP ?_) (by decide)⟩)
    suffices key : ∀ (v9 : Int32) (v10 : Int32), v9 = (if ¬ (d_65 a2 (nI k)) = 0 then a1 else a1 + (Int32.ofInt 1)) → v10 = (if ¬ (d_65 a2 (nI k)) = 0 then a2 else a2 ||| (d_164 C s k)) → pz_S 4 (some .int) am_r163 4 Q 36 [(0, .ref 0), (1, .int v9), (2, .int v10), (3, .int (nI k))] [] h by
      refine am_goX 1 (show (¬ (d_65 a2 (nI k)) = 0 → pz_S 4 (some .int) am_r163 4 Q 36 [(0, .ref 0), (1, .int a1), (2, .int a2), (3, .int (nI k))] [] h) ∧ (¬ ¬ (d_65 a2 (nI k)) = 0 → pz_S 4 (some .int) am_r163 4 Q 25 [(0, .ref 0), (1, .int a1), (2, .int a2), (3, .int (nI k))] [] h) from ⟨fun c8 => ?_, fun c8 => ?_⟩)
      · exact sv_S2 sv2_163 (by intro q hq; simp only [List.mem_cons, List.not_mem_nil, or_false] at hq; rcases hq with rfl | rfl | rfl | rfl <;> rfl) (key _ _ (if_pos c8).symm (if_pos c8).symm)
      · refine am_goX 5 (show 1 < 4 ∧ am_rc h 0 10 ∧ 1 ≤ 8 ∧ h.2.2.2.2 + am_al 164 ≤ 175 ∧ am_call am_cod 4 164 [.ref 0, .int (nI k)] h (fun vv h' => pz_S 4 (some .int) am_r163 4 Q 34 [(1, .int (a1 + (Int32.ofInt 1))), (0, .ref 0), (2, .int a2), (3, .int (nI k))] (vv.toList ++ [.int a2]) h') from ⟨by decide, Or.inl ⟨by decide, ex_0 hP⟩, by decide, ex_lim hP rfl, am_call.up (d_164_N6 hP hI hT hD hR hS ?_) (by decide)⟩)
        refine am_goX 2 (show 2 < 4 ∧ pz_S 4 (some .int) am_r163 4 Q 36 [(2, .int (a2 ||| (d_164 C s k))), (1, .int (a1 + (Int32.ofInt 1))), (0, .ref 0), (3, .int (nI k))] [] h from ⟨by decide, ?_⟩)
        exact sv_S2 sv2_163 (by intro q hq; simp only [List.mem_cons, List.not_mem_nil, or_false] at hq; rcases hq with rfl | rfl | rfl | rfl <;> rfl) (key _ _ (if_neg c8).symm (if_neg c8).symm)
    intro v9 v10 e11 e12
    subst e11 e12
    refine am_goX 2 (show 3 < 4 ∧ pz_S 4 (some .int) am_r163 4 Q 6 [(3, .int ((nI k) + (Int32.ofInt 1))), (0, .ref 0), (1, .int (if ¬ (d_65 a2 (nI k)) = 0 then a1 else a1 + (Int32.ofInt 1))), (2, .int (if ¬ (d_65 a2 (nI k)) = 0 then a2 else a2 ||| (d_164 C s k)))] [] h from ⟨by decide, ?_⟩)
    rw [show (nI k) + (Int32.ofInt 1) = nI (k + 1) from (dn_a rfl rfl)]
    exact sv_S2 sv2_163 (by intro q hq; simp only [List.mem_cons, List.not_mem_nil, or_false] at hq; rcases hq with rfl | rfl | rfl | rfl <;> rfl) (ih (k + 1) (if ¬ (d_65 a2 (nI k)) = 0 then a1 else a1 + (Int32.ofInt 1)) (if ¬ (d_65 a2 (nI k)) = 0 then a2 else a2 ||| (d_164 C s k)) (by omega) hZ)
def d_163 (C : sp_C) (s : dS) : Int32 := (d_163_6 C s (dP C) 0 (Int32.ofInt 0) (Int32.ofInt 0)).1
theorem d_163_N6 (hP : ex_P h) (hI : cI C) (hT : c_v 6 C h) (hD : c_d 6 C h) (hR : h.2.2.1 0 3 = some 6) (hS : sC 36 s h)  (hQ : Q (some (.int (d_163 C s))) h) : am_call am_cod 5 163 [.ref 0] h Q := by
  have h6 := hT.1.2.1
  have h5 := hT.2.1.2.1
  refine pz_call (n := 163) (nL := 4) (rt := (some .int)) (rows := am_r163) (d := 4) (by decide +kernel) (by decide +kernel) rfl (by funext pc; rfl) (ex_175 hP) (by exact Nat.le_of_ble_eq_true rfl) ?_
  refine am_goX 6 (show 1 < 4 ∧ 2 < 4 ∧ 3 < 4 ∧ pz_S 4 (some .int) am_r163 4 Q 6 [(3, .int (Int32.ofInt 0)), (2, .int (Int32.ofInt 0)), (1, .int (Int32.ofInt 0)), (0, .ref 0)] [] h from ⟨by decide, by decide, by decide, ?_⟩)
  refine sv_S2 sv2_163 (by intro q hq; simp only [List.mem_cons, List.not_mem_nil, or_false] at hq; rcases hq with rfl | rfl | rfl | rfl <;> rfl) (d_163_6_N6 hP hI hT hD hR hS (dP C) 0 (Int32.ofInt 0) (Int32.ofInt 0) (by omega) ?_)
  exact am_goX 2 (show (∃ ty, (some .int) = some ty ∧ narrow ty (.int ((d_163_6 C s (dP C) 0 (Int32.ofInt 0) (Int32.ofInt 0)).1)) = .int ((d_163_6 C s (dP C) 0 (Int32.ofInt 0) (Int32.ofInt 0)).1)) ∧ h.2.2.2.2 = 175 ∧ _ from ⟨⟨.int, rfl, rfl⟩, ex_175 hP, hQ⟩)
theorem d_161_4_N17 (hP : ex_P h) (hI : cI C) (hT : c_v 17 C h) (hD : c_d 17 C h) (hR : h.2.2.1 0 3 = some 17) (hS : sC 36 s h) : ∀ (m k : Nat) (a2 : Int32), k + m = dP C → (pz_S 4 (some .int) am_r161 2 Q 41 [(2, .int (d_161_4 C s y m k a2))] [] h) → pz_S 4 (some .int) am_r161 2 Q 4 [(0, .ref 0), (1, .int y), (2, .int a2), (3, .int (nI k))] [] h := by
  intro m
  induction m with
  | zero =>
    intro k a2 hk hZ
    have h6 := hT.1.2.1
    have h5 := hT.2.1.2.1
    refine am_goX 3 (show am_sh h 0 = some (10, 0) ∧ pz_S 4 (some .int) am_r161 2 Q 9 [(0, .ref 0), (1, .int y), (2, .int a2), (3, .int (nI k))] [am_rf (h.2.2.1 0 3), .int (nI k)] h from ⟨ex_0 hP, ?_⟩)
    rw [show am_rf (h.2.2.1 0 3) = .ref 17 from congrArg am_rf (hR)]
    refine am_goX 1 (show am_sh h 17 = some (0, 0) ∧ pz_S 4 (some .int) am_r161 2 Q 12 [(0, .ref 0), (1, .int y), (2, .int a2), (3, .int (nI k))] [.int (h.1 17 0), .int (nI k)] h from ⟨ex_17 hP, ?_⟩)
    rw [show h.1 17 0 = nI (dP C) from hT.1.1]
    refine am_goX 1 (show ((nI (dP C)) ≤ (nI k) → pz_S 4 (some .int) am_r161 2 Q 41 [(0, .ref 0), (1, .int y), (2, .int a2), (3, .int (nI k))] [] h) ∧ (¬ ((nI (dP C)) ≤ (nI k)) → pz_S 4 (some .int) am_r161 2 Q 15 [(0, .ref 0), (1, .int y), (2, .int a2), (3, .int (nI k))] [] h) from ⟨fun _ => ?_, fun hz => absurd (show nI (dP C) ≤ nI k from nI_le (by omega) (by omega)) hz⟩)
    exact sv_S2 sv2_161 (by intro q hq; simp only [List.mem_cons, List.not_mem_nil, or_false] at hq; rcases hq with rfl <;> rfl) (hZ)
  | succ m ih =>
    intro k a2 hk hZ
    have h6 := hT.1.2.1
    have h5 := hT.2.1.2.1
    refine am_goX 3 (show am_sh h 0 = some (10, 0) ∧ pz_S 4 (some .int) am_r161 2 Q 9 [(0, .ref 0), (1, .int y), (2, .int a2), (3, .int (nI k))] [am_rf (h.2.2.1 0 3), .int (nI k)] h from ⟨ex_0 hP, ?_⟩)
    rw [show am_rf (h.2.2.1 0 3) = .ref 17 from congrArg am_rf (hR)]
    refine am_goX 1 (show am_sh h 17 = some (0, 0) ∧ pz_S 4 (some .int) am_r161 2 Q 12 [(0, .ref 0), (1, .int y), (2, .int a2), (3, .int (nI k))] [.int (h.1 17 0), .int (nI k)] h from ⟨ex_17 hP, ?_⟩)
    rw [show h.1 17 0 = nI (dP C) from hT.1.1]
    refine am_goX 1 (show ((nI (dP C)) ≤ (nI k) → pz_S 4 (some .int) am_r161 2 Q 41 [(0, .ref 0), (1, .int y), (2, .int a2), (3, .int (nI k))] [] h) ∧ (¬ ((nI (dP C)) ≤ (nI k)) → pz_S 4 (some .int) am_r161 2 Q 15 [(0, .ref 0), (1, .int y), (2, .int a2), (3, .int (nI k))] [] h) from ⟨fun hz => absurd hz (show ¬ (nI (dP C) ≤ nI k) by rw [nI_leI (by omega) (by omega)]; omega), fun _ => ?_⟩)
    refine am_goX 3 (show 0 ≤ 8 ∧ h.2.2.2.2 + am_al 65 ≤ 175 ∧ am_call am_cod 2 65 [.int y, .int (nI k)] h (fun vv h' => pz_S 4 (some .int) am_r161 2 Q 20 [(0, .ref 0), (1, .int y), (2, .int a2), (3, .int (nI k))] (vv.toList ++ []) h') from ⟨by decide, ex_lim hP rfl, am_call.up (d_65_w hP ?_) (by decide)⟩)
    suffices key : ∀ (v14 : Int32), v14 = (if (d_65 y (nI k)) = 0 then a2 else a2 ||| (s.2.2.2.1 k)) → pz_S 4 (some .int) am_r161 2 Q 35 [(0, .ref 0), (1, .int y), (2, .int v14), (3, .int (nI k))] [] h by
      refine am_goX 1 (show ((d_65 y (nI k)) = 0 → pz_S 4 (some .int) am_r161 2 Q 35 [(0, .ref 0), (1, .int y), (2, .int a2), (3, .int (nI k))] [] h) ∧ (¬ ((d_65 y (nI k)) = 0) → pz_S 4 (some .int) am_r161 2 Q 23 [(0, .ref 0), (1, .int y), (2, .int a2), (3, .int (nI k))] [] h) from ⟨fun c13 => ?_, fun c13 => ?_⟩)
      · exact sv_S2 sv2_161 (by intro q hq; simp only [List.mem_cons, List.not_mem_nil, or_false] at hq; rcases hq with rfl | rfl | rfl | rfl <;> rfl) (key _ (if_pos c13).symm)
      · refine am_goX 3 (show am_sh h 0 = some (10, 0) ∧ pz_S 4 (some .int) am_r161 2 Q 28 [(0, .ref 0), (1, .int y), (2, .int a2), (3, .int (nI k))] [am_rf (h.2.2.1 0 7), .int a2] h from ⟨ex_0 hP, ?_⟩)
        rw [show am_rf (h.2.2.1 0 7) = .ref 36 from congrArg am_rf (ex_r0_7 hP)]
        refine am_goX 1 (show am_sh h 36 = some (6, 0) ∧ pz_S 4 (some .int) am_r161 2 Q 31 [(0, .ref 0), (1, .int y), (2, .int a2), (3, .int (nI k))] [am_rf (h.2.2.1 36 3), .int a2] h from ⟨ex_36 hP, ?_⟩)
        rw [show am_rf (h.2.2.1 36 3) = .ref 38 from congrArg am_rf (ex_r36_3 hP)]
        refine am_goX 2 (show ∃ jj nn : Nat, am_sh h 38 = some (13, nn) ∧ jj < nn ∧ nI k = nI jj ∧ pz_S 4 (some .int) am_r161 2 Q 33 [(0, .ref 0), (1, .int y), (2, .int a2), (3, .int (nI k))] [.int (h.1 38 jj), .int a2] h from ⟨k, 6, ex_38 hP, (by omega), rfl, ?_⟩)
        rw [show h.1 38 k = s.2.2.2.1 k from (hS.2.1 k (by omega)).2]
        refine am_goX 2 (show 2 < 4 ∧ pz_S 4 (some .int) am_r161 2 Q 35 [(2, .int (a2 ||| (s.2.2.2.1 k))), (0, .ref 0), (1, .int y), (3, .int (nI k))] [] h from ⟨by decide, ?_⟩)
        exact sv_S2 sv2_161 (by intro q hq; simp only [List.mem_cons, List.not_mem_nil, or_false] at hq; rcases hq with rfl | rfl | rfl | rfl <;> rfl) (key _ (if_neg c13).symm)
    intro v14 e15
    subst e15
    refine am_goX 2 (show 3 < 4 ∧ pz_S 4 (some .int) am_r161 2 Q 4 [(3, .int ((nI k) + (Int32.ofInt 1))), (0, .ref 0), (1, .int y), (2, .int (if (d_65 y (nI k)) = 0 then a2 else a2 ||| (s.2.2.2.1 k)))] [] h from ⟨by decide, ?_⟩)
    rw [show (nI k) + (Int32.ofInt 1) = nI (k + 1) from (dn_a rfl rfl)]
    exact sv_S2 sv2_161 (by intro q hq; simp only [List.mem_cons, List.not_mem_nil, or_false] at hq; rcases hq with rfl | rfl | rfl | rfl <;> rfl) (ih (k + 1) (if (d_65 y (nI k)) = 0 then a2 else a2 ||| (s.2.2.2.1 k)) (by omega) hZ)
theorem d_161_N17 (hP : ex_P h) (hI : cI C) (hT : c_v 17 C h) (hD : c_d 17 C h) (hR : h.2.2.1 0 3 = some 17) (hS : sC 36 s h)  (hQ : Q (some (.int (d_161 C s y))) h) : am_call am_cod 3 161 [.ref 0, .int y] h Q := by
  have h6 := hT.1.2.1
  have h5 := hT.2.1.2.1
  refine pz_call (n := 161) (nL := 4) (rt := (some .int)) (rows := am_r161) (d := 2) (by decide +kernel) (by decide +kernel) rfl (by funext pc; rfl) (ex_175 hP) (by exact Nat.le_of_ble_eq_true rfl) ?_
  refine am_goX 4 (show 2 < 4 ∧ 3 < 4 ∧ pz_S 4 (some .int) am_r161 2 Q 4 [(3, .int (Int32.ofInt 0)), (2, .int y), (0, .ref 0), (1, .int y)] [] h from ⟨by decide, by decide, ?_⟩)
  refine sv_S2 sv2_161 (by intro q hq; simp only [List.mem_cons, List.not_mem_nil, or_false] at hq; rcases hq with rfl | rfl | rfl | rfl <;> rfl) (d_161_4_N17 hP hI hT hD hR hS (dP C) 0 y (by omega) ?_)
  exact am_goX 2 (show (∃ ty, (some .int) = some ty ∧ narrow ty (.int (d_161_4 C s y (dP C) 0 y)) = .int (d_161_4 C s y (dP C) 0 y)) ∧ h.2.2.2.2 = 175 ∧ _ from ⟨⟨.int, rfl, rfl⟩, ex_175 hP, hQ⟩)
theorem d_160_25_N17 (hP : ex_P h) (hI : cI C) (hT : c_v 17 C h) (hD : c_d 17 C h) (hR : h.2.2.1 0 3 = some 17) (hS : sC 36 s h) : ∀ (m k : Nat) (a3 : Int32), k + m = 6 → (Q (some (.int (d_160_25 C s q m k a3))) h) → pz_S 5 (some .int) am_r160 3 Q 25 [(0, .ref 0), (2, .int (nI q)), (3, .int a3), (4, .int (nI k))] [] h := by
  intro m
  induction m with
  | zero =>
    intro k a3 hk hQ
    have h6 := hT.1.2.1
    have h5 := hT.2.1.2.1
    refine am_goX 3 (show (((Int8.ofInt 6).toInt32) ≤ (nI k) → pz_S 5 (some .int) am_r160 3 Q 55 [(0, .ref 0), (2, .int (nI q)), (3, .int a3), (4, .int (nI k))] [] h) ∧ (¬ (((Int8.ofInt 6).toInt32) ≤ (nI k)) → pz_S 5 (some .int) am_r160 3 Q 32 [(0, .ref 0), (2, .int (nI q)), (3, .int a3), (4, .int (nI k))] [] h) from ⟨fun _ => ?_, fun hz => absurd (show nI 6 ≤ nI k from nI_le (by omega) (by omega)) hz⟩)
    exact am_goX 2 (show (∃ ty, (some .int) = some ty ∧ narrow ty (.int (Int32.ofInt (-1))) = .int (Int32.ofInt (-1))) ∧ h.2.2.2.2 = 175 ∧ _ from ⟨⟨.int, rfl, rfl⟩, ex_175 hP, hQ⟩)
  | succ m ih =>
    intro k a3 hk hQ
    have h6 := hT.1.2.1
    have h5 := hT.2.1.2.1
    refine am_goX 3 (show (((Int8.ofInt 6).toInt32) ≤ (nI k) → pz_S 5 (some .int) am_r160 3 Q 55 [(0, .ref 0), (2, .int (nI q)), (3, .int a3), (4, .int (nI k))] [] h) ∧ (¬ (((Int8.ofInt 6).toInt32) ≤ (nI k)) → pz_S 5 (some .int) am_r160 3 Q 32 [(0, .ref 0), (2, .int (nI q)), (3, .int a3), (4, .int (nI k))] [] h) from ⟨fun hz => absurd hz (show ¬ (nI 6 ≤ nI k) by rw [nI_leI (by omega) (by omega)]; omega), fun _ => ?_⟩)
    refine am_goX 3 (show 0 ≤ 8 ∧ h.2.2.2.2 + am_al 65 ≤ 175 ∧ am_call am_cod 3 65 [.int a3, .int (nI q)] h (fun vv h' => pz_S 5 (some .int) am_r160 3 Q 37 [(0, .ref 0), (2, .int (nI q)), (3, .int a3), (4, .int (nI k))] (vv.toList ++ []) h') from ⟨by decide, ex_lim hP rfl, am_call.up (d_65_w hP ?_) (by decide)⟩)
    refine am_goX 1 (show ((d_65 a3 (nI q)) = 0 → pz_S 5 (some .int) am_r160 3 Q 43 [(0, .ref 0), (2, .int (nI q)), (3, .int a3), (4, .int (nI k))] [] h) ∧ (¬ ((d_65 a3 (nI q)) = 0) → pz_S 5 (some .int) am_r160 3 Q 40 [(0, .ref 0), (2, .int (nI q)), (3, .int a3), (4, .int (nI k))] [] h) from ⟨fun c16 => ?_, fun c16 => ?_⟩)
    · refine am_goX 3 (show am_rc h 0 10 ∧ 0 ≤ 8 ∧ h.2.2.2.2 + am_al 161 ≤ 175 ∧ am_call am_cod 3 161 [.ref 0, .int a3] h (fun vv h' => pz_S 5 (some .int) am_r160 3 Q 48 [(0, .ref 0), (2, .int (nI q)), (3, .int a3), (4, .int (nI k))] (vv.toList ++ []) h') from ⟨Or.inl ⟨by decide, ex_0 hP⟩, by decide, ex_lim hP rfl, am_call.up (d_161_N17 hP hI hT hD hR hS ?_) (by decide)⟩)
      refine am_goX 3 (show 3 < 5 ∧ 4 < 5 ∧ pz_S 5 (some .int) am_r160 3 Q 25 [(4, .int ((nI k) + (Int32.ofInt 1))), (3, .int (d_161 C s a3)), (0, .ref 0), (2, .int (nI q))] [] h from ⟨by decide, by decide, ?_⟩)
      rw [show (nI k) + (Int32.ofInt 1) = nI (k + 1) from (dn_a rfl rfl)]
      exact sv_S2 sv2_160 (by intro q hq; simp only [List.mem_cons, List.not_mem_nil, or_false] at hq; rcases hq with rfl | rfl | rfl | rfl <;> rfl) (ih (k + 1) (d_161 C s a3) (by omega) (dn_q (if_pos c16) hQ))
    · exact am_goX 2 (show (∃ ty, (some .int) = some ty ∧ narrow ty (.int (nI k)) = .int (nI k)) ∧ h.2.2.2.2 = 175 ∧ _ from ⟨⟨.int, rfl, rfl⟩, ex_175 hP, dn_q (if_neg c16) hQ⟩)
theorem d_160_N17 (hP : ex_P h) (hI : cI C) (hT : c_v 17 C h) (hD : c_d 17 C h) (hR : h.2.2.1 0 3 = some 17) (hS : sC 36 s h) (hp : p < dP C) (hq : q < dP C) (hQ : Q (some (.int (d_160 C s p q))) h) : am_call am_cod 4 160 [.ref 0, .int (nI p), .int (nI q)] h Q := by
  have h6 := hT.1.2.1
  have h5 := hT.2.1.2.1
  refine pz_call (n := 160) (nL := 5) (rt := (some .int)) (rows := am_r160) (d := 3) (by decide +kernel) (by decide +kernel) rfl (by funext pc; rfl) (ex_175 hP) (by exact Nat.le_of_ble_eq_true rfl) ?_
  refine am_goX 3 (show am_rc h 0 10 ∧ 0 ≤ 8 ∧ h.2.2.2.2 + am_al 87 ≤ 175 ∧ am_call am_cod 3 87 [.ref 0, .int (nI p)] h (fun vv h' => pz_S 5 (some .int) am_r160 3 Q 5 [(0, .ref 0), (1, .int (nI p)), (2, .int (nI q))] (vv.toList ++ []) h') from ⟨Or.inl ⟨by decide, ex_0 hP⟩, by decide, ex_lim hP rfl, am_call.up (d_87_t17 hP hT hR ?_) (by decide)⟩)
  rw [show d_87 C (nI p) = Int32.ofInt 1 from (v_87 hp)]
  refine am_goX 1 (show ((Int32.ofInt 1) = 0 → pz_S 5 (some .int) am_r160 3 Q 16 [(0, .ref 0), (1, .int (nI p)), (2, .int (nI q))] [] h) ∧ (¬ ((Int32.ofInt 1) = 0) → pz_S 5 (some .int) am_r160 3 Q 8 [(0, .ref 0), (1, .int (nI p)), (2, .int (nI q))] [] h) from ⟨fun hz => absurd hz (by decide), fun _ => ?_⟩)
  refine am_goX 3 (show am_rc h 0 10 ∧ 0 ≤ 8 ∧ h.2.2.2.2 + am_al 87 ≤ 175 ∧ am_call am_cod 3 87 [.ref 0, .int (nI q)] h (fun vv h' => pz_S 5 (some .int) am_r160 3 Q 13 [(0, .ref 0), (1, .int (nI p)), (2, .int (nI q))] (vv.toList ++ []) h') from ⟨Or.inl ⟨by decide, ex_0 hP⟩, by decide, ex_lim hP rfl, am_call.up (d_87_t17 hP hT hR ?_) (by decide)⟩)
  rw [show d_87 C (nI q) = Int32.ofInt 1 from (v_87 hq)]
  refine am_goX 1 (show (¬ (Int32.ofInt 1) = 0 → pz_S 5 (some .int) am_r160 3 Q 18 [(0, .ref 0), (1, .int (nI p)), (2, .int (nI q))] [] h) ∧ (¬ ¬ (Int32.ofInt 1) = 0 → pz_S 5 (some .int) am_r160 3 Q 16 [(0, .ref 0), (1, .int (nI p)), (2, .int (nI q))] [] h) from ⟨fun _ => ?_, fun hz => absurd (by decide) hz⟩)
  refine am_goX 6 (show 3 < 5 ∧ 4 < 5 ∧ pz_S 5 (some .int) am_r160 3 Q 25 [(4, .int (Int32.ofInt 0)), (3, .int ((Int32.ofInt 1) <<< ((nI p) &&& 31))), (0, .ref 0), (1, .int (nI p)), (2, .int (nI q))] [] h from ⟨by decide, by decide, ?_⟩)
  exact sv_S2 sv2_160 (by intro q hq; simp only [List.mem_cons, List.not_mem_nil, or_false] at hq; rcases hq with rfl | rfl | rfl | rfl <;> rfl) (d_160_25_N17 hP hI hT hD hR hS 6 0 ((Int32.ofInt 1) <<< ((nI p) &&& 31)) (by omega) hQ)
theorem d_160_xN17 (hP : ex_P h) (hI : cI C) (hT : c_v 17 C h) (hD : c_d 17 C h) (hR : h.2.2.1 0 3 = some 17) (hS : sC 36 s h) (ey : d_87 C y = Int32.ofInt 0) (hQ : Q (some (.int d_160x)) h) : am_call am_cod 4 160 [.ref 0, .int y, .int z] h Q := by
  have h6 := hT.1.2.1
  have h5 := hT.2.1.2.1
  refine pz_call (n := 160) (nL := 5) (rt := (some .int)) (rows := am_r160) (d := 3) (by decide +kernel) (by decide +kernel) rfl (by funext pc; rfl) (ex_175 hP) (by exact Nat.le_of_ble_eq_true rfl) ?_
  refine am_goX 3 (show am_rc h 0 10 ∧ 0 ≤ 8 ∧ h.2.2.2.2 + am_al 87 ≤ 175 ∧ am_call am_cod 3 87 [.ref 0, .int y] h (fun vv h' => pz_S 5 (some .int) am_r160 3 Q 5 [(0, .ref 0), (1, .int y), (2, .int z)] (vv.toList ++ []) h') from ⟨Or.inl ⟨by decide, ex_0 hP⟩, by decide, ex_lim hP rfl, am_call.up (d_87_t17 hP hT hR ?_) (by decide)⟩)
  rw [show d_87 C y = Int32.ofInt 0 from ey]
  refine am_goX 1 (show ((Int32.ofInt 0) = 0 → pz_S 5 (some .int) am_r160 3 Q 16 [(0, .ref 0), (1, .int y), (2, .int z)] [] h) ∧ (¬ ((Int32.ofInt 0) = 0) → pz_S 5 (some .int) am_r160 3 Q 8 [(0, .ref 0), (1, .int y), (2, .int z)] [] h) from ⟨fun _ => ?_, fun hz => absurd (by decide) hz⟩)
  exact am_goX 2 (show (∃ ty, (some .int) = some ty ∧ narrow ty (.int (Int32.ofInt (-1))) = .int (Int32.ofInt (-1))) ∧ h.2.2.2.2 = 175 ∧ _ from ⟨⟨.int, rfl, rfl⟩, ex_175 hP, hQ⟩)
theorem d_160_yN17 (hP : ex_P h) (hI : cI C) (hT : c_v 17 C h) (hD : c_d 17 C h) (hR : h.2.2.1 0 3 = some 17) (hS : sC 36 s h) (hp : p < dP C) (ey : d_87 C y = Int32.ofInt 0) (hQ : Q (some (.int d_160x)) h) : am_call am_cod 4 160 [.ref 0, .int (nI p), .int y] h Q := by
  have h6 := hT.1.2.1
  have h5 := hT.2.1.2.1
  refine pz_call (n := 160) (nL := 5) (rt := (some .int)) (rows := am_r160) (d := 3) (by decide +kernel) (by decide +kernel) rfl (by funext pc; rfl) (ex_175 hP) (by exact Nat.le_of_ble_eq_true rfl) ?_
  refine am_goX 3 (show am_rc h 0 10 ∧ 0 ≤ 8 ∧ h.2.2.2.2 + am_al 87 ≤ 175 ∧ am_call am_cod 3 87 [.ref 0, .int (nI p)] h (fun vv h' => pz_S 5 (some .int) am_r160 3 Q 5 [(0, .ref 0), (1, .int (nI p)), (2, .int y)] (vv.toList ++ []) h') from ⟨Or.inl ⟨by decide, ex_0 hP⟩, by decide, ex_lim hP rfl, am_call.up (d_87_t17 hP hT hR ?_) (by decide)⟩)
  rw [show d_87 C (nI p) = Int32.ofInt 1 from (v_87 hp)]
  refine am_goX 1 (show ((Int32.ofInt 1) = 0 → pz_S 5 (some .int) am_r160 3 Q 16 [(0, .ref 0), (1, .int (nI p)), (2, .int y)] [] h) ∧ (¬ ((Int32.ofInt 1) = 0) → pz_S 5 (some .int) am_r160 3 Q 8 [(0, .ref 0), (1, .int (nI p)), (2, .int y)] [] h) from ⟨fun hz => absurd hz (by decide), fun _ => ?_⟩)
  refine am_goX 3 (show am_rc h 0 10 ∧ 0 ≤ 8 ∧ h.2.2.2.2 + am_al 87 ≤ 175 ∧ am_call am_cod 3 87 [.ref 0, .int y] h (fun vv h' => pz_S 5 (some .int) am_r160 3 Q 13 [(0, .ref 0), (1, .int (nI p)), (2, .int y)] (vv.toList ++ []) h') from ⟨Or.inl ⟨by decide, ex_0 hP⟩, by decide, ex_lim hP rfl, am_call.up (d_87_t17 hP hT hR ?_) (by decide)⟩)
  rw [show d_87 C y = Int32.ofInt 0 from ey]
  refine am_goX 1 (show (¬ (Int32.ofInt 0) = 0 → pz_S 5 (some .int) am_r160 3 Q 18 [(0, .ref 0), (1, .int (nI p)), (2, .int y)] [] h) ∧ (¬ ¬ (Int32.ofInt 0) = 0 → pz_S 5 (some .int) am_r160 3 Q 16 [(0, .ref 0), (1, .int (nI p)), (2, .int y)] [] h) from ⟨fun hz => absurd hz (by decide), fun _ => ?_⟩)
  exact am_goX 2 (show (∃ ty, (some .int) = some ty ∧ narrow ty (.int (Int32.ofInt (-1))) = .int (Int32.ofInt (-1))) ∧ h.2.2.2.2 = 175 ∧ _ from ⟨⟨.int, rfl, rfl⟩, ex_175 hP, hQ⟩)
theorem d_162_4_N17 (hP : ex_P h) (hI : cI C) (hT : c_v 17 C h) (hD : c_d 17 C h) (hR : h.2.2.1 0 3 = some 17) (hS : sC 36 s h) : ∀ (m k : Nat) (a1 : Int32), k + m = dP C → (pz_S 3 (some .int) am_r162 1 Q 43 [(1, .int (d_162_4 C s m k a1))] [] h) → pz_S 3 (some .int) am_r162 1 Q 4 [(0, .ref 0), (1, .int a1), (2, .int (nI k))] [] h := by
  intro m
  induction m with
  | zero =>
    intro k a1 hk hZ
    have h6 := hT.1.2.1
    have h5 := hT.2.1.2.1
    refine am_goX 3 (show am_sh h 0 = some (10, 0) ∧ pz_S 3 (some .int) am_r162 1 Q 9 [(0, .ref 0), (1, .int a1), (2, .int (nI k))] [am_rf (h.2.2.1 0 3), .int (nI k)] h from ⟨ex_0 hP, ?_⟩)
    rw [show am_rf (h.2.2.1 0 3) = .ref 17 from congrArg am_rf (hR)]
    refine am_goX 1 (show am_sh h 17 = some (0, 0) ∧ pz_S 3 (some .int) am_r162 1 Q 12 [(0, .ref 0), (1, .int a1), (2, .int (nI k))] [.int (h.1 17 0), .int (nI k)] h from ⟨ex_17 hP, ?_⟩)
    rw [show h.1 17 0 = nI (dP C) from hT.1.1]
    refine am_goX 1 (show ((nI (dP C)) ≤ (nI k) → pz_S 3 (some .int) am_r162 1 Q 43 [(0, .ref 0), (1, .int a1), (2, .int (nI k))] [] h) ∧ (¬ ((nI (dP C)) ≤ (nI k)) → pz_S 3 (some .int) am_r162 1 Q 15 [(0, .ref 0), (1, .int a1), (2, .int (nI k))] [] h) from ⟨fun _ => ?_, fun hz => absurd (show nI (dP C) ≤ nI k from nI_le (by omega) (by omega)) hz⟩)
    exact sv_S2 sv2_162 (by intro q hq; simp only [List.mem_cons, List.not_mem_nil, or_false] at hq; rcases hq with rfl <;> rfl) (hZ)
  | succ m ih =>
    intro k a1 hk hZ
    have h6 := hT.1.2.1
    have h5 := hT.2.1.2.1
    refine am_goX 3 (show am_sh h 0 = some (10, 0) ∧ pz_S 3 (some .int) am_r162 1 Q 9 [(0, .ref 0), (1, .int a1), (2, .int (nI k))] [am_rf (h.2.2.1 0 3), .int (nI k)] h from ⟨ex_0 hP, ?_⟩)
    rw [show am_rf (h.2.2.1 0 3) = .ref 17 from congrArg am_rf (hR)]
    refine am_goX 1 (show am_sh h 17 = some (0, 0) ∧ pz_S 3 (some .int) am_r162 1 Q 12 [(0, .ref 0), (1, .int a1), (2, .int (nI k))] [.int (h.1 17 0), .int (nI k)] h from ⟨ex_17 hP, ?_⟩)
    rw [show h.1 17 0 = nI (dP C) from hT.1.1]
    refine am_goX 1 (show ((nI (dP C)) ≤ (nI k) → pz_S 3 (some .int) am_r162 1 Q 43 [(0, .ref 0), (1, .int a1), (2, .int (nI k))] [] h) ∧ (¬ ((nI (dP C)) ≤ (nI k)) → pz_S 3 (some .int) am_r162 1 Q 15 [(0, .ref 0), (1, .int a1), (2, .int (nI k))] [] h) from ⟨fun hz => absurd hz (show ¬ (nI (dP C) ≤ nI k) by rw [nI_leI (by omega) (by omega)]; omega), fun _ => ?_⟩)
    refine am_goX 2 (show am_sh h 0 = some (10, 0) ∧ pz_S 3 (some .int) am_r162 1 Q 19 [(0, .ref 0), (1, .int a1), (2, .int (nI k))] [am_rf (h.2.2.1 0 7)] h from ⟨ex_0 hP, ?_⟩)
    rw [show am_rf (h.2.2.1 0 7) = .ref 36 from congrArg am_rf (ex_r0_7 hP)]
    refine am_goX 1 (show am_sh h 36 = some (6, 0) ∧ pz_S 3 (some .int) am_r162 1 Q 22 [(0, .ref 0), (1, .int a1), (2, .int (nI k))] [am_rf (h.2.2.1 36 3)] h from ⟨ex_36 hP, ?_⟩)
    rw [show am_rf (h.2.2.1 36 3) = .ref 38 from congrArg am_rf (ex_r36_3 hP)]
    refine am_goX 2 (show ∃ jj nn : Nat, am_sh h 38 = some (13, nn) ∧ jj < nn ∧ nI k = nI jj ∧ pz_S 3 (some .int) am_r162 1 Q 24 [(0, .ref 0), (1, .int a1), (2, .int (nI k))] [.int (h.1 38 jj)] h from ⟨k, 6, ex_38 hP, (by omega), rfl, ?_⟩)
    rw [show h.1 38 k = s.2.2.2.1 k from (hS.2.1 k (by omega)).2]
    refine am_goX 1 (show 0 ≤ 8 ∧ h.2.2.2.2 + am_al 69 ≤ 175 ∧ am_call am_cod 1 69 [.int (s.2.2.2.1 k)] h (fun vv h' => pz_S 3 (some .int) am_r162 1 Q 27 [(0, .ref 0), (1, .int a1), (2, .int (nI k))] (vv.toList ++ []) h') from ⟨by decide, ex_lim hP rfl, am_call.up (d_69_w hP ?_) (by decide)⟩)
    suffices key : ∀ (v18 : Int32), v18 = (if ¬ (d_69 (s.2.2.2.1 k)) = (Int32.ofInt 1) then a1 else a1 ||| ((Int32.ofInt 1) <<< ((nI k) &&& 31))) → pz_S 3 (some .int) am_r162 1 Q 37 [(0, .ref 0), (1, .int v18), (2, .int (nI k))] [] h by
      refine am_goX 2 (show (¬ (d_69 (s.2.2.2.1 k)) = (Int32.ofInt 1) → pz_S 3 (some .int) am_r162 1 Q 37 [(0, .ref 0), (1, .int a1), (2, .int (nI k))] [] h) ∧ (¬ ¬ (d_69 (s.2.2.2.1 k)) = (Int32.ofInt 1) → pz_S 3 (some .int) am_r162 1 Q 31 [(0, .ref 0), (1, .int a1), (2, .int (nI k))] [] h) from ⟨fun c17 => ?_, fun c17 => ?_⟩)
      · exact sv_S2 sv2_162 (by intro q hq; simp only [List.mem_cons, List.not_mem_nil, or_false] at hq; rcases hq with rfl | rfl | rfl <;> rfl) (key _ (if_pos c17).symm)
      · refine am_goX 6 (show 1 < 3 ∧ pz_S 3 (some .int) am_r162 1 Q 37 [(1, .int (a1 ||| ((Int32.ofInt 1) <<< ((nI k) &&& 31)))), (0, .ref 0), (2, .int (nI k))] [] h from ⟨by decide, ?_⟩)
        exact sv_S2 sv2_162 (by intro q hq; simp only [List.mem_cons, List.not_mem_nil, or_false] at hq; rcases hq with rfl | rfl | rfl <;> rfl) (key _ (if_neg c17).symm)
    intro v18 e19
    subst e19
    refine am_goX 2 (show 2 < 3 ∧ pz_S 3 (some .int) am_r162 1 Q 4 [(2, .int ((nI k) + (Int32.ofInt 1))), (0, .ref 0), (1, .int (if ¬ (d_69 (s.2.2.2.1 k)) = (Int32.ofInt 1) then a1 else a1 ||| ((Int32.ofInt 1) <<< ((nI k) &&& 31))))] [] h from ⟨by decide, ?_⟩)
    rw [show (nI k) + (Int32.ofInt 1) = nI (k + 1) from (dn_a rfl rfl)]
    exact sv_S2 sv2_162 (by intro q hq; simp only [List.mem_cons, List.not_mem_nil, or_false] at hq; rcases hq with rfl | rfl | rfl <;> rfl) (ih (k + 1) (if ¬ (d_69 (s.2.2.2.1 k)) = (Int32.ofInt 1) then a1 else a1 ||| ((Int32.ofInt 1) <<< ((nI k) &&& 31))) (by omega) hZ)
theorem d_162_N17 (hP : ex_P h) (hI : cI C) (hT : c_v 17 C h) (hD : c_d 17 C h) (hR : h.2.2.1 0 3 = some 17) (hS : sC 36 s h)  (hQ : Q (some (.int (d_162 C s))) h) : am_call am_cod 2 162 [.ref 0] h Q := by
  have h6 := hT.1.2.1
  have h5 := hT.2.1.2.1
  refine pz_call (n := 162) (nL := 3) (rt := (some .int)) (rows := am_r162) (d := 1) (by decide +kernel) (by decide +kernel) rfl (by funext pc; rfl) (ex_175 hP) (by exact Nat.le_of_ble_eq_true rfl) ?_
  refine am_goX 4 (show 1 < 3 ∧ 2 < 3 ∧ pz_S 3 (some .int) am_r162 1 Q 4 [(2, .int (Int32.ofInt 0)), (1, .int (Int32.ofInt 0)), (0, .ref 0)] [] h from ⟨by decide, by decide, ?_⟩)
  refine sv_S2 sv2_162 (by intro q hq; simp only [List.mem_cons, List.not_mem_nil, or_false] at hq; rcases hq with rfl | rfl | rfl <;> rfl) (d_162_4_N17 hP hI hT hD hR hS (dP C) 0 (Int32.ofInt 0) (by omega) ?_)
  exact am_goX 2 (show (∃ ty, (some .int) = some ty ∧ narrow ty (.int (d_162_4 C s (dP C) 0 (Int32.ofInt 0))) = .int (d_162_4 C s (dP C) 0 (Int32.ofInt 0))) ∧ h.2.2.2.2 = 175 ∧ _ from ⟨⟨.int, rfl, rfl⟩, ex_175 hP, hQ⟩)
theorem d_164_6_N17 (hP : ex_P h) (hI : cI C) (hT : c_v 17 C h) (hD : c_d 17 C h) (hR : h.2.2.1 0 3 = some 17) (hS : sC 36 s h) : ∀ (m k : Nat) (a2 : Int32), k + m = 6 → (pz_S 4 (some .int) am_r164 3 Q 24 [(2, .int (d_164_6 C s m k a2))] [] h) → pz_S 4 (some .int) am_r164 3 Q 6 [(0, .ref 0), (2, .int a2), (3, .int (nI k))] [] h := by
  intro m
  induction m with
  | zero =>
    intro k a2 hk hZ
    have h6 := hT.1.2.1
    have h5 := hT.2.1.2.1
    refine am_goX 3 (show (((Int8.ofInt 6).toInt32) ≤ (nI k) → pz_S 4 (some .int) am_r164 3 Q 24 [(0, .ref 0), (2, .int a2), (3, .int (nI k))] [] h) ∧ (¬ (((Int8.ofInt 6).toInt32) ≤ (nI k)) → pz_S 4 (some .int) am_r164 3 Q 12 [(0, .ref 0), (2, .int a2), (3, .int (nI k))] [] h) from ⟨fun _ => ?_, fun hz => absurd (show nI 6 ≤ nI k from nI_le (by omega) (by omega)) hz⟩)
    exact sv_S2 sv2_164 (by intro q hq; simp only [List.mem_cons, List.not_mem_nil, or_false] at hq; rcases hq with rfl <;> rfl) (hZ)
  | succ m ih =>
    intro k a2 hk hZ
    have h6 := hT.1.2.1
    have h5 := hT.2.1.2.1
    refine am_goX 3 (show (((Int8.ofInt 6).toInt32) ≤ (nI k) → pz_S 4 (some .int) am_r164 3 Q 24 [(0, .ref 0), (2, .int a2), (3, .int (nI k))] [] h) ∧ (¬ (((Int8.ofInt 6).toInt32) ≤ (nI k)) → pz_S 4 (some .int) am_r164 3 Q 12 [(0, .ref 0), (2, .int a2), (3, .int (nI k))] [] h) from ⟨fun hz => absurd hz (show ¬ (nI 6 ≤ nI k) by rw [nI_leI (by omega) (by omega)]; omega), fun _ => ?_⟩)
    refine am_goX 3 (show am_rc h 0 10 ∧ 0 ≤ 8 ∧ h.2.2.2.2 + am_al 161 ≤ 175 ∧ am_call am_cod 3 161 [.ref 0, .int a2] h (fun vv h' => pz_S 4 (some .int) am_r164 3 Q 17 [(0, .ref 0), (2, .int a2), (3, .int (nI k))] (vv.toList ++ []) h') from ⟨Or.inl ⟨by decide, ex_0 hP⟩, by decide, ex_lim hP rfl, am_call.up (d_161_N17 hP hI hT hD hR hS ?_) (by decide)⟩)
    refine am_goX 3 (show 2 < 4 ∧ 3 < 4 ∧ pz_S 4 (some .int) am_r164 3 Q 6 [(3, .int ((nI k) + (Int32.ofInt 1))), (2, .int (d_161 C s a2)), (0, .ref 0)] [] h from ⟨by decide, by decide, ?_⟩)
    rw [show (nI k) + (Int32.ofInt 1) = nI (k + 1) from (dn_a rfl rfl)]
    exact sv_S2 sv2_164 (by intro q hq; simp only [List.mem_cons, List.not_mem_nil, or_false] at hq; rcases hq with rfl | rfl | rfl <;> rfl) (ih (k + 1) (d_161 C s a2) (by omega) hZ)
theorem d_164_N17 (hP : ex_P h) (hI : cI C) (hT : c_v 17 C h) (hD : c_d 17 C h) (hR : h.2.2.1 0 3 = some 17) (hS : sC 36 s h)  (hQ : Q (some (.int (d_164 C s p))) h) : am_call am_cod 4 164 [.ref 0, .int (nI p)] h Q := by
  have h6 := hT.1.2.1
  have h5 := hT.2.1.2.1
  refine pz_call (n := 164) (nL := 4) (rt := (some .int)) (rows := am_r164) (d := 3) (by decide +kernel) (by decide +kernel) rfl (by funext pc; rfl) (ex_175 hP) (by exact Nat.le_of_ble_eq_true rfl) ?_
  refine am_goX 6 (show 2 < 4 ∧ 3 < 4 ∧ pz_S 4 (some .int) am_r164 3 Q 6 [(3, .int (Int32.ofInt 1)), (2, .int ((Int32.ofInt 1) <<< ((nI p) &&& 31))), (0, .ref 0), (1, .int (nI p))] [] h from ⟨by decide, by decide, ?_⟩)
  refine sv_S2 sv2_164 (by intro q hq; simp only [List.mem_cons, List.not_mem_nil, or_false] at hq; rcases hq with rfl | rfl | rfl <;> rfl) (d_164_6_N17 hP hI hT hD hR hS 5 1 ((Int32.ofInt 1) <<< ((nI p) &&& 31)) (by omega) ?_)
  exact am_goX 2 (show (∃ ty, (some .int) = some ty ∧ narrow ty (.int (d_164_6 C s 5 1 ((Int32.ofInt 1) <<< ((nI p) &&& 31)))) = .int (d_164_6 C s 5 1 ((Int32.ofInt 1) <<< ((nI p) &&& 31)))) ∧ h.2.2.2.2 = 175 ∧ _ from ⟨⟨.int, rfl, rfl⟩, ex_175 hP, hQ⟩)
theorem d_163_6_N17 (hP : ex_P h) (hI : cI C) (hT : c_v 17 C h) (hD : c_d 17 C h) (hR : h.2.2.1 0 3 = some 17) (hS : sC 36 s h) : ∀ (m k : Nat) (a1 : Int32) (a2 : Int32), k + m = dP C → (pz_S 4 (some .int) am_r163 4 Q 42 [(1, .int ((d_163_6 C s m k a1 a2).1))] [] h) → pz_S 4 (some .int) am_r163 4 Q 6 [(0, .ref 0), (1, .int a1), (2, .int a2), (3, .int (nI k))] [] h := by
  intro m
  induction m with
  | zero =>
    intro k a1 a2 hk hZ
    have h6 := hT.1.2.1
    have h5 := hT.2.1.2.1
    refine am_goX 3 (show am_sh h 0 = some (10, 0) ∧ pz_S 4 (some .int) am_r163 4 Q 11 [(0, .ref 0), (1, .int a1), (2, .int a2), (3, .int (nI k))] [am_rf (h.2.2.1 0 3), .int (nI k)] h from ⟨ex_0 hP, ?_⟩)
    rw [show am_rf (h.2.2.1 0 3) = .ref 17 from congrArg am_rf (hR)]
    refine am_goX 1 (show am_sh h 17 = some (0, 0) ∧ pz_S 4 (some .int) am_r163 4 Q 14 [(0, .ref 0), (1, .int a1), (2, .int a2), (3, .int (nI k))] [.int (h.1 17 0), .int (nI k)] h from ⟨ex_17 hP, ?_⟩)
    rw [show h.1 17 0 = nI (dP C) from hT.1.1]
    refine am_goX 1 (show ((nI (dP C)) ≤ (nI k) → pz_S 4 (some .int) am_r163 4 Q 42 [(0, .ref 0), (1, .int a1), (2, .int a2), (3, .int (nI k))] [] h) ∧ (¬ ((nI (dP C)) ≤ (nI k)) → pz_S 4 (some .int) am_r163 4 Q 17 [(0, .ref 0), (1, .int a1), (2, .int a2), (3, .int (nI k))] [] h) from ⟨fun _ => ?_, fun hz => absurd (show nI (dP C) ≤ nI k from nI_le (by omega) (by omega)) hz⟩)
    exact sv_S2 sv2_163 (by intro q hq; simp only [List.mem_cons, List.not_mem_nil, or_false] at hq; rcases hq with rfl <;> rfl) (hZ)
  | succ m ih =>
    intro k a1 a2 hk hZ
    have h6 := hT.1.2.1
    have h5 := hT.2.1.2.1
    refine am_goX 3 (show am_sh h 0 = some (10, 0) ∧ pz_S 4 (some .int) am_r163 4 Q 11 [(0, .ref 0), (1, .int a1), (2, .int a2), (3, .int (nI k))] [am_rf (h.2.2.1 0 3), .int (nI k)] h from ⟨ex_0 hP, ?_⟩)
    rw [show am_rf (h.2.2.1 0 3) = .ref 17 from congrArg am_rf (hR)]
    refine am_goX 1 (show am_sh h 17 = some (0, 0) ∧ pz_S 4 (some .int) am_r163 4 Q 14 [(0, .ref 0), (1, .int a1), (2, .int a2), (3, .int (nI k))] [.int (h.1 17 0), .int (nI k)] h from ⟨ex_17 hP, ?_⟩)
    rw [show h.1 17 0 = nI (dP C) from hT.1.1]
    refine am_goX 1 (show ((nI (dP C)) ≤ (nI k) → pz_S 4 (some .int) am_r163 4 Q 42 [(0, .ref 0), (1, .int a1), (2, .int a2), (3, .int (nI k))] [] h) ∧ (¬ ((nI (dP C)) ≤ (nI k)) → pz_S 4 (some .int) am_r163 4 Q 17 [(0, .ref 0), (1, .int a1), (2, .int a2), (3, .int (nI k))] [] h) from ⟨fun hz => absurd hz (show ¬ (nI (dP C) ≤ nI k) by rw [nI_leI (by omega) (by omega)]; omega), fun _ => ?_⟩)
    refine am_goX 3 (show 0 ≤ 8 ∧ h.2.2.2.2 + am_al 65 ≤ 175 ∧ am_call am_cod 4 65 [.int a2, .int (nI k)] h (fun vv h' => pz_S 4 (some .int) am_r163 4 Q 22 [(0, .ref 0), (1, .int a1), (2, .int a2), (3, .int (nI k))] (vv.toList ++ []) h') from ⟨by decide, ex_lim hP rfl, am_call.up (d_65_w hP ?_) (by decide)⟩)
    suffices key : ∀ (v21 : Int32) (v22 : Int32), v21 = (if ¬ (d_65 a2 (nI k)) = 0 then a1 else a1 + (Int32.ofInt 1)) → v22 = (if ¬ (d_65 a2 (nI k)) = 0 then a2 else a2 ||| (d_164 C s k)) → pz_S 4 (some .int) am_r163 4 Q 36 [(0, .ref 0), (1, .int v21), (2, .int v22), (3, .int (nI k))] [] h by
      refine am_goX 1 (show (¬ (d_65 a2 (nI k)) = 0 → pz_S 4 (some .int) am_r163 4 Q 36 [(0, .ref 0), (1, .int a1), (2, .int a2), (3, .int (nI k))] [] h) ∧ (¬ ¬ (d_65 a2 (nI k)) = 0 → pz_S 4 (some .int) am_r163 4 Q 25 [(0, .ref 0), (1, .int a1), (2, .int a2), (3, .int (nI k))] [] h) from ⟨fun c20 => ?_, fun c20 => ?_⟩)
      · exact sv_S2 sv2_163 (by intro q hq; simp only [List.mem_cons, List.not_mem_nil, or_false] at hq; rcases hq with rfl | rfl | rfl | rfl <;> rfl) (key _ _ (if_pos c20).symm (if_pos c20).symm)
      · refine am_goX 5 (show 1 < 4 ∧ am_rc h 0 10 ∧ 1 ≤ 8 ∧ h.2.2.2.2 + am_al 164 ≤ 175 ∧ am_call am_cod 4 164 [.ref 0, .int (nI k)] h (fun vv h' => pz_S 4 (some .int) am_r163 4 Q 34 [(1, .int (a1 + (Int32.ofInt 1))), (0, .ref 0), (2, .int a2), (3, .int (nI k))] (vv.toList ++ [.int a2]) h') from ⟨by decide, Or.inl ⟨by decide, ex_0 hP⟩, by decide, ex_lim hP rfl, am_call.up (d_164_N17 hP hI hT hD hR hS ?_) (by decide)⟩)
        refine am_goX 2 (show 2 < 4 ∧ pz_S 4 (some .int) am_r163 4 Q 36 [(2, .int (a2 ||| (d_164 C s k))), (1, .int (a1 + (Int32.ofInt 1))), (0, .ref 0), (3, .int (nI k))] [] h from ⟨by decide, ?_⟩)
        exact sv_S2 sv2_163 (by intro q hq; simp only [List.mem_cons, List.not_mem_nil, or_false] at hq; rcases hq with rfl | rfl | rfl | rfl <;> rfl) (key _ _ (if_neg c20).symm (if_neg c20).symm)
    intro v21 v22 e23 e24
    subst e23 e24
    refine am_goX 2 (show 3 < 4 ∧ pz_S 4 (some .int) am_r163 4 Q 6 [(3, .int ((nI k) + (Int32.ofInt 1))), (0, .ref 0), (1, .int (if ¬ (d_65 a2 (nI k)) = 0 then a1 else a1 + (Int32.ofInt 1))), (2, .int (if ¬ (d_65 a2 (nI k)) = 0 then a2 else a2 ||| (d_164 C s k)))] [] h from ⟨by decide, ?_⟩)
    rw [show (nI k) + (Int32.ofInt 1) = nI (k + 1) from (dn_a rfl rfl)]
    exact sv_S2 sv2_163 (by intro q hq; simp only [List.mem_cons, List.not_mem_nil, or_false] at hq; rcases hq with rfl | rfl | rfl | rfl <;> rfl) (ih (k + 1) (if ¬ (d_65 a2 (nI k)) = 0 then a1 else a1 + (Int32.ofInt 1)) (if ¬ (d_65 a2 (nI k)) = 0 then a2 else a2 ||| (d_164 C s k)) (by omega) hZ)
theorem d_163_N17 (hP : ex_P h) (hI : cI C) (hT : c_v 17 C h) (hD : c_d 17 C h) (hR : h.2.2.1 0 3 = some 17) (hS : sC 36 s h)  (hQ : Q (some (.int (d_163 C s))) h) : am_call am_cod 5 163 [.ref 0] h Q := by
  have h6 := hT.1.2.1
  have h5 := hT.2.1.2.1
  refine pz_call (n := 163) (nL := 4) (rt := (some .int)) (rows := am_r163) (d := 4) (by decide +kernel) (by decide +kernel) rfl (by funext pc; rfl) (ex_175 hP) (by exact Nat.le_of_ble_eq_true rfl) ?_
  refine am_goX 6 (show 1 < 4 ∧ 2 < 4 ∧ 3 < 4 ∧ pz_S 4 (some .int) am_r163 4 Q 6 [(3, .int (Int32.ofInt 0)), (2, .int (Int32.ofInt 0)), (1, .int (Int32.ofInt 0)), (0, .ref 0)] [] h from ⟨by decide, by decide, by decide, ?_⟩)
  refine sv_S2 sv2_163 (by intro q hq; simp only [List.mem_cons, List.not_mem_nil, or_false] at hq; rcases hq with rfl | rfl | rfl | rfl <;> rfl) (d_163_6_N17 hP hI hT hD hR hS (dP C) 0 (Int32.ofInt 0) (Int32.ofInt 0) (by omega) ?_)
  exact am_goX 2 (show (∃ ty, (some .int) = some ty ∧ narrow ty (.int ((d_163_6 C s (dP C) 0 (Int32.ofInt 0) (Int32.ofInt 0)).1)) = .int ((d_163_6 C s (dP C) 0 (Int32.ofInt 0) (Int32.ofInt 0)).1)) ∧ h.2.2.2.2 = 175 ∧ _ from ⟨⟨.int, rfl, rfl⟩, ex_175 hP, hQ⟩)
def d_280_19 (C : sp_C) (s : dS) (x5 : Int32) : Nat → Nat → Int32 → Int32
  | 0, _, a3 => a3
  | m + 1, k, a3 => d_280_19 C s x5 m (k + 1) (a3 ||| (if ¬ ((x5 >>> ((nI k) &&& 31)) &&& (Int32.ofInt 1)) = (Int32.ofInt 1) then Int32.ofInt 0 else s.2.2.2.1 k))
theorem d_280_19_M (n4 : Nat) (x5 : Int32) (hP : ex_P h) (hI : cI C) (hT : tR C h) (hO : ∀ e, e < dE C → h.1 172 e = dW V e) (hS : sR 0 (dP C) s h) : ∀ (m k : Nat) (a3 : Int32), k + m = dP C → (pz_S 7 (some .int) am_r280 1 Q 62 [(0, .ref 154), (2, .int (nI l)), (3, .int (d_280_19 C s x5 m k a3)), (4, .int (nI n4))] [] h) → pz_S 7 (some .int) am_r280 1 Q 19 [(0, .ref 154), (2, .int (nI l)), (3, .int a3), (4, .int (nI n4)), (5, .int x5), (6, .int (nI k))] [] h := by
  intro m
  induction m with
  | zero =>
    intro k a3 hk hZ
    have h6 := hT.1.2.1
    have h5 := hT.2.1.2.1
    refine am_goX 3 (show am_rc h 154 11 ∧ 1 ≤ 8 ∧ h.2.2.2.2 + am_al 186 ≤ 175 ∧ am_call am_cod 1 186 [.ref 154] h (fun vv h' => pz_S 7 (some .int) am_r280 1 Q 25 [(0, .ref 154), (2, .int (nI l)), (3, .int a3), (4, .int (nI n4)), (5, .int x5), (6, .int (nI k))] (vv.toList ++ [.int (nI k)]) h') from ⟨Or.inl ⟨by decide, ex_154 hP⟩, by decide, ex_lim hP rfl, am_call.up (d_186_r hP hT ?_) (by decide)⟩)
    refine am_goX 1 (show ((nI (dP C)) ≤ (nI k) → pz_S 7 (some .int) am_r280 1 Q 62 [(0, .ref 154), (2, .int (nI l)), (3, .int a3), (4, .int (nI n4)), (5, .int x5), (6, .int (nI k))] [] h) ∧ (¬ ((nI (dP C)) ≤ (nI k)) → pz_S 7 (some .int) am_r280 1 Q 28 [(0, .ref 154), (2, .int (nI l)), (3, .int a3), (4, .int (nI n4)), (5, .int x5), (6, .int (nI k))] [] h) from ⟨fun _ => ?_, fun hz => absurd (show nI (dP C) ≤ nI k from nI_le (by omega) (by omega)) hz⟩)
    exact sv_S2 sv2_280 (by intro q hq; simp only [List.mem_cons, List.not_mem_nil, or_false] at hq; rcases hq with rfl | rfl | rfl | rfl <;> rfl) (hZ)
  | succ m ih =>
    intro k a3 hk hZ
    have h6 := hT.1.2.1
    have h5 := hT.2.1.2.1
    refine am_goX 3 (show am_rc h 154 11 ∧ 1 ≤ 8 ∧ h.2.2.2.2 + am_al 186 ≤ 175 ∧ am_call am_cod 1 186 [.ref 154] h (fun vv h' => pz_S 7 (some .int) am_r280 1 Q 25 [(0, .ref 154), (2, .int (nI l)), (3, .int a3), (4, .int (nI n4)), (5, .int x5), (6, .int (nI k))] (vv.toList ++ [.int (nI k)]) h') from ⟨Or.inl ⟨by decide, ex_154 hP⟩, by decide, ex_lim hP rfl, am_call.up (d_186_r hP hT ?_) (by decide)⟩)
    refine am_goX 1 (show ((nI (dP C)) ≤ (nI k) → pz_S 7 (some .int) am_r280 1 Q 62 [(0, .ref 154), (2, .int (nI l)), (3, .int a3), (4, .int (nI n4)), (5, .int x5), (6, .int (nI k))] [] h) ∧ (¬ ((nI (dP C)) ≤ (nI k)) → pz_S 7 (some .int) am_r280 1 Q 28 [(0, .ref 154), (2, .int (nI l)), (3, .int a3), (4, .int (nI n4)), (5, .int x5), (6, .int (nI k))] [] h) from ⟨fun hz => absurd hz (show ¬ (nI (dP C) ≤ nI k) by rw [nI_leI (by omega) (by omega)]; omega), fun _ => ?_⟩)
    suffices key : ∀ (v26 : Int32), v26 = (if ¬ ((x5 >>> ((nI k) &&& 31)) &&& (Int32.ofInt 1)) = (Int32.ofInt 1) then Int32.ofInt 0 else s.2.2.2.1 k) → pz_S 7 (some .int) am_r280 1 Q 54 [(0, .ref 154), (2, .int (nI l)), (4, .int (nI n4)), (5, .int x5), (6, .int (nI k))] [.int v26, .int a3] h by
      refine am_goX 8 (show (¬ ((x5 >>> ((nI k) &&& 31)) &&& (Int32.ofInt 1)) = (Int32.ofInt 1) → pz_S 7 (some .int) am_r280 1 Q 53 [(0, .ref 154), (2, .int (nI l)), (3, .int a3), (4, .int (nI n4)), (5, .int x5), (6, .int (nI k))] [.int a3] h) ∧ (¬ ¬ ((x5 >>> ((nI k) &&& 31)) &&& (Int32.ofInt 1)) = (Int32.ofInt 1) → pz_S 7 (some .int) am_r280 1 Q 40 [(0, .ref 154), (2, .int (nI l)), (3, .int a3), (4, .int (nI n4)), (5, .int x5), (6, .int (nI k))] [.int a3] h) from ⟨fun c25 => ?_, fun c25 => ?_⟩)
      · refine am_goX 1 (show pz_S 7 (some .int) am_r280 1 Q 54 [(0, .ref 154), (2, .int (nI l)), (3, .int a3), (4, .int (nI n4)), (5, .int x5), (6, .int (nI k))] [.int (Int32.ofInt 0), .int a3] h from ?_)
        exact sv_S2 sv2_280 (by intro q hq; simp only [List.mem_cons, List.not_mem_nil, or_false] at hq; rcases hq with rfl | rfl | rfl | rfl | rfl <;> rfl) (key _ (if_pos c25).symm)
      · refine am_goX 2 (show am_sh h 154 = some (11, 0) ∧ pz_S 7 (some .int) am_r280 1 Q 44 [(0, .ref 154), (2, .int (nI l)), (3, .int a3), (4, .int (nI n4)), (5, .int x5), (6, .int (nI k))] [am_rf (h.2.2.1 154 24), .int a3] h from ⟨ex_154 hP, ?_⟩)
        rw [show am_rf (h.2.2.1 154 24) = .ref 170 from congrArg am_rf (ex_r154_24 hP)]
        refine am_goX 4 (show ∃ jj nn : Nat, am_sh h 170 = some (13, nn) ∧ jj < nn ∧ ((Int8.ofInt 8).toInt32) + (nI k) = nI jj ∧ pz_S 7 (some .int) am_r280 1 Q 50 [(0, .ref 154), (2, .int (nI l)), (3, .int a3), (4, .int (nI n4)), (5, .int x5), (6, .int (nI k))] [.int (h.1 170 jj), .int a3] h from ⟨(8 + k), 1127, ex_170 hP, (by omega), (dn_a (show (Int8.ofInt 8).toInt32 = nI 8 by decide) rfl), ?_⟩)
        rw [show h.1 170 (8 + k) = s.2.2.2.1 k from (by rw [show (8 + k) = 0 + 8 + k by omega]; exact hS.2.2.1 k (by omega))]
        refine am_goX 1 (show pz_S 7 (some .int) am_r280 1 Q 54 [(0, .ref 154), (2, .int (nI l)), (3, .int a3), (4, .int (nI n4)), (5, .int x5), (6, .int (nI k))] [.int (s.2.2.2.1 k), .int a3] h from ?_)
        exact sv_S2 sv2_280 (by intro q hq; simp only [List.mem_cons, List.not_mem_nil, or_false] at hq; rcases hq with rfl | rfl | rfl | rfl | rfl <;> rfl) (key _ (if_neg c25).symm)
    intro v26 e27
    subst e27
    refine am_goX 4 (show 3 < 7 ∧ 6 < 7 ∧ pz_S 7 (some .int) am_r280 1 Q 19 [(6, .int ((nI k) + (Int32.ofInt 1))), (3, .int (a3 ||| (if ¬ ((x5 >>> ((nI k) &&& 31)) &&& (Int32.ofInt 1)) = (Int32.ofInt 1) then Int32.ofInt 0 else s.2.2.2.1 k))), (0, .ref 154), (2, .int (nI l)), (4, .int (nI n4)), (5, .int x5)] [] h from ⟨by decide, by decide, ?_⟩)
    rw [show (nI k) + (Int32.ofInt 1) = nI (k + 1) from (dn_a rfl rfl)]
    exact sv_S2 sv2_280 (by intro q hq; simp only [List.mem_cons, List.not_mem_nil, or_false] at hq; rcases hq with rfl | rfl | rfl | rfl | rfl | rfl <;> rfl) (ih (k + 1) (a3 ||| (if ¬ ((x5 >>> ((nI k) &&& 31)) &&& (Int32.ofInt 1)) = (Int32.ofInt 1) then Int32.ofInt 0 else s.2.2.2.1 k)) (by omega) hZ)
def d_280_7 (C : sp_C) (s : dS) : Nat → Nat → Int32 → Int32
  | 0, _, a3 => a3
  | m + 1, k, a3 => d_280_7 C s m (k + 1) (d_280_19 C s a3 (dP C) 0 a3)
theorem d_280_7_M (hP : ex_P h) (hI : cI C) (hT : tR C h) (hO : ∀ e, e < dE C → h.1 172 e = dW V e) (hS : sR 0 (dP C) s h) (hl : l ≤ 6) : ∀ (m k : Nat) (a3 : Int32), k + m = l → (pz_S 7 (some .int) am_r280 1 Q 68 [(3, .int (d_280_7 C s m k a3))] [] h) → pz_S 7 (some .int) am_r280 1 Q 7 [(0, .ref 154), (2, .int (nI l)), (3, .int a3), (4, .int (nI k))] [] h := by
  intro m
  induction m with
  | zero =>
    intro k a3 hk hZ
    have h6 := hT.1.2.1
    have h5 := hT.2.1.2.1
    refine am_goX 3 (show ((nI l) ≤ (nI k) → pz_S 7 (some .int) am_r280 1 Q 68 [(0, .ref 154), (2, .int (nI l)), (3, .int a3), (4, .int (nI k))] [] h) ∧ (¬ ((nI l) ≤ (nI k)) → pz_S 7 (some .int) am_r280 1 Q 13 [(0, .ref 154), (2, .int (nI l)), (3, .int a3), (4, .int (nI k))] [] h) from ⟨fun _ => ?_, fun hz => absurd (show nI l ≤ nI k from nI_le (by omega) (by omega)) hz⟩)
    exact sv_S2 sv2_280 (by intro q hq; simp only [List.mem_cons, List.not_mem_nil, or_false] at hq; rcases hq with rfl <;> rfl) (hZ)
  | succ m ih =>
    intro k a3 hk hZ
    have h6 := hT.1.2.1
    have h5 := hT.2.1.2.1
    refine am_goX 3 (show ((nI l) ≤ (nI k) → pz_S 7 (some .int) am_r280 1 Q 68 [(0, .ref 154), (2, .int (nI l)), (3, .int a3), (4, .int (nI k))] [] h) ∧ (¬ ((nI l) ≤ (nI k)) → pz_S 7 (some .int) am_r280 1 Q 13 [(0, .ref 154), (2, .int (nI l)), (3, .int a3), (4, .int (nI k))] [] h) from ⟨fun hz => absurd hz (show ¬ (nI l ≤ nI k) by rw [nI_leI (by omega) (by omega)]; omega), fun _ => ?_⟩)
    refine am_goX 4 (show 5 < 7 ∧ 6 < 7 ∧ pz_S 7 (some .int) am_r280 1 Q 19 [(6, .int (Int32.ofInt 0)), (5, .int a3), (0, .ref 154), (2, .int (nI l)), (3, .int a3), (4, .int (nI k))] [] h from ⟨by decide, by decide, ?_⟩)
    refine sv_S2 sv2_280 (by intro q hq; simp only [List.mem_cons, List.not_mem_nil, or_false] at hq; rcases hq with rfl | rfl | rfl | rfl | rfl | rfl <;> rfl) (d_280_19_M k a3 hP hI hT hO hS (dP C) 0 a3 (by omega) ?_)
    refine am_goX 2 (show 4 < 7 ∧ pz_S 7 (some .int) am_r280 1 Q 7 [(4, .int ((nI k) + (Int32.ofInt 1))), (0, .ref 154), (2, .int (nI l)), (3, .int (d_280_19 C s a3 (dP C) 0 a3))] [] h from ⟨by decide, ?_⟩)
    rw [show (nI k) + (Int32.ofInt 1) = nI (k + 1) from (dn_a rfl rfl)]
    exact sv_S2 sv2_280 (by intro q hq; simp only [List.mem_cons, List.not_mem_nil, or_false] at hq; rcases hq with rfl | rfl | rfl | rfl <;> rfl) (ih (k + 1) (d_280_19 C s a3 (dP C) 0 a3) (by omega) hZ)
def d_280 (C : sp_C) (s : dS) (p l : Nat) : Int32 := d_280_7 C s l 0 ((Int32.ofInt 1) <<< ((nI p) &&& 31))
theorem d_280_M (hP : ex_P h) (hI : cI C) (hT : tR C h) (hO : ∀ e, e < dE C → h.1 172 e = dW V e) (hS : sR 0 (dP C) s h) (hl : l ≤ 6) (hQ : Q (some (.int (d_280 C s p l))) h) : am_call am_cod 2 280 [.ref 154, .int (nI p), .int (nI l)] h Q := by
  have h6 := hT.1.2.1
  have h5 := hT.2.1.2.1
  refine pz_call (n := 280) (nL := 7) (rt := (some .int)) (rows := am_r280) (d := 1) (by decide +kernel) (by decide +kernel) rfl (by funext pc; rfl) (ex_175 hP) (by exact Nat.le_of_ble_eq_true rfl) ?_
  refine am_goX 6 (show 3 < 7 ∧ 4 < 7 ∧ pz_S 7 (some .int) am_r280 1 Q 7 [(4, .int (Int32.ofInt 0)), (3, .int ((Int32.ofInt 1) <<< ((nI p) &&& 31))), (0, .ref 154), (1, .int (nI p)), (2, .int (nI l))] [] h from ⟨by decide, by decide, ?_⟩)
  refine sv_S2 sv2_280 (by intro q hq; simp only [List.mem_cons, List.not_mem_nil, or_false] at hq; rcases hq with rfl | rfl | rfl | rfl <;> rfl) (d_280_7_M hP hI hT hO hS hl l 0 ((Int32.ofInt 1) <<< ((nI p) &&& 31)) (by omega) ?_)
  exact am_goX 2 (show (∃ ty, (some .int) = some ty ∧ narrow ty (.int (d_280_7 C s l 0 ((Int32.ofInt 1) <<< ((nI p) &&& 31)))) = .int (d_280_7 C s l 0 ((Int32.ofInt 1) <<< ((nI p) &&& 31)))) ∧ h.2.2.2.2 = 175 ∧ _ from ⟨⟨.int, rfl, rfl⟩, ex_175 hP, hQ⟩)
def d_279_7 (C : sp_C) (s : dS) (p q : Nat) : Nat → Nat → Int32
  | 0, _ => Int32.ofInt (-1)
  | m + 1, k => (if ¬ (((d_280 C s p k) >>> ((nI q) &&& 31)) &&& (Int32.ofInt 1)) = (Int32.ofInt 1) then (d_279_7 C s p q m (k + 1) ) else nI k)
theorem d_279_7_M (hP : ex_P h) (hI : cI C) (hT : tR C h) (hO : ∀ e, e < dE C → h.1 172 e = dW V e) (hS : sR 0 (dP C) s h) (hp : p < dP C) (hq : q < dP C) : ∀ (m k : Nat), k + m = 6 → (Q (some (.int (d_279_7 C s p q m k ))) h) → pz_S 4 (some .int) am_r279 2 Q 7 [(0, .ref 154), (1, .int (nI p)), (2, .int (nI q)), (3, .int (nI k))] [] h := by
  intro m
  induction m with
  | zero =>
    intro k  hk hQ
    have h6 := hT.1.2.1
    have h5 := hT.2.1.2.1
    refine am_goX 3 (show (((Int8.ofInt 6).toInt32) ≤ (nI k) → pz_S 4 (some .int) am_r279 2 Q 51 [(0, .ref 154), (1, .int (nI p)), (2, .int (nI q)), (3, .int (nI k))] [] h) ∧ (¬ (((Int8.ofInt 6).toInt32) ≤ (nI k)) → pz_S 4 (some .int) am_r279 2 Q 13 [(0, .ref 154), (1, .int (nI p)), (2, .int (nI q)), (3, .int (nI k))] [] h) from ⟨fun _ => ?_, fun hz => absurd (show nI 6 ≤ nI k from nI_le (by omega) (by omega)) hz⟩)
    exact am_goX 2 (show (∃ ty, (some .int) = some ty ∧ narrow ty (.int (Int32.ofInt (-1))) = .int (Int32.ofInt (-1))) ∧ h.2.2.2.2 = 175 ∧ _ from ⟨⟨.int, rfl, rfl⟩, ex_175 hP, hQ⟩)
  | succ m ih =>
    intro k  hk hQ
    have h6 := hT.1.2.1
    have h5 := hT.2.1.2.1
    refine am_goX 3 (show (((Int8.ofInt 6).toInt32) ≤ (nI k) → pz_S 4 (some .int) am_r279 2 Q 51 [(0, .ref 154), (1, .int (nI p)), (2, .int (nI q)), (3, .int (nI k))] [] h) ∧ (¬ (((Int8.ofInt 6).toInt32) ≤ (nI k)) → pz_S 4 (some .int) am_r279 2 Q 13 [(0, .ref 154), (1, .int (nI p)), (2, .int (nI q)), (3, .int (nI k))] [] h) from ⟨fun hz => absurd hz (show ¬ (nI 6 ≤ nI k) by rw [nI_leI (by omega) (by omega)]; omega), fun _ => ?_⟩)
    refine am_goX 3 (show am_rc h 154 11 ∧ 0 ≤ 8 ∧ h.2.2.2.2 + am_al 221 ≤ 175 ∧ am_call am_cod 2 221 [.ref 154, .int (nI p)] h (fun vv h' => pz_S 4 (some .int) am_r279 2 Q 18 [(0, .ref 154), (1, .int (nI p)), (2, .int (nI q)), (3, .int (nI k))] (vv.toList ++ []) h') from ⟨Or.inl ⟨by decide, ex_154 hP⟩, by decide, ex_lim hP rfl, am_call.up (d_221_r hP hT ?_) (by decide)⟩)
    rw [show d_221 C (nI p) = Int32.ofInt 1 from ((d_221_e _).trans (v_87 hp))]
    refine am_goX 1 (show ((Int32.ofInt 1) = 0 → pz_S 4 (some .int) am_r279 2 Q 51 [(0, .ref 154), (1, .int (nI p)), (2, .int (nI q)), (3, .int (nI k))] [] h) ∧ (¬ ((Int32.ofInt 1) = 0) → pz_S 4 (some .int) am_r279 2 Q 21 [(0, .ref 154), (1, .int (nI p)), (2, .int (nI q)), (3, .int (nI k))] [] h) from ⟨fun hz => absurd hz (by decide), fun _ => ?_⟩)
    refine am_goX 3 (show am_rc h 154 11 ∧ 0 ≤ 8 ∧ h.2.2.2.2 + am_al 221 ≤ 175 ∧ am_call am_cod 2 221 [.ref 154, .int (nI q)] h (fun vv h' => pz_S 4 (some .int) am_r279 2 Q 26 [(0, .ref 154), (1, .int (nI p)), (2, .int (nI q)), (3, .int (nI k))] (vv.toList ++ []) h') from ⟨Or.inl ⟨by decide, ex_154 hP⟩, by decide, ex_lim hP rfl, am_call.up (d_221_r hP hT ?_) (by decide)⟩)
    rw [show d_221 C (nI q) = Int32.ofInt 1 from ((d_221_e _).trans (v_87 hq))]
    refine am_goX 1 (show ((Int32.ofInt 1) = 0 → pz_S 4 (some .int) am_r279 2 Q 51 [(0, .ref 154), (1, .int (nI p)), (2, .int (nI q)), (3, .int (nI k))] [] h) ∧ (¬ ((Int32.ofInt 1) = 0) → pz_S 4 (some .int) am_r279 2 Q 29 [(0, .ref 154), (1, .int (nI p)), (2, .int (nI q)), (3, .int (nI k))] [] h) from ⟨fun hz => absurd hz (by decide), fun _ => ?_⟩)
    refine am_goX 4 (show am_rc h 154 11 ∧ 0 ≤ 8 ∧ h.2.2.2.2 + am_al 280 ≤ 175 ∧ am_call am_cod 2 280 [.ref 154, .int (nI p), .int (nI k)] h (fun vv h' => pz_S 4 (some .int) am_r279 2 Q 35 [(0, .ref 154), (1, .int (nI p)), (2, .int (nI q)), (3, .int (nI k))] (vv.toList ++ []) h') from ⟨Or.inl ⟨by decide, ex_154 hP⟩, by decide, ex_lim hP rfl, am_call.up (d_280_M hP hI hT hO hS (by omega) ?_) (by decide)⟩)
    refine am_goX 6 (show (¬ (((d_280 C s p k) >>> ((nI q) &&& 31)) &&& (Int32.ofInt 1)) = (Int32.ofInt 1) → pz_S 4 (some .int) am_r279 2 Q 45 [(0, .ref 154), (1, .int (nI p)), (2, .int (nI q)), (3, .int (nI k))] [] h) ∧ (¬ ¬ (((d_280 C s p k) >>> ((nI q) &&& 31)) &&& (Int32.ofInt 1)) = (Int32.ofInt 1) → pz_S 4 (some .int) am_r279 2 Q 43 [(0, .ref 154), (1, .int (nI p)), (2, .int (nI q)), (3, .int (nI k))] [] h) from ⟨fun c31 => ?_, fun c31 => ?_⟩)
    · refine am_goX 2 (show 3 < 4 ∧ pz_S 4 (some .int) am_r279 2 Q 7 [(3, .int ((nI k) + (Int32.ofInt 1))), (0, .ref 154), (1, .int (nI p)), (2, .int (nI q))] [] h from ⟨by decide, ?_⟩)
      rw [show (nI k) + (Int32.ofInt 1) = nI (k + 1) from (dn_a rfl rfl)]
      exact sv_S2 sv2_279 (by intro q hq; simp only [List.mem_cons, List.not_mem_nil, or_false] at hq; rcases hq with rfl | rfl | rfl | rfl <;> rfl) (ih (k + 1)  (by omega) (dn_q (if_pos c31) hQ))
    · exact am_goX 2 (show (∃ ty, (some .int) = some ty ∧ narrow ty (.int (nI k)) = .int (nI k)) ∧ h.2.2.2.2 = 175 ∧ _ from ⟨⟨.int, rfl, rfl⟩, ex_175 hP, dn_q (if_neg c31) hQ⟩)
def d_279 (C : sp_C) (s : dS) (p q : Nat) : Int32 := d_279_7 C s p q 6 0 
theorem d_279_M (hP : ex_P h) (hI : cI C) (hT : tR C h) (hO : ∀ e, e < dE C → h.1 172 e = dW V e) (hS : sR 0 (dP C) s h) (hp : p < dP C) (hq : q < dP C) (hQ : ∀ g, Q (some (.int (d_279 C s p q))) g) : am_call am_cod 3 279 [.ref 154, .int (nI p), .int (nI q)] h Q := by
  have h6 := hT.1.2.1
  have h5 := hT.2.1.2.1
  refine pz_call (n := 279) (nL := 4) (rt := (some .int)) (rows := am_r279) (d := 2) (by decide +kernel) (by decide +kernel) rfl (by funext pc; rfl) (ex_175 hP) (by exact Nat.le_of_ble_eq_true rfl) ?_
  refine am_goX 3 (show am_sh h 154 = some (11, 0) ∧ narrow (am_fty 11 0) (.int (Int32.ofInt 0)) = .int (Int32.ofInt 0) ∧ fits (am_fty 11 0) (.int (Int32.ofInt 0)) = true ∧ pz_S 4 (some .int) am_r279 2 Q 5 [(0, .ref 154), (1, .int (nI p)), (2, .int (nI q))] [] (am_wI h 154 0 (Int32.ofInt 0)) from ⟨ex_154 hP, rfl, rfl, ?_⟩)
  have f26 : ex_P (am_wI h 154 0 (Int32.ofInt 0)) := hP
  have f27 : cI C := hI
  have f28 : tR C (am_wI h 154 0 (Int32.ofInt 0)) := tR_w (by omega) hT
  have f29 : ∀ e, e < dE C → (am_wI h 154 0 (Int32.ofInt 0)).1 172 e = dW V e := on_w (by omega) hO
  have f30 : sR 0 (dP C) s (am_wI h 154 0 (Int32.ofInt 0)) := sR_o (by omega) hS
  generalize am_wI h 154 0 (Int32.ofInt 0) = h25 at f26 f27 f28 f29 f30 ⊢
  refine am_goX 2 (show 3 < 4 ∧ pz_S 4 (some .int) am_r279 2 Q 7 [(3, .int (Int32.ofInt 0)), (0, .ref 154), (1, .int (nI p)), (2, .int (nI q))] [] h25 from ⟨by decide, ?_⟩)
  exact sv_S2 sv2_279 (by intro q hq; simp only [List.mem_cons, List.not_mem_nil, or_false] at hq; rcases hq with rfl | rfl | rfl | rfl <;> rfl) (d_279_7_M f26 f27 f28 f29 f30 hp hq 6 0 (by omega) (hQ _))
def d_279x  : Int32 := Int32.ofInt (-1)
theorem d_279_xM (hP : ex_P h) (hI : cI C) (hT : tR C h) (hO : ∀ e, e < dE C → h.1 172 e = dW V e) (hS : sR 0 (dP C) s h) (ey : d_87 C y = Int32.ofInt 0) (hQ : ∀ g, Q (some (.int d_279x)) g) : am_call am_cod 3 279 [.ref 154, .int y, .int z] h Q := by
  have h6 := hT.1.2.1
  have h5 := hT.2.1.2.1
  refine pz_call (n := 279) (nL := 4) (rt := (some .int)) (rows := am_r279) (d := 2) (by decide +kernel) (by decide +kernel) rfl (by funext pc; rfl) (ex_175 hP) (by exact Nat.le_of_ble_eq_true rfl) ?_
  refine am_goX 3 (show am_sh h 154 = some (11, 0) ∧ narrow (am_fty 11 0) (.int (Int32.ofInt 0)) = .int (Int32.ofInt 0) ∧ fits (am_fty 11 0) (.int (Int32.ofInt 0)) = true ∧ pz_S 4 (some .int) am_r279 2 Q 5 [(0, .ref 154), (1, .int y), (2, .int z)] [] (am_wI h 154 0 (Int32.ofInt 0)) from ⟨ex_154 hP, rfl, rfl, ?_⟩)
  have f33 : ex_P (am_wI h 154 0 (Int32.ofInt 0)) := hP
  have f34 : cI C := hI
  have f35 : tR C (am_wI h 154 0 (Int32.ofInt 0)) := tR_w (by omega) hT
  have f36 : ∀ e, e < dE C → (am_wI h 154 0 (Int32.ofInt 0)).1 172 e = dW V e := on_w (by omega) hO
  have f37 : sR 0 (dP C) s (am_wI h 154 0 (Int32.ofInt 0)) := sR_o (by omega) hS
  generalize am_wI h 154 0 (Int32.ofInt 0) = h32 at f33 f34 f35 f36 f37 ⊢
  refine am_goX 5 (show 3 < 4 ∧ (((Int8.ofInt 6).toInt32) ≤ (Int32.ofInt 0) → pz_S 4 (some .int) am_r279 2 Q 51 [(3, .int (Int32.ofInt 0)), (0, .ref 154), (1, .int y), (2, .int z)] [] h32) ∧ (¬ (((Int8.ofInt 6).toInt32) ≤ (Int32.ofInt 0)) → pz_S 4 (some .int) am_r279 2 Q 13 [(3, .int (Int32.ofInt 0)), (0, .ref 154), (1, .int y), (2, .int z)] [] h32) from ⟨by decide, fun hz => absurd hz (by decide), fun _ => ?_⟩)
  refine am_goX 3 (show am_rc h32 154 11 ∧ 0 ≤ 8 ∧ h32.2.2.2.2 + am_al 221 ≤ 175 ∧ am_call am_cod 2 221 [.ref 154, .int y] h32 (fun vv h' => pz_S 4 (some .int) am_r279 2 Q 18 [(3, .int (Int32.ofInt 0)), (0, .ref 154), (1, .int y), (2, .int z)] (vv.toList ++ []) h') from ⟨Or.inl ⟨by decide, ex_154 f33⟩, by decide, ex_lim f33 rfl, am_call.up (d_221_r f33 f35 ?_) (by decide)⟩)
  rw [show d_221 C y = Int32.ofInt 0 from ((d_221_e _).trans ey)]
  refine am_goX 1 (show ((Int32.ofInt 0) = 0 → pz_S 4 (some .int) am_r279 2 Q 51 [(3, .int (Int32.ofInt 0)), (0, .ref 154), (1, .int y), (2, .int z)] [] h32) ∧ (¬ ((Int32.ofInt 0) = 0) → pz_S 4 (some .int) am_r279 2 Q 21 [(3, .int (Int32.ofInt 0)), (0, .ref 154), (1, .int y), (2, .int z)] [] h32) from ⟨fun _ => ?_, fun hz => absurd (by decide) hz⟩)
  exact am_goX 2 (show (∃ ty, (some .int) = some ty ∧ narrow ty (.int (Int32.ofInt (-1))) = .int (Int32.ofInt (-1))) ∧ h32.2.2.2.2 = 175 ∧ _ from ⟨⟨.int, rfl, rfl⟩, ex_175 f33, hQ _⟩)
theorem d_279_yM (hP : ex_P h) (hI : cI C) (hT : tR C h) (hO : ∀ e, e < dE C → h.1 172 e = dW V e) (hS : sR 0 (dP C) s h) (hp : p < dP C) (ey : d_87 C y = Int32.ofInt 0) (hQ : ∀ g, Q (some (.int d_279x)) g) : am_call am_cod 3 279 [.ref 154, .int (nI p), .int y] h Q := by
  have h6 := hT.1.2.1
  have h5 := hT.2.1.2.1
  refine pz_call (n := 279) (nL := 4) (rt := (some .int)) (rows := am_r279) (d := 2) (by decide +kernel) (by decide +kernel) rfl (by funext pc; rfl) (ex_175 hP) (by exact Nat.le_of_ble_eq_true rfl) ?_
  refine am_goX 3 (show am_sh h 154 = some (11, 0) ∧ narrow (am_fty 11 0) (.int (Int32.ofInt 0)) = .int (Int32.ofInt 0) ∧ fits (am_fty 11 0) (.int (Int32.ofInt 0)) = true ∧ pz_S 4 (some .int) am_r279 2 Q 5 [(0, .ref 154), (1, .int (nI p)), (2, .int y)] [] (am_wI h 154 0 (Int32.ofInt 0)) from ⟨ex_154 hP, rfl, rfl, ?_⟩)
  have f39 : ex_P (am_wI h 154 0 (Int32.ofInt 0)) := hP
  have f40 : cI C := hI
  have f41 : tR C (am_wI h 154 0 (Int32.ofInt 0)) := tR_w (by omega) hT
  have f42 : ∀ e, e < dE C → (am_wI h 154 0 (Int32.ofInt 0)).1 172 e = dW V e := on_w (by omega) hO
  have f43 : sR 0 (dP C) s (am_wI h 154 0 (Int32.ofInt 0)) := sR_o (by omega) hS
  generalize am_wI h 154 0 (Int32.ofInt 0) = h38 at f39 f40 f41 f42 f43 ⊢
  refine am_goX 5 (show 3 < 4 ∧ (((Int8.ofInt 6).toInt32) ≤ (Int32.ofInt 0) → pz_S 4 (some .int) am_r279 2 Q 51 [(3, .int (Int32.ofInt 0)), (0, .ref 154), (1, .int (nI p)), (2, .int y)] [] h38) ∧ (¬ (((Int8.ofInt 6).toInt32) ≤ (Int32.ofInt 0)) → pz_S 4 (some .int) am_r279 2 Q 13 [(3, .int (Int32.ofInt 0)), (0, .ref 154), (1, .int (nI p)), (2, .int y)] [] h38) from ⟨by decide, fun hz => absurd hz (by decide), fun _ => ?_⟩)
  refine am_goX 3 (show am_rc h38 154 11 ∧ 0 ≤ 8 ∧ h38.2.2.2.2 + am_al 221 ≤ 175 ∧ am_call am_cod 2 221 [.ref 154, .int (nI p)] h38 (fun vv h' => pz_S 4 (some .int) am_r279 2 Q 18 [(3, .int (Int32.ofInt 0)), (0, .ref 154), (1, .int (nI p)), (2, .int y)] (vv.toList ++ []) h') from ⟨Or.inl ⟨by decide, ex_154 f39⟩, by decide, ex_lim f39 rfl, am_call.up (d_221_r f39 f41 ?_) (by decide)⟩)
  rw [show d_221 C (nI p) = Int32.ofInt 1 from ((d_221_e _).trans (v_87 hp))]
  refine am_goX 1 (show ((Int32.ofInt 1) = 0 → pz_S 4 (some .int) am_r279 2 Q 51 [(3, .int (Int32.ofInt 0)), (0, .ref 154), (1, .int (nI p)), (2, .int y)] [] h38) ∧ (¬ ((Int32.ofInt 1) = 0) → pz_S 4 (some .int) am_r279 2 Q 21 [(3, .int (Int32.ofInt 0)), (0, .ref 154), (1, .int (nI p)), (2, .int y)] [] h38) from ⟨fun hz => absurd hz (by decide), fun _ => ?_⟩)
  refine am_goX 3 (show am_rc h38 154 11 ∧ 0 ≤ 8 ∧ h38.2.2.2.2 + am_al 221 ≤ 175 ∧ am_call am_cod 2 221 [.ref 154, .int y] h38 (fun vv h' => pz_S 4 (some .int) am_r279 2 Q 26 [(3, .int (Int32.ofInt 0)), (0, .ref 154), (1, .int (nI p)), (2, .int y)] (vv.toList ++ []) h') from ⟨Or.inl ⟨by decide, ex_154 f39⟩, by decide, ex_lim f39 rfl, am_call.up (d_221_r f39 f41 ?_) (by decide)⟩)
  rw [show d_221 C y = Int32.ofInt 0 from ((d_221_e _).trans ey)]
  refine am_goX 1 (show ((Int32.ofInt 0) = 0 → pz_S 4 (some .int) am_r279 2 Q 51 [(3, .int (Int32.ofInt 0)), (0, .ref 154), (1, .int (nI p)), (2, .int y)] [] h38) ∧ (¬ ((Int32.ofInt 0) = 0) → pz_S 4 (some .int) am_r279 2 Q 29 [(3, .int (Int32.ofInt 0)), (0, .ref 154), (1, .int (nI p)), (2, .int y)] [] h38) from ⟨fun _ => ?_, fun hz => absurd (by decide) hz⟩)
  exact am_goX 2 (show (∃ ty, (some .int) = some ty ∧ narrow ty (.int (Int32.ofInt (-1))) = .int (Int32.ofInt (-1))) ∧ h38.2.2.2.2 = 175 ∧ _ from ⟨⟨.int, rfl, rfl⟩, ex_175 f39, hQ _⟩)
def d_281_9 (C : sp_C) (s : dS) : Nat → Nat → Int32 → Int32
  | 0, _, a1 => a1
  | m + 1, k, a1 => d_281_9 C s m (k + 1) (a1 ||| (if ¬ (d_235 (s.2.2.2.1 k)) = (Int32.ofInt 1) then Int32.ofInt 0 else (Int32.ofInt 1) <<< ((nI k) &&& 31)))
theorem d_281_9_M (hP : ex_P h) (hI : cI C) (hT : tR C h) (hO : ∀ e, e < dE C → h.1 172 e = dW V e) (hS : sR 0 (dP C) s h) : ∀ (m k : Nat) (a1 : Int32), k + m = dP C → (pz_S 3 (some .int) am_r281 1 Q 49 [(1, .int (d_281_9 C s m k a1))] [] h) → pz_S 3 (some .int) am_r281 1 Q 9 [(0, .ref 154), (1, .int a1), (2, .int (nI k))] [] h := by
  intro m
  induction m with
  | zero =>
    intro k a1 hk hZ
    have h6 := hT.1.2.1
    have h5 := hT.2.1.2.1
    refine am_goX 3 (show am_rc h 154 11 ∧ 1 ≤ 8 ∧ h.2.2.2.2 + am_al 186 ≤ 175 ∧ am_call am_cod 1 186 [.ref 154] h (fun vv h' => pz_S 3 (some .int) am_r281 1 Q 14 [(0, .ref 154), (1, .int a1), (2, .int (nI k))] (vv.toList ++ [.int (nI k)]) h') from ⟨Or.inl ⟨by decide, ex_154 hP⟩, by decide, ex_lim hP rfl, am_call.up (d_186_r hP hT ?_) (by decide)⟩)
    refine am_goX 1 (show ((nI (dP C)) ≤ (nI k) → pz_S 3 (some .int) am_r281 1 Q 49 [(0, .ref 154), (1, .int a1), (2, .int (nI k))] [] h) ∧ (¬ ((nI (dP C)) ≤ (nI k)) → pz_S 3 (some .int) am_r281 1 Q 17 [(0, .ref 154), (1, .int a1), (2, .int (nI k))] [] h) from ⟨fun _ => ?_, fun hz => absurd (show nI (dP C) ≤ nI k from nI_le (by omega) (by omega)) hz⟩)
    exact sv_S2 sv2_281 (by intro q hq; simp only [List.mem_cons, List.not_mem_nil, or_false] at hq; rcases hq with rfl <;> rfl) (hZ)
  | succ m ih =>
    intro k a1 hk hZ
    have h6 := hT.1.2.1
    have h5 := hT.2.1.2.1
    refine am_goX 3 (show am_rc h 154 11 ∧ 1 ≤ 8 ∧ h.2.2.2.2 + am_al 186 ≤ 175 ∧ am_call am_cod 1 186 [.ref 154] h (fun vv h' => pz_S 3 (some .int) am_r281 1 Q 14 [(0, .ref 154), (1, .int a1), (2, .int (nI k))] (vv.toList ++ [.int (nI k)]) h') from ⟨Or.inl ⟨by decide, ex_154 hP⟩, by decide, ex_lim hP rfl, am_call.up (d_186_r hP hT ?_) (by decide)⟩)
    refine am_goX 1 (show ((nI (dP C)) ≤ (nI k) → pz_S 3 (some .int) am_r281 1 Q 49 [(0, .ref 154), (1, .int a1), (2, .int (nI k))] [] h) ∧ (¬ ((nI (dP C)) ≤ (nI k)) → pz_S 3 (some .int) am_r281 1 Q 17 [(0, .ref 154), (1, .int a1), (2, .int (nI k))] [] h) from ⟨fun hz => absurd hz (show ¬ (nI (dP C) ≤ nI k) by rw [nI_leI (by omega) (by omega)]; omega), fun _ => ?_⟩)
    refine am_goX 3 (show am_sh h 154 = some (11, 0) ∧ pz_S 3 (some .int) am_r281 1 Q 22 [(0, .ref 154), (1, .int a1), (2, .int (nI k))] [am_rf (h.2.2.1 154 24), .int a1] h from ⟨ex_154 hP, ?_⟩)
    rw [show am_rf (h.2.2.1 154 24) = .ref 170 from congrArg am_rf (ex_r154_24 hP)]
    refine am_goX 4 (show ∃ jj nn : Nat, am_sh h 170 = some (13, nn) ∧ jj < nn ∧ ((Int8.ofInt 8).toInt32) + (nI k) = nI jj ∧ pz_S 3 (some .int) am_r281 1 Q 27 [(0, .ref 154), (1, .int a1), (2, .int (nI k))] [.int (h.1 170 jj), .int a1] h from ⟨(8 + k), 1127, ex_170 hP, (by omega), (dn_a (show (Int8.ofInt 8).toInt32 = nI 8 by decide) rfl), ?_⟩)
    rw [show h.1 170 (8 + k) = s.2.2.2.1 k from (by rw [show (8 + k) = 0 + 8 + k by omega]; exact hS.2.2.1 k (by omega))]
    refine am_goX 1 (show 1 ≤ 8 ∧ h.2.2.2.2 + am_al 235 ≤ 175 ∧ am_call am_cod 1 235 [.int (s.2.2.2.1 k)] h (fun vv h' => pz_S 3 (some .int) am_r281 1 Q 30 [(0, .ref 154), (1, .int a1), (2, .int (nI k))] (vv.toList ++ [.int a1]) h') from ⟨by decide, ex_lim hP rfl, am_call.up (d_235_w hP ?_) (by decide)⟩)
    suffices key : ∀ (v51 : Int32), v51 = (if ¬ (d_235 (s.2.2.2.1 k)) = (Int32.ofInt 1) then Int32.ofInt 0 else (Int32.ofInt 1) <<< ((nI k) &&& 31)) → pz_S 3 (some .int) am_r281 1 Q 41 [(0, .ref 154), (2, .int (nI k))] [.int v51, .int a1] h by
      refine am_goX 2 (show (¬ (d_235 (s.2.2.2.1 k)) = (Int32.ofInt 1) → pz_S 3 (some .int) am_r281 1 Q 40 [(0, .ref 154), (1, .int a1), (2, .int (nI k))] [.int a1] h) ∧ (¬ ¬ (d_235 (s.2.2.2.1 k)) = (Int32.ofInt 1) → pz_S 3 (some .int) am_r281 1 Q 34 [(0, .ref 154), (1, .int a1), (2, .int (nI k))] [.int a1] h) from ⟨fun c50 => ?_, fun c50 => ?_⟩)
      · refine am_goX 1 (show pz_S 3 (some .int) am_r281 1 Q 41 [(0, .ref 154), (1, .int a1), (2, .int (nI k))] [.int (Int32.ofInt 0), .int a1] h from ?_)
        exact sv_S2 sv2_281 (by intro q hq; simp only [List.mem_cons, List.not_mem_nil, or_false] at hq; rcases hq with rfl | rfl <;> rfl) (key _ (if_pos c50).symm)
      · refine am_goX 4 (show pz_S 3 (some .int) am_r281 1 Q 41 [(0, .ref 154), (1, .int a1), (2, .int (nI k))] [.int ((Int32.ofInt 1) <<< ((nI k) &&& 31)), .int a1] h from ?_)
        exact sv_S2 sv2_281 (by intro q hq; simp only [List.mem_cons, List.not_mem_nil, or_false] at hq; rcases hq with rfl | rfl <;> rfl) (key _ (if_neg c50).symm)
    intro v51 e52
    subst e52
    refine am_goX 4 (show 1 < 3 ∧ 2 < 3 ∧ pz_S 3 (some .int) am_r281 1 Q 9 [(2, .int ((nI k) + (Int32.ofInt 1))), (1, .int (a1 ||| (if ¬ (d_235 (s.2.2.2.1 k)) = (Int32.ofInt 1) then Int32.ofInt 0 else (Int32.ofInt 1) <<< ((nI k) &&& 31)))), (0, .ref 154)] [] h from ⟨by decide, by decide, ?_⟩)
    rw [show (nI k) + (Int32.ofInt 1) = nI (k + 1) from (dn_a rfl rfl)]
    exact sv_S2 sv2_281 (by intro q hq; simp only [List.mem_cons, List.not_mem_nil, or_false] at hq; rcases hq with rfl | rfl | rfl <;> rfl) (ih (k + 1) (a1 ||| (if ¬ (d_235 (s.2.2.2.1 k)) = (Int32.ofInt 1) then Int32.ofInt 0 else (Int32.ofInt 1) <<< ((nI k) &&& 31))) (by omega) hZ)
def d_281 (C : sp_C) (s : dS) : Int32 := d_281_9 C s (dP C) 0 (Int32.ofInt 0)
theorem d_281_M (hP : ex_P h) (hI : cI C) (hT : tR C h) (hO : ∀ e, e < dE C → h.1 172 e = dW V e) (hS : sR 0 (dP C) s h)  (hQ : ∀ g, Q (some (.int (d_281 C s))) g) : am_call am_cod 2 281 [.ref 154] h Q := by
  have h6 := hT.1.2.1
  have h5 := hT.2.1.2.1
  refine pz_call (n := 281) (nL := 3) (rt := (some .int)) (rows := am_r281) (d := 1) (by decide +kernel) (by decide +kernel) rfl (by funext pc; rfl) (ex_175 hP) (by exact Nat.le_of_ble_eq_true rfl) ?_
  refine am_goX 3 (show am_sh h 154 = some (11, 0) ∧ narrow (am_fty 11 0) (.int (Int32.ofInt 0)) = .int (Int32.ofInt 0) ∧ fits (am_fty 11 0) (.int (Int32.ofInt 0)) = true ∧ pz_S 3 (some .int) am_r281 1 Q 5 [(0, .ref 154)] [] (am_wI h 154 0 (Int32.ofInt 0)) from ⟨ex_154 hP, rfl, rfl, ?_⟩)
  have f45 : ex_P (am_wI h 154 0 (Int32.ofInt 0)) := hP
  have f46 : cI C := hI
  have f47 : tR C (am_wI h 154 0 (Int32.ofInt 0)) := tR_w (by omega) hT
  have f48 : ∀ e, e < dE C → (am_wI h 154 0 (Int32.ofInt 0)).1 172 e = dW V e := on_w (by omega) hO
  have f49 : sR 0 (dP C) s (am_wI h 154 0 (Int32.ofInt 0)) := sR_o (by omega) hS
  generalize am_wI h 154 0 (Int32.ofInt 0) = h44 at f45 f46 f47 f48 f49 ⊢
  refine am_goX 4 (show 1 < 3 ∧ 2 < 3 ∧ pz_S 3 (some .int) am_r281 1 Q 9 [(2, .int (Int32.ofInt 0)), (1, .int (Int32.ofInt 0)), (0, .ref 154)] [] h44 from ⟨by decide, by decide, ?_⟩)
  refine sv_S2 sv2_281 (by intro q hq; simp only [List.mem_cons, List.not_mem_nil, or_false] at hq; rcases hq with rfl | rfl | rfl <;> rfl) (d_281_9_M f45 f46 f47 f48 f49 (dP C) 0 (Int32.ofInt 0) (by omega) ?_)
  exact am_goX 2 (show (∃ ty, (some .int) = some ty ∧ narrow ty (.int (d_281_9 C s (dP C) 0 (Int32.ofInt 0))) = .int (d_281_9 C s (dP C) 0 (Int32.ofInt 0))) ∧ h44.2.2.2.2 = 175 ∧ _ from ⟨⟨.int, rfl, rfl⟩, ex_175 f45, hQ _⟩)
def d_282_9 (C : sp_C) (s : dS) : Nat → Nat → Int32 → Int32
  | 0, _, a1 => a1
  | m + 1, k, a1 => d_282_9 C s m (k + 1) (a1 + (if ¬ ((d_280 C s k 6) &&& (((Int32.ofInt 1) <<< ((nI k) &&& 31)) - (Int32.ofInt 1))) = 0 then Int32.ofInt 0 else Int32.ofInt 1))
theorem d_282_9_M (hP : ex_P h) (hI : cI C) (hT : tR C h) (hO : ∀ e, e < dE C → h.1 172 e = dW V e) (hS : sR 0 (dP C) s h) : ∀ (m k : Nat) (a1 : Int32), k + m = dP C → (pz_S 3 (some .int) am_r282 2 Q 47 [(1, .int (d_282_9 C s m k a1))] [] h) → pz_S 3 (some .int) am_r282 2 Q 9 [(0, .ref 154), (1, .int a1), (2, .int (nI k))] [] h := by
  intro m
  induction m with
  | zero =>
    intro k a1 hk hZ
    have h6 := hT.1.2.1
    have h5 := hT.2.1.2.1
    refine am_goX 3 (show am_rc h 154 11 ∧ 1 ≤ 8 ∧ h.2.2.2.2 + am_al 186 ≤ 175 ∧ am_call am_cod 2 186 [.ref 154] h (fun vv h' => pz_S 3 (some .int) am_r282 2 Q 14 [(0, .ref 154), (1, .int a1), (2, .int (nI k))] (vv.toList ++ [.int (nI k)]) h') from ⟨Or.inl ⟨by decide, ex_154 hP⟩, by decide, ex_lim hP rfl, am_call.up (d_186_r hP hT ?_) (by decide)⟩)
    refine am_goX 1 (show ((nI (dP C)) ≤ (nI k) → pz_S 3 (some .int) am_r282 2 Q 47 [(0, .ref 154), (1, .int a1), (2, .int (nI k))] [] h) ∧ (¬ ((nI (dP C)) ≤ (nI k)) → pz_S 3 (some .int) am_r282 2 Q 17 [(0, .ref 154), (1, .int a1), (2, .int (nI k))] [] h) from ⟨fun _ => ?_, fun hz => absurd (show nI (dP C) ≤ nI k from nI_le (by omega) (by omega)) hz⟩)
    exact sv_S2 sv2_282 (by intro q hq; simp only [List.mem_cons, List.not_mem_nil, or_false] at hq; rcases hq with rfl <;> rfl) (hZ)
  | succ m ih =>
    intro k a1 hk hZ
    have h6 := hT.1.2.1
    have h5 := hT.2.1.2.1
    refine am_goX 3 (show am_rc h 154 11 ∧ 1 ≤ 8 ∧ h.2.2.2.2 + am_al 186 ≤ 175 ∧ am_call am_cod 2 186 [.ref 154] h (fun vv h' => pz_S 3 (some .int) am_r282 2 Q 14 [(0, .ref 154), (1, .int a1), (2, .int (nI k))] (vv.toList ++ [.int (nI k)]) h') from ⟨Or.inl ⟨by decide, ex_154 hP⟩, by decide, ex_lim hP rfl, am_call.up (d_186_r hP hT ?_) (by decide)⟩)
    refine am_goX 1 (show ((nI (dP C)) ≤ (nI k) → pz_S 3 (some .int) am_r282 2 Q 47 [(0, .ref 154), (1, .int a1), (2, .int (nI k))] [] h) ∧ (¬ ((nI (dP C)) ≤ (nI k)) → pz_S 3 (some .int) am_r282 2 Q 17 [(0, .ref 154), (1, .int a1), (2, .int (nI k))] [] h) from ⟨fun hz => absurd hz (show ¬ (nI (dP C) ≤ nI k) by rw [nI_leI (by omega) (by omega)]; omega), fun _ => ?_⟩)
    refine am_goX 4 (show pz_S 3 (some .int) am_r282 2 Q 22 [(0, .ref 154), (1, .int a1), (2, .int (nI k))] [.int ((Int8.ofInt 6).toInt32), .int (nI k), .ref 154, .int a1] h from ?_)
    rw [show (Int8.ofInt 6).toInt32 = nI 6 from (show (Int8.ofInt 6).toInt32 = nI 6 by decide)]
    refine am_goX 1 (show am_rc h 154 11 ∧ 1 ≤ 8 ∧ h.2.2.2.2 + am_al 280 ≤ 175 ∧ am_call am_cod 2 280 [.ref 154, .int (nI k), .int (nI 6)] h (fun vv h' => pz_S 3 (some .int) am_r282 2 Q 25 [(0, .ref 154), (1, .int a1), (2, .int (nI k))] (vv.toList ++ [.int a1]) h') from ⟨Or.inl ⟨by decide, ex_154 hP⟩, by decide, ex_lim hP rfl, am_call.up (d_280_M hP hI hT hO hS (by omega) ?_) (by decide)⟩)
    suffices key : ∀ (v60 : Int32), v60 = (if ¬ ((d_280 C s k 6) &&& (((Int32.ofInt 1) <<< ((nI k) &&& 31)) - (Int32.ofInt 1))) = 0 then Int32.ofInt 0 else Int32.ofInt 1) → pz_S 3 (some .int) am_r282 2 Q 39 [(0, .ref 154), (2, .int (nI k))] [.int v60, .int a1] h by
      refine am_goX 7 (show (¬ ((d_280 C s k 6) &&& (((Int32.ofInt 1) <<< ((nI k) &&& 31)) - (Int32.ofInt 1))) = 0 → pz_S 3 (some .int) am_r282 2 Q 38 [(0, .ref 154), (1, .int a1), (2, .int (nI k))] [.int a1] h) ∧ (¬ ¬ ((d_280 C s k 6) &&& (((Int32.ofInt 1) <<< ((nI k) &&& 31)) - (Int32.ofInt 1))) = 0 → pz_S 3 (some .int) am_r282 2 Q 34 [(0, .ref 154), (1, .int a1), (2, .int (nI k))] [.int a1] h) from ⟨fun c59 => ?_, fun c59 => ?_⟩)
      · refine am_goX 1 (show pz_S 3 (some .int) am_r282 2 Q 39 [(0, .ref 154), (1, .int a1), (2, .int (nI k))] [.int (Int32.ofInt 0), .int a1] h from ?_)
        exact sv_S2 sv2_282 (by intro q hq; simp only [List.mem_cons, List.not_mem_nil, or_false] at hq; rcases hq with rfl | rfl <;> rfl) (key _ (if_pos c59).symm)
      · refine am_goX 2 (show pz_S 3 (some .int) am_r282 2 Q 39 [(0, .ref 154), (1, .int a1), (2, .int (nI k))] [.int (Int32.ofInt 1), .int a1] h from ?_)
        exact sv_S2 sv2_282 (by intro q hq; simp only [List.mem_cons, List.not_mem_nil, or_false] at hq; rcases hq with rfl | rfl <;> rfl) (key _ (if_neg c59).symm)
    intro v60 e61
    subst e61
    refine am_goX 4 (show 1 < 3 ∧ 2 < 3 ∧ pz_S 3 (some .int) am_r282 2 Q 9 [(2, .int ((nI k) + (Int32.ofInt 1))), (1, .int (a1 + (if ¬ ((d_280 C s k 6) &&& (((Int32.ofInt 1) <<< ((nI k) &&& 31)) - (Int32.ofInt 1))) = 0 then Int32.ofInt 0 else Int32.ofInt 1))), (0, .ref 154)] [] h from ⟨by decide, by decide, ?_⟩)
    rw [show (nI k) + (Int32.ofInt 1) = nI (k + 1) from (dn_a rfl rfl)]
    exact sv_S2 sv2_282 (by intro q hq; simp only [List.mem_cons, List.not_mem_nil, or_false] at hq; rcases hq with rfl | rfl | rfl <;> rfl) (ih (k + 1) (a1 + (if ¬ ((d_280 C s k 6) &&& (((Int32.ofInt 1) <<< ((nI k) &&& 31)) - (Int32.ofInt 1))) = 0 then Int32.ofInt 0 else Int32.ofInt 1)) (by omega) hZ)
def d_282 (C : sp_C) (s : dS) : Int32 := d_282_9 C s (dP C) 0 (Int32.ofInt 0)
theorem d_282_M (hP : ex_P h) (hI : cI C) (hT : tR C h) (hO : ∀ e, e < dE C → h.1 172 e = dW V e) (hS : sR 0 (dP C) s h)  (hQ : ∀ g, Q (some (.int (d_282 C s))) g) : am_call am_cod 3 282 [.ref 154] h Q := by
  have h6 := hT.1.2.1
  have h5 := hT.2.1.2.1
  refine pz_call (n := 282) (nL := 3) (rt := (some .int)) (rows := am_r282) (d := 2) (by decide +kernel) (by decide +kernel) rfl (by funext pc; rfl) (ex_175 hP) (by exact Nat.le_of_ble_eq_true rfl) ?_
  refine am_goX 3 (show am_sh h 154 = some (11, 0) ∧ narrow (am_fty 11 0) (.int (Int32.ofInt 0)) = .int (Int32.ofInt 0) ∧ fits (am_fty 11 0) (.int (Int32.ofInt 0)) = true ∧ pz_S 3 (some .int) am_r282 2 Q 5 [(0, .ref 154)] [] (am_wI h 154 0 (Int32.ofInt 0)) from ⟨ex_154 hP, rfl, rfl, ?_⟩)
  have f54 : ex_P (am_wI h 154 0 (Int32.ofInt 0)) := hP
  have f55 : cI C := hI
  have f56 : tR C (am_wI h 154 0 (Int32.ofInt 0)) := tR_w (by omega) hT
  have f57 : ∀ e, e < dE C → (am_wI h 154 0 (Int32.ofInt 0)).1 172 e = dW V e := on_w (by omega) hO
  have f58 : sR 0 (dP C) s (am_wI h 154 0 (Int32.ofInt 0)) := sR_o (by omega) hS
  generalize am_wI h 154 0 (Int32.ofInt 0) = h53 at f54 f55 f56 f57 f58 ⊢
  refine am_goX 4 (show 1 < 3 ∧ 2 < 3 ∧ pz_S 3 (some .int) am_r282 2 Q 9 [(2, .int (Int32.ofInt 0)), (1, .int (Int32.ofInt 0)), (0, .ref 154)] [] h53 from ⟨by decide, by decide, ?_⟩)
  refine sv_S2 sv2_282 (by intro q hq; simp only [List.mem_cons, List.not_mem_nil, or_false] at hq; rcases hq with rfl | rfl | rfl <;> rfl) (d_282_9_M f54 f55 f56 f57 f58 (dP C) 0 (Int32.ofInt 0) (by omega) ?_)
  exact am_goX 2 (show (∃ ty, (some .int) = some ty ∧ narrow ty (.int (d_282_9 C s (dP C) 0 (Int32.ofInt 0))) = .int (d_282_9 C s (dP C) 0 (Int32.ofInt 0))) ∧ h53.2.2.2.2 = 175 ∧ _ from ⟨⟨.int, rfl, rfl⟩, ex_175 f54, hQ _⟩)
theorem th_19 {C : sp_C} {s : dS} {x : Int32} : ∀ (m k : Nat) (a : Int32), d_280_19 C s x m k a = d_161_4 C s x m k a := by
  intro m
  induction m with
  | zero => exact fun _ _ => rfl
  | succ m ih =>
    intro k a
    rw [d_280_19, d_161_4]
    by_cases e : d_65 x (nI k) = 0
    · rw [if_pos ((b65 _ _).mp e), if_pos e, or0]
      exact ih _ _
    · rw [if_neg (fun z => e ((b65 _ _).mpr z)), if_neg e]
      exact ih _ _
/-- so many steps from some persons on -/
def itw (C : sp_C) (s : dS) : Nat → Int32 → Int32
  | 0, a => a
  | m + 1, a => itw C s m (d_161 C s a)
theorem itw_s {C : sp_C} {s : dS} : ∀ (m : Nat) (a : Int32), itw C s (m + 1) a = d_161 C s (itw C s m a) := by
  intro m
  induction m with
  | zero => exact fun _ => rfl
  | succ m ih =>
    intro a
    show itw C s (m + 1) (d_161 C s a) = d_161 C s (itw C s m (d_161 C s a))
    exact ih _
theorem th_7 {C : sp_C} {s : dS} : ∀ (m k : Nat) (a : Int32), d_280_7 C s m k a = itw C s m a := by
  intro m
  induction m with
  | zero => exact fun _ _ => rfl
  | succ m ih =>
    intro k a
    rw [d_280_7, th_19]
    exact ih _ _
theorem th_c {C : sp_C} {s : dS} : ∀ (m k : Nat) (a : Int32), d_164_6 C s m k a = itw C s m a := by
  intro m
  induction m with
  | zero => exact fun _ _ => rfl
  | succ m ih =>
    intro k a
    rw [d_164_6]
    exact ih _ _
theorem th_n {C : sp_C} {s : dS} {p q : Nat} : ∀ (m k : Nat), d_279_7 C s p q m k = d_160_25 C s q m k (itw C s k ((Int32.ofInt 1) <<< ((nI p) &&& 31))) := by
  intro m
  induction m with
  | zero => exact fun _ => rfl
  | succ m ih =>
    intro k
    have e0 : d_280 C s p k = itw C s k ((Int32.ofInt 1) <<< ((nI p) &&& 31)) := th_7 k 0 _
    rw [d_279_7, d_160_25, e0]
    by_cases e : d_65 (itw C s k ((Int32.ofInt 1) <<< ((nI p) &&& 31))) (nI q) = 0
    · rw [if_pos ((b65 _ _).mp e), if_pos e, ih (k + 1), itw_s]
    · rw [if_neg (fun z => e ((b65 _ _).mpr z)), if_neg e]
theorem wed_e {C : sp_C} {D : Nat} {s : dS} (h6 : dP C ≤ 6) (hs : sI C D s) : ∀ (m k : Nat) (a : Int32), d_281_9 C s m k a = d_162_4 C s m k a := by
  intro m
  induction m with
  | zero => exact fun _ _ => rfl
  | succ m ih =>
    intro k a
    rw [d_281_9, d_162_4, bc_x (Nat.lt_of_lt_of_le (hs.2.2.1 k).1 (p64 h6))]
    by_cases e : d_235 (s.2.2.2.1 k) = Int32.ofInt 1
    · rw [if_neg (fun z => z e), if_neg (fun z => z e)]
      exact ih _ _
    · rw [if_pos e, if_pos e, or0]
      exact ih _ _
def a_th (C : sp_C) (s : dS) (x y : Int32) : Int32 := if d_87 C x = Int32.ofInt 0 then Int32.ofInt (-1) else if d_87 C y = Int32.ofInt 0 then Int32.ofInt (-1) else d_160 C s x.toInt.toNat y.toInt.toNat
theorem a_th1 {C : sp_C} {s : dS} {x y : Int32} (e : d_87 C x = Int32.ofInt 0) : a_th C s x y = Int32.ofInt (-1) := if_pos e
theorem a_th2 {C : sp_C} {s : dS} {p : Nat} {y : Int32} (hp : p < dP C) (h6 : dP C ≤ 6) (e : d_87 C y = Int32.ofInt 0) : a_th C s (nI p) y = Int32.ofInt (-1) := by
  unfold a_th
  rw [if_neg (v_87b hp h6), if_pos e]
theorem a_th3 {C : sp_C} {s : dS} {p q : Nat} (hp : p < dP C) (hq : q < dP C) (h6 : dP C ≤ 6) : a_th C s (nI p) (nI q) = d_160 C s p q := by
  unfold a_th
  rw [if_neg (v_87b hp h6), if_neg (v_87b hq h6), nI_tnn (by omega), nI_tnn (by omega)]
theorem q_160 {h : am_H} {C : sp_C} {D : Nat} {s : dS} {H : dH} {M : dMk} {n : Nat} (hI : iv_I h) (i : KI C D s H M n) (j : KC C s H M n h) (x y : Int32) : am_call am_cod 60 160 [.ref 0, .int x, .int y] h (fun v _ => v = some (.int (a_th C s x y))) := by
  have hP := iv_P hI
  have hc := i.1
  have h6 := hc.1.1
  obtain ⟨c, c1, c2, c3, c4, c5, -⟩ := j
  rcases c_87 h6 x with e | ⟨p, hp, rfl⟩
  · rcases c1 with rfl | rfl
    · exact am_call.up (d_160_xN6 hP hc c3 c4 c2 c5 e (by rw [a_th1 e]; rfl)) (by decide)
    · exact am_call.up (d_160_xN17 hP hc c3 c4 c2 c5 e (by rw [a_th1 e]; rfl)) (by decide)
  · rcases c_87 h6 y with e | ⟨q, hq, rfl⟩
    · rcases c1 with rfl | rfl
      · exact am_call.up (d_160_yN6 hP hc c3 c4 c2 c5 hp e (by rw [a_th2 hp h6 e]; rfl)) (by decide)
      · exact am_call.up (d_160_yN17 hP hc c3 c4 c2 c5 hp e (by rw [a_th2 hp h6 e]; rfl)) (by decide)
    · rcases c1 with rfl | rfl
      · exact am_call.up (d_160_N6 hP hc c3 c4 c2 c5 hp hq (by rw [a_th3 hp hq h6])) (by decide)
      · exact am_call.up (d_160_N17 hP hc c3 c4 c2 c5 hp hq (by rw [a_th3 hp hq h6])) (by decide)
theorem q_279 {h : am_H} {C : sp_C} {D : Nat} {s : dS} {H : dH} {M : dMk} {n : Nat} (hI : iv_I h) (i : KI C D s H M n) (j : KR C s H M n h) (x y : Int32) : am_call am_cod 60 279 [.ref 154, .int x, .int y] h (fun v _ => v = some (.int (a_th C s x y))) := by
  have hP := iv_P hI
  have hc := i.1
  have h6 := hc.1.1
  obtain ⟨r1, r2, r3, -⟩ := j
  rcases c_87 h6 x with e | ⟨p, hp, rfl⟩
  · exact am_call.up (d_279_xM hP hc r1 r2 r3 e (fun g => by rw [a_th1 e]; rfl)) (by decide)
  · rcases c_87 h6 y with e | ⟨q, hq, rfl⟩
    · exact am_call.up (d_279_yM hP hc r1 r2 r3 hp e (fun g => by rw [a_th2 hp h6 e]; rfl)) (by decide)
    · exact am_call.up (d_279_M hP hc r1 r2 r3 hp hq (fun g => by rw [a_th3 hp hq h6, show d_279 C s p q = d_160 C s p q from th_n 6 0])) (by decide)
theorem q_162 {h : am_H} {C : sp_C} {D : Nat} {s : dS} {H : dH} {M : dMk} {n : Nat} (hI : iv_I h) (i : KI C D s H M n) (j : KC C s H M n h) : am_call am_cod 60 162 [.ref 0] h (fun v _ => v = some (.int (d_162 C s))) := by
  have hP := iv_P hI
  have hc := i.1
  obtain ⟨c, c1, c2, c3, c4, c5, -⟩ := j
  rcases c1 with rfl | rfl
  · exact am_call.up (d_162_N6 hP hc c3 c4 c2 c5 rfl) (by decide)
  · exact am_call.up (d_162_N17 hP hc c3 c4 c2 c5 rfl) (by decide)
theorem q_281 {h : am_H} {C : sp_C} {D : Nat} {s : dS} {H : dH} {M : dMk} {n : Nat} (hI : iv_I h) (i : KI C D s H M n) (j : KR C s H M n h) : am_call am_cod 60 281 [.ref 154] h (fun v _ => v = some (.int (d_162 C s))) := by
  have hP := iv_P hI
  have hc := i.1
  obtain ⟨r1, r2, r3, -⟩ := j
  have e : d_281 C s = d_162 C s := wed_e hc.1.1 i.2.1 (dP C) 0 (Int32.ofInt 0)
  exact am_call.up (d_281_M hP hc r1 r2 r3 (fun g => by rw [e])) (by decide)
end
section
/-! CIRCLES -/
theorem ci_1 : ∀ p, p < 6 → ∀ q, q < 6 → sp_bit ((Int32.ofInt 1) <<< ((nI p) &&& 31)) (nI q) = decide (p = q) := by decide +kernel
def pc6 (n : Nat) : Nat := n % 2 + n / 2 % 2 + n / 4 % 2 + n / 8 % 2 + n / 16 % 2 + n / 32 % 2
theorem pc6_6 (n : Nat) : pc6 n ≤ 6 := by
  unfold pc6
  omega
theorem pc6_s : ∀ x, x < 64 → ∀ y, y < 64 → ((List.range 6).all (fun q => !x.testBit q || y.testBit q)) = true → x ≠ y → pc6 x < pc6 y := by decide +kernel
theorem ci_0 : ∀ k, k < 6 → ∀ x, x < 64 → decide ((nI x &&& (((Int32.ofInt 1) <<< ((nI k) &&& 31)) - (Int32.ofInt 1))) = 0) = (List.range k).all (fun j => !sp_bit (nI x) (nI j)) := by decide +kernel
theorem ci_z {x : Int32} {k : Nat} (hx : bN x < 64) (hk : k < 6) : ((x &&& (((Int32.ofInt 1) <<< ((nI k) &&& 31)) - (Int32.ofInt 1))) = 0) ↔ ∀ j, j < k → sp_bit x (nI j) = false := by
  have w := ci_0 k hk (bN x) hx
  rw [← nI_bN hx (by decide)] at w
  constructor
  · intro h j hj
    rw [decide_eq_true h] at w
    have := List.all_eq_true.mp w.symm j (List.mem_range.mpr hj)
    cases hb : sp_bit x (nI j) with
    | false => rfl
    | true => rw [hb] at this; cases this
  · intro h
    refine of_decide_eq_true (w.trans (List.all_eq_true.mpr fun j hj => ?_))
    rw [h j (List.mem_range.mp hj)]
    rfl
/-- a step: whom these have met come to them -/
theorem wt_b {C : sp_C} {D : Nat} {s : dS} (h6 : dP C ≤ 6) (hs : sI C D s) {y : Int32} : ∀ (m k : Nat) (a : Int32), k + m = dP C → bN a < 2 ^ dP C → bN (d_161_4 C s y m k a) < 2 ^ dP C ∧ ∀ q, q < 6 → (sp_bit (d_161_4 C s y m k a) (nI q) = true ↔ (sp_bit a (nI q) = true ∨ ∃ j, k ≤ j ∧ j < dP C ∧ sp_bit y (nI j) = true ∧ sp_bit (s.2.2.2.1 j) (nI q) = true)) := by
  intro m
  induction m with
  | zero =>
    intro k a hk ha
    refine ⟨ha, fun q hq => ⟨fun h => Or.inl h, fun h => h.elim id (fun ⟨j, j1, j2, _⟩ => ?_)⟩⟩
    omega
  | succ m ih =>
    intro k a hk ha
    rw [d_161_4]
    cases hb : sp_bit y (nI k) with
    | false =>
      rw [if_pos (by rw [d_65_b]; exact hb)]
      obtain ⟨i1, i2⟩ := ih (k + 1) a (by omega) ha
      refine ⟨i1, fun q hq => (i2 q hq).trans ⟨fun h => h.imp id (fun ⟨j, j1, j2, j3⟩ => ⟨j, by omega, j2, j3⟩), fun h => h.imp id (fun ⟨j, j1, j2, j3, j4⟩ => ⟨j, ?_, j2, j3, j4⟩)⟩⟩
      by_cases e : j = k
      · rw [e, hb] at j3
        cases j3
      · omega
    | true =>
      rw [if_neg (by rw [d_65_b, hb]; decide)]
      obtain ⟨i1, i2⟩ := ih (k + 1) (a ||| s.2.2.2.1 k) (by omega) (by
        rw [bN_or]
        exact Nat.or_lt_two_pow ha (hs.2.2.1 k).1)
      refine ⟨i1, fun q hq => (i2 q hq).trans ?_⟩
      rw [bor_e (by omega), Bool.or_eq_true]
      constructor
      · rintro ((h | h) | ⟨j, j1, j2, j3⟩)
        · exact Or.inl h
        · exact Or.inr ⟨k, Nat.le_refl _, by omega, hb, h⟩
        · exact Or.inr ⟨j, by omega, j2, j3⟩
      · rintro (h | ⟨j, j1, j2, j3, j4⟩)
        · exact Or.inl (Or.inl h)
        · by_cases e : j = k
          · rw [e] at j4
            exact Or.inl (Or.inr j4)
          · exact Or.inr ⟨j, by omega, j2, j3, j4⟩
section ci
variable {C : sp_C} {D : Nat} {s : dS} {p q : Nat} {y : Int32}
theorem wt_1 (h6 : dP C ≤ 6) (hs : sI C D s) (hy : bN y < 2 ^ dP C) : bN (d_161 C s y) < 2 ^ dP C ∧ ∀ q, q < 6 → (sp_bit (d_161 C s y) (nI q) = true ↔ (sp_bit y (nI q) = true ∨ ∃ j, j < dP C ∧ sp_bit y (nI j) = true ∧ sp_bit (s.2.2.2.1 j) (nI q) = true)) := by
  obtain ⟨i1, i2⟩ := wt_b h6 hs (y := y) (dP C) 0 y (by omega) hy
  exact ⟨i1, fun q hq => (i2 q hq).trans ⟨fun h => h.imp id (fun ⟨j, _, j2⟩ => ⟨j, j2⟩), fun h => h.imp id (fun ⟨j, j2⟩ => ⟨j, Nat.zero_le _, j2⟩)⟩⟩
/-- who is within so many steps of one -/
def ar (C : sp_C) (s : dS) (p m : Nat) : Int32 := itw C s m ((Int32.ofInt 1) <<< ((nI p) &&& 31))
theorem ar_s (m : Nat) : ar C s p (m + 1) = d_161 C s (ar C s p m) := itw_s m _
theorem ar_lt (h6 : dP C ≤ 6) (hs : sI C D s) (hp : p < dP C) : ∀ m, bN (ar C s p m) < 2 ^ dP C := by
  intro m
  induction m with
  | zero =>
    show bN ((Int32.ofInt 1) <<< ((nI p) &&& 31)) < _
    rw [bN_1s (by omega)]
    exact Nat.pow_lt_pow_right (by decide) hp
  | succ m ih =>
    rw [ar_s]
    exact (wt_1 h6 hs ih).1
theorem ar_self (h6 : dP C ≤ 6) (hs : sI C D s) (hp : p < dP C) : ∀ m, sp_bit (ar C s p m) (nI p) = true := by
  intro m
  induction m with
  | zero =>
    have := ci_1 p (by omega) p (by omega)
    rw [decide_eq_true rfl] at this
    exact this
  | succ m ih =>
    rw [ar_s]
    exact ((wt_1 h6 hs (ar_lt h6 hs hp m)).2 p (by omega)).mpr (Or.inl ih)
theorem ar_pc (h6 : dP C ≤ 6) (hs : sI C D s) (hp : p < dP C) : ∀ m, (∃ i, i < m ∧ ar C s p (i + 1) = ar C s p i) ∨ m + 1 ≤ pc6 (bN (ar C s p m)) := by
  intro m
  induction m with
  | zero =>
    refine Or.inr ?_
    show 1 ≤ pc6 (bN ((Int32.ofInt 1) <<< ((nI p) &&& 31)))
    have key : ∀ p, p < 6 → 1 ≤ pc6 (bN ((Int32.ofInt 1) <<< ((nI p) &&& 31))) := by decide +kernel
    exact key p (by omega)
  | succ m ih =>
    rcases ih with ⟨i, h1, h2⟩ | h
    · exact Or.inl ⟨i, by omega, h2⟩
    · by_cases e : ar C s p (m + 1) = ar C s p m
      · exact Or.inl ⟨m, by omega, e⟩
      · refine Or.inr ?_
        have hm := Nat.lt_of_lt_of_le (ar_lt h6 hs hp m) (p64 h6)
        have hm1 := Nat.lt_of_lt_of_le (ar_lt h6 hs hp (m + 1)) (p64 h6)
        have := pc6_s _ hm _ hm1 (List.all_eq_true.mpr fun q hq => by
          have hq := List.mem_range.mp hq
          rw [← sp_bit_tg (by omega), ← sp_bit_tg (by omega)]
          cases hb : sp_bit (ar C s p m) (nI q) with
          | false => rfl
          | true =>
            rw [ar_s, ((wt_1 h6 hs (ar_lt h6 hs hp m)).2 q (by omega)).mpr (Or.inl hb)]
            rfl) (fun w => e (bN_inj w).symm)
        omega
theorem ar_st (h6 : dP C ≤ 6) (hs : sI C D s) (hp : p < dP C) : ar C s p 6 = ar C s p 5 := by
  rcases ar_pc h6 hs hp 6 with ⟨i, h1, h2⟩ | h
  · have st : ∀ j, ar C s p (i + j) = ar C s p i := by
      intro j
      induction j with
      | zero => rfl
      | succ j ih =>
        rw [show i + (j + 1) = (i + j) + 1 by omega, ar_s, ih, ← ar_s]
        exact h2
    have a := st (6 - i)
    have b := st (5 - i)
    rw [show i + (6 - i) = 6 by omega] at a
    rw [show i + (5 - i) = 5 by omega] at b
    exact a.trans b.symm
  · have := pc6_6 (bN (ar C s p 6))
    omega
theorem ar_cl (h6 : dP C ≤ 6) (hs : sI C D s) (hp : p < dP C) : d_161 C s (ar C s p 5) = ar C s p 5 := by
  rw [← ar_s]
  exact ar_st h6 hs hp
/-- of one in the circle, the circle is no greater -/
theorem ar_tr (h6 : dP C ≤ 6) (hs : sI C D s) (hp : p < dP C) (hq : q < dP C) (h : sp_bit (ar C s p 5) (nI q) = true) : ∀ m r, r < dP C → sp_bit (ar C s q m) (nI r) = true → sp_bit (ar C s p 5) (nI r) = true := by
  intro m
  induction m with
  | zero =>
    intro r hr hb
    have w := ci_1 q (by omega) r (by omega)
    have hb : sp_bit ((Int32.ofInt 1) <<< ((nI q) &&& 31)) (nI r) = true := hb
    rw [w] at hb
    rw [← of_decide_eq_true hb]
    exact h
  | succ m ih =>
    intro r hr hb
    rw [ar_s] at hb
    rw [← ar_cl h6 hs hp]
    refine ((wt_1 h6 hs (ar_lt h6 hs hp 5)).2 r (by omega)).mpr ?_
    rcases ((wt_1 h6 hs (ar_lt h6 hs hq m)).2 r (by omega)).mp hb with w | ⟨j, j1, j2, j3⟩
    · exact Or.inl (ih r hr w)
    · exact Or.inr ⟨j, j1, ih j j1 j2, j3⟩
theorem ar_sy (h6 : dP C ≤ 6) (hs : sI C D s) (hj : sJ C D s) (hp : p < dP C) : ∀ m q, q < dP C → sp_bit (ar C s p m) (nI q) = true → sp_bit (ar C s q 5) (nI p) = true := by
  intro m
  induction m with
  | zero =>
    intro q hq hb
    have w := ci_1 p (by omega) q (by omega)
    have hb : sp_bit ((Int32.ofInt 1) <<< ((nI p) &&& 31)) (nI q) = true := hb
    rw [w] at hb
    rw [← of_decide_eq_true hb]
    exact ar_self h6 hs hp 5
  | succ m ih =>
    intro q hq hb
    rw [ar_s] at hb
    rcases ((wt_1 h6 hs (ar_lt h6 hs hp m)).2 q (by omega)).mp hb with w | ⟨k, k1, k2, k3⟩
    · exact ih q hq w
    · have hk : sp_bit (ar C s q 5) (nI k) = true := by
        rw [← ar_cl h6 hs hq]
        refine ((wt_1 h6 hs (ar_lt h6 hs hq 5)).2 k (by omega)).mpr (Or.inr ⟨q, hq, ar_self h6 hs hq 5, ?_⟩)
        rw [hj.2 q k (by omega) (by omega)]
        exact k3
      exact ar_tr h6 hs hq k1 hk 5 p hp (ih k k1 k2)
theorem ci_l (h6 : dP C ≤ 6) (hs : sI C D s) (hj : sJ C D s) : ∀ (m k : Nat) (a b : Int32), k + m = dP C → (∀ q, q < dP C → (sp_bit b (nI q) = true ↔ ∃ j, j < k ∧ sp_bit (ar C s j 5) (nI q) = true)) → d_282_9 C s m k a = (d_163_6 C s m k a b).1 := by
  intro m
  induction m with
  | zero => exact fun _ _ _ _ _ => rfl
  | succ m ih =>
    intro k a b hk hb
    have hkP : k < dP C := by omega
    have e6 : d_280 C s k 6 = ar C s k 5 := (th_7 6 0 _).trans (ar_st h6 hs hkP)
    have e5 : d_164 C s k = ar C s k 5 := th_c 5 1 _
    have hz := ci_z (x := ar C s k 5) (k := k) (Nat.lt_of_lt_of_le (ar_lt h6 hs hkP 5) (p64 h6)) (by omega)
    rw [d_282_9, d_163_6, e6, e5]
    by_cases hc : sp_bit b (nI k) = true
    · have n1 : ¬ d_65 b (nI k) = 0 := by rw [d_65_b, hc]; decide
      obtain ⟨j, j1, j2⟩ := (hb k hkP).mp hc
      have n2 : ¬ ((ar C s k 5) &&& (((Int32.ofInt 1) <<< ((nI k) &&& 31)) - (Int32.ofInt 1))) = 0 := fun w => by
        have w := hz.mp w j j1
        rw [ar_sy h6 hs hj (show j < dP C by omega) 5 k hkP j2] at w
        cases w
      rw [if_pos n1, if_pos n1, if_pos n2, show a + Int32.ofInt 0 = a from Int32.add_zero _]
      refine ih (k + 1) a b (by omega) (fun q hq => (hb q hq).trans ⟨fun ⟨i, i1, i2⟩ => ⟨i, by omega, i2⟩, fun ⟨i, i1, i2⟩ => ?_⟩)
      by_cases ei : i = k
      · rw [ei] at i2
        exact ⟨j, j1, ar_tr h6 hs (by omega) hkP j2 5 q hq i2⟩
      · exact ⟨i, by omega, i2⟩
    · have n1 : ¬ ¬ d_65 b (nI k) = 0 := fun w => w (by rw [d_65_b]; exact Bool.eq_false_iff.mpr hc)
      have n2 : ¬ ¬ ((ar C s k 5) &&& (((Int32.ofInt 1) <<< ((nI k) &&& 31)) - (Int32.ofInt 1))) = 0 := fun w => w (hz.mpr (fun j j1 => by
        cases hx : sp_bit (ar C s k 5) (nI j) with
        | false => rfl
        | true => exact absurd ((hb k hkP).mpr ⟨j, j1, ar_sy h6 hs hj hkP 5 j (by omega) hx⟩) hc))
      rw [if_neg n1, if_neg n1, if_neg n2]
      refine ih (k + 1) _ _ (by omega) (fun q hq => ?_)
      rw [bor_e (by omega), Bool.or_eq_true, hb q hq]
      constructor
      · rintro (⟨i, i1, i2⟩ | h)
        · exact ⟨i, by omega, i2⟩
        · exact ⟨k, by omega, h⟩
      · rintro ⟨i, i1, i2⟩
        by_cases ei : i = k
        · rw [ei] at i2
          exact Or.inr i2
        · exact Or.inl ⟨i, by omega, i2⟩
theorem ci_e (h6 : dP C ≤ 6) (hs : sI C D s) (hj : sJ C D s) : d_282 C s = d_163 C s := by
  refine ci_l h6 hs hj (dP C) 0 (Int32.ofInt 0) (Int32.ofInt 0) (by omega) (fun q hq => ⟨fun w => ?_, fun ⟨j, j1, _⟩ => absurd j1 (Nat.not_lt_zero j)⟩)
  have key : ∀ e, e < 6 → sp_bit (Int32.ofInt 0) (nI e) = false := by decide +kernel
  rw [key q (by omega)] at w
  cases w
end ci
theorem q_163 {h : am_H} {C : sp_C} {D : Nat} {s : dS} {H : dH} {M : dMk} {n : Nat} (hI : iv_I h) (i : KI C D s H M n) (j : KC C s H M n h) : am_call am_cod 60 163 [.ref 0] h (fun v _ => v = some (.int (d_163 C s))) := by
  have hP := iv_P hI
  have hc := i.1
  obtain ⟨c, c1, c2, c3, c4, c5, -⟩ := j
  rcases c1 with rfl | rfl
  · exact am_call.up (d_163_N6 hP hc c3 c4 c2 c5 rfl) (by decide)
  · exact am_call.up (d_163_N17 hP hc c3 c4 c2 c5 rfl) (by decide)
theorem q_282 {h : am_H} {C : sp_C} {D : Nat} {s : dS} {H : dH} {M : dMk} {n : Nat} (hI : iv_I h) (i : KI C D s H M n) (kj : KJ C D s H M) (j : KR C s H M n h) : am_call am_cod 60 282 [.ref 154] h (fun v _ => v = some (.int (d_163 C s))) := by
  have hP := iv_P hI
  have hc := i.1
  obtain ⟨r1, r2, r3, -⟩ := j
  exact am_call.up (d_282_M hP hc r1 r2 r3 (fun g => by rw [ci_e hc.1.1 i.2.1 kj.1])) (by decide)
end
