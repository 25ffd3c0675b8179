/-! COUNT -/
variable {h : am_H} {Q : am_Q} {C V : sp_C} {x y z w : Int32} {s : dS} {hn sx wl tl : Nat}
theorem sv2_94 : am_r94.all (fun q => sv2_ok q.2) = true := by decide +kernel
theorem sv2_95 : am_r95.all (fun q => sv2_ok q.2) = true := by decide +kernel
theorem sv2_96 : am_r96.all (fun q => sv2_ok q.2) = true := by decide +kernel
theorem sv2_244 : am_r244.all (fun q => sv2_ok q.2) = true := by decide +kernel
theorem sv2_245 : am_r245.all (fun q => sv2_ok q.2) = true := by decide +kernel
def d_95_4 (s : dS) : Nat → Nat → Int32 → Int32
  | 0, _, a1 => a1
  | m + 1, k, a1 => d_95_4 s m (k + 1) (a1 + (s.2.2.2.2.1 k))
theorem d_95_4_N6 (hP : ex_P h) (hI : cI C) (hT : c_v 6 C h) (hD : c_d 6 C h) (hR : h.2.2.1 0 3 = some 6) (hS : sC 36 s h) : ∀ (m k : Nat) (a1 : Int32), k + m = 5 → (pz_S 3 (some .int) am_r95 1 Q 24 [(1, .int (d_95_4 s m k a1))] [] h) → pz_S 3 (some .int) am_r95 1 Q 4 [(0, .ref 36), (1, .int a1), (2, .int (nI k))] [] h := by
  intro m
  induction m with
  | zero =>
    intro k a1 hk hZ
    have h6 := hT.1.2.1
    have h5 := hT.2.1.2.1
    refine am_goX 3 (show ((Int32.ofInt 5) ≤ (nI k) → pz_S 3 (some .int) am_r95 1 Q 24 [(0, .ref 36), (1, .int a1), (2, .int (nI k))] [] h) ∧ (¬ ((Int32.ofInt 5) ≤ (nI k)) → pz_S 3 (some .int) am_r95 1 Q 9 [(0, .ref 36), (1, .int a1), (2, .int (nI k))] [] h) from ⟨fun _ => ?_, fun hz => absurd (show nI 5 ≤ nI k from nI_le (by omega) (by omega)) hz⟩)
    exact sv_S2 sv2_95 (by intro q hq; simp only [List.mem_cons, List.not_mem_nil, or_false] at hq; rcases hq with rfl <;> rfl) (hZ)
  | succ m ih =>
    intro k a1 hk hZ
    have h6 := hT.1.2.1
    have h5 := hT.2.1.2.1
    refine am_goX 3 (show ((Int32.ofInt 5) ≤ (nI k) → pz_S 3 (some .int) am_r95 1 Q 24 [(0, .ref 36), (1, .int a1), (2, .int (nI k))] [] h) ∧ (¬ ((Int32.ofInt 5) ≤ (nI k)) → pz_S 3 (some .int) am_r95 1 Q 9 [(0, .ref 36), (1, .int a1), (2, .int (nI k))] [] h) from ⟨fun hz => absurd hz (show ¬ (nI 5 ≤ nI k) by rw [nI_leI (by omega) (by omega)]; omega), fun _ => ?_⟩)
    refine am_goX 3 (show am_sh h 36 = some (6, 0) ∧ pz_S 3 (some .int) am_r95 1 Q 14 [(0, .ref 36), (1, .int a1), (2, .int (nI k))] [am_rf (h.2.2.1 36 4), .int a1] h from ⟨ex_36 hP, ?_⟩)
    rw [show am_rf (h.2.2.1 36 4) = .ref 39 from congrArg am_rf (ex_r36_4 hP)]
    refine am_goX 2 (show ∃ jj nn : Nat, am_sh h 39 = some (13, nn) ∧ jj < nn ∧ nI k = nI jj ∧ pz_S 3 (some .int) am_r95 1 Q 16 [(0, .ref 36), (1, .int a1), (2, .int (nI k))] [.int (h.1 39 jj), .int a1] h from ⟨k, 5, ex_39 hP, (by omega), rfl, ?_⟩)
    rw [show h.1 39 k = s.2.2.2.2.1 k from (hS.2.2 k (by omega)).1]
    refine am_goX 4 (show 1 < 3 ∧ 2 < 3 ∧ pz_S 3 (some .int) am_r95 1 Q 4 [(2, .int ((nI k) + (Int32.ofInt 1))), (1, .int (a1 + (s.2.2.2.2.1 k))), (0, .ref 36)] [] h from ⟨by decide, by decide, ?_⟩)
    rw [show (nI k) + (Int32.ofInt 1) = nI (k + 1) from (dn_a rfl rfl)]
    exact sv_S2 sv2_95 (by intro q hq; simp only [List.mem_cons, List.not_mem_nil, or_false] at hq; rcases hq with rfl | rfl | rfl <;> rfl) (ih (k + 1) (a1 + (s.2.2.2.2.1 k)) (by omega) hZ)
def d_95 (s : dS) : Int32 := d_95_4 s 5 0 (Int32.ofInt 0)
theorem d_95_N6 (hP : ex_P h) (hI : cI C) (hT : c_v 6 C h) (hD : c_d 6 C h) (hR : h.2.2.1 0 3 = some 6) (hS : sC 36 s h)  (hQ : Q (some (.int (d_95 s))) h) : am_call am_cod 2 95 [.ref 36] h Q := by
  have h6 := hT.1.2.1
  have h5 := hT.2.1.2.1
  refine pz_call (n := 95) (nL := 3) (rt := (some .int)) (rows := am_r95) (d := 1) (by decide +kernel) (by decide +kernel) rfl (by funext pc; rfl) (ex_175 hP) (by exact Nat.le_of_ble_eq_true rfl) ?_
  refine am_goX 4 (show 1 < 3 ∧ 2 < 3 ∧ pz_S 3 (some .int) am_r95 1 Q 4 [(2, .int (Int32.ofInt 0)), (1, .int (Int32.ofInt 0)), (0, .ref 36)] [] h from ⟨by decide, by decide, ?_⟩)
  refine sv_S2 sv2_95 (by intro q hq; simp only [List.mem_cons, List.not_mem_nil, or_false] at hq; rcases hq with rfl | rfl | rfl <;> rfl) (d_95_4_N6 hP hI hT hD hR hS 5 0 (Int32.ofInt 0) (by omega) ?_)
  exact am_goX 2 (show (∃ ty, (some .int) = some ty ∧ narrow ty (.int (d_95_4 s 5 0 (Int32.ofInt 0))) = .int (d_95_4 s 5 0 (Int32.ofInt 0))) ∧ h.2.2.2.2 = 175 ∧ _ from ⟨⟨.int, rfl, rfl⟩, ex_175 hP, hQ⟩)
def d_96_4 (s : dS) : Nat → Nat → Int32 → Int32
  | 0, _, a1 => a1
  | m + 1, k, a1 => d_96_4 s m (k + 1) (a1 + (d_69 (s.2.2.2.1 k)))
theorem d_96_4_N6 (hP : ex_P h) (hI : cI C) (hT : c_v 6 C h) (hD : c_d 6 C h) (hR : h.2.2.1 0 3 = some 6) (hS : sC 36 s h) : ∀ (m k : Nat) (a1 : Int32), k + m = 6 → (pz_S 3 (some .int) am_r96 1 Q 28 [(1, .int (d_96_4 s m k a1))] [] h) → pz_S 3 (some .int) am_r96 1 Q 4 [(0, .ref 36), (1, .int a1), (2, .int (nI k))] [] h := by
  intro m
  induction m with
  | zero =>
    intro k a1 hk hZ
    have h6 := hT.1.2.1
    have h5 := hT.2.1.2.1
    refine am_goX 3 (show (((Int8.ofInt 6).toInt32) ≤ (nI k) → pz_S 3 (some .int) am_r96 1 Q 28 [(0, .ref 36), (1, .int a1), (2, .int (nI k))] [] h) ∧ (¬ (((Int8.ofInt 6).toInt32) ≤ (nI k)) → pz_S 3 (some .int) am_r96 1 Q 10 [(0, .ref 36), (1, .int a1), (2, .int (nI k))] [] h) from ⟨fun _ => ?_, fun hz => absurd (show nI 6 ≤ nI k from nI_le (by omega) (by omega)) hz⟩)
    exact sv_S2 sv2_96 (by intro q hq; simp only [List.mem_cons, List.not_mem_nil, or_false] at hq; rcases hq with rfl <;> rfl) (hZ)
  | succ m ih =>
    intro k a1 hk hZ
    have h6 := hT.1.2.1
    have h5 := hT.2.1.2.1
    refine am_goX 3 (show (((Int8.ofInt 6).toInt32) ≤ (nI k) → pz_S 3 (some .int) am_r96 1 Q 28 [(0, .ref 36), (1, .int a1), (2, .int (nI k))] [] h) ∧ (¬ (((Int8.ofInt 6).toInt32) ≤ (nI k)) → pz_S 3 (some .int) am_r96 1 Q 10 [(0, .ref 36), (1, .int a1), (2, .int (nI k))] [] h) from ⟨fun hz => absurd hz (show ¬ (nI 6 ≤ nI k) by rw [nI_leI (by omega) (by omega)]; omega), fun _ => ?_⟩)
    refine am_goX 3 (show am_sh h 36 = some (6, 0) ∧ pz_S 3 (some .int) am_r96 1 Q 15 [(0, .ref 36), (1, .int a1), (2, .int (nI k))] [am_rf (h.2.2.1 36 3), .int a1] h from ⟨ex_36 hP, ?_⟩)
    rw [show am_rf (h.2.2.1 36 3) = .ref 38 from congrArg am_rf (ex_r36_3 hP)]
    refine am_goX 2 (show ∃ jj nn : Nat, am_sh h 38 = some (13, nn) ∧ jj < nn ∧ nI k = nI jj ∧ pz_S 3 (some .int) am_r96 1 Q 17 [(0, .ref 36), (1, .int a1), (2, .int (nI k))] [.int (h.1 38 jj), .int a1] h from ⟨k, 6, ex_38 hP, (by omega), rfl, ?_⟩)
    rw [show h.1 38 k = s.2.2.2.1 k from (hS.2.1 k (by omega)).2]
    refine am_goX 1 (show 1 ≤ 8 ∧ h.2.2.2.2 + am_al 69 ≤ 175 ∧ am_call am_cod 1 69 [.int (s.2.2.2.1 k)] h (fun vv h' => pz_S 3 (some .int) am_r96 1 Q 20 [(0, .ref 36), (1, .int a1), (2, .int (nI k))] (vv.toList ++ [.int a1]) h') from ⟨by decide, ex_lim hP rfl, am_call.up (d_69_w hP ?_) (by decide)⟩)
    refine am_goX 4 (show 1 < 3 ∧ 2 < 3 ∧ pz_S 3 (some .int) am_r96 1 Q 4 [(2, .int ((nI k) + (Int32.ofInt 1))), (1, .int (a1 + (d_69 (s.2.2.2.1 k)))), (0, .ref 36)] [] h from ⟨by decide, by decide, ?_⟩)
    rw [show (nI k) + (Int32.ofInt 1) = nI (k + 1) from (dn_a rfl rfl)]
    exact sv_S2 sv2_96 (by intro q hq; simp only [List.mem_cons, List.not_mem_nil, or_false] at hq; rcases hq with rfl | rfl | rfl <;> rfl) (ih (k + 1) (a1 + (d_69 (s.2.2.2.1 k))) (by omega) hZ)
def d_96 (s : dS) : Int32 := (d_96_4 s 6 0 (Int32.ofInt 0)) / (Int32.ofInt 2)
theorem d_96_N6 (hP : ex_P h) (hI : cI C) (hT : c_v 6 C h) (hD : c_d 6 C h) (hR : h.2.2.1 0 3 = some 6) (hS : sC 36 s h)  (hQ : Q (some (.int (d_96 s))) h) : am_call am_cod 2 96 [.ref 36] h Q := by
  have h6 := hT.1.2.1
  have h5 := hT.2.1.2.1
  refine pz_call (n := 96) (nL := 3) (rt := (some .int)) (rows := am_r96) (d := 1) (by decide +kernel) (by decide +kernel) rfl (by funext pc; rfl) (ex_175 hP) (by exact Nat.le_of_ble_eq_true rfl) ?_
  refine am_goX 4 (show 1 < 3 ∧ 2 < 3 ∧ pz_S 3 (some .int) am_r96 1 Q 4 [(2, .int (Int32.ofInt 0)), (1, .int (Int32.ofInt 0)), (0, .ref 36)] [] h from ⟨by decide, by decide, ?_⟩)
  refine sv_S2 sv2_96 (by intro q hq; simp only [List.mem_cons, List.not_mem_nil, or_false] at hq; rcases hq with rfl | rfl | rfl <;> rfl) (d_96_4_N6 hP hI hT hD hR hS 6 0 (Int32.ofInt 0) (by omega) ?_)
  exact am_goX 4 (show ¬ (Int32.ofInt 2) = 0 ∧ (∃ ty, (some .int) = some ty ∧ narrow ty (.int ((d_96_4 s 6 0 (Int32.ofInt 0)) / (Int32.ofInt 2))) = .int ((d_96_4 s 6 0 (Int32.ofInt 0)) / (Int32.ofInt 2))) ∧ h.2.2.2.2 = 175 ∧ _ from ⟨by decide, ⟨.int, rfl, rfl⟩, ex_175 hP, hQ⟩)
def d_94 (C : sp_C) (s : dS) (hn sx wl tl : Nat) (y : Int32) : Int32 := (if y = Int32.ofInt 0 then nI (dP C) else (if y = Int32.ofInt 1 then nI (dE C) else (if y = Int32.ofInt 2 then s.1 else (if y = Int32.ofInt 3 then s.1 - s.1 / ((Int8.ofInt 7).toInt32) * ((Int8.ofInt 7).toInt32) else (if y = Int32.ofInt 4 then (if (d_68 C s.1) = 0 then Int32.ofInt 0 else Int32.ofInt 1) else (if y = Int32.ofInt 5 then d_95 s else (if y = Int32.ofInt 6 then d_96 s else (if y = Int32.ofInt 7 then s.2.1 else (if y = Int32.ofInt 8 then nI wl else (if y = Int32.ofInt 9 then nI sx else (if y = Int32.ofInt 10 then nI hn else (if y = Int32.ofInt 11 then nI tl else Int32.ofInt (-1)))))))))))))
theorem d_94_W6_28 (hP : ex_P h) (hI : cI C) (hT : c_v 6 C h) (hD : c_d 6 C h) (hR : h.2.2.1 0 3 = some 6) (hS : sC 36 s h) (hl : h.1 47 2 = nI hn) (hx : h.1 0 12 = nI sx) (hw5 : h.2.2.1 0 5 = some 28) (hwl : h.1 28 3 = nI wl) (ht : h.1 1 1 = nI tl)  (hQ : Q (some (.int (d_94 C s hn sx wl tl y))) h) : am_call am_cod 5 94 [.ref 0, .int y] h Q := by
  have h6 := hT.1.2.1
  have h5 := hT.2.1.2.1
  refine pz_call (n := 94) (nL := 2) (rt := (some .int)) (rows := am_r94) (d := 4) (by decide +kernel) (by decide +kernel) rfl (by funext pc; rfl) (ex_175 hP) (by exact Nat.le_of_ble_eq_true rfl) ?_
  refine am_goX 2 (show ((y.toInt < 0 ∨ 11 < y.toInt) → pz_S 2 (some .int) am_r94 4 Q 175 [(0, .ref 0), (1, .int y)] [] h) ∧ (∀ j : Nat, y.toInt = 0 + (j : Int) → 0 + (j : Int) ≤ 11 → pz_S 2 (some .int) am_r94 4 Q ((1 : Int) + ((#[63, 71, 79, 87, 98, 121, 129, 137, 145, 153, 158, 166] : Array Int)[j]?).getD 0).toNat [(0, .ref 0), (1, .int y)] [] h) from ⟨fun hd => ?_, fun j hj1 hj2 => ?_⟩)
  · have c1 : ¬ y = Int32.ofInt 0 := fun w => by rw [w] at hd; revert hd; decide
    have c2 : ¬ y = Int32.ofInt 1 := fun w => by rw [w] at hd; revert hd; decide
    have c3 : ¬ y = Int32.ofInt 2 := fun w => by rw [w] at hd; revert hd; decide
    have c4 : ¬ y = Int32.ofInt 3 := fun w => by rw [w] at hd; revert hd; decide
    have c5 : ¬ y = Int32.ofInt 4 := fun w => by rw [w] at hd; revert hd; decide
    have c6 : ¬ y = Int32.ofInt 5 := fun w => by rw [w] at hd; revert hd; decide
    have c7 : ¬ y = Int32.ofInt 6 := fun w => by rw [w] at hd; revert hd; decide
    have c8 : ¬ y = Int32.ofInt 7 := fun w => by rw [w] at hd; revert hd; decide
    have c9 : ¬ y = Int32.ofInt 8 := fun w => by rw [w] at hd; revert hd; decide
    have c10 : ¬ y = Int32.ofInt 9 := fun w => by rw [w] at hd; revert hd; decide
    have c11 : ¬ y = Int32.ofInt 10 := fun w => by rw [w] at hd; revert hd; decide
    have c12 : ¬ y = Int32.ofInt 11 := fun w => by rw [w] at hd; revert hd; decide
    exact am_goX 2 (show (∃ ty, (some .int) = some ty ∧ narrow ty (.int (Int32.ofInt (-1))) = .int (Int32.ofInt (-1))) ∧ h.2.2.2.2 = 175 ∧ _ from ⟨⟨.int, rfl, rfl⟩, ex_175 hP, dn_q ((if_neg c1).trans ((if_neg c2).trans ((if_neg c3).trans ((if_neg c4).trans ((if_neg c5).trans ((if_neg c6).trans ((if_neg c7).trans ((if_neg c8).trans ((if_neg c9).trans ((if_neg c10).trans ((if_neg c11).trans (if_neg c12)))))))))))) hQ⟩)
  · have hj : j = 0 ∨ j = 1 ∨ j = 2 ∨ j = 3 ∨ j = 4 ∨ j = 5 ∨ j = 6 ∨ j = 7 ∨ j = 8 ∨ j = 9 ∨ j = 10 ∨ j = 11 := by omega
    rcases hj with rfl | rfl | rfl | rfl | rfl | rfl | rfl | rfl | rfl | rfl | rfl | rfl
    · have c1 : y = Int32.ofInt 0 := Int32.toInt_inj.mp (hj1.trans (by decide))
      show pz_S 2 (some .int) am_r94 4 Q 64 [(0, .ref 0), (1, .int y)] [] h
      refine am_goX 2 (show am_sh h 0 = some (10, 0) ∧ pz_S 2 (some .int) am_r94 4 Q 68 [(0, .ref 0), (1, .int y)] [am_rf (h.2.2.1 0 3)] h from ⟨ex_0 hP, ?_⟩)
      rw [show am_rf (h.2.2.1 0 3) = .ref 6 from congrArg am_rf (hR)]
      refine am_goX 1 (show am_sh h 6 = some (0, 0) ∧ pz_S 2 (some .int) am_r94 4 Q 71 [(0, .ref 0), (1, .int y)] [.int (h.1 6 0)] h from ⟨ex_6 hP, ?_⟩)
      rw [show h.1 6 0 = nI (dP C) from hT.1.1]
      exact am_goX 1 (show (∃ ty, (some .int) = some ty ∧ narrow ty (.int (nI (dP C))) = .int (nI (dP C))) ∧ h.2.2.2.2 = 175 ∧ _ from ⟨⟨.int, rfl, rfl⟩, ex_175 hP, dn_q (if_pos c1) hQ⟩)
    · have c2 : y = Int32.ofInt 1 := Int32.toInt_inj.mp (hj1.trans (by decide))
      have c1 : ¬ y = Int32.ofInt 0 := by rw [c2]; decide
      show pz_S 2 (some .int) am_r94 4 Q 72 [(0, .ref 0), (1, .int y)] [] h
      refine am_goX 2 (show am_sh h 0 = some (10, 0) ∧ pz_S 2 (some .int) am_r94 4 Q 76 [(0, .ref 0), (1, .int y)] [am_rf (h.2.2.1 0 3)] h from ⟨ex_0 hP, ?_⟩)
      rw [show am_rf (h.2.2.1 0 3) = .ref 6 from congrArg am_rf (hR)]
      refine am_goX 1 (show am_sh h 6 = some (0, 0) ∧ pz_S 2 (some .int) am_r94 4 Q 79 [(0, .ref 0), (1, .int y)] [.int (h.1 6 4)] h from ⟨ex_6 hP, ?_⟩)
      rw [show h.1 6 4 = nI (dE C) from hT.2.1.1]
      exact am_goX 1 (show (∃ ty, (some .int) = some ty ∧ narrow ty (.int (nI (dE C))) = .int (nI (dE C))) ∧ h.2.2.2.2 = 175 ∧ _ from ⟨⟨.int, rfl, rfl⟩, ex_175 hP, dn_q ((if_neg c1).trans (if_pos c2)) hQ⟩)
    · have c3 : y = Int32.ofInt 2 := Int32.toInt_inj.mp (hj1.trans (by decide))
      have c1 : ¬ y = Int32.ofInt 0 := by rw [c3]; decide
      have c2 : ¬ y = Int32.ofInt 1 := by rw [c3]; decide
      show pz_S 2 (some .int) am_r94 4 Q 80 [(0, .ref 0), (1, .int y)] [] h
      refine am_goX 2 (show am_sh h 0 = some (10, 0) ∧ pz_S 2 (some .int) am_r94 4 Q 84 [(0, .ref 0), (1, .int y)] [am_rf (h.2.2.1 0 7)] h from ⟨ex_0 hP, ?_⟩)
      rw [show am_rf (h.2.2.1 0 7) = .ref 36 from congrArg am_rf (ex_r0_7 hP)]
      refine am_goX 1 (show am_sh h 36 = some (6, 0) ∧ pz_S 2 (some .int) am_r94 4 Q 87 [(0, .ref 0), (1, .int y)] [.int (h.1 36 0)] h from ⟨ex_36 hP, ?_⟩)
      rw [show h.1 36 0 = s.1 from hS.1.1]
      exact am_goX 1 (show (∃ ty, (some .int) = some ty ∧ narrow ty (.int s.1) = .int s.1) ∧ h.2.2.2.2 = 175 ∧ _ from ⟨⟨.int, rfl, rfl⟩, ex_175 hP, dn_q ((if_neg c1).trans ((if_neg c2).trans (if_pos c3))) hQ⟩)
    · have c4 : y = Int32.ofInt 3 := Int32.toInt_inj.mp (hj1.trans (by decide))
      have c1 : ¬ y = Int32.ofInt 0 := by rw [c4]; decide
      have c2 : ¬ y = Int32.ofInt 1 := by rw [c4]; decide
      have c3 : ¬ y = Int32.ofInt 2 := by rw [c4]; decide
      show pz_S 2 (some .int) am_r94 4 Q 88 [(0, .ref 0), (1, .int y)] [] h
      refine am_goX 2 (show am_sh h 0 = some (10, 0) ∧ pz_S 2 (some .int) am_r94 4 Q 92 [(0, .ref 0), (1, .int y)] [am_rf (h.2.2.1 0 7)] h from ⟨ex_0 hP, ?_⟩)
      rw [show am_rf (h.2.2.1 0 7) = .ref 36 from congrArg am_rf (ex_r0_7 hP)]
      refine am_goX 1 (show am_sh h 36 = some (6, 0) ∧ pz_S 2 (some .int) am_r94 4 Q 95 [(0, .ref 0), (1, .int y)] [.int (h.1 36 0)] h from ⟨ex_36 hP, ?_⟩)
      rw [show h.1 36 0 = s.1 from hS.1.1]
      exact am_goX 3 (show ¬ ((Int8.ofInt 7).toInt32) = 0 ∧ (∃ ty, (some .int) = some ty ∧ narrow ty (.int (s.1 - s.1 / ((Int8.ofInt 7).toInt32) * ((Int8.ofInt 7).toInt32))) = .int (s.1 - s.1 / ((Int8.ofInt 7).toInt32) * ((Int8.ofInt 7).toInt32))) ∧ h.2.2.2.2 = 175 ∧ _ from ⟨by decide, ⟨.int, rfl, rfl⟩, ex_175 hP, dn_q ((if_neg c1).trans ((if_neg c2).trans ((if_neg c3).trans (if_pos c4)))) hQ⟩)
    · have c5 : y = Int32.ofInt 4 := Int32.toInt_inj.mp (hj1.trans (by decide))
      have c1 : ¬ y = Int32.ofInt 0 := by rw [c5]; decide
      have c2 : ¬ y = Int32.ofInt 1 := by rw [c5]; decide
      have c3 : ¬ y = Int32.ofInt 2 := by rw [c5]; decide
      have c4 : ¬ y = Int32.ofInt 3 := by rw [c5]; decide
      show pz_S 2 (some .int) am_r94 4 Q 99 [(0, .ref 0), (1, .int y)] [] h
      refine am_goX 2 (show am_sh h 0 = some (10, 0) ∧ pz_S 2 (some .int) am_r94 4 Q 103 [(0, .ref 0), (1, .int y)] [am_rf (h.2.2.1 0 3)] h from ⟨ex_0 hP, ?_⟩)
      rw [show am_rf (h.2.2.1 0 3) = .ref 6 from congrArg am_rf (hR)]
      refine am_goX 2 (show am_sh h 0 = some (10, 0) ∧ pz_S 2 (some .int) am_r94 4 Q 107 [(0, .ref 0), (1, .int y)] [am_rf (h.2.2.1 0 7), .ref 6] h from ⟨ex_0 hP, ?_⟩)
      rw [show am_rf (h.2.2.1 0 7) = .ref 36 from congrArg am_rf (ex_r0_7 hP)]
      refine am_goX 1 (show am_sh h 36 = some (6, 0) ∧ pz_S 2 (some .int) am_r94 4 Q 110 [(0, .ref 0), (1, .int y)] [.int (h.1 36 0), .ref 6] h from ⟨ex_36 hP, ?_⟩)
      rw [show h.1 36 0 = s.1 from hS.1.1]
      refine am_goX 1 (show am_rc h 6 0 ∧ 0 ≤ 8 ∧ h.2.2.2.2 + am_al 68 ≤ 175 ∧ am_call am_cod 4 68 [.ref 6, .int s.1] h (fun vv h' => pz_S 2 (some .int) am_r94 4 Q 113 [(0, .ref 0), (1, .int y)] (vv.toList ++ []) h') from ⟨Or.inl ⟨by decide, ex_6 hP⟩, by decide, ex_lim hP rfl, am_call.up (d_68_t6 hP hT ?_) (by decide)⟩)
      suffices key : ∀ (v14 : Int32), v14 = (if (d_68 C s.1) = 0 then Int32.ofInt 0 else Int32.ofInt 1) → pz_S 2 (some .int) am_r94 4 Q 121 [] [.int v14] h by
        refine am_goX 1 (show ((d_68 C s.1) = 0 → pz_S 2 (some .int) am_r94 4 Q 120 [(0, .ref 0), (1, .int y)] [] h) ∧ (¬ ((d_68 C s.1) = 0) → pz_S 2 (some .int) am_r94 4 Q 116 [(0, .ref 0), (1, .int y)] [] h) from ⟨fun c13 => ?_, fun c13 => ?_⟩)
        · refine am_goX 1 (show pz_S 2 (some .int) am_r94 4 Q 121 [(0, .ref 0), (1, .int y)] [.int (Int32.ofInt 0)] h from ?_)
          exact sv_S2 sv2_94 (fun q hq => absurd hq List.not_mem_nil) (key _ (if_pos c13).symm)
        · refine am_goX 2 (show pz_S 2 (some .int) am_r94 4 Q 121 [(0, .ref 0), (1, .int y)] [.int (Int32.ofInt 1)] h from ?_)
          exact sv_S2 sv2_94 (fun q hq => absurd hq List.not_mem_nil) (key _ (if_neg c13).symm)
      intro v14 e15
      subst e15
      exact am_goX 1 (show (∃ ty, (some .int) = some ty ∧ narrow ty (.int (if (d_68 C s.1) = 0 then Int32.ofInt 0 else Int32.ofInt 1)) = .int (if (d_68 C s.1) = 0 then Int32.ofInt 0 else Int32.ofInt 1)) ∧ h.2.2.2.2 = 175 ∧ _ from ⟨⟨.int, rfl, rfl⟩, ex_175 hP, dn_q ((if_neg c1).trans ((if_neg c2).trans ((if_neg c3).trans ((if_neg c4).trans (if_pos c5))))) hQ⟩)
    · have c6 : y = Int32.ofInt 5 := Int32.toInt_inj.mp (hj1.trans (by decide))
      have c1 : ¬ y = Int32.ofInt 0 := by rw [c6]; decide
      have c2 : ¬ y = Int32.ofInt 1 := by rw [c6]; decide
      have c3 : ¬ y = Int32.ofInt 2 := by rw [c6]; decide
      have c4 : ¬ y = Int32.ofInt 3 := by rw [c6]; decide
      have c5 : ¬ y = Int32.ofInt 4 := by rw [c6]; decide
      show pz_S 2 (some .int) am_r94 4 Q 122 [(0, .ref 0), (1, .int y)] [] h
      refine am_goX 2 (show am_sh h 0 = some (10, 0) ∧ pz_S 2 (some .int) am_r94 4 Q 126 [(0, .ref 0), (1, .int y)] [am_rf (h.2.2.1 0 7)] h from ⟨ex_0 hP, ?_⟩)
      rw [show am_rf (h.2.2.1 0 7) = .ref 36 from congrArg am_rf (ex_r0_7 hP)]
      refine am_goX 1 (show am_rc h 36 6 ∧ 0 ≤ 8 ∧ h.2.2.2.2 + am_al 95 ≤ 175 ∧ am_call am_cod 4 95 [.ref 36] h (fun vv h' => pz_S 2 (some .int) am_r94 4 Q 129 [(0, .ref 0), (1, .int y)] (vv.toList ++ []) h') from ⟨Or.inl ⟨by decide, ex_36 hP⟩, by decide, ex_lim hP rfl, am_call.up (d_95_N6 hP hI hT hD hR hS ?_) (by decide)⟩)
      exact am_goX 1 (show (∃ ty, (some .int) = some ty ∧ narrow ty (.int (d_95 s)) = .int (d_95 s)) ∧ h.2.2.2.2 = 175 ∧ _ from ⟨⟨.int, rfl, rfl⟩, ex_175 hP, dn_q ((if_neg c1).trans ((if_neg c2).trans ((if_neg c3).trans ((if_neg c4).trans ((if_neg c5).trans (if_pos c6)))))) hQ⟩)
    · have c7 : y = Int32.ofInt 6 := Int32.toInt_inj.mp (hj1.trans (by decide))
      have c1 : ¬ y = Int32.ofInt 0 := by rw [c7]; decide
      have c2 : ¬ y = Int32.ofInt 1 := by rw [c7]; decide
      have c3 : ¬ y = Int32.ofInt 2 := by rw [c7]; decide
      have c4 : ¬ y = Int32.ofInt 3 := by rw [c7]; decide
      have c5 : ¬ y = Int32.ofInt 4 := by rw [c7]; decide
      have c6 : ¬ y = Int32.ofInt 5 := by rw [c7]; decide
      show pz_S 2 (some .int) am_r94 4 Q 130 [(0, .ref 0), (1, .int y)] [] h
      refine am_goX 2 (show am_sh h 0 = some (10, 0) ∧ pz_S 2 (some .int) am_r94 4 Q 134 [(0, .ref 0), (1, .int y)] [am_rf (h.2.2.1 0 7)] h from ⟨ex_0 hP, ?_⟩)
      rw [show am_rf (h.2.2.1 0 7) = .ref 36 from congrArg am_rf (ex_r0_7 hP)]
      refine am_goX 1 (show am_rc h 36 6 ∧ 0 ≤ 8 ∧ h.2.2.2.2 + am_al 96 ≤ 175 ∧ am_call am_cod 4 96 [.ref 36] h (fun vv h' => pz_S 2 (some .int) am_r94 4 Q 137 [(0, .ref 0), (1, .int y)] (vv.toList ++ []) h') from ⟨Or.inl ⟨by decide, ex_36 hP⟩, by decide, ex_lim hP rfl, am_call.up (d_96_N6 hP hI hT hD hR hS ?_) (by decide)⟩)
      exact am_goX 1 (show (∃ ty, (some .int) = some ty ∧ narrow ty (.int (d_96 s)) = .int (d_96 s)) ∧ h.2.2.2.2 = 175 ∧ _ from ⟨⟨.int, rfl, rfl⟩, ex_175 hP, dn_q ((if_neg c1).trans ((if_neg c2).trans ((if_neg c3).trans ((if_neg c4).trans ((if_neg c5).trans ((if_neg c6).trans (if_pos c7))))))) hQ⟩)
    · have c8 : y = Int32.ofInt 7 := Int32.toInt_inj.mp (hj1.trans (by decide))
      have c1 : ¬ y = Int32.ofInt 0 := by rw [c8]; decide
      have c2 : ¬ y = Int32.ofInt 1 := by rw [c8]; decide
      have c3 : ¬ y = Int32.ofInt 2 := by rw [c8]; decide
      have c4 : ¬ y = Int32.ofInt 3 := by rw [c8]; decide
      have c5 : ¬ y = Int32.ofInt 4 := by rw [c8]; decide
      have c6 : ¬ y = Int32.ofInt 5 := by rw [c8]; decide
      have c7 : ¬ y = Int32.ofInt 6 := by rw [c8]; decide
      show pz_S 2 (some .int) am_r94 4 Q 138 [(0, .ref 0), (1, .int y)] [] h
      refine am_goX 2 (show am_sh h 0 = some (10, 0) ∧ pz_S 2 (some .int) am_r94 4 Q 142 [(0, .ref 0), (1, .int y)] [am_rf (h.2.2.1 0 7)] h from ⟨ex_0 hP, ?_⟩)
      rw [show am_rf (h.2.2.1 0 7) = .ref 36 from congrArg am_rf (ex_r0_7 hP)]
      refine am_goX 1 (show am_sh h 36 = some (6, 0) ∧ pz_S 2 (some .int) am_r94 4 Q 145 [(0, .ref 0), (1, .int y)] [.int (h.1 36 1)] h from ⟨ex_36 hP, ?_⟩)
      rw [show h.1 36 1 = s.2.1 from hS.1.2]
      exact am_goX 1 (show (∃ ty, (some .int) = some ty ∧ narrow ty (.int s.2.1) = .int s.2.1) ∧ h.2.2.2.2 = 175 ∧ _ from ⟨⟨.int, rfl, rfl⟩, ex_175 hP, dn_q ((if_neg c1).trans ((if_neg c2).trans ((if_neg c3).trans ((if_neg c4).trans ((if_neg c5).trans ((if_neg c6).trans ((if_neg c7).trans (if_pos c8)))))))) hQ⟩)
    · have c9 : y = Int32.ofInt 8 := Int32.toInt_inj.mp (hj1.trans (by decide))
      have c1 : ¬ y = Int32.ofInt 0 := by rw [c9]; decide
      have c2 : ¬ y = Int32.ofInt 1 := by rw [c9]; decide
      have c3 : ¬ y = Int32.ofInt 2 := by rw [c9]; decide
      have c4 : ¬ y = Int32.ofInt 3 := by rw [c9]; decide
      have c5 : ¬ y = Int32.ofInt 4 := by rw [c9]; decide
      have c6 : ¬ y = Int32.ofInt 5 := by rw [c9]; decide
      have c7 : ¬ y = Int32.ofInt 6 := by rw [c9]; decide
      have c8 : ¬ y = Int32.ofInt 7 := by rw [c9]; decide
      show pz_S 2 (some .int) am_r94 4 Q 146 [(0, .ref 0), (1, .int y)] [] h
      refine am_goX 2 (show am_sh h 0 = some (10, 0) ∧ pz_S 2 (some .int) am_r94 4 Q 150 [(0, .ref 0), (1, .int y)] [am_rf (h.2.2.1 0 5)] h from ⟨ex_0 hP, ?_⟩)
      rw [show am_rf (h.2.2.1 0 5) = .ref 28 from congrArg am_rf (hw5)]
      refine am_goX 1 (show am_sh h 28 = some (8, 0) ∧ pz_S 2 (some .int) am_r94 4 Q 153 [(0, .ref 0), (1, .int y)] [.int (h.1 28 3)] h from ⟨ex_28 hP, ?_⟩)
      rw [show h.1 28 3 = nI wl from hwl]
      exact am_goX 1 (show (∃ ty, (some .int) = some ty ∧ narrow ty (.int (nI wl)) = .int (nI wl)) ∧ h.2.2.2.2 = 175 ∧ _ from ⟨⟨.int, rfl, rfl⟩, ex_175 hP, dn_q ((if_neg c1).trans ((if_neg c2).trans ((if_neg c3).trans ((if_neg c4).trans ((if_neg c5).trans ((if_neg c6).trans ((if_neg c7).trans ((if_neg c8).trans (if_pos c9))))))))) hQ⟩)
    · have c10 : y = Int32.ofInt 9 := Int32.toInt_inj.mp (hj1.trans (by decide))
      have c1 : ¬ y = Int32.ofInt 0 := by rw [c10]; decide
      have c2 : ¬ y = Int32.ofInt 1 := by rw [c10]; decide
      have c3 : ¬ y = Int32.ofInt 2 := by rw [c10]; decide
      have c4 : ¬ y = Int32.ofInt 3 := by rw [c10]; decide
      have c5 : ¬ y = Int32.ofInt 4 := by rw [c10]; decide
      have c6 : ¬ y = Int32.ofInt 5 := by rw [c10]; decide
      have c7 : ¬ y = Int32.ofInt 6 := by rw [c10]; decide
      have c8 : ¬ y = Int32.ofInt 7 := by rw [c10]; decide
      have c9 : ¬ y = Int32.ofInt 8 := by rw [c10]; decide
      show pz_S 2 (some .int) am_r94 4 Q 154 [(0, .ref 0), (1, .int y)] [] h
      refine am_goX 2 (show am_sh h 0 = some (10, 0) ∧ pz_S 2 (some .int) am_r94 4 Q 158 [(0, .ref 0), (1, .int y)] [.int (h.1 0 12)] h from ⟨ex_0 hP, ?_⟩)
      rw [show h.1 0 12 = nI sx from hx]
      exact am_goX 1 (show (∃ ty, (some .int) = some ty ∧ narrow ty (.int (nI sx)) = .int (nI sx)) ∧ h.2.2.2.2 = 175 ∧ _ from ⟨⟨.int, rfl, rfl⟩, ex_175 hP, dn_q ((if_neg c1).trans ((if_neg c2).trans ((if_neg c3).trans ((if_neg c4).trans ((if_neg c5).trans ((if_neg c6).trans ((if_neg c7).trans ((if_neg c8).trans ((if_neg c9).trans (if_pos c10)))))))))) hQ⟩)
    · have c11 : y = Int32.ofInt 10 := Int32.toInt_inj.mp (hj1.trans (by decide))
      have c1 : ¬ y = Int32.ofInt 0 := by rw [c11]; decide
      have c2 : ¬ y = Int32.ofInt 1 := by rw [c11]; decide
      have c3 : ¬ y = Int32.ofInt 2 := by rw [c11]; decide
      have c4 : ¬ y = Int32.ofInt 3 := by rw [c11]; decide
      have c5 : ¬ y = Int32.ofInt 4 := by rw [c11]; decide
      have c6 : ¬ y = Int32.ofInt 5 := by rw [c11]; decide
      have c7 : ¬ y = Int32.ofInt 6 := by rw [c11]; decide
      have c8 : ¬ y = Int32.ofInt 7 := by rw [c11]; decide
      have c9 : ¬ y = Int32.ofInt 8 := by rw [c11]; decide
      have c10 : ¬ y = Int32.ofInt 9 := by rw [c11]; decide
      show pz_S 2 (some .int) am_r94 4 Q 159 [(0, .ref 0), (1, .int y)] [] h
      refine am_goX 2 (show am_sh h 0 = some (10, 0) ∧ pz_S 2 (some .int) am_r94 4 Q 163 [(0, .ref 0), (1, .int y)] [am_rf (h.2.2.1 0 10)] h from ⟨ex_0 hP, ?_⟩)
      rw [show am_rf (h.2.2.1 0 10) = .ref 47 from congrArg am_rf (ex_r0_10 hP)]
      refine am_goX 1 (show am_sh h 47 = some (2, 0) ∧ pz_S 2 (some .int) am_r94 4 Q 166 [(0, .ref 0), (1, .int y)] [.int (h.1 47 2)] h from ⟨ex_47 hP, ?_⟩)
      rw [show h.1 47 2 = nI hn from hl]
      exact am_goX 1 (show (∃ ty, (some .int) = some ty ∧ narrow ty (.int (nI hn)) = .int (nI hn)) ∧ h.2.2.2.2 = 175 ∧ _ from ⟨⟨.int, rfl, rfl⟩, ex_175 hP, dn_q ((if_neg c1).trans ((if_neg c2).trans ((if_neg c3).trans ((if_neg c4).trans ((if_neg c5).trans ((if_neg c6).trans ((if_neg c7).trans ((if_neg c8).trans ((if_neg c9).trans ((if_neg c10).trans (if_pos c11))))))))))) hQ⟩)
    · have c12 : y = Int32.ofInt 11 := Int32.toInt_inj.mp (hj1.trans (by decide))
      have c1 : ¬ y = Int32.ofInt 0 := by rw [c12]; decide
      have c2 : ¬ y = Int32.ofInt 1 := by rw [c12]; decide
      have c3 : ¬ y = Int32.ofInt 2 := by rw [c12]; decide
      have c4 : ¬ y = Int32.ofInt 3 := by rw [c12]; decide
      have c5 : ¬ y = Int32.ofInt 4 := by rw [c12]; decide
      have c6 : ¬ y = Int32.ofInt 5 := by rw [c12]; decide
      have c7 : ¬ y = Int32.ofInt 6 := by rw [c12]; decide
      have c8 : ¬ y = Int32.ofInt 7 := by rw [c12]; decide
      have c9 : ¬ y = Int32.ofInt 8 := by rw [c12]; decide
      have c10 : ¬ y = Int32.ofInt 9 := by rw [c12]; decide
      have c11 : ¬ y = Int32.ofInt 10 := by rw [c12]; decide
      show pz_S 2 (some .int) am_r94 4 Q 167 [(0, .ref 0), (1, .int y)] [] h
      refine am_goX 2 (show am_sh h 0 = some (10, 0) ∧ pz_S 2 (some .int) am_r94 4 Q 171 [(0, .ref 0), (1, .int y)] [am_rf (h.2.2.1 0 0)] h from ⟨ex_0 hP, ?_⟩)
      rw [show am_rf (h.2.2.1 0 0) = .ref 1 from congrArg am_rf (ex_r0_0 hP)]
      refine am_goX 1 (show am_sh h 1 = some (7, 0) ∧ pz_S 2 (some .int) am_r94 4 Q 174 [(0, .ref 0), (1, .int y)] [.int (h.1 1 1)] h from ⟨ex_1 hP, ?_⟩)
      rw [show h.1 1 1 = nI tl from ht]
      exact am_goX 1 (show (∃ ty, (some .int) = some ty ∧ narrow ty (.int (nI tl)) = .int (nI tl)) ∧ h.2.2.2.2 = 175 ∧ _ from ⟨⟨.int, rfl, rfl⟩, ex_175 hP, dn_q ((if_neg c1).trans ((if_neg c2).trans ((if_neg c3).trans ((if_neg c4).trans ((if_neg c5).trans ((if_neg c6).trans ((if_neg c7).trans ((if_neg c8).trans ((if_neg c9).trans ((if_neg c10).trans ((if_neg c11).trans (if_pos c12)))))))))))) hQ⟩)
theorem d_94_W6_32 (hP : ex_P h) (hI : cI C) (hT : c_v 6 C h) (hD : c_d 6 C h) (hR : h.2.2.1 0 3 = some 6) (hS : sC 36 s h) (hl : h.1 47 2 = nI hn) (hx : h.1 0 12 = nI sx) (hw5 : h.2.2.1 0 5 = some 32) (hwl : h.1 32 3 = nI wl) (ht : h.1 1 1 = nI tl)  (hQ : Q (some (.int (d_94 C s hn sx wl tl y))) h) : am_call am_cod 5 94 [.ref 0, .int y] h Q := by
  have h6 := hT.1.2.1
  have h5 := hT.2.1.2.1
  refine pz_call (n := 94) (nL := 2) (rt := (some .int)) (rows := am_r94) (d := 4) (by decide +kernel) (by decide +kernel) rfl (by funext pc; rfl) (ex_175 hP) (by exact Nat.le_of_ble_eq_true rfl) ?_
  refine am_goX 2 (show ((y.toInt < 0 ∨ 11 < y.toInt) → pz_S 2 (some .int) am_r94 4 Q 175 [(0, .ref 0), (1, .int y)] [] h) ∧ (∀ j : Nat, y.toInt = 0 + (j : Int) → 0 + (j : Int) ≤ 11 → pz_S 2 (some .int) am_r94 4 Q ((1 : Int) + ((#[63, 71, 79, 87, 98, 121, 129, 137, 145, 153, 158, 166] : Array Int)[j]?).getD 0).toNat [(0, .ref 0), (1, .int y)] [] h) from ⟨fun hd => ?_, fun j hj1 hj2 => ?_⟩)
  · have c16 : ¬ y = Int32.ofInt 0 := fun w => by rw [w] at hd; revert hd; decide
    have c17 : ¬ y = Int32.ofInt 1 := fun w => by rw [w] at hd; revert hd; decide
    have c18 : ¬ y = Int32.ofInt 2 := fun w => by rw [w] at hd; revert hd; decide
    have c19 : ¬ y = Int32.ofInt 3 := fun w => by rw [w] at hd; revert hd; decide
    have c20 : ¬ y = Int32.ofInt 4 := fun w => by rw [w] at hd; revert hd; decide
    have c21 : ¬ y = Int32.ofInt 5 := fun w => by rw [w] at hd; revert hd; decide
    have c22 : ¬ y = Int32.ofInt 6 := fun w => by rw [w] at hd; revert hd; decide
    have c23 : ¬ y = Int32.ofInt 7 := fun w => by rw [w] at hd; revert hd; decide
    have c24 : ¬ y = Int32.ofInt 8 := fun w => by rw [w] at hd; revert hd; decide
    have c25 : ¬ y = Int32.ofInt 9 := fun w => by rw [w] at hd; revert hd; decide
    have c26 : ¬ y = Int32.ofInt 10 := fun w => by rw [w] at hd; revert hd; decide
    have c27 : ¬ y = Int32.ofInt 11 := fun w => by rw [w] at hd; revert hd; decide
    exact am_goX 2 (show (∃ ty, (some .int) = some ty ∧ narrow ty (.int (Int32.ofInt (-1))) = .int (Int32.ofInt (-1))) ∧ h.2.2.2.2 = 175 ∧ _ from ⟨⟨.int, rfl, rfl⟩, ex_175 hP, dn_q ((if_neg c16).trans ((if_neg c17).trans ((if_neg c18).trans ((if_neg c19).trans ((if_neg c20).trans ((if_neg c21).trans ((if_neg c22).trans ((if_neg c23).trans ((if_neg c24).trans ((if_neg c25).trans ((if_neg c26).trans (if_neg c27)))))))))))) hQ⟩)
  · have hj : j = 0 ∨ j = 1 ∨ j = 2 ∨ j = 3 ∨ j = 4 ∨ j = 5 ∨ j = 6 ∨ j = 7 ∨ j = 8 ∨ j = 9 ∨ j = 10 ∨ j = 11 := by omega
    rcases hj with rfl | rfl | rfl | rfl | rfl | rfl | rfl | rfl | rfl | rfl | rfl | rfl
    · have c16 : y = Int32.ofInt 0 := Int32.toInt_inj.mp (hj1.trans (by decide))
      show pz_S 2 (some .int) am_r94 4 Q 64 [(0, .ref 0), (1, .int y)] [] h
      refine am_goX 2 (show am_sh h 0 = some (10, 0) ∧ pz_S 2 (some .int) am_r94 4 Q 68 [(0, .ref 0), (1, .int y)] [am_rf (h.2.2.1 0 3)] h from ⟨ex_0 hP, ?_⟩)
      rw [show am_rf (h.2.2.1 0 3) = .ref 6 from congrArg am_rf (hR)]
      refine am_goX 1 (show am_sh h 6 = some (0, 0) ∧ pz_S 2 (some .int) am_r94 4 Q 71 [(0, .ref 0), (1, .int y)] [.int (h.1 6 0)] h from ⟨ex_6 hP, ?_⟩)
      rw [show h.1 6 0 = nI (dP C) from hT.1.1]
      exact am_goX 1 (show (∃ ty, (some .int) = some ty ∧ narrow ty (.int (nI (dP C))) = .int (nI (dP C))) ∧ h.2.2.2.2 = 175 ∧ _ from ⟨⟨.int, rfl, rfl⟩, ex_175 hP, dn_q (if_pos c16) hQ⟩)
    · have c17 : y = Int32.ofInt 1 := Int32.toInt_inj.mp (hj1.trans (by decide))
      have c16 : ¬ y = Int32.ofInt 0 := by rw [c17]; decide
      show pz_S 2 (some .int) am_r94 4 Q 72 [(0, .ref 0), (1, .int y)] [] h
      refine am_goX 2 (show am_sh h 0 = some (10, 0) ∧ pz_S 2 (some .int) am_r94 4 Q 76 [(0, .ref 0), (1, .int y)] [am_rf (h.2.2.1 0 3)] h from ⟨ex_0 hP, ?_⟩)
      rw [show am_rf (h.2.2.1 0 3) = .ref 6 from congrArg am_rf (hR)]
      refine am_goX 1 (show am_sh h 6 = some (0, 0) ∧ pz_S 2 (some .int) am_r94 4 Q 79 [(0, .ref 0), (1, .int y)] [.int (h.1 6 4)] h from ⟨ex_6 hP, ?_⟩)
      rw [show h.1 6 4 = nI (dE C) from hT.2.1.1]
      exact am_goX 1 (show (∃ ty, (some .int) = some ty ∧ narrow ty (.int (nI (dE C))) = .int (nI (dE C))) ∧ h.2.2.2.2 = 175 ∧ _ from ⟨⟨.int, rfl, rfl⟩, ex_175 hP, dn_q ((if_neg c16).trans (if_pos c17)) hQ⟩)
    · have c18 : y = Int32.ofInt 2 := Int32.toInt_inj.mp (hj1.trans (by decide))
      have c16 : ¬ y = Int32.ofInt 0 := by rw [c18]; decide
      have c17 : ¬ y = Int32.ofInt 1 := by rw [c18]; decide
      show pz_S 2 (some .int) am_r94 4 Q 80 [(0, .ref 0), (1, .int y)] [] h
      refine am_goX 2 (show am_sh h 0 = some (10, 0) ∧ pz_S 2 (some .int) am_r94 4 Q 84 [(0, .ref 0), (1, .int y)] [am_rf (h.2.2.1 0 7)] h from ⟨ex_0 hP, ?_⟩)
      rw [show am_rf (h.2.2.1 0 7) = .ref 36 from congrArg am_rf (ex_r0_7 hP)]
      refine am_goX 1 (show am_sh h 36 = some (6, 0) ∧ pz_S 2 (some .int) am_r94 4 Q 87 [(0, .ref 0), (1, .int y)] [.int (h.1 36 0)] h from ⟨ex_36 hP, ?_⟩)
      rw [show h.1 36 0 = s.1 from hS.1.1]
      exact am_goX 1 (show (∃ ty, (some .int) = some ty ∧ narrow ty (.int s.1) = .int s.1) ∧ h.2.2.2.2 = 175 ∧ _ from ⟨⟨.int, rfl, rfl⟩, ex_175 hP, dn_q ((if_neg c16).trans ((if_neg c17).trans (if_pos c18))) hQ⟩)
    · have c19 : y = Int32.ofInt 3 := Int32.toInt_inj.mp (hj1.trans (by decide))
      have c16 : ¬ y = Int32.ofInt 0 := by rw [c19]; decide
      have c17 : ¬ y = Int32.ofInt 1 := by rw [c19]; decide
      have c18 : ¬ y = Int32.ofInt 2 := by rw [c19]; decide
      show pz_S 2 (some .int) am_r94 4 Q 88 [(0, .ref 0), (1, .int y)] [] h
      refine am_goX 2 (show am_sh h 0 = some (10, 0) ∧ pz_S 2 (some .int) am_r94 4 Q 92 [(0, .ref 0), (1, .int y)] [am_rf (h.2.2.1 0 7)] h from ⟨ex_0 hP, ?_⟩)
      rw [show am_rf (h.2.2.1 0 7) = .ref 36 from congrArg am_rf (ex_r0_7 hP)]
      refine am_goX 1 (show am_sh h 36 = some (6, 0) ∧ pz_S 2 (some .int) am_r94 4 Q 95 [(0, .ref 0), (1, .int y)] [.int (h.1 36 0)] h from ⟨ex_36 hP, ?_⟩)
      rw [show h.1 36 0 = s.1 from hS.1.1]
      exact am_goX 3 (show ¬ ((Int8.ofInt 7).toInt32) = 0 ∧ (∃ ty, (some .int) = some ty ∧ narrow ty (.int (s.1 - s.1 / ((Int8.ofInt 7).toInt32) * ((Int8.ofInt 7).toInt32))) = .int (s.1 - s.1 / ((Int8.ofInt 7).toInt32) * ((Int8.ofInt 7).toInt32))) ∧ h.2.2.2.2 = 175 ∧ _ from ⟨by decide, ⟨.int, rfl, rfl⟩, ex_175 hP, dn_q ((if_neg c16).trans ((if_neg c17).trans ((if_neg c18).trans (if_pos c19)))) hQ⟩)
    · have c20 : y = Int32.ofInt 4 := Int32.toInt_inj.mp (hj1.trans (by decide))
      have c16 : ¬ y = Int32.ofInt 0 := by rw [c20]; decide
      have c17 : ¬ y = Int32.ofInt 1 := by rw [c20]; decide
      have c18 : ¬ y = Int32.ofInt 2 := by rw [c20]; decide
      have c19 : ¬ y = Int32.ofInt 3 := by rw [c20]; decide
      show pz_S 2 (some .int) am_r94 4 Q 99 [(0, .ref 0), (1, .int y)] [] h
      refine am_goX 2 (show am_sh h 0 = some (10, 0) ∧ pz_S 2 (some .int) am_r94 4 Q 103 [(0, .ref 0), (1, .int y)] [am_rf (h.2.2.1 0 3)] h from ⟨ex_0 hP, ?_⟩)
      rw [show am_rf (h.2.2.1 0 3) = .ref 6 from congrArg am_rf (hR)]
      refine am_goX 2 (show am_sh h 0 = some (10, 0) ∧ pz_S 2 (some .int) am_r94 4 Q 107 [(0, .ref 0), (1, .int y)] [am_rf (h.2.2.1 0 7), .ref 6] h from ⟨ex_0 hP, ?_⟩)
      rw [show am_rf (h.2.2.1 0 7) = .ref 36 from congrArg am_rf (ex_r0_7 hP)]
      refine am_goX 1 (show am_sh h 36 = some (6, 0) ∧ pz_S 2 (some .int) am_r94 4 Q 110 [(0, .ref 0), (1, .int y)] [.int (h.1 36 0), .ref 6] h from ⟨ex_36 hP, ?_⟩)
      rw [show h.1 36 0 = s.1 from hS.1.1]
      refine am_goX 1 (show am_rc h 6 0 ∧ 0 ≤ 8 ∧ h.2.2.2.2 + am_al 68 ≤ 175 ∧ am_call am_cod 4 68 [.ref 6, .int s.1] h (fun vv h' => pz_S 2 (some .int) am_r94 4 Q 113 [(0, .ref 0), (1, .int y)] (vv.toList ++ []) h') from ⟨Or.inl ⟨by decide, ex_6 hP⟩, by decide, ex_lim hP rfl, am_call.up (d_68_t6 hP hT ?_) (by decide)⟩)
      suffices key : ∀ (v29 : Int32), v29 = (if (d_68 C s.1) = 0 then Int32.ofInt 0 else Int32.ofInt 1) → pz_S 2 (some .int) am_r94 4 Q 121 [] [.int v29] h by
        refine am_goX 1 (show ((d_68 C s.1) = 0 → pz_S 2 (some .int) am_r94 4 Q 120 [(0, .ref 0), (1, .int y)] [] h) ∧ (¬ ((d_68 C s.1) = 0) → pz_S 2 (some .int) am_r94 4 Q 116 [(0, .ref 0), (1, .int y)] [] h) from ⟨fun c28 => ?_, fun c28 => ?_⟩)
        · refine am_goX 1 (show pz_S 2 (some .int) am_r94 4 Q 121 [(0, .ref 0), (1, .int y)] [.int (Int32.ofInt 0)] h from ?_)
          exact sv_S2 sv2_94 (fun q hq => absurd hq List.not_mem_nil) (key _ (if_pos c28).symm)
        · refine am_goX 2 (show pz_S 2 (some .int) am_r94 4 Q 121 [(0, .ref 0), (1, .int y)] [.int (Int32.ofInt 1)] h from ?_)
          exact sv_S2 sv2_94 (fun q hq => absurd hq List.not_mem_nil) (key _ (if_neg c28).symm)
      intro v29 e30
      subst e30
      exact am_goX 1 (show (∃ ty, (some .int) = some ty ∧ narrow ty (.int (if (d_68 C s.1) = 0 then Int32.ofInt 0 else Int32.ofInt 1)) = .int (if (d_68 C s.1) = 0 then Int32.ofInt 0 else Int32.ofInt 1)) ∧ h.2.2.2.2 = 175 ∧ _ from ⟨⟨.int, rfl, rfl⟩, ex_175 hP, dn_q ((if_neg c16).trans ((if_neg c17).trans ((if_neg c18).trans ((if_neg c19).trans (if_pos c20))))) hQ⟩)
    · have c21 : y = Int32.ofInt 5 := Int32.toInt_inj.mp (hj1.trans (by decide))
      have c16 : ¬ y = Int32.ofInt 0 := by rw [c21]; decide
      have c17 : ¬ y = Int32.ofInt 1 := by rw [c21]; decide
      have c18 : ¬ y = Int32.ofInt 2 := by rw [c21]; decide
      have c19 : ¬ y = Int32.ofInt 3 := by rw [c21]; decide
      have c20 : ¬ y = Int32.ofInt 4 := by rw [c21]; decide
      show pz_S 2 (some .int) am_r94 4 Q 122 [(0, .ref 0), (1, .int y)] [] h
      refine am_goX 2 (show am_sh h 0 = some (10, 0) ∧ pz_S 2 (some .int) am_r94 4 Q 126 [(0, .ref 0), (1, .int y)] [am_rf (h.2.2.1 0 7)] h from ⟨ex_0 hP, ?_⟩)
      rw [show am_rf (h.2.2.1 0 7) = .ref 36 from congrArg am_rf (ex_r0_7 hP)]
      refine am_goX 1 (show am_rc h 36 6 ∧ 0 ≤ 8 ∧ h.2.2.2.2 + am_al 95 ≤ 175 ∧ am_call am_cod 4 95 [.ref 36] h (fun vv h' => pz_S 2 (some .int) am_r94 4 Q 129 [(0, .ref 0), (1, .int y)] (vv.toList ++ []) h') from ⟨Or.inl ⟨by decide, ex_36 hP⟩, by decide, ex_lim hP rfl, am_call.up (d_95_N6 hP hI hT hD hR hS ?_) (by decide)⟩)
      exact am_goX 1 (show (∃ ty, (some .int) = some ty ∧ narrow ty (.int (d_95 s)) = .int (d_95 s)) ∧ h.2.2.2.2 = 175 ∧ _ from ⟨⟨.int, rfl, rfl⟩, ex_175 hP, dn_q ((if_neg c16).trans ((if_neg c17).trans ((if_neg c18).trans ((if_neg c19).trans ((if_neg c20).trans (if_pos c21)))))) hQ⟩)
    · have c22 : y = Int32.ofInt 6 := Int32.toInt_inj.mp (hj1.trans (by decide))
      have c16 : ¬ y = Int32.ofInt 0 := by rw [c22]; decide
      have c17 : ¬ y = Int32.ofInt 1 := by rw [c22]; decide
      have c18 : ¬ y = Int32.ofInt 2 := by rw [c22]; decide
      have c19 : ¬ y = Int32.ofInt 3 := by rw [c22]; decide
      have c20 : ¬ y = Int32.ofInt 4 := by rw [c22]; decide
      have c21 : ¬ y = Int32.ofInt 5 := by rw [c22]; decide
      show pz_S 2 (some .int) am_r94 4 Q 130 [(0, .ref 0), (1, .int y)] [] h
      refine am_goX 2 (show am_sh h 0 = some (10, 0) ∧ pz_S 2 (some .int) am_r94 4 Q 134 [(0, .ref 0), (1, .int y)] [am_rf (h.2.2.1 0 7)] h from ⟨ex_0 hP, ?_⟩)
      rw [show am_rf (h.2.2.1 0 7) = .ref 36 from congrArg am_rf (ex_r0_7 hP)]
      refine am_goX 1 (show am_rc h 36 6 ∧ 0 ≤ 8 ∧ h.2.2.2.2 + am_al 96 ≤ 175 ∧ am_call am_cod 4 96 [.ref 36] h (fun vv h' => pz_S 2 (some .int) am_r94 4 Q 137 [(0, .ref 0), (1, .int y)] (vv.toList ++ []) h') from ⟨Or.inl ⟨by decide, ex_36 hP⟩, by decide, ex_lim hP rfl, am_call.up (d_96_N6 hP hI hT hD hR hS ?_) (by decide)⟩)
      exact am_goX 1 (show (∃ ty, (some .int) = some ty ∧ narrow ty (.int (d_96 s)) = .int (d_96 s)) ∧ h.2.2.2.2 = 175 ∧ _ from ⟨⟨.int, rfl, rfl⟩, ex_175 hP, dn_q ((if_neg c16).trans ((if_neg c17).trans ((if_neg c18).trans ((if_neg c19).trans ((if_neg c20).trans ((if_neg c21).trans (if_pos c22))))))) hQ⟩)
    · have c23 : y = Int32.ofInt 7 := Int32.toInt_inj.mp (hj1.trans (by decide))
      have c16 : ¬ y = Int32.ofInt 0 := by rw [c23]; decide
      have c17 : ¬ y = Int32.ofInt 1 := by rw [c23]; decide
      have c18 : ¬ y = Int32.ofInt 2 := by rw [c23]; decide
      have c19 : ¬ y = Int32.ofInt 3 := by rw [c23]; decide
      have c20 : ¬ y = Int32.ofInt 4 := by rw [c23]; decide
      have c21 : ¬ y = Int32.ofInt 5 := by rw [c23]; decide
      have c22 : ¬ y = Int32.ofInt 6 := by rw [c23]; decide
      show pz_S 2 (some .int) am_r94 4 Q 138 [(0, .ref 0), (1, .int y)] [] h
      refine am_goX 2 (show am_sh h 0 = some (10, 0) ∧ pz_S 2 (some .int) am_r94 4 Q 142 [(0, .ref 0), (1, .int y)] [am_rf (h.2.2.1 0 7)] h from ⟨ex_0 hP, ?_⟩)
      rw [show am_rf (h.2.2.1 0 7) = .ref 36 from congrArg am_rf (ex_r0_7 hP)]
      refine am_goX 1 (show am_sh h 36 = some (6, 0) ∧ pz_S 2 (some .int) am_r94 4 Q 145 [(0, .ref 0), (1, .int y)] [.int (h.1 36 1)] h from ⟨ex_36 hP, ?_⟩)
      rw [show h.1 36 1 = s.2.1 from hS.1.2]
      exact am_goX 1 (show (∃ ty, (some .int) = some ty ∧ narrow ty (.int s.2.1) = .int s.2.1) ∧ h.2.2.2.2 = 175 ∧ _ from ⟨⟨.int, rfl, rfl⟩, ex_175 hP, dn_q ((if_neg c16).trans ((if_neg c17).trans ((if_neg c18).trans ((if_neg c19).trans ((if_neg c20).trans ((if_neg c21).trans ((if_neg c22).trans (if_pos c23)))))))) hQ⟩)
    · have c24 : y = Int32.ofInt 8 := Int32.toInt_inj.mp (hj1.trans (by decide))
      have c16 : ¬ y = Int32.ofInt 0 := by rw [c24]; decide
      have c17 : ¬ y = Int32.ofInt 1 := by rw [c24]; decide
      have c18 : ¬ y = Int32.ofInt 2 := by rw [c24]; decide
      have c19 : ¬ y = Int32.ofInt 3 := by rw [c24]; decide
      have c20 : ¬ y = Int32.ofInt 4 := by rw [c24]; decide
      have c21 : ¬ y = Int32.ofInt 5 := by rw [c24]; decide
      have c22 : ¬ y = Int32.ofInt 6 := by rw [c24]; decide
      have c23 : ¬ y = Int32.ofInt 7 := by rw [c24]; decide
      show pz_S 2 (some .int) am_r94 4 Q 146 [(0, .ref 0), (1, .int y)] [] h
      refine am_goX 2 (show am_sh h 0 = some (10, 0) ∧ pz_S 2 (some .int) am_r94 4 Q 150 [(0, .ref 0), (1, .int y)] [am_rf (h.2.2.1 0 5)] h from ⟨ex_0 hP, ?_⟩)
      rw [show am_rf (h.2.2.1 0 5) = .ref 32 from congrArg am_rf (hw5)]
      refine am_goX 1 (show am_sh h 32 = some (8, 0) ∧ pz_S 2 (some .int) am_r94 4 Q 153 [(0, .ref 0), (1, .int y)] [.int (h.1 32 3)] h from ⟨ex_32 hP, ?_⟩)
      rw [show h.1 32 3 = nI wl from hwl]
      exact am_goX 1 (show (∃ ty, (some .int) = some ty ∧ narrow ty (.int (nI wl)) = .int (nI wl)) ∧ h.2.2.2.2 = 175 ∧ _ from ⟨⟨.int, rfl, rfl⟩, ex_175 hP, dn_q ((if_neg c16).trans ((if_neg c17).trans ((if_neg c18).trans ((if_neg c19).trans ((if_neg c20).trans ((if_neg c21).trans ((if_neg c22).trans ((if_neg c23).trans (if_pos c24))))))))) hQ⟩)
    · have c25 : y = Int32.ofInt 9 := Int32.toInt_inj.mp (hj1.trans (by decide))
      have c16 : ¬ y = Int32.ofInt 0 := by rw [c25]; decide
      have c17 : ¬ y = Int32.ofInt 1 := by rw [c25]; decide
      have c18 : ¬ y = Int32.ofInt 2 := by rw [c25]; decide
      have c19 : ¬ y = Int32.ofInt 3 := by rw [c25]; decide
      have c20 : ¬ y = Int32.ofInt 4 := by rw [c25]; decide
      have c21 : ¬ y = Int32.ofInt 5 := by rw [c25]; decide
      have c22 : ¬ y = Int32.ofInt 6 := by rw [c25]; decide
      have c23 : ¬ y = Int32.ofInt 7 := by rw [c25]; decide
      have c24 : ¬ y = Int32.ofInt 8 := by rw [c25]; decide
      show pz_S 2 (some .int) am_r94 4 Q 154 [(0, .ref 0), (1, .int y)] [] h
      refine am_goX 2 (show am_sh h 0 = some (10, 0) ∧ pz_S 2 (some .int) am_r94 4 Q 158 [(0, .ref 0), (1, .int y)] [.int (h.1 0 12)] h from ⟨ex_0 hP, ?_⟩)
      rw [show h.1 0 12 = nI sx from hx]
      exact am_goX 1 (show (∃ ty, (some .int) = some ty ∧ narrow ty (.int (nI sx)) = .int (nI sx)) ∧ h.2.2.2.2 = 175 ∧ _ from ⟨⟨.int, rfl, rfl⟩, ex_175 hP, dn_q ((if_neg c16).trans ((if_neg c17).trans ((if_neg c18).trans ((if_neg c19).trans ((if_neg c20).trans ((if_neg c21).trans ((if_neg c22).trans ((if_neg c23).trans ((if_neg c24).trans (if_pos c25)))))))))) hQ⟩)
    · have c26 : y = Int32.ofInt 10 := Int32.toInt_inj.mp (hj1.trans (by decide))
      have c16 : ¬ y = Int32.ofInt 0 := by rw [c26]; decide
      have c17 : ¬ y = Int32.ofInt 1 := by rw [c26]; decide
      have c18 : ¬ y = Int32.ofInt 2 := by rw [c26]; decide
      have c19 : ¬ y = Int32.ofInt 3 := by rw [c26]; decide
      have c20 : ¬ y = Int32.ofInt 4 := by rw [c26]; decide
      have c21 : ¬ y = Int32.ofInt 5 := by rw [c26]; decide
      have c22 : ¬ y = Int32.ofInt 6 := by rw [c26]; decide
      have c23 : ¬ y = Int32.ofInt 7 := by rw [c26]; decide
      have c24 : ¬ y = Int32.ofInt 8 := by rw [c26]; decide
      have c25 : ¬ y = Int32.ofInt 9 := by rw [c26]; decide
      show pz_S 2 (some .int) am_r94 4 Q 159 [(0, .ref 0), (1, .int y)] [] h
      refine am_goX 2 (show am_sh h 0 = some (10, 0) ∧ pz_S 2 (some .int) am_r94 4 Q 163 [(0, .ref 0), (1, .int y)] [am_rf (h.2.2.1 0 10)] h from ⟨ex_0 hP, ?_⟩)
      rw [show am_rf (h.2.2.1 0 10) = .ref 47 from congrArg am_rf (ex_r0_10 hP)]
      refine am_goX 1 (show am_sh h 47 = some (2, 0) ∧ pz_S 2 (some .int) am_r94 4 Q 166 [(0, .ref 0), (1, .int y)] [.int (h.1 47 2)] h from ⟨ex_47 hP, ?_⟩)
      rw [show h.1 47 2 = nI hn from hl]
      exact am_goX 1 (show (∃ ty, (some .int) = some ty ∧ narrow ty (.int (nI hn)) = .int (nI hn)) ∧ h.2.2.2.2 = 175 ∧ _ from ⟨⟨.int, rfl, rfl⟩, ex_175 hP, dn_q ((if_neg c16).trans ((if_neg c17).trans ((if_neg c18).trans ((if_neg c19).trans ((if_neg c20).trans ((if_neg c21).trans ((if_neg c22).trans ((if_neg c23).trans ((if_neg c24).trans ((if_neg c25).trans (if_pos c26))))))))))) hQ⟩)
    · have c27 : y = Int32.ofInt 11 := Int32.toInt_inj.mp (hj1.trans (by decide))
      have c16 : ¬ y = Int32.ofInt 0 := by rw [c27]; decide
      have c17 : ¬ y = Int32.ofInt 1 := by rw [c27]; decide
      have c18 : ¬ y = Int32.ofInt 2 := by rw [c27]; decide
      have c19 : ¬ y = Int32.ofInt 3 := by rw [c27]; decide
      have c20 : ¬ y = Int32.ofInt 4 := by rw [c27]; decide
      have c21 : ¬ y = Int32.ofInt 5 := by rw [c27]; decide
      have c22 : ¬ y = Int32.ofInt 6 := by rw [c27]; decide
      have c23 : ¬ y = Int32.ofInt 7 := by rw [c27]; decide
      have c24 : ¬ y = Int32.ofInt 8 := by rw [c27]; decide
      have c25 : ¬ y = Int32.ofInt 9 := by rw [c27]; decide
      have c26 : ¬ y = Int32.ofInt 10 := by rw [c27]; decide
      show pz_S 2 (some .int) am_r94 4 Q 167 [(0, .ref 0), (1, .int y)] [] h
      refine am_goX 2 (show am_sh h 0 = some (10, 0) ∧ pz_S 2 (some .int) am_r94 4 Q 171 [(0, .ref 0), (1, .int y)] [am_rf (h.2.2.1 0 0)] h from ⟨ex_0 hP, ?_⟩)
      rw [show am_rf (h.2.2.1 0 0) = .ref 1 from congrArg am_rf (ex_r0_0 hP)]
      refine am_goX 1 (show am_sh h 1 = some (7, 0) ∧ pz_S 2 (some .int) am_r94 4 Q 174 [(0, .ref 0), (1, .int y)] [.int (h.1 1 1)] h from ⟨ex_1 hP, ?_⟩)
      rw [show h.1 1 1 = nI tl from ht]
      exact am_goX 1 (show (∃ ty, (some .int) = some ty ∧ narrow ty (.int (nI tl)) = .int (nI tl)) ∧ h.2.2.2.2 = 175 ∧ _ from ⟨⟨.int, rfl, rfl⟩, ex_175 hP, dn_q ((if_neg c16).trans ((if_neg c17).trans ((if_neg c18).trans ((if_neg c19).trans ((if_neg c20).trans ((if_neg c21).trans ((if_neg c22).trans ((if_neg c23).trans ((if_neg c24).trans ((if_neg c25).trans ((if_neg c26).trans (if_pos c27)))))))))))) hQ⟩)
theorem d_95_4_N17 (hP : ex_P h) (hI : cI C) (hT : c_v 17 C h) (hD : c_d 17 C h) (hR : h.2.2.1 0 3 = some 17) (hS : sC 36 s h) : ∀ (m k : Nat) (a1 : Int32), k + m = 5 → (pz_S 3 (some .int) am_r95 1 Q 24 [(1, .int (d_95_4 s m k a1))] [] h) → pz_S 3 (some .int) am_r95 1 Q 4 [(0, .ref 36), (1, .int a1), (2, .int (nI k))] [] h := by
  intro m
  induction m with
  | zero =>
    intro k a1 hk hZ
    have h6 := hT.1.2.1
    have h5 := hT.2.1.2.1
    refine am_goX 3 (show ((Int32.ofInt 5) ≤ (nI k) → pz_S 3 (some .int) am_r95 1 Q 24 [(0, .ref 36), (1, .int a1), (2, .int (nI k))] [] h) ∧ (¬ ((Int32.ofInt 5) ≤ (nI k)) → pz_S 3 (some .int) am_r95 1 Q 9 [(0, .ref 36), (1, .int a1), (2, .int (nI k))] [] h) from ⟨fun _ => ?_, fun hz => absurd (show nI 5 ≤ nI k from nI_le (by omega) (by omega)) hz⟩)
    exact sv_S2 sv2_95 (by intro q hq; simp only [List.mem_cons, List.not_mem_nil, or_false] at hq; rcases hq with rfl <;> rfl) (hZ)
  | succ m ih =>
    intro k a1 hk hZ
    have h6 := hT.1.2.1
    have h5 := hT.2.1.2.1
    refine am_goX 3 (show ((Int32.ofInt 5) ≤ (nI k) → pz_S 3 (some .int) am_r95 1 Q 24 [(0, .ref 36), (1, .int a1), (2, .int (nI k))] [] h) ∧ (¬ ((Int32.ofInt 5) ≤ (nI k)) → pz_S 3 (some .int) am_r95 1 Q 9 [(0, .ref 36), (1, .int a1), (2, .int (nI k))] [] h) from ⟨fun hz => absurd hz (show ¬ (nI 5 ≤ nI k) by rw [nI_leI (by omega) (by omega)]; omega), fun _ => ?_⟩)
    refine am_goX 3 (show am_sh h 36 = some (6, 0) ∧ pz_S 3 (some .int) am_r95 1 Q 14 [(0, .ref 36), (1, .int a1), (2, .int (nI k))] [am_rf (h.2.2.1 36 4), .int a1] h from ⟨ex_36 hP, ?_⟩)
    rw [show am_rf (h.2.2.1 36 4) = .ref 39 from congrArg am_rf (ex_r36_4 hP)]
    refine am_goX 2 (show ∃ jj nn : Nat, am_sh h 39 = some (13, nn) ∧ jj < nn ∧ nI k = nI jj ∧ pz_S 3 (some .int) am_r95 1 Q 16 [(0, .ref 36), (1, .int a1), (2, .int (nI k))] [.int (h.1 39 jj), .int a1] h from ⟨k, 5, ex_39 hP, (by omega), rfl, ?_⟩)
    rw [show h.1 39 k = s.2.2.2.2.1 k from (hS.2.2 k (by omega)).1]
    refine am_goX 4 (show 1 < 3 ∧ 2 < 3 ∧ pz_S 3 (some .int) am_r95 1 Q 4 [(2, .int ((nI k) + (Int32.ofInt 1))), (1, .int (a1 + (s.2.2.2.2.1 k))), (0, .ref 36)] [] h from ⟨by decide, by decide, ?_⟩)
    rw [show (nI k) + (Int32.ofInt 1) = nI (k + 1) from (dn_a rfl rfl)]
    exact sv_S2 sv2_95 (by intro q hq; simp only [List.mem_cons, List.not_mem_nil, or_false] at hq; rcases hq with rfl | rfl | rfl <;> rfl) (ih (k + 1) (a1 + (s.2.2.2.2.1 k)) (by omega) hZ)
theorem d_95_N17 (hP : ex_P h) (hI : cI C) (hT : c_v 17 C h) (hD : c_d 17 C h) (hR : h.2.2.1 0 3 = some 17) (hS : sC 36 s h)  (hQ : Q (some (.int (d_95 s))) h) : am_call am_cod 2 95 [.ref 36] h Q := by
  have h6 := hT.1.2.1
  have h5 := hT.2.1.2.1
  refine pz_call (n := 95) (nL := 3) (rt := (some .int)) (rows := am_r95) (d := 1) (by decide +kernel) (by decide +kernel) rfl (by funext pc; rfl) (ex_175 hP) (by exact Nat.le_of_ble_eq_true rfl) ?_
  refine am_goX 4 (show 1 < 3 ∧ 2 < 3 ∧ pz_S 3 (some .int) am_r95 1 Q 4 [(2, .int (Int32.ofInt 0)), (1, .int (Int32.ofInt 0)), (0, .ref 36)] [] h from ⟨by decide, by decide, ?_⟩)
  refine sv_S2 sv2_95 (by intro q hq; simp only [List.mem_cons, List.not_mem_nil, or_false] at hq; rcases hq with rfl | rfl | rfl <;> rfl) (d_95_4_N17 hP hI hT hD hR hS 5 0 (Int32.ofInt 0) (by omega) ?_)
  exact am_goX 2 (show (∃ ty, (some .int) = some ty ∧ narrow ty (.int (d_95_4 s 5 0 (Int32.ofInt 0))) = .int (d_95_4 s 5 0 (Int32.ofInt 0))) ∧ h.2.2.2.2 = 175 ∧ _ from ⟨⟨.int, rfl, rfl⟩, ex_175 hP, hQ⟩)
theorem d_96_4_N17 (hP : ex_P h) (hI : cI C) (hT : c_v 17 C h) (hD : c_d 17 C h) (hR : h.2.2.1 0 3 = some 17) (hS : sC 36 s h) : ∀ (m k : Nat) (a1 : Int32), k + m = 6 → (pz_S 3 (some .int) am_r96 1 Q 28 [(1, .int (d_96_4 s m k a1))] [] h) → pz_S 3 (some .int) am_r96 1 Q 4 [(0, .ref 36), (1, .int a1), (2, .int (nI k))] [] h := by
  intro m
  induction m with
  | zero =>
    intro k a1 hk hZ
    have h6 := hT.1.2.1
    have h5 := hT.2.1.2.1
    refine am_goX 3 (show (((Int8.ofInt 6).toInt32) ≤ (nI k) → pz_S 3 (some .int) am_r96 1 Q 28 [(0, .ref 36), (1, .int a1), (2, .int (nI k))] [] h) ∧ (¬ (((Int8.ofInt 6).toInt32) ≤ (nI k)) → pz_S 3 (some .int) am_r96 1 Q 10 [(0, .ref 36), (1, .int a1), (2, .int (nI k))] [] h) from ⟨fun _ => ?_, fun hz => absurd (show nI 6 ≤ nI k from nI_le (by omega) (by omega)) hz⟩)
    exact sv_S2 sv2_96 (by intro q hq; simp only [List.mem_cons, List.not_mem_nil, or_false] at hq; rcases hq with rfl <;> rfl) (hZ)
  | succ m ih =>
    intro k a1 hk hZ
    have h6 := hT.1.2.1
    have h5 := hT.2.1.2.1
    refine am_goX 3 (show (((Int8.ofInt 6).toInt32) ≤ (nI k) → pz_S 3 (some .int) am_r96 1 Q 28 [(0, .ref 36), (1, .int a1), (2, .int (nI k))] [] h) ∧ (¬ (((Int8.ofInt 6).toInt32) ≤ (nI k)) → pz_S 3 (some .int) am_r96 1 Q 10 [(0, .ref 36), (1, .int a1), (2, .int (nI k))] [] h) from ⟨fun hz => absurd hz (show ¬ (nI 6 ≤ nI k) by rw [nI_leI (by omega) (by omega)]; omega), fun _ => ?_⟩)
    refine am_goX 3 (show am_sh h 36 = some (6, 0) ∧ pz_S 3 (some .int) am_r96 1 Q 15 [(0, .ref 36), (1, .int a1), (2, .int (nI k))] [am_rf (h.2.2.1 36 3), .int a1] h from ⟨ex_36 hP, ?_⟩)
    rw [show am_rf (h.2.2.1 36 3) = .ref 38 from congrArg am_rf (ex_r36_3 hP)]
    refine am_goX 2 (show ∃ jj nn : Nat, am_sh h 38 = some (13, nn) ∧ jj < nn ∧ nI k = nI jj ∧ pz_S 3 (some .int) am_r96 1 Q 17 [(0, .ref 36), (1, .int a1), (2, .int (nI k))] [.int (h.1 38 jj), .int a1] h from ⟨k, 6, ex_38 hP, (by omega), rfl, ?_⟩)
    rw [show h.1 38 k = s.2.2.2.1 k from (hS.2.1 k (by omega)).2]
    refine am_goX 1 (show 1 ≤ 8 ∧ h.2.2.2.2 + am_al 69 ≤ 175 ∧ am_call am_cod 1 69 [.int (s.2.2.2.1 k)] h (fun vv h' => pz_S 3 (some .int) am_r96 1 Q 20 [(0, .ref 36), (1, .int a1), (2, .int (nI k))] (vv.toList ++ [.int a1]) h') from ⟨by decide, ex_lim hP rfl, am_call.up (d_69_w hP ?_) (by decide)⟩)
    refine am_goX 4 (show 1 < 3 ∧ 2 < 3 ∧ pz_S 3 (some .int) am_r96 1 Q 4 [(2, .int ((nI k) + (Int32.ofInt 1))), (1, .int (a1 + (d_69 (s.2.2.2.1 k)))), (0, .ref 36)] [] h from ⟨by decide, by decide, ?_⟩)
    rw [show (nI k) + (Int32.ofInt 1) = nI (k + 1) from (dn_a rfl rfl)]
    exact sv_S2 sv2_96 (by intro q hq; simp only [List.mem_cons, List.not_mem_nil, or_false] at hq; rcases hq with rfl | rfl | rfl <;> rfl) (ih (k + 1) (a1 + (d_69 (s.2.2.2.1 k))) (by omega) hZ)
theorem d_96_N17 (hP : ex_P h) (hI : cI C) (hT : c_v 17 C h) (hD : c_d 17 C h) (hR : h.2.2.1 0 3 = some 17) (hS : sC 36 s h)  (hQ : Q (some (.int (d_96 s))) h) : am_call am_cod 2 96 [.ref 36] h Q := by
  have h6 := hT.1.2.1
  have h5 := hT.2.1.2.1
  refine pz_call (n := 96) (nL := 3) (rt := (some .int)) (rows := am_r96) (d := 1) (by decide +kernel) (by decide +kernel) rfl (by funext pc; rfl) (ex_175 hP) (by exact Nat.le_of_ble_eq_true rfl) ?_
  refine am_goX 4 (show 1 < 3 ∧ 2 < 3 ∧ pz_S 3 (some .int) am_r96 1 Q 4 [(2, .int (Int32.ofInt 0)), (1, .int (Int32.ofInt 0)), (0, .ref 36)] [] h from ⟨by decide, by decide, ?_⟩)
  refine sv_S2 sv2_96 (by intro q hq; simp only [List.mem_cons, List.not_mem_nil, or_false] at hq; rcases hq with rfl | rfl | rfl <;> rfl) (d_96_4_N17 hP hI hT hD hR hS 6 0 (Int32.ofInt 0) (by omega) ?_)
  exact am_goX 4 (show ¬ (Int32.ofInt 2) = 0 ∧ (∃ ty, (some .int) = some ty ∧ narrow ty (.int ((d_96_4 s 6 0 (Int32.ofInt 0)) / (Int32.ofInt 2))) = .int ((d_96_4 s 6 0 (Int32.ofInt 0)) / (Int32.ofInt 2))) ∧ h.2.2.2.2 = 175 ∧ _ from ⟨by decide, ⟨.int, rfl, rfl⟩, ex_175 hP, hQ⟩)
theorem d_94_W17_28 (hP : ex_P h) (hI : cI C) (hT : c_v 17 C h) (hD : c_d 17 C h) (hR : h.2.2.1 0 3 = some 17) (hS : sC 36 s h) (hl : h.1 47 2 = nI hn) (hx : h.1 0 12 = nI sx) (hw5 : h.2.2.1 0 5 = some 28) (hwl : h.1 28 3 = nI wl) (ht : h.1 1 1 = nI tl)  (hQ : Q (some (.int (d_94 C s hn sx wl tl y))) h) : am_call am_cod 5 94 [.ref 0, .int y] h Q := by
  have h6 := hT.1.2.1
  have h5 := hT.2.1.2.1
  refine pz_call (n := 94) (nL := 2) (rt := (some .int)) (rows := am_r94) (d := 4) (by decide +kernel) (by decide +kernel) rfl (by funext pc; rfl) (ex_175 hP) (by exact Nat.le_of_ble_eq_true rfl) ?_
  refine am_goX 2 (show ((y.toInt < 0 ∨ 11 < y.toInt) → pz_S 2 (some .int) am_r94 4 Q 175 [(0, .ref 0), (1, .int y)] [] h) ∧ (∀ j : Nat, y.toInt = 0 + (j : Int) → 0 + (j : Int) ≤ 11 → pz_S 2 (some .int) am_r94 4 Q ((1 : Int) + ((#[63, 71, 79, 87, 98, 121, 129, 137, 145, 153, 158, 166] : Array Int)[j]?).getD 0).toNat [(0, .ref 0), (1, .int y)] [] h) from ⟨fun hd => ?_, fun j hj1 hj2 => ?_⟩)
  · have c31 : ¬ y = Int32.ofInt 0 := fun w => by rw [w] at hd; revert hd; decide
    have c32 : ¬ y = Int32.ofInt 1 := fun w => by rw [w] at hd; revert hd; decide
    have c33 : ¬ y = Int32.ofInt 2 := fun w => by rw [w] at hd; revert hd; decide
    have c34 : ¬ y = Int32.ofInt 3 := fun w => by rw [w] at hd; revert hd; decide
    have c35 : ¬ y = Int32.ofInt 4 := fun w => by rw [w] at hd; revert hd; decide
    have c36 : ¬ y = Int32.ofInt 5 := fun w => by rw [w] at hd; revert hd; decide
    have c37 : ¬ y = Int32.ofInt 6 := fun w => by rw [w] at hd; revert hd; decide
    have c38 : ¬ y = Int32.ofInt 7 := fun w => by rw [w] at hd; revert hd; decide
    have c39 : ¬ y = Int32.ofInt 8 := fun w => by rw [w] at hd; revert hd; decide
    have c40 : ¬ y = Int32.ofInt 9 := fun w => by rw [w] at hd; revert hd; decide
    have c41 : ¬ y = Int32.ofInt 10 := fun w => by rw [w] at hd; revert hd; decide
    have c42 : ¬ y = Int32.ofInt 11 := fun w => by rw [w] at hd; revert hd; decide
    exact am_goX 2 (show (∃ ty, (some .int) = some ty ∧ narrow ty (.int (Int32.ofInt (-1))) = .int (Int32.ofInt (-1))) ∧ h.2.2.2.2 = 175 ∧ _ from ⟨⟨.int, rfl, rfl⟩, ex_175 hP, dn_q ((if_neg c31).trans ((if_neg c32).trans ((if_neg c33).trans ((if_neg c34).trans ((if_neg c35).trans ((if_neg c36).trans ((if_neg c37).trans ((if_neg c38).trans ((if_neg c39).trans ((if_neg c40).trans ((if_neg c41).trans (if_neg c42)))))))))))) hQ⟩)
  · have hj : j = 0 ∨ j = 1 ∨ j = 2 ∨ j = 3 ∨ j = 4 ∨ j = 5 ∨ j = 6 ∨ j = 7 ∨ j = 8 ∨ j = 9 ∨ j = 10 ∨ j = 11 := by omega
    rcases hj with rfl | rfl | rfl | rfl | rfl | rfl | rfl | rfl | rfl | rfl | rfl | rfl
    · have c31 : y = Int32.ofInt 0 := Int32.toInt_inj.mp (hj1.trans (by decide))
      show pz_S 2 (some .int) am_r94 4 Q 64 [(0, .ref 0), (1, .int y)] [] h
      refine am_goX 2 (show am_sh h 0 = some (10, 0) ∧ pz_S 2 (some .int) am_r94 4 Q 68 [(0, .ref 0), (1, .int y)] [am_rf (h.2.2.1 0 3)] h from ⟨ex_0 hP, ?_⟩)
      rw [show am_rf (h.2.2.1 0 3) = .ref 17 from congrArg am_rf (hR)]
      refine am_goX 1 (show am_sh h 17 = some (0, 0) ∧ pz_S 2 (some .int) am_r94 4 Q 71 [(0, .ref 0), (1, .int y)] [.int (h.1 17 0)] h from ⟨ex_17 hP, ?_⟩)
      rw [show h.1 17 0 = nI (dP C) from hT.1.1]
      exact am_goX 1 (show (∃ ty, (some .int) = some ty ∧ narrow ty (.int (nI (dP C))) = .int (nI (dP C))) ∧ h.2.2.2.2 = 175 ∧ _ from ⟨⟨.int, rfl, rfl⟩, ex_175 hP, dn_q (if_pos c31) hQ⟩)
    · have c32 : y = Int32.ofInt 1 := Int32.toInt_inj.mp (hj1.trans (by decide))
      have c31 : ¬ y = Int32.ofInt 0 := by rw [c32]; decide
      show pz_S 2 (some .int) am_r94 4 Q 72 [(0, .ref 0), (1, .int y)] [] h
      refine am_goX 2 (show am_sh h 0 = some (10, 0) ∧ pz_S 2 (some .int) am_r94 4 Q 76 [(0, .ref 0), (1, .int y)] [am_rf (h.2.2.1 0 3)] h from ⟨ex_0 hP, ?_⟩)
      rw [show am_rf (h.2.2.1 0 3) = .ref 17 from congrArg am_rf (hR)]
      refine am_goX 1 (show am_sh h 17 = some (0, 0) ∧ pz_S 2 (some .int) am_r94 4 Q 79 [(0, .ref 0), (1, .int y)] [.int (h.1 17 4)] h from ⟨ex_17 hP, ?_⟩)
      rw [show h.1 17 4 = nI (dE C) from hT.2.1.1]
      exact am_goX 1 (show (∃ ty, (some .int) = some ty ∧ narrow ty (.int (nI (dE C))) = .int (nI (dE C))) ∧ h.2.2.2.2 = 175 ∧ _ from ⟨⟨.int, rfl, rfl⟩, ex_175 hP, dn_q ((if_neg c31).trans (if_pos c32)) hQ⟩)
    · have c33 : y = Int32.ofInt 2 := Int32.toInt_inj.mp (hj1.trans (by decide))
      have c31 : ¬ y = Int32.ofInt 0 := by rw [c33]; decide
      have c32 : ¬ y = Int32.ofInt 1 := by rw [c33]; decide
      show pz_S 2 (some .int) am_r94 4 Q 80 [(0, .ref 0), (1, .int y)] [] h
      refine am_goX 2 (show am_sh h 0 = some (10, 0) ∧ pz_S 2 (some .int) am_r94 4 Q 84 [(0, .ref 0), (1, .int y)] [am_rf (h.2.2.1 0 7)] h from ⟨ex_0 hP, ?_⟩)
      rw [show am_rf (h.2.2.1 0 7) = .ref 36 from congrArg am_rf (ex_r0_7 hP)]
      refine am_goX 1 (show am_sh h 36 = some (6, 0) ∧ pz_S 2 (some .int) am_r94 4 Q 87 [(0, .ref 0), (1, .int y)] [.int (h.1 36 0)] h from ⟨ex_36 hP, ?_⟩)
      rw [show h.1 36 0 = s.1 from hS.1.1]
      exact am_goX 1 (show (∃ ty, (some .int) = some ty ∧ narrow ty (.int s.1) = .int s.1) ∧ h.2.2.2.2 = 175 ∧ _ from ⟨⟨.int, rfl, rfl⟩, ex_175 hP, dn_q ((if_neg c31).trans ((if_neg c32).trans (if_pos c33))) hQ⟩)
    · have c34 : y = Int32.ofInt 3 := Int32.toInt_inj.mp (hj1.trans (by decide))
      have c31 : ¬ y = Int32.ofInt 0 := by rw [c34]; decide
      have c32 : ¬ y = Int32.ofInt 1 := by rw [c34]; decide
      have c33 : ¬ y = Int32.ofInt 2 := by rw [c34]; decide
      show pz_S 2 (some .int) am_r94 4 Q 88 [(0, .ref 0), (1, .int y)] [] h
      refine am_goX 2 (show am_sh h 0 = some (10, 0) ∧ pz_S 2 (some .int) am_r94 4 Q 92 [(0, .ref 0), (1, .int y)] [am_rf (h.2.2.1 0 7)] h from ⟨ex_0 hP, ?_⟩)
      rw [show am_rf (h.2.2.1 0 7) = .ref 36 from congrArg am_rf (ex_r0_7 hP)]
      refine am_goX 1 (show am_sh h 36 = some (6, 0) ∧ pz_S 2 (some .int) am_r94 4 Q 95 [(0, .ref 0), (1, .int y)] [.int (h.1 36 0)] h from ⟨ex_36 hP, ?_⟩)
      rw [show h.1 36 0 = s.1 from hS.1.1]
      exact am_goX 3 (show ¬ ((Int8.ofInt 7).toInt32) = 0 ∧ (∃ ty, (some .int) = some ty ∧ narrow ty (.int (s.1 - s.1 / ((Int8.ofInt 7).toInt32) * ((Int8.ofInt 7).toInt32))) = .int (s.1 - s.1 / ((Int8.ofInt 7).toInt32) * ((Int8.ofInt 7).toInt32))) ∧ h.2.2.2.2 = 175 ∧ _ from ⟨by decide, ⟨.int, rfl, rfl⟩, ex_175 hP, dn_q ((if_neg c31).trans ((if_neg c32).trans ((if_neg c33).trans (if_pos c34)))) hQ⟩)
    · have c35 : y = Int32.ofInt 4 := Int32.toInt_inj.mp (hj1.trans (by decide))
      have c31 : ¬ y = Int32.ofInt 0 := by rw [c35]; decide
      have c32 : ¬ y = Int32.ofInt 1 := by rw [c35]; decide
      have c33 : ¬ y = Int32.ofInt 2 := by rw [c35]; decide
      have c34 : ¬ y = Int32.ofInt 3 := by rw [c35]; decide
      show pz_S 2 (some .int) am_r94 4 Q 99 [(0, .ref 0), (1, .int y)] [] h
      refine am_goX 2 (show am_sh h 0 = some (10, 0) ∧ pz_S 2 (some .int) am_r94 4 Q 103 [(0, .ref 0), (1, .int y)] [am_rf (h.2.2.1 0 3)] h from ⟨ex_0 hP, ?_⟩)
      rw [show am_rf (h.2.2.1 0 3) = .ref 17 from congrArg am_rf (hR)]
      refine am_goX 2 (show am_sh h 0 = some (10, 0) ∧ pz_S 2 (some .int) am_r94 4 Q 107 [(0, .ref 0), (1, .int y)] [am_rf (h.2.2.1 0 7), .ref 17] h from ⟨ex_0 hP, ?_⟩)
      rw [show am_rf (h.2.2.1 0 7) = .ref 36 from congrArg am_rf (ex_r0_7 hP)]
      refine am_goX 1 (show am_sh h 36 = some (6, 0) ∧ pz_S 2 (some .int) am_r94 4 Q 110 [(0, .ref 0), (1, .int y)] [.int (h.1 36 0), .ref 17] h from ⟨ex_36 hP, ?_⟩)
      rw [show h.1 36 0 = s.1 from hS.1.1]
      refine am_goX 1 (show am_rc h 17 0 ∧ 0 ≤ 8 ∧ h.2.2.2.2 + am_al 68 ≤ 175 ∧ am_call am_cod 4 68 [.ref 17, .int s.1] h (fun vv h' => pz_S 2 (some .int) am_r94 4 Q 113 [(0, .ref 0), (1, .int y)] (vv.toList ++ []) h') from ⟨Or.inl ⟨by decide, ex_17 hP⟩, by decide, ex_lim hP rfl, am_call.up (d_68_t17 hP hT ?_) (by decide)⟩)
      suffices key : ∀ (v44 : Int32), v44 = (if (d_68 C s.1) = 0 then Int32.ofInt 0 else Int32.ofInt 1) → pz_S 2 (some .int) am_r94 4 Q 121 [] [.int v44] h by
        refine am_goX 1 (show ((d_68 C s.1) = 0 → pz_S 2 (some .int) am_r94 4 Q 120 [(0, .ref 0), (1, .int y)] [] h) ∧ (¬ ((d_68 C s.1) = 0) → pz_S 2 (some .int) am_r94 4 Q 116 [(0, .ref 0), (1, .int y)] [] h) from ⟨fun c43 => ?_, fun c43 => ?_⟩)
        · refine am_goX 1 (show pz_S 2 (some .int) am_r94 4 Q 121 [(0, .ref 0), (1, .int y)] [.int (Int32.ofInt 0)] h from ?_)
          exact sv_S2 sv2_94 (fun q hq => absurd hq List.not_mem_nil) (key _ (if_pos c43).symm)
        · refine am_goX 2 (show pz_S 2 (some .int) am_r94 4 Q 121 [(0, .ref 0), (1, .int y)] [.int (Int32.ofInt 1)] h from ?_)
          exact sv_S2 sv2_94 (fun q hq => absurd hq List.not_mem_nil) (key _ (if_neg c43).symm)
      intro v44 e45
      subst e45
      exact am_goX 1 (show (∃ ty, (some .int) = some ty ∧ narrow ty (.int (if (d_68 C s.1) = 0 then Int32.ofInt 0 else Int32.ofInt 1)) = .int (if (d_68 C s.1) = 0 then Int32.ofInt 0 else Int32.ofInt 1)) ∧ h.2.2.2.2 = 175 ∧ _ from ⟨⟨.int, rfl, rfl⟩, ex_175 hP, dn_q ((if_neg c31).trans ((if_neg c32).trans ((if_neg c33).trans ((if_neg c34).trans (if_pos c35))))) hQ⟩)
    · have c36 : y = Int32.ofInt 5 := Int32.toInt_inj.mp (hj1.trans (by decide))
      have c31 : ¬ y = Int32.ofInt 0 := by rw [c36]; decide
      have c32 : ¬ y = Int32.ofInt 1 := by rw [c36]; decide
      have c33 : ¬ y = Int32.ofInt 2 := by rw [c36]; decide
      have c34 : ¬ y = Int32.ofInt 3 := by rw [c36]; decide
      have c35 : ¬ y = Int32.ofInt 4 := by rw [c36]; decide
      show pz_S 2 (some .int) am_r94 4 Q 122 [(0, .ref 0), (1, .int y)] [] h
      refine am_goX 2 (show am_sh h 0 = some (10, 0) ∧ pz_S 2 (some .int) am_r94 4 Q 126 [(0, .ref 0), (1, .int y)] [am_rf (h.2.2.1 0 7)] h from ⟨ex_0 hP, ?_⟩)
      rw [show am_rf (h.2.2.1 0 7) = .ref 36 from congrArg am_rf (ex_r0_7 hP)]
      refine am_goX 1 (show am_rc h 36 6 ∧ 0 ≤ 8 ∧ h.2.2.2.2 + am_al 95 ≤ 175 ∧ am_call am_cod 4 95 [.ref 36] h (fun vv h' => pz_S 2 (some .int) am_r94 4 Q 129 [(0, .ref 0), (1, .int y)] (vv.toList ++ []) h') from ⟨Or.inl ⟨by decide, ex_36 hP⟩, by decide, ex_lim hP rfl, am_call.up (d_95_N17 hP hI hT hD hR hS ?_) (by decide)⟩)
      exact am_goX 1 (show (∃ ty, (some .int) = some ty ∧ narrow ty (.int (d_95 s)) = .int (d_95 s)) ∧ h.2.2.2.2 = 175 ∧ _ from ⟨⟨.int, rfl, rfl⟩, ex_175 hP, dn_q ((if_neg c31).trans ((if_neg c32).trans ((if_neg c33).trans ((if_neg c34).trans ((if_neg c35).trans (if_pos c36)))))) hQ⟩)
    · have c37 : y = Int32.ofInt 6 := Int32.toInt_inj.mp (hj1.trans (by decide))
      have c31 : ¬ y = Int32.ofInt 0 := by rw [c37]; decide
      have c32 : ¬ y = Int32.ofInt 1 := by rw [c37]; decide
      have c33 : ¬ y = Int32.ofInt 2 := by rw [c37]; decide
      have c34 : ¬ y = Int32.ofInt 3 := by rw [c37]; decide
      have c35 : ¬ y = Int32.ofInt 4 := by rw [c37]; decide
      have c36 : ¬ y = Int32.ofInt 5 := by rw [c37]; decide
      show pz_S 2 (some .int) am_r94 4 Q 130 [(0, .ref 0), (1, .int y)] [] h
      refine am_goX 2 (show am_sh h 0 = some (10, 0) ∧ pz_S 2 (some .int) am_r94 4 Q 134 [(0, .ref 0), (1, .int y)] [am_rf (h.2.2.1 0 7)] h from ⟨ex_0 hP, ?_⟩)
      rw [show am_rf (h.2.2.1 0 7) = .ref 36 from congrArg am_rf (ex_r0_7 hP)]
      refine am_goX 1 (show am_rc h 36 6 ∧ 0 ≤ 8 ∧ h.2.2.2.2 + am_al 96 ≤ 175 ∧ am_call am_cod 4 96 [.ref 36] h (fun vv h' => pz_S 2 (some .int) am_r94 4 Q 137 [(0, .ref 0), (1, .int y)] (vv.toList ++ []) h') from ⟨Or.inl ⟨by decide, ex_36 hP⟩, by decide, ex_lim hP rfl, am_call.up (d_96_N17 hP hI hT hD hR hS ?_) (by decide)⟩)
      exact am_goX 1 (show (∃ ty, (some .int) = some ty ∧ narrow ty (.int (d_96 s)) = .int (d_96 s)) ∧ h.2.2.2.2 = 175 ∧ _ from ⟨⟨.int, rfl, rfl⟩, ex_175 hP, dn_q ((if_neg c31).trans ((if_neg c32).trans ((if_neg c33).trans ((if_neg c34).trans ((if_neg c35).trans ((if_neg c36).trans (if_pos c37))))))) hQ⟩)
    · have c38 : y = Int32.ofInt 7 := Int32.toInt_inj.mp (hj1.trans (by decide))
      have c31 : ¬ y = Int32.ofInt 0 := by rw [c38]; decide
      have c32 : ¬ y = Int32.ofInt 1 := by rw [c38]; decide
      have c33 : ¬ y = Int32.ofInt 2 := by rw [c38]; decide
      have c34 : ¬ y = Int32.ofInt 3 := by rw [c38]; decide
      have c35 : ¬ y = Int32.ofInt 4 := by rw [c38]; decide
      have c36 : ¬ y = Int32.ofInt 5 := by rw [c38]; decide
      have c37 : ¬ y = Int32.ofInt 6 := by rw [c38]; decide
      show pz_S 2 (some .int) am_r94 4 Q 138 [(0, .ref 0), (1, .int y)] [] h
      refine am_goX 2 (show am_sh h 0 = some (10, 0) ∧ pz_S 2 (some .int) am_r94 4 Q 142 [(0, .ref 0), (1, .int y)] [am_rf (h.2.2.1 0 7)] h from ⟨ex_0 hP, ?_⟩)
      rw [show am_rf (h.2.2.1 0 7) = .ref 36 from congrArg am_rf (ex_r0_7 hP)]
      refine am_goX 1 (show am_sh h 36 = some (6, 0) ∧ pz_S 2 (some .int) am_r94 4 Q 145 [(0, .ref 0), (1, .int y)] [.int (h.1 36 1)] h from ⟨ex_36 hP, ?_⟩)
      rw [show h.1 36 1 = s.2.1 from hS.1.2]
      exact am_goX 1 (show (∃ ty, (some .int) = some ty ∧ narrow ty (.int s.2.1) = .int s.2.1) ∧ h.2.2.2.2 = 175 ∧ _ from ⟨⟨.int, rfl, rfl⟩, ex_175 hP, dn_q ((if_neg c31).trans ((if_neg c32).trans ((if_neg c33).trans ((if_neg c34).trans ((if_neg c35).trans ((if_neg c36).trans ((if_neg c37).trans (if_pos c38)))))))) hQ⟩)
    · have c39 : y = Int32.ofInt 8 := Int32.toInt_inj.mp (hj1.trans (by decide))
      have c31 : ¬ y = Int32.ofInt 0 := by rw [c39]; decide
      have c32 : ¬ y = Int32.ofInt 1 := by rw [c39]; decide
      have c33 : ¬ y = Int32.ofInt 2 := by rw [c39]; decide
      have c34 : ¬ y = Int32.ofInt 3 := by rw [c39]; decide
      have c35 : ¬ y = Int32.ofInt 4 := by rw [c39]; decide
      have c36 : ¬ y = Int32.ofInt 5 := by rw [c39]; decide
      have c37 : ¬ y = Int32.ofInt 6 := by rw [c39]; decide
      have c38 : ¬ y = Int32.ofInt 7 := by rw [c39]; decide
      show pz_S 2 (some .int) am_r94 4 Q 146 [(0, .ref 0), (1, .int y)] [] h
      refine am_goX 2 (show am_sh h 0 = some (10, 0) ∧ pz_S 2 (some .int) am_r94 4 Q 150 [(0, .ref 0), (1, .int y)] [am_rf (h.2.2.1 0 5)] h from ⟨ex_0 hP, ?_⟩)
      rw [show am_rf (h.2.2.1 0 5) = .ref 28 from congrArg am_rf (hw5)]
      refine am_goX 1 (show am_sh h 28 = some (8, 0) ∧ pz_S 2 (some .int) am_r94 4 Q 153 [(0, .ref 0), (1, .int y)] [.int (h.1 28 3)] h from ⟨ex_28 hP, ?_⟩)
      rw [show h.1 28 3 = nI wl from hwl]
      exact am_goX 1 (show (∃ ty, (some .int) = some ty ∧ narrow ty (.int (nI wl)) = .int (nI wl)) ∧ h.2.2.2.2 = 175 ∧ _ from ⟨⟨.int, rfl, rfl⟩, ex_175 hP, dn_q ((if_neg c31).trans ((if_neg c32).trans ((if_neg c33).trans ((if_neg c34).trans ((if_neg c35).trans ((if_neg c36).trans ((if_neg c37).trans ((if_neg c38).trans (if_pos c39))))))))) hQ⟩)
    · have c40 : y = Int32.ofInt 9 := Int32.toInt_inj.mp (hj1.trans (by decide))
      have c31 : ¬ y = Int32.ofInt 0 := by rw [c40]; decide
      have c32 : ¬ y = Int32.ofInt 1 := by rw [c40]; decide
      have c33 : ¬ y = Int32.ofInt 2 := by rw [c40]; decide
      have c34 : ¬ y = Int32.ofInt 3 := by rw [c40]; decide
      have c35 : ¬ y = Int32.ofInt 4 := by rw [c40]; decide
      have c36 : ¬ y = Int32.ofInt 5 := by rw [c40]; decide
      have c37 : ¬ y = Int32.ofInt 6 := by rw [c40]; decide
      have c38 : ¬ y = Int32.ofInt 7 := by rw [c40]; decide
      have c39 : ¬ y = Int32.ofInt 8 := by rw [c40]; decide
      show pz_S 2 (some .int) am_r94 4 Q 154 [(0, .ref 0), (1, .int y)] [] h
      refine am_goX 2 (show am_sh h 0 = some (10, 0) ∧ pz_S 2 (some .int) am_r94 4 Q 158 [(0, .ref 0), (1, .int y)] [.int (h.1 0 12)] h from ⟨ex_0 hP, ?_⟩)
      rw [show h.1 0 12 = nI sx from hx]
      exact am_goX 1 (show (∃ ty, (some .int) = some ty ∧ narrow ty (.int (nI sx)) = .int (nI sx)) ∧ h.2.2.2.2 = 175 ∧ _ from ⟨⟨.int, rfl, rfl⟩, ex_175 hP, dn_q ((if_neg c31).trans ((if_neg c32).trans ((if_neg c33).trans ((if_neg c34).trans ((if_neg c35).trans ((if_neg c36).trans ((if_neg c37).trans ((if_neg c38).trans ((if_neg c39).trans (if_pos c40)))))))))) hQ⟩)
    · have c41 : y = Int32.ofInt 10 := Int32.toInt_inj.mp (hj1.trans (by decide))
      have c31 : ¬ y = Int32.ofInt 0 := by rw [c41]; decide
      have c32 : ¬ y = Int32.ofInt 1 := by rw [c41]; decide
      have c33 : ¬ y = Int32.ofInt 2 := by rw [c41]; decide
      have c34 : ¬ y = Int32.ofInt 3 := by rw [c41]; decide
      have c35 : ¬ y = Int32.ofInt 4 := by rw [c41]; decide
      have c36 : ¬ y = Int32.ofInt 5 := by rw [c41]; decide
      have c37 : ¬ y = Int32.ofInt 6 := by rw [c41]; decide
      have c38 : ¬ y = Int32.ofInt 7 := by rw [c41]; decide
      have c39 : ¬ y = Int32.ofInt 8 := by rw [c41]; decide
      have c40 : ¬ y = Int32.ofInt 9 := by rw [c41]; decide
      show pz_S 2 (some .int) am_r94 4 Q 159 [(0, .ref 0), (1, .int y)] [] h
      refine am_goX 2 (show am_sh h 0 = some (10, 0) ∧ pz_S 2 (some .int) am_r94 4 Q 163 [(0, .ref 0), (1, .int y)] [am_rf (h.2.2.1 0 10)] h from ⟨ex_0 hP, ?_⟩)
      rw [show am_rf (h.2.2.1 0 10) = .ref 47 from congrArg am_rf (ex_r0_10 hP)]
      refine am_goX 1 (show am_sh h 47 = some (2, 0) ∧ pz_S 2 (some .int) am_r94 4 Q 166 [(0, .ref 0), (1, .int y)] [.int (h.1 47 2)] h from ⟨ex_47 hP, ?_⟩)
      rw [show h.1 47 2 = nI hn from hl]
      exact am_goX 1 (show (∃ ty, (some .int) = some ty ∧ narrow ty (.int (nI hn)) = .int (nI hn)) ∧ h.2.2.2.2 = 175 ∧ _ from ⟨⟨.int, rfl, rfl⟩, ex_175 hP, dn_q ((if_neg c31).trans ((if_neg c32).trans ((if_neg c33).trans ((if_neg c34).trans ((if_neg c35).trans ((if_neg c36).trans ((if_neg c37).trans ((if_neg c38).trans ((if_neg c39).trans ((if_neg c40).trans (if_pos c41))))))))))) hQ⟩)
    · have c42 : y = Int32.ofInt 11 := Int32.toInt_inj.mp (hj1.trans (by decide))
      have c31 : ¬ y = Int32.ofInt 0 := by rw [c42]; decide
      have c32 : ¬ y = Int32.ofInt 1 := by rw [c42]; decide
      have c33 : ¬ y = Int32.ofInt 2 := by rw [c42]; decide
      have c34 : ¬ y = Int32.ofInt 3 := by rw [c42]; decide
      have c35 : ¬ y = Int32.ofInt 4 := by rw [c42]; decide
      have c36 : ¬ y = Int32.ofInt 5 := by rw [c42]; decide
      have c37 : ¬ y = Int32.ofInt 6 := by rw [c42]; decide
      have c38 : ¬ y = Int32.ofInt 7 := by rw [c42]; decide
      have c39 : ¬ y = Int32.ofInt 8 := by rw [c42]; decide
      have c40 : ¬ y = Int32.ofInt 9 := by rw [c42]; decide
      have c41 : ¬ y = Int32.ofInt 10 := by rw [c42]; decide
      show pz_S 2 (some .int) am_r94 4 Q 167 [(0, .ref 0), (1, .int y)] [] h
      refine am_goX 2 (show am_sh h 0 = some (10, 0) ∧ pz_S 2 (some .int) am_r94 4 Q 171 [(0, .ref 0), (1, .int y)] [am_rf (h.2.2.1 0 0)] h from ⟨ex_0 hP, ?_⟩)
      rw [show am_rf (h.2.2.1 0 0) = .ref 1 from congrArg am_rf (ex_r0_0 hP)]
      refine am_goX 1 (show am_sh h 1 = some (7, 0) ∧ pz_S 2 (some .int) am_r94 4 Q 174 [(0, .ref 0), (1, .int y)] [.int (h.1 1 1)] h from ⟨ex_1 hP, ?_⟩)
      rw [show h.1 1 1 = nI tl from ht]
      exact am_goX 1 (show (∃ ty, (some .int) = some ty ∧ narrow ty (.int (nI tl)) = .int (nI tl)) ∧ h.2.2.2.2 = 175 ∧ _ from ⟨⟨.int, rfl, rfl⟩, ex_175 hP, dn_q ((if_neg c31).trans ((if_neg c32).trans ((if_neg c33).trans ((if_neg c34).trans ((if_neg c35).trans ((if_neg c36).trans ((if_neg c37).trans ((if_neg c38).trans ((if_neg c39).trans ((if_neg c40).trans ((if_neg c41).trans (if_pos c42)))))))))))) hQ⟩)
theorem d_94_W17_32 (hP : ex_P h) (hI : cI C) (hT : c_v 17 C h) (hD : c_d 17 C h) (hR : h.2.2.1 0 3 = some 17) (hS : sC 36 s h) (hl : h.1 47 2 = nI hn) (hx : h.1 0 12 = nI sx) (hw5 : h.2.2.1 0 5 = some 32) (hwl : h.1 32 3 = nI wl) (ht : h.1 1 1 = nI tl)  (hQ : Q (some (.int (d_94 C s hn sx wl tl y))) h) : am_call am_cod 5 94 [.ref 0, .int y] h Q := by
  have h6 := hT.1.2.1
  have h5 := hT.2.1.2.1
  refine pz_call (n := 94) (nL := 2) (rt := (some .int)) (rows := am_r94) (d := 4) (by decide +kernel) (by decide +kernel) rfl (by funext pc; rfl) (ex_175 hP) (by exact Nat.le_of_ble_eq_true rfl) ?_
  refine am_goX 2 (show ((y.toInt < 0 ∨ 11 < y.toInt) → pz_S 2 (some .int) am_r94 4 Q 175 [(0, .ref 0), (1, .int y)] [] h) ∧ (∀ j : Nat, y.toInt = 0 + (j : Int) → 0 + (j : Int) ≤ 11 → pz_S 2 (some .int) am_r94 4 Q ((1 : Int) + ((#[63, 71, 79, 87, 98, 121, 129, 137, 145, 153, 158, 166] : Array Int)[j]?).getD 0).toNat [(0, .ref 0), (1, .int y)] [] h) from ⟨fun hd => ?_, fun j hj1 hj2 => ?_⟩)
  · have c46 : ¬ y = Int32.ofInt 0 := fun w => by rw [w] at hd; revert hd; decide
    have c47 : ¬ y = Int32.ofInt 1 := fun w => by rw [w] at hd; revert hd; decide
    have c48 : ¬ y = Int32.ofInt 2 := fun w => by rw [w] at hd; revert hd; decide
    have c49 : ¬ y = Int32.ofInt 3 := fun w => by rw [w] at hd; revert hd; decide
    have c50 : ¬ y = Int32.ofInt 4 := fun w => by rw [w] at hd; revert hd; decide
    have c51 : ¬ y = Int32.ofInt 5 := fun w => by rw [w] at hd; revert hd; decide
    have c52 : ¬ y = Int32.ofInt 6 := fun w => by rw [w] at hd; revert hd; decide
    have c53 : ¬ y = Int32.ofInt 7 := fun w => by rw [w] at hd; revert hd; decide
    have c54 : ¬ y = Int32.ofInt 8 := fun w => by rw [w] at hd; revert hd; decide
    have c55 : ¬ y = Int32.ofInt 9 := fun w => by rw [w] at hd; revert hd; decide
    have c56 : ¬ y = Int32.ofInt 10 := fun w => by rw [w] at hd; revert hd; decide
    have c57 : ¬ y = Int32.ofInt 11 := fun w => by rw [w] at hd; revert hd; decide
    exact am_goX 2 (show (∃ ty, (some .int) = some ty ∧ narrow ty (.int (Int32.ofInt (-1))) = .int (Int32.ofInt (-1))) ∧ h.2.2.2.2 = 175 ∧ _ from ⟨⟨.int, rfl, rfl⟩, ex_175 hP, dn_q ((if_neg c46).trans ((if_neg c47).trans ((if_neg c48).trans ((if_neg c49).trans ((if_neg c50).trans ((if_neg c51).trans ((if_neg c52).trans ((if_neg c53).trans ((if_neg c54).trans ((if_neg c55).trans ((if_neg c56).trans (if_neg c57)))))))))))) hQ⟩)
  · have hj : j = 0 ∨ j = 1 ∨ j = 2 ∨ j = 3 ∨ j = 4 ∨ j = 5 ∨ j = 6 ∨ j = 7 ∨ j = 8 ∨ j = 9 ∨ j = 10 ∨ j = 11 := by omega
    rcases hj with rfl | rfl | rfl | rfl | rfl | rfl | rfl | rfl | rfl | rfl | rfl | rfl
    · have c46 : y = Int32.ofInt 0 := Int32.toInt_inj.mp (hj1.trans (by decide))
      show pz_S 2 (some .int) am_r94 4 Q 64 [(0, .ref 0), (1, .int y)] [] h
      refine am_goX 2 (show am_sh h 0 = some (10, 0) ∧ pz_S 2 (some .int) am_r94 4 Q 68 [(0, .ref 0), (1, .int y)] [am_rf (h.2.2.1 0 3)] h from ⟨ex_0 hP, ?_⟩)
      rw [show am_rf (h.2.2.1 0 3) = .ref 17 from congrArg am_rf (hR)]
      refine am_goX 1 (show am_sh h 17 = some (0, 0) ∧ pz_S 2 (some .int) am_r94 4 Q 71 [(0, .ref 0), (1, .int y)] [.int (h.1 17 0)] h from ⟨ex_17 hP, ?_⟩)
      rw [show h.1 17 0 = nI (dP C) from hT.1.1]
      exact am_goX 1 (show (∃ ty, (some .int) = some ty ∧ narrow ty (.int (nI (dP C))) = .int (nI (dP C))) ∧ h.2.2.2.2 = 175 ∧ _ from ⟨⟨.int, rfl, rfl⟩, ex_175 hP, dn_q (if_pos c46) hQ⟩)
    · have c47 : y = Int32.ofInt 1 := Int32.toInt_inj.mp (hj1.trans (by decide))
      have c46 : ¬ y = Int32.ofInt 0 := by rw [c47]; decide
      show pz_S 2 (some .int) am_r94 4 Q 72 [(0, .ref 0), (1, .int y)] [] h
      refine am_goX 2 (show am_sh h 0 = some (10, 0) ∧ pz_S 2 (some .int) am_r94 4 Q 76 [(0, .ref 0), (1, .int y)] [am_rf (h.2.2.1 0 3)] h from ⟨ex_0 hP, ?_⟩)
      rw [show am_rf (h.2.2.1 0 3) = .ref 17 from congrArg am_rf (hR)]
      refine am_goX 1 (show am_sh h 17 = some (0, 0) ∧ pz_S 2 (some .int) am_r94 4 Q 79 [(0, .ref 0), (1, .int y)] [.int (h.1 17 4)] h from ⟨ex_17 hP, ?_⟩)
      rw [show h.1 17 4 = nI (dE C) from hT.2.1.1]
      exact am_goX 1 (show (∃ ty, (some .int) = some ty ∧ narrow ty (.int (nI (dE C))) = .int (nI (dE C))) ∧ h.2.2.2.2 = 175 ∧ _ from ⟨⟨.int, rfl, rfl⟩, ex_175 hP, dn_q ((if_neg c46).trans (if_pos c47)) hQ⟩)
    · have c48 : y = Int32.ofInt 2 := Int32.toInt_inj.mp (hj1.trans (by decide))
      have c46 : ¬ y = Int32.ofInt 0 := by rw [c48]; decide
      have c47 : ¬ y = Int32.ofInt 1 := by rw [c48]; decide
      show pz_S 2 (some .int) am_r94 4 Q 80 [(0, .ref 0), (1, .int y)] [] h
      refine am_goX 2 (show am_sh h 0 = some (10, 0) ∧ pz_S 2 (some .int) am_r94 4 Q 84 [(0, .ref 0), (1, .int y)] [am_rf (h.2.2.1 0 7)] h from ⟨ex_0 hP, ?_⟩)
      rw [show am_rf (h.2.2.1 0 7) = .ref 36 from congrArg am_rf (ex_r0_7 hP)]
      refine am_goX 1 (show am_sh h 36 = some (6, 0) ∧ pz_S 2 (some .int) am_r94 4 Q 87 [(0, .ref 0), (1, .int y)] [.int (h.1 36 0)] h from ⟨ex_36 hP, ?_⟩)
      rw [show h.1 36 0 = s.1 from hS.1.1]
      exact am_goX 1 (show (∃ ty, (some .int) = some ty ∧ narrow ty (.int s.1) = .int s.1) ∧ h.2.2.2.2 = 175 ∧ _ from ⟨⟨.int, rfl, rfl⟩, ex_175 hP, dn_q ((if_neg c46).trans ((if_neg c47).trans (if_pos c48))) hQ⟩)
    · have c49 : y = Int32.ofInt 3 := Int32.toInt_inj.mp (hj1.trans (by decide))
      have c46 : ¬ y = Int32.ofInt 0 := by rw [c49]; decide
      have c47 : ¬ y = Int32.ofInt 1 := by rw [c49]; decide
      have c48 : ¬ y = Int32.ofInt 2 := by rw [c49]; decide
      show pz_S 2 (some .int) am_r94 4 Q 88 [(0, .ref 0), (1, .int y)] [] h
      refine am_goX 2 (show am_sh h 0 = some (10, 0) ∧ pz_S 2 (some .int) am_r94 4 Q 92 [(0, .ref 0), (1, .int y)] [am_rf (h.2.2.1 0 7)] h from ⟨ex_0 hP, ?_⟩)
      rw [show am_rf (h.2.2.1 0 7) = .ref 36 from congrArg am_rf (ex_r0_7 hP)]
      refine am_goX 1 (show am_sh h 36 = some (6, 0) ∧ pz_S 2 (some .int) am_r94 4 Q 95 [(0, .ref 0), (1, .int y)] [.int (h.1 36 0)] h from ⟨ex_36 hP, ?_⟩)
      rw [show h.1 36 0 = s.1 from hS.1.1]
      exact am_goX 3 (show ¬ ((Int8.ofInt 7).toInt32) = 0 ∧ (∃ ty, (some .int) = some ty ∧ narrow ty (.int (s.1 - s.1 / ((Int8.ofInt 7).toInt32) * ((Int8.ofInt 7).toInt32))) = .int (s.1 - s.1 / ((Int8.ofInt 7).toInt32) * ((Int8.ofInt 7).toInt32))) ∧ h.2.2.2.2 = 175 ∧ _ from ⟨by decide, ⟨.int, rfl, rfl⟩, ex_175 hP, dn_q ((if_neg c46).trans ((if_neg c47).trans ((if_neg c48).trans (if_pos c49)))) hQ⟩)
    · have c50 : y = Int32.ofInt 4 := Int32.toInt_inj.mp (hj1.trans (by decide))
      have c46 : ¬ y = Int32.ofInt 0 := by rw [c50]; decide
      have c47 : ¬ y = Int32.ofInt 1 := by rw [c50]; decide
      have c48 : ¬ y = Int32.ofInt 2 := by rw [c50]; decide
      have c49 : ¬ y = Int32.ofInt 3 := by rw [c50]; decide
      show pz_S 2 (some .int) am_r94 4 Q 99 [(0, .ref 0), (1, .int y)] [] h
      refine am_goX 2 (show am_sh h 0 = some (10, 0) ∧ pz_S 2 (some .int) am_r94 4 Q 103 [(0, .ref 0), (1, .int y)] [am_rf (h.2.2.1 0 3)] h from ⟨ex_0 hP, ?_⟩)
      rw [show am_rf (h.2.2.1 0 3) = .ref 17 from congrArg am_rf (hR)]
      refine am_goX 2 (show am_sh h 0 = some (10, 0) ∧ pz_S 2 (some .int) am_r94 4 Q 107 [(0, .ref 0), (1, .int y)] [am_rf (h.2.2.1 0 7), .ref 17] h from ⟨ex_0 hP, ?_⟩)
      rw [show am_rf (h.2.2.1 0 7) = .ref 36 from congrArg am_rf (ex_r0_7 hP)]
      refine am_goX 1 (show am_sh h 36 = some (6, 0) ∧ pz_S 2 (some .int) am_r94 4 Q 110 [(0, .ref 0), (1, .int y)] [.int (h.1 36 0), .ref 17] h from ⟨ex_36 hP, ?_⟩)
      rw [show h.1 36 0 = s.1 from hS.1.1]
      refine am_goX 1 (show am_rc h 17 0 ∧ 0 ≤ 8 ∧ h.2.2.2.2 + am_al 68 ≤ 175 ∧ am_call am_cod 4 68 [.ref 17, .int s.1] h (fun vv h' => pz_S 2 (some .int) am_r94 4 Q 113 [(0, .ref 0), (1, .int y)] (vv.toList ++ []) h') from ⟨Or.inl ⟨by decide, ex_17 hP⟩, by decide, ex_lim hP rfl, am_call.up (d_68_t17 hP hT ?_) (by decide)⟩)
      suffices key : ∀ (v59 : Int32), v59 = (if (d_68 C s.1) = 0 then Int32.ofInt 0 else Int32.ofInt 1) → pz_S 2 (some .int) am_r94 4 Q 121 [] [.int v59] h by
        refine am_goX 1 (show ((d_68 C s.1) = 0 → pz_S 2 (some .int) am_r94 4 Q 120 [(0, .ref 0), (1, .int y)] [] h) ∧ (¬ ((d_68 C s.1) = 0) → pz_S 2 (some .int) am_r94 4 Q 116 [(0, .ref 0), (1, .int y)] [] h) from ⟨fun c58 => ?_, fun c58 => ?_⟩)
        · refine am_goX 1 (show pz_S 2 (some .int) am_r94 4 Q 121 [(0, .ref 0), (1, .int y)] [.int (Int32.ofInt 0)] h from ?_)
          exact sv_S2 sv2_94 (fun q hq => absurd hq List.not_mem_nil) (key _ (if_pos c58).symm)
        · refine am_goX 2 (show pz_S 2 (some .int) am_r94 4 Q 121 [(0, .ref 0), (1, .int y)] [.int (Int32.ofInt 1)] h from ?_)
          exact sv_S2 sv2_94 (fun q hq => absurd hq List.not_mem_nil) (key _ (if_neg c58).symm)
      intro v59 e60
      subst e60
      exact am_goX 1 (show (∃ ty, (some .int) = some ty ∧ narrow ty (.int (if (d_68 C s.1) = 0 then Int32.ofInt 0 else Int32.ofInt 1)) = .int (if (d_68 C s.1) = 0 then Int32.ofInt 0 else Int32.ofInt 1)) ∧ h.2.2.2.2 = 175 ∧ _ from ⟨⟨.int, rfl, rfl⟩, ex_175 hP, dn_q ((if_neg c46).trans ((if_neg c47).trans ((if_neg c48).trans ((if_neg c49).trans (if_pos c50))))) hQ⟩)
    · have c51 : y = Int32.ofInt 5 := Int32.toInt_inj.mp (hj1.trans (by decide))
      have c46 : ¬ y = Int32.ofInt 0 := by rw [c51]; decide
      have c47 : ¬ y = Int32.ofInt 1 := by rw [c51]; decide
      have c48 : ¬ y = Int32.ofInt 2 := by rw [c51]; decide
      have c49 : ¬ y = Int32.ofInt 3 := by rw [c51]; decide
      have c50 : ¬ y = Int32.ofInt 4 := by rw [c51]; decide
      show pz_S 2 (some .int) am_r94 4 Q 122 [(0, .ref 0), (1, .int y)] [] h
      refine am_goX 2 (show am_sh h 0 = some (10, 0) ∧ pz_S 2 (some .int) am_r94 4 Q 126 [(0, .ref 0), (1, .int y)] [am_rf (h.2.2.1 0 7)] h from ⟨ex_0 hP, ?_⟩)
      rw [show am_rf (h.2.2.1 0 7) = .ref 36 from congrArg am_rf (ex_r0_7 hP)]
      refine am_goX 1 (show am_rc h 36 6 ∧ 0 ≤ 8 ∧ h.2.2.2.2 + am_al 95 ≤ 175 ∧ am_call am_cod 4 95 [.ref 36] h (fun vv h' => pz_S 2 (some .int) am_r94 4 Q 129 [(0, .ref 0), (1, .int y)] (vv.toList ++ []) h') from ⟨Or.inl ⟨by decide, ex_36 hP⟩, by decide, ex_lim hP rfl, am_call.up (d_95_N17 hP hI hT hD hR hS ?_) (by decide)⟩)
      exact am_goX 1 (show (∃ ty, (some .int) = some ty ∧ narrow ty (.int (d_95 s)) = .int (d_95 s)) ∧ h.2.2.2.2 = 175 ∧ _ from ⟨⟨.int, rfl, rfl⟩, ex_175 hP, dn_q ((if_neg c46).trans ((if_neg c47).trans ((if_neg c48).trans ((if_neg c49).trans ((if_neg c50).trans (if_pos c51)))))) hQ⟩)
    · have c52 : y = Int32.ofInt 6 := Int32.toInt_inj.mp (hj1.trans (by decide))
      have c46 : ¬ y = Int32.ofInt 0 := by rw [c52]; decide
      have c47 : ¬ y = Int32.ofInt 1 := by rw [c52]; decide
      have c48 : ¬ y = Int32.ofInt 2 := by rw [c52]; decide
      have c49 : ¬ y = Int32.ofInt 3 := by rw [c52]; decide
      have c50 : ¬ y = Int32.ofInt 4 := by rw [c52]; decide
      have c51 : ¬ y = Int32.ofInt 5 := by rw [c52]; decide
      show pz_S 2 (some .int) am_r94 4 Q 130 [(0, .ref 0), (1, .int y)] [] h
      refine am_goX 2 (show am_sh h 0 = some (10, 0) ∧ pz_S 2 (some .int) am_r94 4 Q 134 [(0, .ref 0), (1, .int y)] [am_rf (h.2.2.1 0 7)] h from ⟨ex_0 hP, ?_⟩)
      rw [show am_rf (h.2.2.1 0 7) = .ref 36 from congrArg am_rf (ex_r0_7 hP)]
      refine am_goX 1 (show am_rc h 36 6 ∧ 0 ≤ 8 ∧ h.2.2.2.2 + am_al 96 ≤ 175 ∧ am_call am_cod 4 96 [.ref 36] h (fun vv h' => pz_S 2 (some .int) am_r94 4 Q 137 [(0, .ref 0), (1, .int y)] (vv.toList ++ []) h') from ⟨Or.inl ⟨by decide, ex_36 hP⟩, by decide, ex_lim hP rfl, am_call.up (d_96_N17 hP hI hT hD hR hS ?_) (by decide)⟩)
      exact am_goX 1 (show (∃ ty, (some .int) = some ty ∧ narrow ty (.int (d_96 s)) = .int (d_96 s)) ∧ h.2.2.2.2 = 175 ∧ _ from ⟨⟨.int, rfl, rfl⟩, ex_175 hP, dn_q ((if_neg c46).trans ((if_neg c47).trans ((if_neg c48).trans ((if_neg c49).trans ((if_neg c50).trans ((if_neg c51).trans (if_pos c52))))))) hQ⟩)
    · have c53 : y = Int32.ofInt 7 := Int32.toInt_inj.mp (hj1.trans (by decide))
      have c46 : ¬ y = Int32.ofInt 0 := by rw [c53]; decide
      have c47 : ¬ y = Int32.ofInt 1 := by rw [c53]; decide
      have c48 : ¬ y = Int32.ofInt 2 := by rw [c53]; decide
      have c49 : ¬ y = Int32.ofInt 3 := by rw [c53]; decide
      have c50 : ¬ y = Int32.ofInt 4 := by rw [c53]; decide
      have c51 : ¬ y = Int32.ofInt 5 := by rw [c53]; decide
      have c52 : ¬ y = Int32.ofInt 6 := by rw [c53]; decide
      show pz_S 2 (some .int) am_r94 4 Q 138 [(0, .ref 0), (1, .int y)] [] h
      refine am_goX 2 (show am_sh h 0 = some (10, 0) ∧ pz_S 2 (some .int) am_r94 4 Q 142 [(0, .ref 0), (1, .int y)] [am_rf (h.2.2.1 0 7)] h from ⟨ex_0 hP, ?_⟩)
      rw [show am_rf (h.2.2.1 0 7) = .ref 36 from congrArg am_rf (ex_r0_7 hP)]
      refine am_goX 1 (show am_sh h 36 = some (6, 0) ∧ pz_S 2 (some .int) am_r94 4 Q 145 [(0, .ref 0), (1, .int y)] [.int (h.1 36 1)] h from ⟨ex_36 hP, ?_⟩)
      rw [show h.1 36 1 = s.2.1 from hS.1.2]
      exact am_goX 1 (show (∃ ty, (some .int) = some ty ∧ narrow ty (.int s.2.1) = .int s.2.1) ∧ h.2.2.2.2 = 175 ∧ _ from ⟨⟨.int, rfl, rfl⟩, ex_175 hP, dn_q ((if_neg c46).trans ((if_neg c47).trans ((if_neg c48).trans ((if_neg c49).trans ((if_neg c50).trans ((if_neg c51).trans ((if_neg c52).trans (if_pos c53)))))))) hQ⟩)
    · have c54 : y = Int32.ofInt 8 := Int32.toInt_inj.mp (hj1.trans (by decide))
      have c46 : ¬ y = Int32.ofInt 0 := by rw [c54]; decide
      have c47 : ¬ y = Int32.ofInt 1 := by rw [c54]; decide
      have c48 : ¬ y = Int32.ofInt 2 := by rw [c54]; decide
      have c49 : ¬ y = Int32.ofInt 3 := by rw [c54]; decide
      have c50 : ¬ y = Int32.ofInt 4 := by rw [c54]; decide
      have c51 : ¬ y = Int32.ofInt 5 := by rw [c54]; decide
      have c52 : ¬ y = Int32.ofInt 6 := by rw [c54]; decide
      have c53 : ¬ y = Int32.ofInt 7 := by rw [c54]; decide
      show pz_S 2 (some .int) am_r94 4 Q 146 [(0, .ref 0), (1, .int y)] [] h
      refine am_goX 2 (show am_sh h 0 = some (10, 0) ∧ pz_S 2 (some .int) am_r94 4 Q 150 [(0, .ref 0), (1, .int y)] [am_rf (h.2.2.1 0 5)] h from ⟨ex_0 hP, ?_⟩)
      rw [show am_rf (h.2.2.1 0 5) = .ref 32 from congrArg am_rf (hw5)]
      refine am_goX 1 (show am_sh h 32 = some (8, 0) ∧ pz_S 2 (some .int) am_r94 4 Q 153 [(0, .ref 0), (1, .int y)] [.int (h.1 32 3)] h from ⟨ex_32 hP, ?_⟩)
      rw [show h.1 32 3 = nI wl from hwl]
      exact am_goX 1 (show (∃ ty, (some .int) = some ty ∧ narrow ty (.int (nI wl)) = .int (nI wl)) ∧ h.2.2.2.2 = 175 ∧ _ from ⟨⟨.int, rfl, rfl⟩, ex_175 hP, dn_q ((if_neg c46).trans ((if_neg c47).trans ((if_neg c48).trans ((if_neg c49).trans ((if_neg c50).trans ((if_neg c51).trans ((if_neg c52).trans ((if_neg c53).trans (if_pos c54))))))))) hQ⟩)
    · have c55 : y = Int32.ofInt 9 := Int32.toInt_inj.mp (hj1.trans (by decide))
      have c46 : ¬ y = Int32.ofInt 0 := by rw [c55]; decide
      have c47 : ¬ y = Int32.ofInt 1 := by rw [c55]; decide
      have c48 : ¬ y = Int32.ofInt 2 := by rw [c55]; decide
      have c49 : ¬ y = Int32.ofInt 3 := by rw [c55]; decide
      have c50 : ¬ y = Int32.ofInt 4 := by rw [c55]; decide
      have c51 : ¬ y = Int32.ofInt 5 := by rw [c55]; decide
      have c52 : ¬ y = Int32.ofInt 6 := by rw [c55]; decide
      have c53 : ¬ y = Int32.ofInt 7 := by rw [c55]; decide
      have c54 : ¬ y = Int32.ofInt 8 := by rw [c55]; decide
      show pz_S 2 (some .int) am_r94 4 Q 154 [(0, .ref 0), (1, .int y)] [] h
      refine am_goX 2 (show am_sh h 0 = some (10, 0) ∧ pz_S 2 (some .int) am_r94 4 Q 158 [(0, .ref 0), (1, .int y)] [.int (h.1 0 12)] h from ⟨ex_0 hP, ?_⟩)
      rw [show h.1 0 12 = nI sx from hx]
      exact am_goX 1 (show (∃ ty, (some .int) = some ty ∧ narrow ty (.int (nI sx)) = .int (nI sx)) ∧ h.2.2.2.2 = 175 ∧ _ from ⟨⟨.int, rfl, rfl⟩, ex_175 hP, dn_q ((if_neg c46).trans ((if_neg c47).trans ((if_neg c48).trans ((if_neg c49).trans ((if_neg c50).trans ((if_neg c51).trans ((if_neg c52).trans ((if_neg c53).trans ((if_neg c54).trans (if_pos c55)))))))))) hQ⟩)
    · have c56 : y = Int32.ofInt 10 := Int32.toInt_inj.mp (hj1.trans (by decide))
      have c46 : ¬ y = Int32.ofInt 0 := by rw [c56]; decide
      have c47 : ¬ y = Int32.ofInt 1 := by rw [c56]; decide
      have c48 : ¬ y = Int32.ofInt 2 := by rw [c56]; decide
      have c49 : ¬ y = Int32.ofInt 3 := by rw [c56]; decide
      have c50 : ¬ y = Int32.ofInt 4 := by rw [c56]; decide
      have c51 : ¬ y = Int32.ofInt 5 := by rw [c56]; decide
      have c52 : ¬ y = Int32.ofInt 6 := by rw [c56]; decide
      have c53 : ¬ y = Int32.ofInt 7 := by rw [c56]; decide
      have c54 : ¬ y = Int32.ofInt 8 := by rw [c56]; decide
      have c55 : ¬ y = Int32.ofInt 9 := by rw [c56]; decide
      show pz_S 2 (some .int) am_r94 4 Q 159 [(0, .ref 0), (1, .int y)] [] h
      refine am_goX 2 (show am_sh h 0 = some (10, 0) ∧ pz_S 2 (some .int) am_r94 4 Q 163 [(0, .ref 0), (1, .int y)] [am_rf (h.2.2.1 0 10)] h from ⟨ex_0 hP, ?_⟩)
      rw [show am_rf (h.2.2.1 0 10) = .ref 47 from congrArg am_rf (ex_r0_10 hP)]
      refine am_goX 1 (show am_sh h 47 = some (2, 0) ∧ pz_S 2 (some .int) am_r94 4 Q 166 [(0, .ref 0), (1, .int y)] [.int (h.1 47 2)] h from ⟨ex_47 hP, ?_⟩)
      rw [show h.1 47 2 = nI hn from hl]
      exact am_goX 1 (show (∃ ty, (some .int) = some ty ∧ narrow ty (.int (nI hn)) = .int (nI hn)) ∧ h.2.2.2.2 = 175 ∧ _ from ⟨⟨.int, rfl, rfl⟩, ex_175 hP, dn_q ((if_neg c46).trans ((if_neg c47).trans ((if_neg c48).trans ((if_neg c49).trans ((if_neg c50).trans ((if_neg c51).trans ((if_neg c52).trans ((if_neg c53).trans ((if_neg c54).trans ((if_neg c55).trans (if_pos c56))))))))))) hQ⟩)
    · have c57 : y = Int32.ofInt 11 := Int32.toInt_inj.mp (hj1.trans (by decide))
      have c46 : ¬ y = Int32.ofInt 0 := by rw [c57]; decide
      have c47 : ¬ y = Int32.ofInt 1 := by rw [c57]; decide
      have c48 : ¬ y = Int32.ofInt 2 := by rw [c57]; decide
      have c49 : ¬ y = Int32.ofInt 3 := by rw [c57]; decide
      have c50 : ¬ y = Int32.ofInt 4 := by rw [c57]; decide
      have c51 : ¬ y = Int32.ofInt 5 := by rw [c57]; decide
      have c52 : ¬ y = Int32.ofInt 6 := by rw [c57]; decide
      have c53 : ¬ y = Int32.ofInt 7 := by rw [c57]; decide
      have c54 : ¬ y = Int32.ofInt 8 := by rw [c57]; decide
      have c55 : ¬ y = Int32.ofInt 9 := by rw [c57]; decide
      have c56 : ¬ y = Int32.ofInt 10 := by rw [c57]; decide
      show pz_S 2 (some .int) am_r94 4 Q 167 [(0, .ref 0), (1, .int y)] [] h
      refine am_goX 2 (show am_sh h 0 = some (10, 0) ∧ pz_S 2 (some .int) am_r94 4 Q 171 [(0, .ref 0), (1, .int y)] [am_rf (h.2.2.1 0 0)] h from ⟨ex_0 hP, ?_⟩)
      rw [show am_rf (h.2.2.1 0 0) = .ref 1 from congrArg am_rf (ex_r0_0 hP)]
      refine am_goX 1 (show am_sh h 1 = some (7, 0) ∧ pz_S 2 (some .int) am_r94 4 Q 174 [(0, .ref 0), (1, .int y)] [.int (h.1 1 1)] h from ⟨ex_1 hP, ?_⟩)
      rw [show h.1 1 1 = nI tl from ht]
      exact am_goX 1 (show (∃ ty, (some .int) = some ty ∧ narrow ty (.int (nI tl)) = .int (nI tl)) ∧ h.2.2.2.2 = 175 ∧ _ from ⟨⟨.int, rfl, rfl⟩, ex_175 hP, dn_q ((if_neg c46).trans ((if_neg c47).trans ((if_neg c48).trans ((if_neg c49).trans ((if_neg c50).trans ((if_neg c51).trans ((if_neg c52).trans ((if_neg c53).trans ((if_neg c54).trans ((if_neg c55).trans ((if_neg c56).trans (if_pos c57)))))))))))) hQ⟩)
def d_245_5 (C : sp_C) (s : dS) : Nat → Nat → Int32 → Int32
  | 0, _, a3 => a3
  | m + 1, k, a3 => d_245_5 C s m (k + 1) (a3 + (s.2.2.2.2.1 k))
theorem d_245_5_M (hP : ex_P h) (hI : cI C) (hT : tR C h) (hO : ∀ e, e < dE C → h.1 172 e = dW V e) (hS : sR 0 (dP C) s h) : ∀ (m k : Nat) (a3 : Int32), k + m = dE C → (pz_S 5 (some .int) am_r245 0 Q 29 [(3, .int (d_245_5 C s m k a3))] [] h) → pz_S 5 (some .int) am_r245 0 Q 5 [(0, .ref 154), (1, .int ((Int8.ofInt 14).toInt32)), (2, .int (nI (dE C))), (3, .int a3), (4, .int (nI k))] [] h := by
  intro m
  induction m with
  | zero =>
    intro k a3 hk hZ
    have h6 := hT.1.2.1
    have h5 := hT.2.1.2.1
    refine am_goX 3 (show ((nI (dE C)) ≤ (nI k) → pz_S 5 (some .int) am_r245 0 Q 29 [(0, .ref 154), (1, .int ((Int8.ofInt 14).toInt32)), (2, .int (nI (dE C))), (3, .int a3), (4, .int (nI k))] [] h) ∧ (¬ ((nI (dE C)) ≤ (nI k)) → pz_S 5 (some .int) am_r245 0 Q 11 [(0, .ref 154), (1, .int ((Int8.ofInt 14).toInt32)), (2, .int (nI (dE C))), (3, .int a3), (4, .int (nI k))] [] h) from ⟨fun _ => ?_, fun hz => absurd (show nI (dE C) ≤ nI k from nI_le (by omega) (by omega)) hz⟩)
    exact sv_S2 sv2_245 (by intro q hq; simp only [List.mem_cons, List.not_mem_nil, or_false] at hq; rcases hq with rfl <;> rfl) (hZ)
  | succ m ih =>
    intro k a3 hk hZ
    have h6 := hT.1.2.1
    have h5 := hT.2.1.2.1
    refine am_goX 3 (show ((nI (dE C)) ≤ (nI k) → pz_S 5 (some .int) am_r245 0 Q 29 [(0, .ref 154), (1, .int ((Int8.ofInt 14).toInt32)), (2, .int (nI (dE C))), (3, .int a3), (4, .int (nI k))] [] h) ∧ (¬ ((nI (dE C)) ≤ (nI k)) → pz_S 5 (some .int) am_r245 0 Q 11 [(0, .ref 154), (1, .int ((Int8.ofInt 14).toInt32)), (2, .int (nI (dE C))), (3, .int a3), (4, .int (nI k))] [] h) from ⟨fun hz => absurd hz (show ¬ (nI (dE C) ≤ nI k) by rw [nI_leI (by omega) (by omega)]; omega), fun _ => ?_⟩)
    refine am_goX 3 (show am_sh h 154 = some (11, 0) ∧ pz_S 5 (some .int) am_r245 0 Q 16 [(0, .ref 154), (1, .int ((Int8.ofInt 14).toInt32)), (2, .int (nI (dE C))), (3, .int a3), (4, .int (nI k))] [am_rf (h.2.2.1 154 24), .int a3] h from ⟨ex_154 hP, ?_⟩)
    rw [show am_rf (h.2.2.1 154 24) = .ref 170 from congrArg am_rf (ex_r154_24 hP)]
    refine am_goX 4 (show ∃ jj nn : Nat, am_sh h 170 = some (13, nn) ∧ jj < nn ∧ ((Int8.ofInt 14).toInt32) + (nI k) = nI jj ∧ pz_S 5 (some .int) am_r245 0 Q 21 [(0, .ref 154), (1, .int ((Int8.ofInt 14).toInt32)), (2, .int (nI (dE C))), (3, .int a3), (4, .int (nI k))] [.int (h.1 170 jj), .int a3] h from ⟨(14 + k), 1127, ex_170 hP, (by omega), (dn_a (show (Int8.ofInt 14).toInt32 = nI 14 by decide) rfl), ?_⟩)
    rw [show h.1 170 (14 + k) = s.2.2.2.2.1 k from (by rw [show (14 + k) = 0 + 14 + k by omega]; exact (hS.2.2.2 k (by omega)).1)]
    refine am_goX 4 (show 3 < 5 ∧ 4 < 5 ∧ pz_S 5 (some .int) am_r245 0 Q 5 [(4, .int ((nI k) + (Int32.ofInt 1))), (3, .int (a3 + (s.2.2.2.2.1 k))), (0, .ref 154), (1, .int ((Int8.ofInt 14).toInt32)), (2, .int (nI (dE C)))] [] h from ⟨by decide, by decide, ?_⟩)
    rw [show (nI k) + (Int32.ofInt 1) = nI (k + 1) from (dn_a rfl rfl)]
    exact sv_S2 sv2_245 (by intro q hq; simp only [List.mem_cons, List.not_mem_nil, or_false] at hq; rcases hq with rfl | rfl | rfl | rfl | rfl <;> rfl) (ih (k + 1) (a3 + (s.2.2.2.2.1 k)) (by omega) hZ)
def d_245 (C : sp_C) (s : dS) : Int32 := d_245_5 C s (dE C) 0 (Int32.ofInt 0)
theorem d_245_M (hP : ex_P h) (hI : cI C) (hT : tR C h) (hO : ∀ e, e < dE C → h.1 172 e = dW V e) (hS : sR 0 (dP C) s h)  (hQ : Q (some (.int (d_245 C s))) h) : am_call am_cod 1 245 [.ref 154, .int ((Int8.ofInt 14).toInt32), .int (nI (dE C))] h Q := by
  have h6 := hT.1.2.1
  have h5 := hT.2.1.2.1
  refine pz_call (n := 245) (nL := 5) (rt := (some .int)) (rows := am_r245) (d := 0) (by decide +kernel) (by decide +kernel) rfl (by funext pc; rfl) (ex_175 hP) (by exact Nat.le_of_ble_eq_true rfl) ?_
  refine am_goX 4 (show 3 < 5 ∧ 4 < 5 ∧ pz_S 5 (some .int) am_r245 0 Q 5 [(4, .int (Int32.ofInt 0)), (3, .int (Int32.ofInt 0)), (0, .ref 154), (1, .int ((Int8.ofInt 14).toInt32)), (2, .int (nI (dE C)))] [] h from ⟨by decide, by decide, ?_⟩)
  refine sv_S2 sv2_245 (by intro q hq; simp only [List.mem_cons, List.not_mem_nil, or_false] at hq; rcases hq with rfl | rfl | rfl | rfl | rfl <;> rfl) (d_245_5_M hP hI hT hO hS (dE C) 0 (Int32.ofInt 0) (by omega) ?_)
  exact am_goX 2 (show (∃ ty, (some .int) = some ty ∧ narrow ty (.int (d_245_5 C s (dE C) 0 (Int32.ofInt 0))) = .int (d_245_5 C s (dE C) 0 (Int32.ofInt 0))) ∧ h.2.2.2.2 = 175 ∧ _ from ⟨⟨.int, rfl, rfl⟩, ex_175 hP, hQ⟩)
def d_244_4 (C : sp_C) (s : dS) : Nat → Nat → Int32 → Int32
  | 0, _, a2 => a2
  | m + 1, k, a2 => d_244_4 C s m (k + 1) (a2 + (d_235 (s.2.2.2.1 k)))
theorem d_244_4_M (hP : ex_P h) (hI : cI C) (hT : tR C h) (hO : ∀ e, e < dE C → h.1 172 e = dW V e) (hS : sR 0 (dP C) s h) : ∀ (m k : Nat) (a2 : Int32), k + m = dP C → (pz_S 4 (some .int) am_r244 1 Q 35 [(2, .int (d_244_4 C s m k a2))] [] h) → pz_S 4 (some .int) am_r244 1 Q 4 [(0, .ref 154), (1, .int (Int32.ofInt 0)), (2, .int a2), (3, .int (nI k))] [] h := by
  intro m
  induction m with
  | zero =>
    intro k a2 hk hZ
    have h6 := hT.1.2.1
    have h5 := hT.2.1.2.1
    refine am_goX 3 (show am_rc h 154 11 ∧ 1 ≤ 8 ∧ h.2.2.2.2 + am_al 186 ≤ 175 ∧ am_call am_cod 1 186 [.ref 154] h (fun vv h' => pz_S 4 (some .int) am_r244 1 Q 9 [(0, .ref 154), (1, .int (Int32.ofInt 0)), (2, .int a2), (3, .int (nI k))] (vv.toList ++ [.int (nI k)]) h') from ⟨Or.inl ⟨by decide, ex_154 hP⟩, by decide, ex_lim hP rfl, am_call.up (d_186_r hP hT ?_) (by decide)⟩)
    refine am_goX 1 (show ((nI (dP C)) ≤ (nI k) → pz_S 4 (some .int) am_r244 1 Q 35 [(0, .ref 154), (1, .int (Int32.ofInt 0)), (2, .int a2), (3, .int (nI k))] [] h) ∧ (¬ ((nI (dP C)) ≤ (nI k)) → pz_S 4 (some .int) am_r244 1 Q 12 [(0, .ref 154), (1, .int (Int32.ofInt 0)), (2, .int a2), (3, .int (nI k))] [] h) from ⟨fun _ => ?_, fun hz => absurd (show nI (dP C) ≤ nI k from nI_le (by omega) (by omega)) hz⟩)
    exact sv_S2 sv2_244 (by intro q hq; simp only [List.mem_cons, List.not_mem_nil, or_false] at hq; rcases hq with rfl <;> rfl) (hZ)
  | succ m ih =>
    intro k a2 hk hZ
    have h6 := hT.1.2.1
    have h5 := hT.2.1.2.1
    refine am_goX 3 (show am_rc h 154 11 ∧ 1 ≤ 8 ∧ h.2.2.2.2 + am_al 186 ≤ 175 ∧ am_call am_cod 1 186 [.ref 154] h (fun vv h' => pz_S 4 (some .int) am_r244 1 Q 9 [(0, .ref 154), (1, .int (Int32.ofInt 0)), (2, .int a2), (3, .int (nI k))] (vv.toList ++ [.int (nI k)]) h') from ⟨Or.inl ⟨by decide, ex_154 hP⟩, by decide, ex_lim hP rfl, am_call.up (d_186_r hP hT ?_) (by decide)⟩)
    refine am_goX 1 (show ((nI (dP C)) ≤ (nI k) → pz_S 4 (some .int) am_r244 1 Q 35 [(0, .ref 154), (1, .int (Int32.ofInt 0)), (2, .int a2), (3, .int (nI k))] [] h) ∧ (¬ ((nI (dP C)) ≤ (nI k)) → pz_S 4 (some .int) am_r244 1 Q 12 [(0, .ref 154), (1, .int (Int32.ofInt 0)), (2, .int a2), (3, .int (nI k))] [] h) from ⟨fun hz => absurd hz (show ¬ (nI (dP C) ≤ nI k) by rw [nI_leI (by omega) (by omega)]; omega), fun _ => ?_⟩)
    refine am_goX 3 (show am_sh h 154 = some (11, 0) ∧ pz_S 4 (some .int) am_r244 1 Q 17 [(0, .ref 154), (1, .int (Int32.ofInt 0)), (2, .int a2), (3, .int (nI k))] [am_rf (h.2.2.1 154 24), .int a2] h from ⟨ex_154 hP, ?_⟩)
    rw [show am_rf (h.2.2.1 154 24) = .ref 170 from congrArg am_rf (ex_r154_24 hP)]
    refine am_goX 6 (show ∃ jj nn : Nat, am_sh h 170 = some (13, nn) ∧ jj < nn ∧ ((Int32.ofInt 0) + ((Int8.ofInt 8).toInt32)) + (nI k) = nI jj ∧ pz_S 4 (some .int) am_r244 1 Q 24 [(0, .ref 154), (1, .int (Int32.ofInt 0)), (2, .int a2), (3, .int (nI k))] [.int (h.1 170 jj), .int a2] h from ⟨(8 + k), 1127, ex_170 hP, (by omega), (dn_a (dn_a rfl (show (Int8.ofInt 8).toInt32 = nI 8 by decide)) rfl), ?_⟩)
    rw [show h.1 170 (8 + k) = s.2.2.2.1 k from (by rw [show (8 + k) = 0 + 8 + k by omega]; exact hS.2.2.1 k (by omega))]
    refine am_goX 1 (show 1 ≤ 8 ∧ h.2.2.2.2 + am_al 235 ≤ 175 ∧ am_call am_cod 1 235 [.int (s.2.2.2.1 k)] h (fun vv h' => pz_S 4 (some .int) am_r244 1 Q 27 [(0, .ref 154), (1, .int (Int32.ofInt 0)), (2, .int a2), (3, .int (nI k))] (vv.toList ++ [.int a2]) h') from ⟨by decide, ex_lim hP rfl, am_call.up (d_235_w hP ?_) (by decide)⟩)
    refine am_goX 4 (show 2 < 4 ∧ 3 < 4 ∧ pz_S 4 (some .int) am_r244 1 Q 4 [(3, .int ((nI k) + (Int32.ofInt 1))), (2, .int (a2 + (d_235 (s.2.2.2.1 k)))), (0, .ref 154), (1, .int (Int32.ofInt 0))] [] h from ⟨by decide, by decide, ?_⟩)
    rw [show (nI k) + (Int32.ofInt 1) = nI (k + 1) from (dn_a rfl rfl)]
    exact sv_S2 sv2_244 (by intro q hq; simp only [List.mem_cons, List.not_mem_nil, or_false] at hq; rcases hq with rfl | rfl | rfl | rfl <;> rfl) (ih (k + 1) (a2 + (d_235 (s.2.2.2.1 k))) (by omega) hZ)
def d_244 (C : sp_C) (s : dS) : Int32 := (d_244_4 C s (dP C) 0 (Int32.ofInt 0)) / (Int32.ofInt 2)
theorem d_244_M (hP : ex_P h) (hI : cI C) (hT : tR C h) (hO : ∀ e, e < dE C → h.1 172 e = dW V e) (hS : sR 0 (dP C) s h)  (hQ : Q (some (.int (d_244 C s))) h) : am_call am_cod 2 244 [.ref 154, .int (Int32.ofInt 0)] h Q := by
  have h6 := hT.1.2.1
  have h5 := hT.2.1.2.1
  refine pz_call (n := 244) (nL := 4) (rt := (some .int)) (rows := am_r244) (d := 1) (by decide +kernel) (by decide +kernel) rfl (by funext pc; rfl) (ex_175 hP) (by exact Nat.le_of_ble_eq_true rfl) ?_
  refine am_goX 4 (show 2 < 4 ∧ 3 < 4 ∧ pz_S 4 (some .int) am_r244 1 Q 4 [(3, .int (Int32.ofInt 0)), (2, .int (Int32.ofInt 0)), (0, .ref 154), (1, .int (Int32.ofInt 0))] [] h from ⟨by decide, by decide, ?_⟩)
  refine sv_S2 sv2_244 (by intro q hq; simp only [List.mem_cons, List.not_mem_nil, or_false] at hq; rcases hq with rfl | rfl | rfl | rfl <;> rfl) (d_244_4_M hP hI hT hO hS (dP C) 0 (Int32.ofInt 0) (by omega) ?_)
  exact am_goX 4 (show ¬ (Int32.ofInt 2) = 0 ∧ (∃ ty, (some .int) = some ty ∧ narrow ty (.int ((d_244_4 C s (dP C) 0 (Int32.ofInt 0)) / (Int32.ofInt 2))) = .int ((d_244_4 C s (dP C) 0 (Int32.ofInt 0)) / (Int32.ofInt 2))) ∧ h.2.2.2.2 = 175 ∧ _ from ⟨by decide, ⟨.int, rfl, rfl⟩, ex_175 hP, hQ⟩)
def d_292 (C : sp_C) (s : dS) (hn sx wl tl : Nat) (y : Int32) : Int32 := (if y = Int32.ofInt 0 then nI (dP C) else (if y = Int32.ofInt 1 then nI (dE C) else (if y = Int32.ofInt 2 then s.1 else (if y = Int32.ofInt 3 then s.1 - s.1 / ((Int8.ofInt 7).toInt32) * ((Int8.ofInt 7).toInt32) else (if y = Int32.ofInt 4 then d_224 C s.1 else (if y = Int32.ofInt 5 then d_245 C s else (if y = Int32.ofInt 6 then d_244 C s else (if y = Int32.ofInt 7 then s.2.1 else (if y = Int32.ofInt 8 then nI wl else (if y = Int32.ofInt 9 then nI sx else (if y = Int32.ofInt 10 then nI hn else (if y = Int32.ofInt 11 then nI tl else Int32.ofInt (-1)))))))))))))
theorem d_292_MW (hP : ex_P h) (hI : cI C) (hT : tR C h) (hO : ∀ e, e < dE C → h.1 172 e = dW V e) (hS : sR 0 (dP C) s h) (hl : h.1 154 25 = nI hn) (hx : h.1 170 24 = nI sx) (hwl : h.1 167 0 = nI wl) (ht : h.1 154 2 = nI tl)  (hQ : ∀ g, Q (some (.int (d_292 C s hn sx wl tl y))) g) : am_call am_cod 5 292 [.ref 154, .int y] h Q := by
  have h6 := hT.1.2.1
  have h5 := hT.2.1.2.1
  refine pz_call (n := 292) (nL := 2) (rt := (some .int)) (rows := am_r292) (d := 4) (by decide +kernel) (by decide +kernel) rfl (by funext pc; rfl) (ex_175 hP) (by exact Nat.le_of_ble_eq_true rfl) ?_
  refine am_goX 3 (show am_sh h 154 = some (11, 0) ∧ narrow (am_fty 11 0) (.int (Int32.ofInt 0)) = .int (Int32.ofInt 0) ∧ fits (am_fty 11 0) (.int (Int32.ofInt 0)) = true ∧ pz_S 2 (some .int) am_r292 4 Q 5 [(0, .ref 154), (1, .int y)] [] (am_wI h 154 0 (Int32.ofInt 0)) from ⟨ex_154 hP, rfl, rfl, ?_⟩)
  have f62 : ex_P (am_wI h 154 0 (Int32.ofInt 0)) := hP
  have f63 : cI C := hI
  have f64 : tR C (am_wI h 154 0 (Int32.ofInt 0)) := tR_w (by omega) hT
  have f65 : ∀ e, e < dE C → (am_wI h 154 0 (Int32.ofInt 0)).1 172 e = dW V e := on_w (by omega) hO
  have f66 : sR 0 (dP C) s (am_wI h 154 0 (Int32.ofInt 0)) := sR_o (by omega) hS
  have f67 : (am_wI h 154 0 (Int32.ofInt 0)).1 154 25 = nI hn := (em_wn _ _ (by omega)).trans hl
  have f68 : (am_wI h 154 0 (Int32.ofInt 0)).1 170 24 = nI sx := (em_wn _ _ (by omega)).trans hx
  have f69 : (am_wI h 154 0 (Int32.ofInt 0)).1 167 0 = nI wl := (em_wn _ _ (by omega)).trans hwl
  have f70 : (am_wI h 154 0 (Int32.ofInt 0)).1 154 2 = nI tl := (em_wn _ _ (by omega)).trans ht
  generalize am_wI h 154 0 (Int32.ofInt 0) = h61 at f62 f63 f64 f65 f66 f67 f68 f69 f70 ⊢
  refine am_goX 2 (show ((y.toInt < 0 ∨ 11 < y.toInt) → pz_S 2 (some .int) am_r292 4 Q 152 [(0, .ref 154), (1, .int y)] [] h61) ∧ (∀ j : Nat, y.toInt = 0 + (j : Int) → 0 + (j : Int) ≤ 11 → pz_S 2 (some .int) am_r292 4 Q ((6 : Int) + ((#[62, 62, 69, 76, 86, 97, 108, 114, 121, 128, 136, 141] : Array Int)[j]?).getD 0).toNat [(0, .ref 154), (1, .int y)] [] h61) from ⟨fun hd => ?_, fun j hj1 hj2 => ?_⟩)
  · have c71 : ¬ y = Int32.ofInt 0 := fun w => by rw [w] at hd; revert hd; decide
    have c72 : ¬ y = Int32.ofInt 1 := fun w => by rw [w] at hd; revert hd; decide
    have c73 : ¬ y = Int32.ofInt 2 := fun w => by rw [w] at hd; revert hd; decide
    have c74 : ¬ y = Int32.ofInt 3 := fun w => by rw [w] at hd; revert hd; decide
    have c75 : ¬ y = Int32.ofInt 4 := fun w => by rw [w] at hd; revert hd; decide
    have c76 : ¬ y = Int32.ofInt 5 := fun w => by rw [w] at hd; revert hd; decide
    have c77 : ¬ y = Int32.ofInt 6 := fun w => by rw [w] at hd; revert hd; decide
    have c78 : ¬ y = Int32.ofInt 7 := fun w => by rw [w] at hd; revert hd; decide
    have c79 : ¬ y = Int32.ofInt 8 := fun w => by rw [w] at hd; revert hd; decide
    have c80 : ¬ y = Int32.ofInt 9 := fun w => by rw [w] at hd; revert hd; decide
    have c81 : ¬ y = Int32.ofInt 10 := fun w => by rw [w] at hd; revert hd; decide
    have c82 : ¬ y = Int32.ofInt 11 := fun w => by rw [w] at hd; revert hd; decide
    exact am_goX 2 (show (∃ ty, (some .int) = some ty ∧ narrow ty (.int (Int32.ofInt (-1))) = .int (Int32.ofInt (-1))) ∧ h61.2.2.2.2 = 175 ∧ _ from ⟨⟨.int, rfl, rfl⟩, ex_175 f62, dn_q ((if_neg c71).trans ((if_neg c72).trans ((if_neg c73).trans ((if_neg c74).trans ((if_neg c75).trans ((if_neg c76).trans ((if_neg c77).trans ((if_neg c78).trans ((if_neg c79).trans ((if_neg c80).trans ((if_neg c81).trans (if_neg c82)))))))))))) (hQ _)⟩)
  · have hj : j = 0 ∨ j = 1 ∨ j = 2 ∨ j = 3 ∨ j = 4 ∨ j = 5 ∨ j = 6 ∨ j = 7 ∨ j = 8 ∨ j = 9 ∨ j = 10 ∨ j = 11 := by omega
    rcases hj with rfl | rfl | rfl | rfl | rfl | rfl | rfl | rfl | rfl | rfl | rfl | rfl
    · have c71 : y = Int32.ofInt 0 := Int32.toInt_inj.mp (hj1.trans (by decide))
      show pz_S 2 (some .int) am_r292 4 Q 68 [(0, .ref 154), (1, .int y)] [] h61
      refine am_goX 2 (show am_sh h61 154 = some (11, 0) ∧ pz_S 2 (some .int) am_r292 4 Q 72 [(0, .ref 154), (1, .int y)] [am_rf (h61.2.2.1 154 10)] h61 from ⟨ex_154 f62, ?_⟩)
      rw [show am_rf (h61.2.2.1 154 10) = .ref 160 from congrArg am_rf (ex_r154_10 f62)]
      refine am_goX 1 (show pz_S 2 (some .int) am_r292 4 Q 73 [(0, .ref 154), (1, .int y)] [.int y, .ref 160] h61 from ?_)
      rw [show y = Int32.ofInt 0 from c71]
      refine am_goX 1 (show ∃ jj nn : Nat, am_sh h61 160 = some (13, nn) ∧ jj < nn ∧ Int32.ofInt 0 = nI jj ∧ pz_S 2 (some .int) am_r292 4 Q 74 [(0, .ref 154), (1, .int (Int32.ofInt 0))] [.int (h61.1 160 jj)] h61 from ⟨0, 80, ex_160 f62, (by omega), rfl, ?_⟩)
      rw [show h61.1 160 0 = nI (dP C) from f64.1.1]
      exact am_goX 1 (show (∃ ty, (some .int) = some ty ∧ narrow ty (.int (nI (dP C))) = .int (nI (dP C))) ∧ h61.2.2.2.2 = 175 ∧ _ from ⟨⟨.int, rfl, rfl⟩, ex_175 f62, dn_q (if_pos c71) (hQ _)⟩)
    · have c72 : y = Int32.ofInt 1 := Int32.toInt_inj.mp (hj1.trans (by decide))
      have c71 : ¬ y = Int32.ofInt 0 := by rw [c72]; decide
      show pz_S 2 (some .int) am_r292 4 Q 68 [(0, .ref 154), (1, .int y)] [] h61
      refine am_goX 2 (show am_sh h61 154 = some (11, 0) ∧ pz_S 2 (some .int) am_r292 4 Q 72 [(0, .ref 154), (1, .int y)] [am_rf (h61.2.2.1 154 10)] h61 from ⟨ex_154 f62, ?_⟩)
      rw [show am_rf (h61.2.2.1 154 10) = .ref 160 from congrArg am_rf (ex_r154_10 f62)]
      refine am_goX 1 (show pz_S 2 (some .int) am_r292 4 Q 73 [(0, .ref 154), (1, .int y)] [.int y, .ref 160] h61 from ?_)
      rw [show y = Int32.ofInt 1 from c72]
      refine am_goX 1 (show ∃ jj nn : Nat, am_sh h61 160 = some (13, nn) ∧ jj < nn ∧ Int32.ofInt 1 = nI jj ∧ pz_S 2 (some .int) am_r292 4 Q 74 [(0, .ref 154), (1, .int (Int32.ofInt 1))] [.int (h61.1 160 jj)] h61 from ⟨1, 80, ex_160 f62, (by omega), rfl, ?_⟩)
      rw [show h61.1 160 1 = nI (dE C) from f64.2.1.1]
      exact am_goX 1 (show (∃ ty, (some .int) = some ty ∧ narrow ty (.int (nI (dE C))) = .int (nI (dE C))) ∧ h61.2.2.2.2 = 175 ∧ _ from ⟨⟨.int, rfl, rfl⟩, ex_175 f62, dn_q ((if_neg c71).trans (if_pos c72)) (hQ _)⟩)
    · have c73 : y = Int32.ofInt 2 := Int32.toInt_inj.mp (hj1.trans (by decide))
      have c71 : ¬ y = Int32.ofInt 0 := by rw [c73]; decide
      have c72 : ¬ y = Int32.ofInt 1 := by rw [c73]; decide
      show pz_S 2 (some .int) am_r292 4 Q 75 [(0, .ref 154), (1, .int y)] [] h61
      refine am_goX 2 (show am_sh h61 154 = some (11, 0) ∧ pz_S 2 (some .int) am_r292 4 Q 79 [(0, .ref 154), (1, .int y)] [am_rf (h61.2.2.1 154 24)] h61 from ⟨ex_154 f62, ?_⟩)
      rw [show am_rf (h61.2.2.1 154 24) = .ref 170 from congrArg am_rf (ex_r154_24 f62)]
      refine am_goX 2 (show ∃ jj nn : Nat, am_sh h61 170 = some (13, nn) ∧ jj < nn ∧ Int32.ofInt 0 = nI jj ∧ pz_S 2 (some .int) am_r292 4 Q 81 [(0, .ref 154), (1, .int y)] [.int (h61.1 170 jj)] h61 from ⟨0, 1127, ex_170 f62, (by omega), rfl, ?_⟩)
      rw [show h61.1 170 0 = s.1 from f66.1.1]
      exact am_goX 1 (show (∃ ty, (some .int) = some ty ∧ narrow ty (.int s.1) = .int s.1) ∧ h61.2.2.2.2 = 175 ∧ _ from ⟨⟨.int, rfl, rfl⟩, ex_175 f62, dn_q ((if_neg c71).trans ((if_neg c72).trans (if_pos c73))) (hQ _)⟩)
    · have c74 : y = Int32.ofInt 3 := Int32.toInt_inj.mp (hj1.trans (by decide))
      have c71 : ¬ y = Int32.ofInt 0 := by rw [c74]; decide
      have c72 : ¬ y = Int32.ofInt 1 := by rw [c74]; decide
      have c73 : ¬ y = Int32.ofInt 2 := by rw [c74]; decide
      show pz_S 2 (some .int) am_r292 4 Q 82 [(0, .ref 154), (1, .int y)] [] h61
      refine am_goX 2 (show am_sh h61 154 = some (11, 0) ∧ pz_S 2 (some .int) am_r292 4 Q 86 [(0, .ref 154), (1, .int y)] [am_rf (h61.2.2.1 154 24)] h61 from ⟨ex_154 f62, ?_⟩)
      rw [show am_rf (h61.2.2.1 154 24) = .ref 170 from congrArg am_rf (ex_r154_24 f62)]
      refine am_goX 2 (show ∃ jj nn : Nat, am_sh h61 170 = some (13, nn) ∧ jj < nn ∧ Int32.ofInt 0 = nI jj ∧ pz_S 2 (some .int) am_r292 4 Q 88 [(0, .ref 154), (1, .int y)] [.int (h61.1 170 jj)] h61 from ⟨0, 1127, ex_170 f62, (by omega), rfl, ?_⟩)
      rw [show h61.1 170 0 = s.1 from f66.1.1]
      exact am_goX 3 (show ¬ ((Int8.ofInt 7).toInt32) = 0 ∧ (∃ ty, (some .int) = some ty ∧ narrow ty (.int (s.1 - s.1 / ((Int8.ofInt 7).toInt32) * ((Int8.ofInt 7).toInt32))) = .int (s.1 - s.1 / ((Int8.ofInt 7).toInt32) * ((Int8.ofInt 7).toInt32))) ∧ h61.2.2.2.2 = 175 ∧ _ from ⟨by decide, ⟨.int, rfl, rfl⟩, ex_175 f62, dn_q ((if_neg c71).trans ((if_neg c72).trans ((if_neg c73).trans (if_pos c74)))) (hQ _)⟩)
    · have c75 : y = Int32.ofInt 4 := Int32.toInt_inj.mp (hj1.trans (by decide))
      have c71 : ¬ y = Int32.ofInt 0 := by rw [c75]; decide
      have c72 : ¬ y = Int32.ofInt 1 := by rw [c75]; decide
      have c73 : ¬ y = Int32.ofInt 2 := by rw [c75]; decide
      have c74 : ¬ y = Int32.ofInt 3 := by rw [c75]; decide
      show pz_S 2 (some .int) am_r292 4 Q 92 [(0, .ref 154), (1, .int y)] [] h61
      refine am_goX 3 (show am_sh h61 154 = some (11, 0) ∧ pz_S 2 (some .int) am_r292 4 Q 97 [(0, .ref 154), (1, .int y)] [am_rf (h61.2.2.1 154 24), .ref 154] h61 from ⟨ex_154 f62, ?_⟩)
      rw [show am_rf (h61.2.2.1 154 24) = .ref 170 from congrArg am_rf (ex_r154_24 f62)]
      refine am_goX 2 (show ∃ jj nn : Nat, am_sh h61 170 = some (13, nn) ∧ jj < nn ∧ Int32.ofInt 0 = nI jj ∧ pz_S 2 (some .int) am_r292 4 Q 99 [(0, .ref 154), (1, .int y)] [.int (h61.1 170 jj), .ref 154] h61 from ⟨0, 1127, ex_170 f62, (by omega), rfl, ?_⟩)
      rw [show h61.1 170 0 = s.1 from f66.1.1]
      refine am_goX 1 (show am_rc h61 154 11 ∧ 0 ≤ 8 ∧ h61.2.2.2.2 + am_al 224 ≤ 175 ∧ am_call am_cod 4 224 [.ref 154, .int s.1] h61 (fun vv h' => pz_S 2 (some .int) am_r292 4 Q 102 [(0, .ref 154), (1, .int y)] (vv.toList ++ []) h') from ⟨Or.inl ⟨by decide, ex_154 f62⟩, by decide, ex_lim f62 rfl, am_call.up (d_224_r f62 f64 ?_) (by decide)⟩)
      exact am_goX 1 (show (∃ ty, (some .int) = some ty ∧ narrow ty (.int (d_224 C s.1)) = .int (d_224 C s.1)) ∧ h61.2.2.2.2 = 175 ∧ _ from ⟨⟨.int, rfl, rfl⟩, ex_175 f62, dn_q ((if_neg c71).trans ((if_neg c72).trans ((if_neg c73).trans ((if_neg c74).trans (if_pos c75))))) (hQ _)⟩)
    · have c76 : y = Int32.ofInt 5 := Int32.toInt_inj.mp (hj1.trans (by decide))
      have c71 : ¬ y = Int32.ofInt 0 := by rw [c76]; decide
      have c72 : ¬ y = Int32.ofInt 1 := by rw [c76]; decide
      have c73 : ¬ y = Int32.ofInt 2 := by rw [c76]; decide
      have c74 : ¬ y = Int32.ofInt 3 := by rw [c76]; decide
      have c75 : ¬ y = Int32.ofInt 4 := by rw [c76]; decide
      show pz_S 2 (some .int) am_r292 4 Q 103 [(0, .ref 154), (1, .int y)] [] h61
      refine am_goX 4 (show am_rc h61 154 11 ∧ 2 ≤ 8 ∧ h61.2.2.2.2 + am_al 183 ≤ 175 ∧ am_call am_cod 4 183 [.ref 154] h61 (fun vv h' => pz_S 2 (some .int) am_r292 4 Q 110 [(0, .ref 154), (1, .int y)] (vv.toList ++ [.int ((Int8.ofInt 14).toInt32), .ref 154]) h') from ⟨Or.inl ⟨by decide, ex_154 f62⟩, by decide, ex_lim f62 rfl, am_call.up (d_183_r f62 f64 ?_) (by decide)⟩)
      refine am_goX 1 (show am_rc h61 154 11 ∧ 0 ≤ 8 ∧ h61.2.2.2.2 + am_al 245 ≤ 175 ∧ am_call am_cod 4 245 [.ref 154, .int ((Int8.ofInt 14).toInt32), .int (nI (dE C))] h61 (fun vv h' => pz_S 2 (some .int) am_r292 4 Q 113 [(0, .ref 154), (1, .int y)] (vv.toList ++ []) h') from ⟨Or.inl ⟨by decide, ex_154 f62⟩, by decide, ex_lim f62 rfl, am_call.up (d_245_M f62 f63 f64 f65 f66 ?_) (by decide)⟩)
      exact am_goX 1 (show (∃ ty, (some .int) = some ty ∧ narrow ty (.int (d_245 C s)) = .int (d_245 C s)) ∧ h61.2.2.2.2 = 175 ∧ _ from ⟨⟨.int, rfl, rfl⟩, ex_175 f62, dn_q ((if_neg c71).trans ((if_neg c72).trans ((if_neg c73).trans ((if_neg c74).trans ((if_neg c75).trans (if_pos c76)))))) (hQ _)⟩)
    · have c77 : y = Int32.ofInt 6 := Int32.toInt_inj.mp (hj1.trans (by decide))
      have c71 : ¬ y = Int32.ofInt 0 := by rw [c77]; decide
      have c72 : ¬ y = Int32.ofInt 1 := by rw [c77]; decide
      have c73 : ¬ y = Int32.ofInt 2 := by rw [c77]; decide
      have c74 : ¬ y = Int32.ofInt 3 := by rw [c77]; decide
      have c75 : ¬ y = Int32.ofInt 4 := by rw [c77]; decide
      have c76 : ¬ y = Int32.ofInt 5 := by rw [c77]; decide
      show pz_S 2 (some .int) am_r292 4 Q 114 [(0, .ref 154), (1, .int y)] [] h61
      refine am_goX 3 (show am_rc h61 154 11 ∧ 0 ≤ 8 ∧ h61.2.2.2.2 + am_al 244 ≤ 175 ∧ am_call am_cod 4 244 [.ref 154, .int (Int32.ofInt 0)] h61 (fun vv h' => pz_S 2 (some .int) am_r292 4 Q 119 [(0, .ref 154), (1, .int y)] (vv.toList ++ []) h') from ⟨Or.inl ⟨by decide, ex_154 f62⟩, by decide, ex_lim f62 rfl, am_call.up (d_244_M f62 f63 f64 f65 f66 ?_) (by decide)⟩)
      exact am_goX 1 (show (∃ ty, (some .int) = some ty ∧ narrow ty (.int (d_244 C s)) = .int (d_244 C s)) ∧ h61.2.2.2.2 = 175 ∧ _ from ⟨⟨.int, rfl, rfl⟩, ex_175 f62, dn_q ((if_neg c71).trans ((if_neg c72).trans ((if_neg c73).trans ((if_neg c74).trans ((if_neg c75).trans ((if_neg c76).trans (if_pos c77))))))) (hQ _)⟩)
    · have c78 : y = Int32.ofInt 7 := Int32.toInt_inj.mp (hj1.trans (by decide))
      have c71 : ¬ y = Int32.ofInt 0 := by rw [c78]; decide
      have c72 : ¬ y = Int32.ofInt 1 := by rw [c78]; decide
      have c73 : ¬ y = Int32.ofInt 2 := by rw [c78]; decide
      have c74 : ¬ y = Int32.ofInt 3 := by rw [c78]; decide
      have c75 : ¬ y = Int32.ofInt 4 := by rw [c78]; decide
      have c76 : ¬ y = Int32.ofInt 5 := by rw [c78]; decide
      have c77 : ¬ y = Int32.ofInt 6 := by rw [c78]; decide
      show pz_S 2 (some .int) am_r292 4 Q 120 [(0, .ref 154), (1, .int y)] [] h61
      refine am_goX 2 (show am_sh h61 154 = some (11, 0) ∧ pz_S 2 (some .int) am_r292 4 Q 124 [(0, .ref 154), (1, .int y)] [am_rf (h61.2.2.1 154 24)] h61 from ⟨ex_154 f62, ?_⟩)
      rw [show am_rf (h61.2.2.1 154 24) = .ref 170 from congrArg am_rf (ex_r154_24 f62)]
      refine am_goX 2 (show ∃ jj nn : Nat, am_sh h61 170 = some (13, nn) ∧ jj < nn ∧ Int32.ofInt 1 = nI jj ∧ pz_S 2 (some .int) am_r292 4 Q 126 [(0, .ref 154), (1, .int y)] [.int (h61.1 170 jj)] h61 from ⟨1, 1127, ex_170 f62, (by omega), rfl, ?_⟩)
      rw [show h61.1 170 1 = s.2.1 from f66.1.2]
      exact am_goX 1 (show (∃ ty, (some .int) = some ty ∧ narrow ty (.int s.2.1) = .int s.2.1) ∧ h61.2.2.2.2 = 175 ∧ _ from ⟨⟨.int, rfl, rfl⟩, ex_175 f62, dn_q ((if_neg c71).trans ((if_neg c72).trans ((if_neg c73).trans ((if_neg c74).trans ((if_neg c75).trans ((if_neg c76).trans ((if_neg c77).trans (if_pos c78)))))))) (hQ _)⟩)
    · have c79 : y = Int32.ofInt 8 := Int32.toInt_inj.mp (hj1.trans (by decide))
      have c71 : ¬ y = Int32.ofInt 0 := by rw [c79]; decide
      have c72 : ¬ y = Int32.ofInt 1 := by rw [c79]; decide
      have c73 : ¬ y = Int32.ofInt 2 := by rw [c79]; decide
      have c74 : ¬ y = Int32.ofInt 3 := by rw [c79]; decide
      have c75 : ¬ y = Int32.ofInt 4 := by rw [c79]; decide
      have c76 : ¬ y = Int32.ofInt 5 := by rw [c79]; decide
      have c77 : ¬ y = Int32.ofInt 6 := by rw [c79]; decide
      have c78 : ¬ y = Int32.ofInt 7 := by rw [c79]; decide
      show pz_S 2 (some .int) am_r292 4 Q 127 [(0, .ref 154), (1, .int y)] [] h61
      refine am_goX 2 (show am_sh h61 154 = some (11, 0) ∧ pz_S 2 (some .int) am_r292 4 Q 131 [(0, .ref 154), (1, .int y)] [am_rf (h61.2.2.1 154 21)] h61 from ⟨ex_154 f62, ?_⟩)
      rw [show am_rf (h61.2.2.1 154 21) = .ref 167 from congrArg am_rf (ex_r154_21 f62)]
      refine am_goX 2 (show ∃ jj nn : Nat, am_sh h61 167 = some (13, nn) ∧ jj < nn ∧ Int32.ofInt 0 = nI jj ∧ pz_S 2 (some .int) am_r292 4 Q 133 [(0, .ref 154), (1, .int y)] [.int (h61.1 167 jj)] h61 from ⟨0, 250, ex_167 f62, (by omega), rfl, ?_⟩)
      rw [show h61.1 167 0 = nI wl from f69]
      exact am_goX 1 (show (∃ ty, (some .int) = some ty ∧ narrow ty (.int (nI wl)) = .int (nI wl)) ∧ h61.2.2.2.2 = 175 ∧ _ from ⟨⟨.int, rfl, rfl⟩, ex_175 f62, dn_q ((if_neg c71).trans ((if_neg c72).trans ((if_neg c73).trans ((if_neg c74).trans ((if_neg c75).trans ((if_neg c76).trans ((if_neg c77).trans ((if_neg c78).trans (if_pos c79))))))))) (hQ _)⟩)
    · have c80 : y = Int32.ofInt 9 := Int32.toInt_inj.mp (hj1.trans (by decide))
      have c71 : ¬ y = Int32.ofInt 0 := by rw [c80]; decide
      have c72 : ¬ y = Int32.ofInt 1 := by rw [c80]; decide
      have c73 : ¬ y = Int32.ofInt 2 := by rw [c80]; decide
      have c74 : ¬ y = Int32.ofInt 3 := by rw [c80]; decide
      have c75 : ¬ y = Int32.ofInt 4 := by rw [c80]; decide
      have c76 : ¬ y = Int32.ofInt 5 := by rw [c80]; decide
      have c77 : ¬ y = Int32.ofInt 6 := by rw [c80]; decide
      have c78 : ¬ y = Int32.ofInt 7 := by rw [c80]; decide
      have c79 : ¬ y = Int32.ofInt 8 := by rw [c80]; decide
      show pz_S 2 (some .int) am_r292 4 Q 134 [(0, .ref 154), (1, .int y)] [] h61
      refine am_goX 2 (show am_sh h61 154 = some (11, 0) ∧ pz_S 2 (some .int) am_r292 4 Q 138 [(0, .ref 154), (1, .int y)] [am_rf (h61.2.2.1 154 24)] h61 from ⟨ex_154 f62, ?_⟩)
      rw [show am_rf (h61.2.2.1 154 24) = .ref 170 from congrArg am_rf (ex_r154_24 f62)]
      refine am_goX 2 (show ∃ jj nn : Nat, am_sh h61 170 = some (13, nn) ∧ jj < nn ∧ (Int8.ofInt 24).toInt32 = nI jj ∧ pz_S 2 (some .int) am_r292 4 Q 141 [(0, .ref 154), (1, .int y)] [.int (h61.1 170 jj)] h61 from ⟨24, 1127, ex_170 f62, (by omega), (show (Int8.ofInt 24).toInt32 = nI 24 by decide), ?_⟩)
      rw [show h61.1 170 24 = nI sx from f68]
      exact am_goX 1 (show (∃ ty, (some .int) = some ty ∧ narrow ty (.int (nI sx)) = .int (nI sx)) ∧ h61.2.2.2.2 = 175 ∧ _ from ⟨⟨.int, rfl, rfl⟩, ex_175 f62, dn_q ((if_neg c71).trans ((if_neg c72).trans ((if_neg c73).trans ((if_neg c74).trans ((if_neg c75).trans ((if_neg c76).trans ((if_neg c77).trans ((if_neg c78).trans ((if_neg c79).trans (if_pos c80)))))))))) (hQ _)⟩)
    · have c81 : y = Int32.ofInt 10 := Int32.toInt_inj.mp (hj1.trans (by decide))
      have c71 : ¬ y = Int32.ofInt 0 := by rw [c81]; decide
      have c72 : ¬ y = Int32.ofInt 1 := by rw [c81]; decide
      have c73 : ¬ y = Int32.ofInt 2 := by rw [c81]; decide
      have c74 : ¬ y = Int32.ofInt 3 := by rw [c81]; decide
      have c75 : ¬ y = Int32.ofInt 4 := by rw [c81]; decide
      have c76 : ¬ y = Int32.ofInt 5 := by rw [c81]; decide
      have c77 : ¬ y = Int32.ofInt 6 := by rw [c81]; decide
      have c78 : ¬ y = Int32.ofInt 7 := by rw [c81]; decide
      have c79 : ¬ y = Int32.ofInt 8 := by rw [c81]; decide
      have c80 : ¬ y = Int32.ofInt 9 := by rw [c81]; decide
      show pz_S 2 (some .int) am_r292 4 Q 142 [(0, .ref 154), (1, .int y)] [] h61
      refine am_goX 2 (show am_sh h61 154 = some (11, 0) ∧ pz_S 2 (some .int) am_r292 4 Q 146 [(0, .ref 154), (1, .int y)] [.int (h61.1 154 25)] h61 from ⟨ex_154 f62, ?_⟩)
      rw [show h61.1 154 25 = nI hn from f67]
      exact am_goX 1 (show (∃ ty, (some .int) = some ty ∧ narrow ty (.int (nI hn)) = .int (nI hn)) ∧ h61.2.2.2.2 = 175 ∧ _ from ⟨⟨.int, rfl, rfl⟩, ex_175 f62, dn_q ((if_neg c71).trans ((if_neg c72).trans ((if_neg c73).trans ((if_neg c74).trans ((if_neg c75).trans ((if_neg c76).trans ((if_neg c77).trans ((if_neg c78).trans ((if_neg c79).trans ((if_neg c80).trans (if_pos c81))))))))))) (hQ _)⟩)
    · have c82 : y = Int32.ofInt 11 := Int32.toInt_inj.mp (hj1.trans (by decide))
      have c71 : ¬ y = Int32.ofInt 0 := by rw [c82]; decide
      have c72 : ¬ y = Int32.ofInt 1 := by rw [c82]; decide
      have c73 : ¬ y = Int32.ofInt 2 := by rw [c82]; decide
      have c74 : ¬ y = Int32.ofInt 3 := by rw [c82]; decide
      have c75 : ¬ y = Int32.ofInt 4 := by rw [c82]; decide
      have c76 : ¬ y = Int32.ofInt 5 := by rw [c82]; decide
      have c77 : ¬ y = Int32.ofInt 6 := by rw [c82]; decide
      have c78 : ¬ y = Int32.ofInt 7 := by rw [c82]; decide
      have c79 : ¬ y = Int32.ofInt 8 := by rw [c82]; decide
      have c80 : ¬ y = Int32.ofInt 9 := by rw [c82]; decide
      have c81 : ¬ y = Int32.ofInt 10 := by rw [c82]; decide
      show pz_S 2 (some .int) am_r292 4 Q 147 [(0, .ref 154), (1, .int y)] [] h61
      refine am_goX 2 (show am_sh h61 154 = some (11, 0) ∧ pz_S 2 (some .int) am_r292 4 Q 151 [(0, .ref 154), (1, .int y)] [.int (h61.1 154 2)] h61 from ⟨ex_154 f62, ?_⟩)
      rw [show h61.1 154 2 = nI tl from f70]
      exact am_goX 1 (show (∃ ty, (some .int) = some ty ∧ narrow ty (.int (nI tl)) = .int (nI tl)) ∧ h61.2.2.2.2 = 175 ∧ _ from ⟨⟨.int, rfl, rfl⟩, ex_175 f62, dn_q ((if_neg c71).trans ((if_neg c72).trans ((if_neg c73).trans ((if_neg c74).trans ((if_neg c75).trans ((if_neg c76).trans ((if_neg c77).trans ((if_neg c78).trans ((if_neg c79).trans ((if_neg c80).trans ((if_neg c81).trans (if_pos c82)))))))))))) (hQ _)⟩)
theorem su_0 {C : sp_C} {D : Nat} {s : dS} (hs : sI C D s) : ∀ (m k : Nat) (a : Int32), dE C ≤ k → d_95_4 s m k a = a := by
  intro m
  induction m with
  | zero => exact fun _ _ _ => rfl
  | succ m ih =>
    intro k a hk
    rw [d_95_4, (hs.2.2.2.1 k hk).1, show a + 0 = a from Int32.add_zero _]
    exact ih _ _ (by omega)
theorem su_1 {C : sp_C} {D : Nat} {s : dS} (h5 : dE C ≤ 5) (hs : sI C D s) : ∀ (m k : Nat) (a : Int32), k + m = 5 → k ≤ dE C → d_95_4 s m k a = d_245_5 C s (dE C - k) k a := by
  intro m
  induction m with
  | zero =>
    intro k a hk hE
    rw [show dE C - k = 0 by omega]
    rfl
  | succ m ih =>
    intro k a hk hE
    by_cases hlt : k < dE C
    · rw [show dE C - k = (dE C - (k + 1)) + 1 by omega, d_95_4, d_245_5]
      exact ih _ _ (by omega) (by omega)
    · rw [show dE C - k = 0 by omega, su_0 hs (m + 1) k a (by omega)]
      rfl
theorem su_e {C : sp_C} {D : Nat} {s : dS} (hc : cI C) (hs : sI C D s) : d_245 C s = d_95 s := (su_1 hc.1.2 hs 5 0 (Int32.ofInt 0) (by omega) (Nat.zero_le _)).symm
theorem pm_0 {C : sp_C} {D : Nat} {s : dS} (hs : sI C D s) : ∀ (m k : Nat) (a : Int32), dP C ≤ k → d_96_4 s m k a = a := by
  intro m
  induction m with
  | zero => exact fun _ _ _ => rfl
  | succ m ih =>
    intro k a hk
    rw [d_96_4, (hs.2.2.1 k).2 hk, show a + d_69 0 = a from by rw [show d_69 0 = 0 by decide]; exact Int32.add_zero _]
    exact ih _ _ (by omega)
theorem pm_1 {C : sp_C} {D : Nat} {s : dS} (h6 : dP C ≤ 6) (hs : sI C D s) : ∀ (m k : Nat) (a : Int32), k + m = 6 → k ≤ dP C → d_96_4 s m k a = d_244_4 C s (dP C - k) k a := by
  intro m
  induction m with
  | zero =>
    intro k a hk hE
    rw [show dP C - k = 0 by omega]
    rfl
  | succ m ih =>
    intro k a hk hE
    by_cases hlt : k < dP C
    · rw [show dP C - k = (dP C - (k + 1)) + 1 by omega, d_96_4, d_244_4, bc_x (Nat.lt_of_lt_of_le (hs.2.2.1 k).1 (p64 h6))]
      exact ih _ _ (by omega) (by omega)
    · rw [show dP C - k = 0 by omega, pm_0 hs (m + 1) k a (by omega)]
      rfl
theorem pm_e {C : sp_C} {D : Nat} {s : dS} (hc : cI C) (hs : sI C D s) : d_244 C s = d_96 s := by
  unfold d_244 d_96
  rw [pm_1 hc.1.1 hs 6 0 (Int32.ofInt 0) (by omega) (Nat.zero_le _)]
  rfl
theorem cn_4 {C : sp_C} {x : Int32} : (if (d_68 C x) = 0 then Int32.ofInt 0 else Int32.ofInt 1) = d_224 C x := by
  rw [d_68_e]
  rcases d_224_01 C x with w | w
  · rw [w]; rfl
  · rw [w]; rfl
theorem cn_e {C : sp_C} {D : Nat} {s : dS} {hn sx wl tl : Nat} {y : Int32} (hc : cI C) (hs : sI C D s) : d_292 C s hn sx wl tl y = d_94 C s hn sx wl tl y := by
  unfold d_292 d_94
  rw [su_e hc hs, pm_e hc hs, cn_4]
theorem q_94 {h : am_H} {C : sp_C} {D : Nat} {s : dS} {H : dH} {M : dMk} {n t : Nat} {W : sw_W} (hI : iv_I h) (i : KI C D s H M n) (j : KC C s H M n h) (k : wC C W h) (ht : h.1 1 1 = nI t) (y : Int32) : am_call am_cod 60 94 [.ref 0, .int y] h (fun v _ => v = some (.int (d_94 C s H.1 n W.1 t y))) := by
  have hP := iv_P hI
  have hc := i.1
  obtain ⟨c, c1, c2, c3, c4, c5, c6, -, c8⟩ := j
  obtain ⟨-, w, w1, w2, w3, -⟩ := k
  rcases c1 with rfl | rfl
  · rcases w1 with rfl | rfl
    · exact am_call.up (d_94_W6_28 hP hc c3 c4 c2 c5 c6.2.1 c8 w2 w3 ht rfl) (by decide)
    · exact am_call.up (d_94_W6_32 hP hc c3 c4 c2 c5 c6.2.1 c8 w2 w3 ht rfl) (by decide)
  · rcases w1 with rfl | rfl
    · exact am_call.up (d_94_W17_28 hP hc c3 c4 c2 c5 c6.2.1 c8 w2 w3 ht rfl) (by decide)
    · exact am_call.up (d_94_W17_32 hP hc c3 c4 c2 c5 c6.2.1 c8 w2 w3 ht rfl) (by decide)
theorem q_292 {h : am_H} {C : sp_C} {D : Nat} {s : dS} {H : dH} {M : dMk} {n t : Nat} {W : sw_W} (hI : iv_I h) (i : KI C D s H M n) (j : KR C s H M n h) (k : wR C W h) (ht : h.1 154 2 = nI t) (y : Int32) : am_call am_cod 60 292 [.ref 154, .int y] h (fun v _ => v = some (.int (d_94 C s H.1 n W.1 t y))) := by
  have hP := iv_P hI
  have hc := i.1
  obtain ⟨r1, r2, r3, r4, -, r6⟩ := j
  exact am_call.up (d_292_MW hP hc r1 r2 r3 r4.2.1 r6 k.2.1 ht (fun g => by rw [cn_e hc i.2.1])) (by decide)

