section
/-! WALKS: hasBit, bitCount, of the class's told canton; the reference's small readers -/
variable {h : am_H} {Q : am_Q} {C : sp_C} {x y w : Int32} {p q e : Nat}
theorem sv2_65 : am_r65.all (fun q => sv2_ok q.2) = true := by decide +kernel
theorem sv2_87 : am_r87.all (fun q => sv2_ok q.2) = true := by decide +kernel
theorem sv2_91 : am_r91.all (fun q => sv2_ok q.2) = true := by decide +kernel
theorem sv2_166 : am_r166.all (fun q => sv2_ok q.2) = true := by decide +kernel
theorem sv2_167 : am_r167.all (fun q => sv2_ok q.2) = true := by decide +kernel
theorem sv2_221 : am_r221.all (fun q => sv2_ok q.2) = true := by decide +kernel
theorem sv2_235 : am_r235.all (fun q => sv2_ok q.2) = true := by decide +kernel
theorem sv2_283 : am_r283.all (fun q => sv2_ok q.2) = true := by decide +kernel
def d_65 (x y : Int32) : Int32 := (if ((x >>> (y &&& 31)) &&& (Int32.ofInt 1)) = 0 then Int32.ofInt 0 else Int32.ofInt 1)
theorem d_65_w (hP : ex_P h)  (hQ : Q (some (.int (d_65 x y))) h) : am_call am_cod 1 65 [.int x, .int y] h Q := by
  refine pz_call (n := 65) (nL := 2) (rt := (some .boolean)) (rows := am_r65) (d := 0) (by decide +kernel) (by decide +kernel) rfl (by funext pc; rfl) (ex_175 hP) (by exact Nat.le_of_ble_eq_true rfl) ?_
  suffices key : ∀ (v2 : Int32), v2 = (if ((x >>> (y &&& 31)) &&& (Int32.ofInt 1)) = 0 then Int32.ofInt 0 else Int32.ofInt 1) → pz_S 2 (some .boolean) am_r65 0 Q 13 [] [.int v2] h by
    refine am_goX 6 (show (((x >>> (y &&& 31)) &&& (Int32.ofInt 1)) = 0 → pz_S 2 (some .boolean) am_r65 0 Q 12 [(0, .int x), (1, .int y)] [] h) ∧ (¬ (((x >>> (y &&& 31)) &&& (Int32.ofInt 1)) = 0) → pz_S 2 (some .boolean) am_r65 0 Q 8 [(0, .int x), (1, .int y)] [] h) from ⟨fun c1 => ?_, fun c1 => ?_⟩)
    · refine am_goX 1 (show pz_S 2 (some .boolean) am_r65 0 Q 13 [(0, .int x), (1, .int y)] [.int (Int32.ofInt 0)] h from ?_)
      exact sv_S2 sv2_65 (fun q hq => absurd hq List.not_mem_nil) (key _ (if_pos c1).symm)
    · refine am_goX 2 (show pz_S 2 (some .boolean) am_r65 0 Q 13 [(0, .int x), (1, .int y)] [.int (Int32.ofInt 1)] h from ?_)
      exact sv_S2 sv2_65 (fun q hq => absurd hq List.not_mem_nil) (key _ (if_neg c1).symm)
  intro v2 e3
  subst e3
  exact am_goX 1 (show (∃ ty, (some .boolean) = some ty ∧ narrow ty (.int (if ((x >>> (y &&& 31)) &&& (Int32.ofInt 1)) = 0 then Int32.ofInt 0 else Int32.ofInt 1)) = .int (if ((x >>> (y &&& 31)) &&& (Int32.ofInt 1)) = 0 then Int32.ofInt 0 else Int32.ofInt 1)) ∧ h.2.2.2.2 = 175 ∧ _ from ⟨⟨.boolean, rfl, (by (repeat' split) <;> rfl)⟩, ex_175 hP, hQ⟩)
def d_69 (x : Int32) : Int32 := (((((((x - (((x.toUInt32 >>> ((Int32.ofInt 1).toUInt32 &&& Int32.toUInt32 31)).toInt32) &&& (am_ki 3))) &&& (am_ki 4)) + ((((x - (((x.toUInt32 >>> ((Int32.ofInt 1).toUInt32 &&& Int32.toUInt32 31)).toInt32) &&& (am_ki 3))).toUInt32 >>> ((Int32.ofInt 2).toUInt32 &&& Int32.toUInt32 31)).toInt32) &&& (am_ki 4))) + (((((x - (((x.toUInt32 >>> ((Int32.ofInt 1).toUInt32 &&& Int32.toUInt32 31)).toInt32) &&& (am_ki 3))) &&& (am_ki 4)) + ((((x - (((x.toUInt32 >>> ((Int32.ofInt 1).toUInt32 &&& Int32.toUInt32 31)).toInt32) &&& (am_ki 3))).toUInt32 >>> ((Int32.ofInt 2).toUInt32 &&& Int32.toUInt32 31)).toInt32) &&& (am_ki 4))).toUInt32 >>> ((Int32.ofInt 4).toUInt32 &&& Int32.toUInt32 31)).toInt32)) &&& (am_ki 5)) + (((((((x - (((x.toUInt32 >>> ((Int32.ofInt 1).toUInt32 &&& Int32.toUInt32 31)).toInt32) &&& (am_ki 3))) &&& (am_ki 4)) + ((((x - (((x.toUInt32 >>> ((Int32.ofInt 1).toUInt32 &&& Int32.toUInt32 31)).toInt32) &&& (am_ki 3))).toUInt32 >>> ((Int32.ofInt 2).toUInt32 &&& Int32.toUInt32 31)).toInt32) &&& (am_ki 4))) + (((((x - (((x.toUInt32 >>> ((Int32.ofInt 1).toUInt32 &&& Int32.toUInt32 31)).toInt32) &&& (am_ki 3))) &&& (am_ki 4)) + ((((x - (((x.toUInt32 >>> ((Int32.ofInt 1).toUInt32 &&& Int32.toUInt32 31)).toInt32) &&& (am_ki 3))).toUInt32 >>> ((Int32.ofInt 2).toUInt32 &&& Int32.toUInt32 31)).toInt32) &&& (am_ki 4))).toUInt32 >>> ((Int32.ofInt 4).toUInt32 &&& Int32.toUInt32 31)).toInt32)) &&& (am_ki 5)).toUInt32 >>> (((Int8.ofInt 8).toInt32).toUInt32 &&& Int32.toUInt32 31)).toInt32)) + ((((((((x - (((x.toUInt32 >>> ((Int32.ofInt 1).toUInt32 &&& Int32.toUInt32 31)).toInt32) &&& (am_ki 3))) &&& (am_ki 4)) + ((((x - (((x.toUInt32 >>> ((Int32.ofInt 1).toUInt32 &&& Int32.toUInt32 31)).toInt32) &&& (am_ki 3))).toUInt32 >>> ((Int32.ofInt 2).toUInt32 &&& Int32.toUInt32 31)).toInt32) &&& (am_ki 4))) + (((((x - (((x.toUInt32 >>> ((Int32.ofInt 1).toUInt32 &&& Int32.toUInt32 31)).toInt32) &&& (am_ki 3))) &&& (am_ki 4)) + ((((x - (((x.toUInt32 >>> ((Int32.ofInt 1).toUInt32 &&& Int32.toUInt32 31)).toInt32) &&& (am_ki 3))).toUInt32 >>> ((Int32.ofInt 2).toUInt32 &&& Int32.toUInt32 31)).toInt32) &&& (am_ki 4))).toUInt32 >>> ((Int32.ofInt 4).toUInt32 &&& Int32.toUInt32 31)).toInt32)) &&& (am_ki 5)) + (((((((x - (((x.toUInt32 >>> ((Int32.ofInt 1).toUInt32 &&& Int32.toUInt32 31)).toInt32) &&& (am_ki 3))) &&& (am_ki 4)) + ((((x - (((x.toUInt32 >>> ((Int32.ofInt 1).toUInt32 &&& Int32.toUInt32 31)).toInt32) &&& (am_ki 3))).toUInt32 >>> ((Int32.ofInt 2).toUInt32 &&& Int32.toUInt32 31)).toInt32) &&& (am_ki 4))) + (((((x - (((x.toUInt32 >>> ((Int32.ofInt 1).toUInt32 &&& Int32.toUInt32 31)).toInt32) &&& (am_ki 3))) &&& (am_ki 4)) + ((((x - (((x.toUInt32 >>> ((Int32.ofInt 1).toUInt32 &&& Int32.toUInt32 31)).toInt32) &&& (am_ki 3))).toUInt32 >>> ((Int32.ofInt 2).toUInt32 &&& Int32.toUInt32 31)).toInt32) &&& (am_ki 4))).toUInt32 >>> ((Int32.ofInt 4).toUInt32 &&& Int32.toUInt32 31)).toInt32)) &&& (am_ki 5)).toUInt32 >>> (((Int8.ofInt 8).toInt32).toUInt32 &&& Int32.toUInt32 31)).toInt32)).toUInt32 >>> (((Int8.ofInt 16).toInt32).toUInt32 &&& Int32.toUInt32 31)).toInt32)) &&& ((Int8.ofInt 63).toInt32)
theorem d_69_w (hP : ex_P h)  (hQ : Q (some (.int (d_69 x))) h) : am_call am_cod 1 69 [.int x] h Q := by
  refine pz_call (n := 69) (nL := 1) (rt := (some .int)) (rows := am_r69) (d := 0) (by decide +kernel) (by decide +kernel) rfl (by funext pc; rfl) (ex_175 hP) (by exact Nat.le_of_ble_eq_true rfl) ?_
  exact am_goX 42 (show 0 < 1 ∧ 0 < 1 ∧ 0 < 1 ∧ 0 < 1 ∧ 0 < 1 ∧ (∃ ty, (some .int) = some ty ∧ narrow ty (.int ((((((((x - (((x.toUInt32 >>> ((Int32.ofInt 1).toUInt32 &&& Int32.toUInt32 31)).toInt32) &&& (am_ki 3))) &&& (am_ki 4)) + ((((x - (((x.toUInt32 >>> ((Int32.ofInt 1).toUInt32 &&& Int32.toUInt32 31)).toInt32) &&& (am_ki 3))).toUInt32 >>> ((Int32.ofInt 2).toUInt32 &&& Int32.toUInt32 31)).toInt32) &&& (am_ki 4))) + (((((x - (((x.toUInt32 >>> ((Int32.ofInt 1).toUInt32 &&& Int32.toUInt32 31)).toInt32) &&& (am_ki 3))) &&& (am_ki 4)) + ((((x - (((x.toUInt32 >>> ((Int32.ofInt 1).toUInt32 &&& Int32.toUInt32 31)).toInt32) &&& (am_ki 3))).toUInt32 >>> ((Int32.ofInt 2).toUInt32 &&& Int32.toUInt32 31)).toInt32) &&& (am_ki 4))).toUInt32 >>> ((Int32.ofInt 4).toUInt32 &&& Int32.toUInt32 31)).toInt32)) &&& (am_ki 5)) + (((((((x - (((x.toUInt32 >>> ((Int32.ofInt 1).toUInt32 &&& Int32.toUInt32 31)).toInt32) &&& (am_ki 3))) &&& (am_ki 4)) + ((((x - (((x.toUInt32 >>> ((Int32.ofInt 1).toUInt32 &&& Int32.toUInt32 31)).toInt32) &&& (am_ki 3))).toUInt32 >>> ((Int32.ofInt 2).toUInt32 &&& Int32.toUInt32 31)).toInt32) &&& (am_ki 4))) + (((((x - (((x.toUInt32 >>> ((Int32.ofInt 1).toUInt32 &&& Int32.toUInt32 31)).toInt32) &&& (am_ki 3))) &&& (am_ki 4)) + ((((x - (((x.toUInt32 >>> ((Int32.ofInt 1).toUInt32 &&& Int32.toUInt32 31)).toInt32) &&& (am_ki 3))).toUInt32 >>> ((Int32.ofInt 2).toUInt32 &&& Int32.toUInt32 31)).toInt32) &&& (am_ki 4))).toUInt32 >>> ((Int32.ofInt 4).toUInt32 &&& Int32.toUInt32 31)).toInt32)) &&& (am_ki 5)).toUInt32 >>> (((Int8.ofInt 8).toInt32).toUInt32 &&& Int32.toUInt32 31)).toInt32)) + ((((((((x - (((x.toUInt32 >>> ((Int32.ofInt 1).toUInt32 &&& Int32.toUInt32 31)).toInt32) &&& (am_ki 3))) &&& (am_ki 4)) + ((((x - (((x.toUInt32 >>> ((Int32.ofInt 1).toUInt32 &&& Int32.toUInt32 31)).toInt32) &&& (am_ki 3))).toUInt32 >>> ((Int32.ofInt 2).toUInt32 &&& Int32.toUInt32 31)).toInt32) &&& (am_ki 4))) + (((((x - (((x.toUInt32 >>> ((Int32.ofInt 1).toUInt32 &&& Int32.toUInt32 31)).toInt32) &&& (am_ki 3))) &&& (am_ki 4)) + ((((x - (((x.toUInt32 >>> ((Int32.ofInt 1).toUInt32 &&& Int32.toUInt32 31)).toInt32) &&& (am_ki 3))).toUInt32 >>> ((Int32.ofInt 2).toUInt32 &&& Int32.toUInt32 31)).toInt32) &&& (am_ki 4))).toUInt32 >>> ((Int32.ofInt 4).toUInt32 &&& Int32.toUInt32 31)).toInt32)) &&& (am_ki 5)) + (((((((x - (((x.toUInt32 >>> ((Int32.ofInt 1).toUInt32 &&& Int32.toUInt32 31)).toInt32) &&& (am_ki 3))) &&& (am_ki 4)) + ((((x - (((x.toUInt32 >>> ((Int32.ofInt 1).toUInt32 &&& Int32.toUInt32 31)).toInt32) &&& (am_ki 3))).toUInt32 >>> ((Int32.ofInt 2).toUInt32 &&& Int32.toUInt32 31)).toInt32) &&& (am_ki 4))) + (((((x - (((x.toUInt32 >>> ((Int32.ofInt 1).toUInt32 &&& Int32.toUInt32 31)).toInt32) &&& (am_ki 3))) &&& (am_ki 4)) + ((((x - (((x.toUInt32 >>> ((Int32.ofInt 1).toUInt32 &&& Int32.toUInt32 31)).toInt32) &&& (am_ki 3))).toUInt32 >>> ((Int32.ofInt 2).toUInt32 &&& Int32.toUInt32 31)).toInt32) &&& (am_ki 4))).toUInt32 >>> ((Int32.ofInt 4).toUInt32 &&& Int32.toUInt32 31)).toInt32)) &&& (am_ki 5)).toUInt32 >>> (((Int8.ofInt 8).toInt32).toUInt32 &&& Int32.toUInt32 31)).toInt32)).toUInt32 >>> (((Int8.ofInt 16).toInt32).toUInt32 &&& Int32.toUInt32 31)).toInt32)) &&& ((Int8.ofInt 63).toInt32))) = .int ((((((((x - (((x.toUInt32 >>> ((Int32.ofInt 1).toUInt32 &&& Int32.toUInt32 31)).toInt32) &&& (am_ki 3))) &&& (am_ki 4)) + ((((x - (((x.toUInt32 >>> ((Int32.ofInt 1).toUInt32 &&& Int32.toUInt32 31)).toInt32) &&& (am_ki 3))).toUInt32 >>> ((Int32.ofInt 2).toUInt32 &&& Int32.toUInt32 31)).toInt32) &&& (am_ki 4))) + (((((x - (((x.toUInt32 >>> ((Int32.ofInt 1).toUInt32 &&& Int32.toUInt32 31)).toInt32) &&& (am_ki 3))) &&& (am_ki 4)) + ((((x - (((x.toUInt32 >>> ((Int32.ofInt 1).toUInt32 &&& Int32.toUInt32 31)).toInt32) &&& (am_ki 3))).toUInt32 >>> ((Int32.ofInt 2).toUInt32 &&& Int32.toUInt32 31)).toInt32) &&& (am_ki 4))).toUInt32 >>> ((Int32.ofInt 4).toUInt32 &&& Int32.toUInt32 31)).toInt32)) &&& (am_ki 5)) + (((((((x - (((x.toUInt32 >>> ((Int32.ofInt 1).toUInt32 &&& Int32.toUInt32 31)).toInt32) &&& (am_ki 3))) &&& (am_ki 4)) + ((((x - (((x.toUInt32 >>> ((Int32.ofInt 1).toUInt32 &&& Int32.toUInt32 31)).toInt32) &&& (am_ki 3))).toUInt32 >>> ((Int32.ofInt 2).toUInt32 &&& Int32.toUInt32 31)).toInt32) &&& (am_ki 4))) + (((((x - (((x.toUInt32 >>> ((Int32.ofInt 1).toUInt32 &&& Int32.toUInt32 31)).toInt32) &&& (am_ki 3))) &&& (am_ki 4)) + ((((x - (((x.toUInt32 >>> ((Int32.ofInt 1).toUInt32 &&& Int32.toUInt32 31)).toInt32) &&& (am_ki 3))).toUInt32 >>> ((Int32.ofInt 2).toUInt32 &&& Int32.toUInt32 31)).toInt32) &&& (am_ki 4))).toUInt32 >>> ((Int32.ofInt 4).toUInt32 &&& Int32.toUInt32 31)).toInt32)) &&& (am_ki 5)).toUInt32 >>> (((Int8.ofInt 8).toInt32).toUInt32 &&& Int32.toUInt32 31)).toInt32)) + ((((((((x - (((x.toUInt32 >>> ((Int32.ofInt 1).toUInt32 &&& Int32.toUInt32 31)).toInt32) &&& (am_ki 3))) &&& (am_ki 4)) + ((((x - (((x.toUInt32 >>> ((Int32.ofInt 1).toUInt32 &&& Int32.toUInt32 31)).toInt32) &&& (am_ki 3))).toUInt32 >>> ((Int32.ofInt 2).toUInt32 &&& Int32.toUInt32 31)).toInt32) &&& (am_ki 4))) + (((((x - (((x.toUInt32 >>> ((Int32.ofInt 1).toUInt32 &&& Int32.toUInt32 31)).toInt32) &&& (am_ki 3))) &&& (am_ki 4)) + ((((x - (((x.toUInt32 >>> ((Int32.ofInt 1).toUInt32 &&& Int32.toUInt32 31)).toInt32) &&& (am_ki 3))).toUInt32 >>> ((Int32.ofInt 2).toUInt32 &&& Int32.toUInt32 31)).toInt32) &&& (am_ki 4))).toUInt32 >>> ((Int32.ofInt 4).toUInt32 &&& Int32.toUInt32 31)).toInt32)) &&& (am_ki 5)) + (((((((x - (((x.toUInt32 >>> ((Int32.ofInt 1).toUInt32 &&& Int32.toUInt32 31)).toInt32) &&& (am_ki 3))) &&& (am_ki 4)) + ((((x - (((x.toUInt32 >>> ((Int32.ofInt 1).toUInt32 &&& Int32.toUInt32 31)).toInt32) &&& (am_ki 3))).toUInt32 >>> ((Int32.ofInt 2).toUInt32 &&& Int32.toUInt32 31)).toInt32) &&& (am_ki 4))) + (((((x - (((x.toUInt32 >>> ((Int32.ofInt 1).toUInt32 &&& Int32.toUInt32 31)).toInt32) &&& (am_ki 3))) &&& (am_ki 4)) + ((((x - (((x.toUInt32 >>> ((Int32.ofInt 1).toUInt32 &&& Int32.toUInt32 31)).toInt32) &&& (am_ki 3))).toUInt32 >>> ((Int32.ofInt 2).toUInt32 &&& Int32.toUInt32 31)).toInt32) &&& (am_ki 4))).toUInt32 >>> ((Int32.ofInt 4).toUInt32 &&& Int32.toUInt32 31)).toInt32)) &&& (am_ki 5)).toUInt32 >>> (((Int8.ofInt 8).toInt32).toUInt32 &&& Int32.toUInt32 31)).toInt32)).toUInt32 >>> (((Int8.ofInt 16).toInt32).toUInt32 &&& Int32.toUInt32 31)).toInt32)) &&& ((Int8.ofInt 63).toInt32))) ∧ h.2.2.2.2 = 175 ∧ _ from ⟨by decide, by decide, by decide, by decide, by decide, ⟨.int, rfl, rfl⟩, ex_175 hP, hQ⟩)
def d_87 (C : sp_C) (x : Int32) : Int32 := (if x < 0 then Int32.ofInt 0 else (if (nI (dP C)) ≤ x then Int32.ofInt 0 else Int32.ofInt 1))
theorem d_87_t6 (hP : ex_P h) (hT : c_v 6 C h) (hR : h.2.2.1 0 3 = some 6)  (hQ : Q (some (.int (d_87 C x))) h) : am_call am_cod 2 87 [.ref 0, .int x] h Q := by
  have h6 := hT.1.2.1
  have h5 := hT.2.1.2.1
  refine pz_call (n := 87) (nL := 2) (rt := (some .boolean)) (rows := am_r87) (d := 1) (by decide +kernel) (by decide +kernel) rfl (by funext pc; rfl) (ex_175 hP) (by exact Nat.le_of_ble_eq_true rfl) ?_
  suffices key : ∀ (v5 : Int32), v5 = (if x < 0 then Int32.ofInt 0 else (if (nI (dP C)) ≤ x then Int32.ofInt 0 else Int32.ofInt 1)) → pz_S 2 (some .boolean) am_r87 1 Q 20 [] [.int v5] h by
    refine am_goX 2 (show (x < 0 → pz_S 2 (some .boolean) am_r87 1 Q 19 [(0, .ref 0), (1, .int x)] [] h) ∧ (¬ (x < 0) → pz_S 2 (some .boolean) am_r87 1 Q 4 [(0, .ref 0), (1, .int x)] [] h) from ⟨fun c4 => ?_, fun c4 => ?_⟩)
    · refine am_goX 1 (show pz_S 2 (some .boolean) am_r87 1 Q 20 [(0, .ref 0), (1, .int x)] [.int (Int32.ofInt 0)] h from ?_)
      exact sv_S2 sv2_87 (fun q hq => absurd hq List.not_mem_nil) (key _ (if_pos c4).symm)
    · refine am_goX 3 (show am_sh h 0 = some (10, 0) ∧ pz_S 2 (some .boolean) am_r87 1 Q 9 [(0, .ref 0), (1, .int x)] [am_rf (h.2.2.1 0 3), .int x] h from ⟨ex_0 hP, ?_⟩)
      rw [show am_rf (h.2.2.1 0 3) = .ref 6 from congrArg am_rf (hR)]
      refine am_goX 1 (show am_sh h 6 = some (0, 0) ∧ pz_S 2 (some .boolean) am_r87 1 Q 12 [(0, .ref 0), (1, .int x)] [.int (h.1 6 0), .int x] h from ⟨ex_6 hP, ?_⟩)
      rw [show h.1 6 0 = nI (dP C) from hT.1.1]
      suffices key : ∀ (v7 : Int32), v7 = (if (nI (dP C)) ≤ x then Int32.ofInt 0 else Int32.ofInt 1) → pz_S 2 (some .boolean) am_r87 1 Q 20 [] [.int v7] h by
        refine am_goX 1 (show ((nI (dP C)) ≤ x → pz_S 2 (some .boolean) am_r87 1 Q 19 [(0, .ref 0), (1, .int x)] [] h) ∧ (¬ ((nI (dP C)) ≤ x) → pz_S 2 (some .boolean) am_r87 1 Q 15 [(0, .ref 0), (1, .int x)] [] h) from ⟨fun c6 => ?_, fun c6 => ?_⟩)
        · refine am_goX 1 (show pz_S 2 (some .boolean) am_r87 1 Q 20 [(0, .ref 0), (1, .int x)] [.int (Int32.ofInt 0)] h from ?_)
          exact sv_S2 sv2_87 (fun q hq => absurd hq List.not_mem_nil) (key _ (if_pos c6).symm)
        · refine am_goX 2 (show pz_S 2 (some .boolean) am_r87 1 Q 20 [(0, .ref 0), (1, .int x)] [.int (Int32.ofInt 1)] h from ?_)
          exact sv_S2 sv2_87 (fun q hq => absurd hq List.not_mem_nil) (key _ (if_neg c6).symm)
      intro v7 e8
      subst e8
      exact sv_S2 sv2_87 (fun q hq => absurd hq List.not_mem_nil) (key _ (if_neg c4).symm)
  intro v5 e9
  subst e9
  exact am_goX 1 (show (∃ ty, (some .boolean) = some ty ∧ narrow ty (.int (if x < 0 then Int32.ofInt 0 else (if (nI (dP C)) ≤ x then Int32.ofInt 0 else Int32.ofInt 1))) = .int (if x < 0 then Int32.ofInt 0 else (if (nI (dP C)) ≤ x then Int32.ofInt 0 else Int32.ofInt 1))) ∧ h.2.2.2.2 = 175 ∧ _ from ⟨⟨.boolean, rfl, (by (repeat' split) <;> rfl)⟩, ex_175 hP, hQ⟩)
theorem x_lt0 {x : Int32} : (x < Int32.ofInt 0) = (x.toInt < 0) := by
  apply propext
  rw [Int32.lt_iff_toInt_lt]
  exact Iff.of_eq rfl
theorem v_87 (hp : p < dP C) (h6 : dP C ≤ 6 := by omega) : d_87 C (nI p) = Int32.ofInt 1 := by
  unfold d_87
  rw [if_neg (show ¬ (nI p < 0) from nI_pos (by omega)), if_neg (show ¬ (nI (dP C) ≤ nI p) by rw [nI_leI (by omega) (by omega)]; omega)]
theorem c_87 (h6 : dP C ≤ 6) (x : Int32) : d_87 C x = Int32.ofInt 0 ∨ ∃ p, p < dP C ∧ x = nI p := by
  unfold d_87
  by_cases h1 : x < 0
  · rw [if_pos h1]; exact Or.inl rfl
  · rw [if_neg h1]
    by_cases h2 : nI (dP C) ≤ x
    · rw [if_pos h2]; exact Or.inl rfl
    · refine Or.inr ⟨x.toInt.toNat, ?_, ?_⟩
      · have a := mt Int32.le_iff_toInt_le.mpr h2
        rw [nI_toInt (by omega)] at a
        have b := mt Int32.lt_iff_toInt_lt.mpr h1
        have e0 : (0 : Int32).toInt = 0 := rfl
        omega
      · have b := mt Int32.lt_iff_toInt_lt.mpr h1
        have e0 : (0 : Int32).toInt = 0 := rfl
        have a := mt Int32.le_iff_toInt_le.mpr h2
        rw [nI_toInt (by omega)] at a
        exact Int32.toInt_inj.mp (by rw [nI_toInt (by omega)]; omega)
def d_91_4 (C : sp_C) (p : Nat) : Nat → Nat → Int32 → Int32
  | 0, _, a2 => a2
  | m + 1, k, a2 => d_91_4 C p m (k + 1) (if (d_65 (dG C k) (nI p)) = 0 then a2 else a2 ||| ((Int32.ofInt 1) <<< ((nI k) &&& 31)))
theorem d_91_4_t6 (hP : ex_P h) (hT : c_v 6 C h) : ∀ (m k : Nat) (a2 : Int32), k + m = dE C → (pz_S 4 (some .int) am_r91 1 Q 37 [(2, .int (d_91_4 C p m k a2))] [] h) → pz_S 4 (some .int) am_r91 1 Q 4 [(0, .ref 6), (1, .int (nI p)), (2, .int a2), (3, .int (nI k))] [] h := by
  intro m
  induction m with
  | zero =>
    intro k a2 hk hZ
    have h6 := hT.1.2.1
    have h5 := hT.2.1.2.1
    refine am_goX 3 (show am_sh h 6 = some (0, 0) ∧ pz_S 4 (some .int) am_r91 1 Q 9 [(0, .ref 6), (1, .int (nI p)), (2, .int a2), (3, .int (nI k))] [.int (h.1 6 4), .int (nI k)] h from ⟨ex_6 hP, ?_⟩)
    rw [show h.1 6 4 = nI (dE C) from hT.2.1.1]
    refine am_goX 1 (show ((nI (dE C)) ≤ (nI k) → pz_S 4 (some .int) am_r91 1 Q 37 [(0, .ref 6), (1, .int (nI p)), (2, .int a2), (3, .int (nI k))] [] h) ∧ (¬ ((nI (dE C)) ≤ (nI k)) → pz_S 4 (some .int) am_r91 1 Q 12 [(0, .ref 6), (1, .int (nI p)), (2, .int a2), (3, .int (nI k))] [] h) from ⟨fun _ => ?_, fun hz => absurd (show nI (dE C) ≤ nI k from nI_le (by omega) (by omega)) hz⟩)
    exact sv_S2 sv2_91 (by intro q hq; simp only [List.mem_cons, List.not_mem_nil, or_false] at hq; rcases hq with rfl <;> rfl) (hZ)
  | succ m ih =>
    intro k a2 hk hZ
    have h6 := hT.1.2.1
    have h5 := hT.2.1.2.1
    refine am_goX 3 (show am_sh h 6 = some (0, 0) ∧ pz_S 4 (some .int) am_r91 1 Q 9 [(0, .ref 6), (1, .int (nI p)), (2, .int a2), (3, .int (nI k))] [.int (h.1 6 4), .int (nI k)] h from ⟨ex_6 hP, ?_⟩)
    rw [show h.1 6 4 = nI (dE C) from hT.2.1.1]
    refine am_goX 1 (show ((nI (dE C)) ≤ (nI k) → pz_S 4 (some .int) am_r91 1 Q 37 [(0, .ref 6), (1, .int (nI p)), (2, .int a2), (3, .int (nI k))] [] h) ∧ (¬ ((nI (dE C)) ≤ (nI k)) → pz_S 4 (some .int) am_r91 1 Q 12 [(0, .ref 6), (1, .int (nI p)), (2, .int a2), (3, .int (nI k))] [] h) from ⟨fun hz => absurd hz (show ¬ (nI (dE C) ≤ nI k) by rw [nI_leI (by omega) (by omega)]; omega), fun _ => ?_⟩)
    refine am_goX 2 (show am_sh h 6 = some (0, 0) ∧ pz_S 4 (some .int) am_r91 1 Q 16 [(0, .ref 6), (1, .int (nI p)), (2, .int a2), (3, .int (nI k))] [am_rf (h.2.2.1 6 8)] h from ⟨ex_6 hP, ?_⟩)
    rw [show am_rf (h.2.2.1 6 8) = .ref 13 from congrArg am_rf (ex_r6_8 hP)]
    refine am_goX 2 (show ∃ jj nn : Nat, am_sh h 13 = some (13, nn) ∧ jj < nn ∧ nI k = nI jj ∧ pz_S 4 (some .int) am_r91 1 Q 18 [(0, .ref 6), (1, .int (nI p)), (2, .int a2), (3, .int (nI k))] [.int (h.1 13 jj)] h from ⟨k, 5, ex_13 hP, (by omega), rfl, ?_⟩)
    rw [show h.1 13 k = dG C k from (hT.2.1.2.2 k (by omega)).2]
    refine am_goX 2 (show 0 ≤ 8 ∧ h.2.2.2.2 + am_al 65 ≤ 175 ∧ am_call am_cod 1 65 [.int (dG C k), .int (nI p)] h (fun vv h' => pz_S 4 (some .int) am_r91 1 Q 22 [(0, .ref 6), (1, .int (nI p)), (2, .int a2), (3, .int (nI k))] (vv.toList ++ []) h') from ⟨by decide, ex_lim hP rfl, am_call.up (d_65_w hP ?_) (by decide)⟩)
    suffices key : ∀ (v11 : Int32), v11 = (if (d_65 (dG C k) (nI p)) = 0 then a2 else a2 ||| ((Int32.ofInt 1) <<< ((nI k) &&& 31))) → pz_S 4 (some .int) am_r91 1 Q 31 [(0, .ref 6), (1, .int (nI p)), (2, .int v11), (3, .int (nI k))] [] h by
      refine am_goX 1 (show ((d_65 (dG C k) (nI p)) = 0 → pz_S 4 (some .int) am_r91 1 Q 31 [(0, .ref 6), (1, .int (nI p)), (2, .int a2), (3, .int (nI k))] [] h) ∧ (¬ ((d_65 (dG C k) (nI p)) = 0) → pz_S 4 (some .int) am_r91 1 Q 25 [(0, .ref 6), (1, .int (nI p)), (2, .int a2), (3, .int (nI k))] [] h) from ⟨fun c10 => ?_, fun c10 => ?_⟩)
      · exact sv_S2 sv2_91 (by intro q hq; simp only [List.mem_cons, List.not_mem_nil, or_false] at hq; rcases hq with rfl | rfl | rfl | rfl <;> rfl) (key _ (if_pos c10).symm)
      · refine am_goX 6 (show 2 < 4 ∧ pz_S 4 (some .int) am_r91 1 Q 31 [(2, .int (a2 ||| ((Int32.ofInt 1) <<< ((nI k) &&& 31)))), (0, .ref 6), (1, .int (nI p)), (3, .int (nI k))] [] h from ⟨by decide, ?_⟩)
        exact sv_S2 sv2_91 (by intro q hq; simp only [List.mem_cons, List.not_mem_nil, or_false] at hq; rcases hq with rfl | rfl | rfl | rfl <;> rfl) (key _ (if_neg c10).symm)
    intro v11 e12
    subst e12
    refine am_goX 2 (show 3 < 4 ∧ pz_S 4 (some .int) am_r91 1 Q 4 [(3, .int ((nI k) + (Int32.ofInt 1))), (0, .ref 6), (1, .int (nI p)), (2, .int (if (d_65 (dG C k) (nI p)) = 0 then a2 else a2 ||| ((Int32.ofInt 1) <<< ((nI k) &&& 31))))] [] h from ⟨by decide, ?_⟩)
    rw [show (nI k) + (Int32.ofInt 1) = nI (k + 1) from (dn_a rfl rfl)]
    exact sv_S2 sv2_91 (by intro q hq; simp only [List.mem_cons, List.not_mem_nil, or_false] at hq; rcases hq with rfl | rfl | rfl | rfl <;> rfl) (ih (k + 1) (if (d_65 (dG C k) (nI p)) = 0 then a2 else a2 ||| ((Int32.ofInt 1) <<< ((nI k) &&& 31))) (by omega) hZ)
def d_91 (C : sp_C) (p : Nat) : Int32 := d_91_4 C p (dE C) 0 (Int32.ofInt 0)
theorem d_91_t6 (hP : ex_P h) (hT : c_v 6 C h)  (hQ : Q (some (.int (d_91 C p))) h) : am_call am_cod 2 91 [.ref 6, .int (nI p)] h Q := by
  have h6 := hT.1.2.1
  have h5 := hT.2.1.2.1
  refine pz_call (n := 91) (nL := 4) (rt := (some .int)) (rows := am_r91) (d := 1) (by decide +kernel) (by decide +kernel) rfl (by funext pc; rfl) (ex_175 hP) (by exact Nat.le_of_ble_eq_true rfl) ?_
  refine am_goX 4 (show 2 < 4 ∧ 3 < 4 ∧ pz_S 4 (some .int) am_r91 1 Q 4 [(3, .int (Int32.ofInt 0)), (2, .int (Int32.ofInt 0)), (0, .ref 6), (1, .int (nI p))] [] h from ⟨by decide, by decide, ?_⟩)
  refine sv_S2 sv2_91 (by intro q hq; simp only [List.mem_cons, List.not_mem_nil, or_false] at hq; rcases hq with rfl | rfl | rfl | rfl <;> rfl) (d_91_4_t6 hP hT (dE C) 0 (Int32.ofInt 0) (by omega) ?_)
  exact am_goX 2 (show (∃ ty, (some .int) = some ty ∧ narrow ty (.int (d_91_4 C p (dE C) 0 (Int32.ofInt 0))) = .int (d_91_4 C p (dE C) 0 (Int32.ofInt 0))) ∧ h.2.2.2.2 = 175 ∧ _ from ⟨⟨.int, rfl, rfl⟩, ex_175 hP, hQ⟩)
theorem d_65_b (x y : Int32) : (d_65 x y = 0) = (sp_bit x y = false) := by
  unfold d_65 sp_bit
  by_cases h : (x >>> (y &&& 31)) &&& Int32.ofInt 1 = 0
  · rw [if_pos h, decide_eq_false (fun w => w h)]
    exact propext ⟨fun _ => rfl, fun _ => rfl⟩
  · rw [if_neg h, decide_eq_true h]
    exact propext ⟨fun w => absurd w (by decide), fun w => by cases w⟩
theorem d_91_b : ∀ (m k : Nat) (a : Int32), k + m ≤ 5 → bN a < 32 → bN (d_91_4 C p m k a) < 32 ∧ ∀ e, e < 5 → sp_bit (d_91_4 C p m k a) (nI e) = (sp_bit a (nI e) || (decide (k ≤ e ∧ e < k + m) && sp_bit (dG C e) (nI p))) := by
  intro m
  induction m with
  | zero =>
    intro k a hk ha
    refine ⟨ha, fun e he => ?_⟩
    rw [decide_eq_false (by omega), Bool.false_and, Bool.or_false]
    rfl
  | succ m ih =>
    intro k a hk ha
    show bN (d_91_4 C p m (k + 1) (if (d_65 (dG C k) (nI p)) = 0 then a else a ||| ((Int32.ofInt 1) <<< ((nI k) &&& 31)))) < 32 ∧ _
    by_cases hb : sp_bit (dG C k) (nI p) = false
    · rw [if_pos (by rw [d_65_b]; exact hb)]
      obtain ⟨i1, i2⟩ := ih (k + 1) a (by omega) ha
      refine ⟨i1, fun e he => ?_⟩
      show sp_bit (d_91_4 C p m (k + 1) (if (d_65 (dG C k) (nI p)) = 0 then a else _)) (nI e) = _
      rw [if_pos (by rw [d_65_b]; exact hb), i2 e he]
      by_cases ek : e = k
      · rw [ek, hb, Bool.and_false, Bool.and_false]
      · rw [show decide (k + 1 ≤ e ∧ e < k + 1 + m) = decide (k ≤ e ∧ e < k + (m + 1)) from decide_eq_decide.mpr (by omega)]
    · rw [if_neg (by rw [d_65_b]; exact hb)]
      have hb : sp_bit (dG C k) (nI p) = true := by
        cases h : sp_bit (dG C k) (nI p) with
        | true => rfl
        | false => exact absurd h hb
      obtain ⟨i1, i2⟩ := ih (k + 1) (a ||| ((Int32.ofInt 1) <<< ((nI k) &&& 31))) (by omega) (by
        rw [bN_or, bN_1s (by omega)]
        exact Nat.or_lt_two_pow (n := 5) ha (Nat.pow_lt_pow_right (by decide) (by omega)))
      refine ⟨i1, fun e he => ?_⟩
      show sp_bit (d_91_4 C p m (k + 1) (if (d_65 (dG C k) (nI p)) = 0 then a else _)) (nI e) = _
      rw [if_neg (by rw [d_65_b, hb]; decide), i2 e he, bit_or (by omega) (by omega)]
      by_cases ek : e = k
      · rw [ek, hb, decide_eq_true rfl, decide_eq_true (show k ≤ k ∧ k < k + (m + 1) by omega)]
        simp only [Bool.or_true, Bool.true_or, Bool.and_true]
      · rw [decide_eq_false (fun w => ek w.symm), Bool.or_false, show decide (k + 1 ≤ e ∧ e < k + 1 + m) = decide (k ≤ e ∧ e < k + (m + 1)) from decide_eq_decide.mpr (by omega)]
theorem b5_eq {x y : Int32} (hx : bN x < 32) (hy : bN y < 32) (hb : ∀ e, e < 5 → sp_bit x (nI e) = sp_bit y (nI e)) : x = y := by
  refine bN_inj (Nat.eq_of_testBit_eq fun i => ?_)
  by_cases hi : i < 5
  · rw [← sp_bit_tg (by omega), ← sp_bit_tg (by omega)]
    exact hb i hi
  · have h32 : 32 ≤ 2 ^ i := Nat.pow_le_pow_right (i := 5) (j := i) (show 2 > 0 by decide) (by omega)
    rw [Nat.testBit_lt_two_pow (Nat.lt_of_lt_of_le hx h32), Nat.testBit_lt_two_pow (Nat.lt_of_lt_of_le hy h32)]
/-- EVENTS that one is to come to -/
abbrev dB (C : sp_C) (p : Nat) : Int32 := d_91 C p
theorem dB_b (h5 : dE C ≤ 5) : bN (dB C p) < 32 ∧ ∀ e, e < 5 → sp_bit (dB C p) (nI e) = (decide (e < dE C) && sp_bit (dG C e) (nI p)) := by
  obtain ⟨i1, i2⟩ := d_91_b (C := C) (p := p) (dE C) 0 (Int32.ofInt 0) (by omega) (by decide)
  refine ⟨i1, fun e he => ?_⟩
  rw [show dB C p = d_91_4 C p (dE C) 0 (Int32.ofInt 0) from rfl, i2 e he]
  have key : ∀ e, e < 5 → sp_bit (Int32.ofInt 0) (nI e) = false := by decide +kernel
  rw [key e he, Bool.false_or, show decide (0 ≤ e ∧ e < 0 + dE C) = decide (e < dE C) from decide_eq_decide.mpr (by omega)]
theorem tR_B {h : am_H} {C : sp_C} (l : tR C h) {p : Nat} (hp : p < 6) : h.1 160 (6 + 3 * p) = dB C p := by
  obtain ⟨i1, i2⟩ := dB_b (C := C) (p := p) l.2.1.2.1
  exact b5_eq (l.2.2.1 p 0 hp (by decide)).2 i1 (fun e he => by rw [(l.2.2.1 p e hp he).1, i2 e he])
def d_167_4 (C : sp_C) (x : Int32) : Nat → Nat → Int32 → Int32
  | 0, _, a2 => a2
  | m + 1, k, a2 => d_167_4 C x m (k + 1) (if (d_65 x (nI k)) = 0 then a2 else a2 ||| (dG C k))
theorem d_167_4_t6 (hP : ex_P h) (hT : c_v 6 C h) : ∀ (m k : Nat) (a2 : Int32), k + m = dE C → (pz_S 4 (some .int) am_r167 1 Q 35 [(2, .int (d_167_4 C x m k a2))] [] h) → pz_S 4 (some .int) am_r167 1 Q 4 [(0, .ref 6), (1, .int x), (2, .int a2), (3, .int (nI k))] [] h := by
  intro m
  induction m with
  | zero =>
    intro k a2 hk hZ
    have h6 := hT.1.2.1
    have h5 := hT.2.1.2.1
    refine am_goX 3 (show am_sh h 6 = some (0, 0) ∧ pz_S 4 (some .int) am_r167 1 Q 9 [(0, .ref 6), (1, .int x), (2, .int a2), (3, .int (nI k))] [.int (h.1 6 4), .int (nI k)] h from ⟨ex_6 hP, ?_⟩)
    rw [show h.1 6 4 = nI (dE C) from hT.2.1.1]
    refine am_goX 1 (show ((nI (dE C)) ≤ (nI k) → pz_S 4 (some .int) am_r167 1 Q 35 [(0, .ref 6), (1, .int x), (2, .int a2), (3, .int (nI k))] [] h) ∧ (¬ ((nI (dE C)) ≤ (nI k)) → pz_S 4 (some .int) am_r167 1 Q 12 [(0, .ref 6), (1, .int x), (2, .int a2), (3, .int (nI k))] [] h) from ⟨fun _ => ?_, fun hz => absurd (show nI (dE C) ≤ nI k from nI_le (by omega) (by omega)) hz⟩)
    exact sv_S2 sv2_167 (by intro q hq; simp only [List.mem_cons, List.not_mem_nil, or_false] at hq; rcases hq with rfl <;> rfl) (hZ)
  | succ m ih =>
    intro k a2 hk hZ
    have h6 := hT.1.2.1
    have h5 := hT.2.1.2.1
    refine am_goX 3 (show am_sh h 6 = some (0, 0) ∧ pz_S 4 (some .int) am_r167 1 Q 9 [(0, .ref 6), (1, .int x), (2, .int a2), (3, .int (nI k))] [.int (h.1 6 4), .int (nI k)] h from ⟨ex_6 hP, ?_⟩)
    rw [show h.1 6 4 = nI (dE C) from hT.2.1.1]
    refine am_goX 1 (show ((nI (dE C)) ≤ (nI k) → pz_S 4 (some .int) am_r167 1 Q 35 [(0, .ref 6), (1, .int x), (2, .int a2), (3, .int (nI k))] [] h) ∧ (¬ ((nI (dE C)) ≤ (nI k)) → pz_S 4 (some .int) am_r167 1 Q 12 [(0, .ref 6), (1, .int x), (2, .int a2), (3, .int (nI k))] [] h) from ⟨fun hz => absurd hz (show ¬ (nI (dE C) ≤ nI k) by rw [nI_leI (by omega) (by omega)]; omega), fun _ => ?_⟩)
    refine am_goX 3 (show 0 ≤ 8 ∧ h.2.2.2.2 + am_al 65 ≤ 175 ∧ am_call am_cod 1 65 [.int x, .int (nI k)] h (fun vv h' => pz_S 4 (some .int) am_r167 1 Q 17 [(0, .ref 6), (1, .int x), (2, .int a2), (3, .int (nI k))] (vv.toList ++ []) h') from ⟨by decide, ex_lim hP rfl, am_call.up (d_65_w hP ?_) (by decide)⟩)
    suffices key : ∀ (v14 : Int32), v14 = (if (d_65 x (nI k)) = 0 then a2 else a2 ||| (dG C k)) → pz_S 4 (some .int) am_r167 1 Q 29 [(0, .ref 6), (1, .int x), (2, .int v14), (3, .int (nI k))] [] h by
      refine am_goX 1 (show ((d_65 x (nI k)) = 0 → pz_S 4 (some .int) am_r167 1 Q 29 [(0, .ref 6), (1, .int x), (2, .int a2), (3, .int (nI k))] [] h) ∧ (¬ ((d_65 x (nI k)) = 0) → pz_S 4 (some .int) am_r167 1 Q 20 [(0, .ref 6), (1, .int x), (2, .int a2), (3, .int (nI k))] [] h) from ⟨fun c13 => ?_, fun c13 => ?_⟩)
      · exact sv_S2 sv2_167 (by intro q hq; simp only [List.mem_cons, List.not_mem_nil, or_false] at hq; rcases hq with rfl | rfl | rfl | rfl <;> rfl) (key _ (if_pos c13).symm)
      · refine am_goX 3 (show am_sh h 6 = some (0, 0) ∧ pz_S 4 (some .int) am_r167 1 Q 25 [(0, .ref 6), (1, .int x), (2, .int a2), (3, .int (nI k))] [am_rf (h.2.2.1 6 8), .int a2] h from ⟨ex_6 hP, ?_⟩)
        rw [show am_rf (h.2.2.1 6 8) = .ref 13 from congrArg am_rf (ex_r6_8 hP)]
        refine am_goX 2 (show ∃ jj nn : Nat, am_sh h 13 = some (13, nn) ∧ jj < nn ∧ nI k = nI jj ∧ pz_S 4 (some .int) am_r167 1 Q 27 [(0, .ref 6), (1, .int x), (2, .int a2), (3, .int (nI k))] [.int (h.1 13 jj), .int a2] h from ⟨k, 5, ex_13 hP, (by omega), rfl, ?_⟩)
        rw [show h.1 13 k = dG C k from (hT.2.1.2.2 k (by omega)).2]
        refine am_goX 2 (show 2 < 4 ∧ pz_S 4 (some .int) am_r167 1 Q 29 [(2, .int (a2 ||| (dG C k))), (0, .ref 6), (1, .int x), (3, .int (nI k))] [] h from ⟨by decide, ?_⟩)
        exact sv_S2 sv2_167 (by intro q hq; simp only [List.mem_cons, List.not_mem_nil, or_false] at hq; rcases hq with rfl | rfl | rfl | rfl <;> rfl) (key _ (if_neg c13).symm)
    intro v14 e15
    subst e15
    refine am_goX 2 (show 3 < 4 ∧ pz_S 4 (some .int) am_r167 1 Q 4 [(3, .int ((nI k) + (Int32.ofInt 1))), (0, .ref 6), (1, .int x), (2, .int (if (d_65 x (nI k)) = 0 then a2 else a2 ||| (dG C k)))] [] h from ⟨by decide, ?_⟩)
    rw [show (nI k) + (Int32.ofInt 1) = nI (k + 1) from (dn_a rfl rfl)]
    exact sv_S2 sv2_167 (by intro q hq; simp only [List.mem_cons, List.not_mem_nil, or_false] at hq; rcases hq with rfl | rfl | rfl | rfl <;> rfl) (ih (k + 1) (if (d_65 x (nI k)) = 0 then a2 else a2 ||| (dG C k)) (by omega) hZ)
def d_167 (C : sp_C) (x : Int32) : Int32 := d_167_4 C x (dE C) 0 (Int32.ofInt 0)
theorem d_167_t6 (hP : ex_P h) (hT : c_v 6 C h)  (hQ : Q (some (.int (d_167 C x))) h) : am_call am_cod 2 167 [.ref 6, .int x] h Q := by
  have h6 := hT.1.2.1
  have h5 := hT.2.1.2.1
  refine pz_call (n := 167) (nL := 4) (rt := (some .int)) (rows := am_r167) (d := 1) (by decide +kernel) (by decide +kernel) rfl (by funext pc; rfl) (ex_175 hP) (by exact Nat.le_of_ble_eq_true rfl) ?_
  refine am_goX 4 (show 2 < 4 ∧ 3 < 4 ∧ pz_S 4 (some .int) am_r167 1 Q 4 [(3, .int (Int32.ofInt 0)), (2, .int (Int32.ofInt 0)), (0, .ref 6), (1, .int x)] [] h from ⟨by decide, by decide, ?_⟩)
  refine sv_S2 sv2_167 (by intro q hq; simp only [List.mem_cons, List.not_mem_nil, or_false] at hq; rcases hq with rfl | rfl | rfl | rfl <;> rfl) (d_167_4_t6 hP hT (dE C) 0 (Int32.ofInt 0) (by omega) ?_)
  exact am_goX 2 (show (∃ ty, (some .int) = some ty ∧ narrow ty (.int (d_167_4 C x (dE C) 0 (Int32.ofInt 0))) = .int (d_167_4 C x (dE C) 0 (Int32.ofInt 0))) ∧ h.2.2.2.2 = 175 ∧ _ from ⟨⟨.int, rfl, rfl⟩, ex_175 hP, hQ⟩)
def d_165 (C : sp_C) (p q : Nat) : Int32 := (d_91 C p) &&& (d_91 C q)
theorem d_165_t6 (hP : ex_P h) (hT : c_v 6 C h) (hR : h.2.2.1 0 3 = some 6) (hp : p < dP C) (hq : q < dP C) (hQ : Q (some (.int (d_165 C p q))) h) : am_call am_cod 4 165 [.ref 0, .int (nI p), .int (nI q)] h Q := by
  have h6 := hT.1.2.1
  have h5 := hT.2.1.2.1
  refine pz_call (n := 165) (nL := 3) (rt := (some .int)) (rows := am_r165) (d := 3) (by decide +kernel) (by decide +kernel) rfl (by funext pc; rfl) (ex_175 hP) (by exact Nat.le_of_ble_eq_true rfl) ?_
  refine am_goX 3 (show am_rc h 0 10 ∧ 0 ≤ 8 ∧ h.2.2.2.2 + am_al 87 ≤ 175 ∧ am_call am_cod 3 87 [.ref 0, .int (nI p)] h (fun vv h' => pz_S 3 (some .int) am_r165 3 Q 5 [(0, .ref 0), (1, .int (nI p)), (2, .int (nI q))] (vv.toList ++ []) h') from ⟨Or.inl ⟨by decide, ex_0 hP⟩, by decide, ex_lim hP rfl, am_call.up (d_87_t6 hP hT hR ?_) (by decide)⟩)
  rw [show d_87 C (nI p) = Int32.ofInt 1 from (v_87 hp)]
  refine am_goX 1 (show ((Int32.ofInt 1) = 0 → pz_S 3 (some .int) am_r165 3 Q 16 [(0, .ref 0), (1, .int (nI p)), (2, .int (nI q))] [] h) ∧ (¬ ((Int32.ofInt 1) = 0) → pz_S 3 (some .int) am_r165 3 Q 8 [(0, .ref 0), (1, .int (nI p)), (2, .int (nI q))] [] h) from ⟨fun hz => absurd hz (by decide), fun _ => ?_⟩)
  refine am_goX 3 (show am_rc h 0 10 ∧ 0 ≤ 8 ∧ h.2.2.2.2 + am_al 87 ≤ 175 ∧ am_call am_cod 3 87 [.ref 0, .int (nI q)] h (fun vv h' => pz_S 3 (some .int) am_r165 3 Q 13 [(0, .ref 0), (1, .int (nI p)), (2, .int (nI q))] (vv.toList ++ []) h') from ⟨Or.inl ⟨by decide, ex_0 hP⟩, by decide, ex_lim hP rfl, am_call.up (d_87_t6 hP hT hR ?_) (by decide)⟩)
  rw [show d_87 C (nI q) = Int32.ofInt 1 from (v_87 hq)]
  refine am_goX 1 (show (¬ (Int32.ofInt 1) = 0 → pz_S 3 (some .int) am_r165 3 Q 18 [(0, .ref 0), (1, .int (nI p)), (2, .int (nI q))] [] h) ∧ (¬ ¬ (Int32.ofInt 1) = 0 → pz_S 3 (some .int) am_r165 3 Q 16 [(0, .ref 0), (1, .int (nI p)), (2, .int (nI q))] [] h) from ⟨fun _ => ?_, fun hz => absurd (by decide) hz⟩)
  refine am_goX 2 (show am_sh h 0 = some (10, 0) ∧ pz_S 3 (some .int) am_r165 3 Q 22 [(0, .ref 0), (1, .int (nI p)), (2, .int (nI q))] [am_rf (h.2.2.1 0 3)] h from ⟨ex_0 hP, ?_⟩)
  rw [show am_rf (h.2.2.1 0 3) = .ref 6 from congrArg am_rf (hR)]
  refine am_goX 2 (show am_rc h 6 0 ∧ 0 ≤ 8 ∧ h.2.2.2.2 + am_al 91 ≤ 175 ∧ am_call am_cod 3 91 [.ref 6, .int (nI p)] h (fun vv h' => pz_S 3 (some .int) am_r165 3 Q 26 [(0, .ref 0), (1, .int (nI p)), (2, .int (nI q))] (vv.toList ++ []) h') from ⟨Or.inl ⟨by decide, ex_6 hP⟩, by decide, ex_lim hP rfl, am_call.up (d_91_t6 hP hT ?_) (by decide)⟩)
  refine am_goX 2 (show am_sh h 0 = some (10, 0) ∧ pz_S 3 (some .int) am_r165 3 Q 30 [(0, .ref 0), (1, .int (nI p)), (2, .int (nI q))] [am_rf (h.2.2.1 0 3), .int (d_91 C p)] h from ⟨ex_0 hP, ?_⟩)
  rw [show am_rf (h.2.2.1 0 3) = .ref 6 from congrArg am_rf (hR)]
  refine am_goX 2 (show am_rc h 6 0 ∧ 1 ≤ 8 ∧ h.2.2.2.2 + am_al 91 ≤ 175 ∧ am_call am_cod 3 91 [.ref 6, .int (nI q)] h (fun vv h' => pz_S 3 (some .int) am_r165 3 Q 34 [(0, .ref 0), (1, .int (nI p)), (2, .int (nI q))] (vv.toList ++ [.int (d_91 C p)]) h') from ⟨Or.inl ⟨by decide, ex_6 hP⟩, by decide, ex_lim hP rfl, am_call.up (d_91_t6 hP hT ?_) (by decide)⟩)
  exact am_goX 2 (show (∃ ty, (some .int) = some ty ∧ narrow ty (.int ((d_91 C p) &&& (d_91 C q))) = .int ((d_91 C p) &&& (d_91 C q))) ∧ h.2.2.2.2 = 175 ∧ _ from ⟨⟨.int, rfl, rfl⟩, ex_175 hP, hQ⟩)
def d_165x  : Int32 := Int32.ofInt (-1)
theorem d_165_xt6 (hP : ex_P h) (hT : c_v 6 C h) (hR : h.2.2.1 0 3 = some 6) (ex : d_87 C x = Int32.ofInt 0) (hQ : Q (some (.int d_165x)) h) : am_call am_cod 4 165 [.ref 0, .int x, .int y] h Q := by
  have h6 := hT.1.2.1
  have h5 := hT.2.1.2.1
  refine pz_call (n := 165) (nL := 3) (rt := (some .int)) (rows := am_r165) (d := 3) (by decide +kernel) (by decide +kernel) rfl (by funext pc; rfl) (ex_175 hP) (by exact Nat.le_of_ble_eq_true rfl) ?_
  refine am_goX 3 (show am_rc h 0 10 ∧ 0 ≤ 8 ∧ h.2.2.2.2 + am_al 87 ≤ 175 ∧ am_call am_cod 3 87 [.ref 0, .int x] h (fun vv h' => pz_S 3 (some .int) am_r165 3 Q 5 [(0, .ref 0), (1, .int x), (2, .int y)] (vv.toList ++ []) h') from ⟨Or.inl ⟨by decide, ex_0 hP⟩, by decide, ex_lim hP rfl, am_call.up (d_87_t6 hP hT hR ?_) (by decide)⟩)
  rw [show d_87 C x = Int32.ofInt 0 from ex]
  refine am_goX 1 (show ((Int32.ofInt 0) = 0 → pz_S 3 (some .int) am_r165 3 Q 16 [(0, .ref 0), (1, .int x), (2, .int y)] [] h) ∧ (¬ ((Int32.ofInt 0) = 0) → pz_S 3 (some .int) am_r165 3 Q 8 [(0, .ref 0), (1, .int x), (2, .int y)] [] h) from ⟨fun _ => ?_, fun hz => absurd (by decide) hz⟩)
  exact am_goX 2 (show (∃ ty, (some .int) = some ty ∧ narrow ty (.int (Int32.ofInt (-1))) = .int (Int32.ofInt (-1))) ∧ h.2.2.2.2 = 175 ∧ _ from ⟨⟨.int, rfl, rfl⟩, ex_175 hP, hQ⟩)
theorem d_165_yt6 (hP : ex_P h) (hT : c_v 6 C h) (hR : h.2.2.1 0 3 = some 6) (hp : p < dP C) (ey : d_87 C y = Int32.ofInt 0) (hQ : Q (some (.int d_165x)) h) : am_call am_cod 4 165 [.ref 0, .int (nI p), .int y] h Q := by
  have h6 := hT.1.2.1
  have h5 := hT.2.1.2.1
  refine pz_call (n := 165) (nL := 3) (rt := (some .int)) (rows := am_r165) (d := 3) (by decide +kernel) (by decide +kernel) rfl (by funext pc; rfl) (ex_175 hP) (by exact Nat.le_of_ble_eq_true rfl) ?_
  refine am_goX 3 (show am_rc h 0 10 ∧ 0 ≤ 8 ∧ h.2.2.2.2 + am_al 87 ≤ 175 ∧ am_call am_cod 3 87 [.ref 0, .int (nI p)] h (fun vv h' => pz_S 3 (some .int) am_r165 3 Q 5 [(0, .ref 0), (1, .int (nI p)), (2, .int y)] (vv.toList ++ []) h') from ⟨Or.inl ⟨by decide, ex_0 hP⟩, by decide, ex_lim hP rfl, am_call.up (d_87_t6 hP hT hR ?_) (by decide)⟩)
  rw [show d_87 C (nI p) = Int32.ofInt 1 from (v_87 hp)]
  refine am_goX 1 (show ((Int32.ofInt 1) = 0 → pz_S 3 (some .int) am_r165 3 Q 16 [(0, .ref 0), (1, .int (nI p)), (2, .int y)] [] h) ∧ (¬ ((Int32.ofInt 1) = 0) → pz_S 3 (some .int) am_r165 3 Q 8 [(0, .ref 0), (1, .int (nI p)), (2, .int y)] [] h) from ⟨fun hz => absurd hz (by decide), fun _ => ?_⟩)
  refine am_goX 3 (show am_rc h 0 10 ∧ 0 ≤ 8 ∧ h.2.2.2.2 + am_al 87 ≤ 175 ∧ am_call am_cod 3 87 [.ref 0, .int y] h (fun vv h' => pz_S 3 (some .int) am_r165 3 Q 13 [(0, .ref 0), (1, .int (nI p)), (2, .int y)] (vv.toList ++ []) h') from ⟨Or.inl ⟨by decide, ex_0 hP⟩, by decide, ex_lim hP rfl, am_call.up (d_87_t6 hP hT hR ?_) (by decide)⟩)
  rw [show d_87 C y = Int32.ofInt 0 from ey]
  refine am_goX 1 (show (¬ (Int32.ofInt 0) = 0 → pz_S 3 (some .int) am_r165 3 Q 18 [(0, .ref 0), (1, .int (nI p)), (2, .int y)] [] h) ∧ (¬ ¬ (Int32.ofInt 0) = 0 → pz_S 3 (some .int) am_r165 3 Q 16 [(0, .ref 0), (1, .int (nI p)), (2, .int y)] [] h) from ⟨fun hz => absurd hz (by decide), fun _ => ?_⟩)
  exact am_goX 2 (show (∃ ty, (some .int) = some ty ∧ narrow ty (.int (Int32.ofInt (-1))) = .int (Int32.ofInt (-1))) ∧ h.2.2.2.2 = 175 ∧ _ from ⟨⟨.int, rfl, rfl⟩, ex_175 hP, hQ⟩)
def dV (C : sp_C) : Nat := 2 ^ dE C - 1
theorem dV_31 {C : sp_C} (h5 : dE C ≤ 5) : dV C ≤ 31 ∧ (Int32.ofInt 1 <<< (nI (dE C) &&& 31)) = nI (dV C + 1) ∧ (Int32.ofInt 1 <<< (nI (dE C) &&& 31)) - Int32.ofInt 1 = nI (dV C) := by
  unfold dV
  generalize dE C = n at h5
  have key : ∀ n, n ≤ 5 → 2 ^ n - 1 ≤ 31 ∧ (Int32.ofInt 1 <<< (nI n &&& 31)) = nI (2 ^ n - 1 + 1) ∧ (Int32.ofInt 1 <<< (nI n &&& 31)) - Int32.ofInt 1 = nI (2 ^ n - 1) := by decide +kernel
  exact key n h5
def d_166_16 (C : sp_C) : Nat → Nat → Int32 → Int32
  | 0, _, a2 => a2
  | m + 1, k, a2 => d_166_16 C m (k + 1) (if (d_69 a2) ≤ (d_69 (nI k)) then a2 else (if ¬ (d_167 C (nI k)) = (d_167 C (nI (dV C))) then a2 else nI k))
theorem d_166_16_t6 (hP : ex_P h) (hT : c_v 6 C h) (hR : h.2.2.1 0 3 = some 6) : ∀ (m k : Nat) (a2 : Int32), k + m = dV C → (pz_S 4 (some .int) am_r166 2 Q 59 [(2, .int (d_166_16 C m k a2))] [] h) → pz_S 4 (some .int) am_r166 2 Q 16 [(0, .ref 0), (1, .int (nI (dV C))), (2, .int a2), (3, .int (nI k))] [] h := by
  intro m
  induction m with
  | zero =>
    intro k a2 hk hZ
    have h6 := hT.1.2.1
    have h5 := hT.2.1.2.1
    have h31 := dV_31 h5
    refine am_goX 3 (show ((nI (dV C)) ≤ (nI k) → pz_S 4 (some .int) am_r166 2 Q 59 [(0, .ref 0), (1, .int (nI (dV C))), (2, .int a2), (3, .int (nI k))] [] h) ∧ (¬ ((nI (dV C)) ≤ (nI k)) → pz_S 4 (some .int) am_r166 2 Q 21 [(0, .ref 0), (1, .int (nI (dV C))), (2, .int a2), (3, .int (nI k))] [] h) from ⟨fun _ => ?_, fun hz => absurd (show nI (dV C) ≤ nI k from nI_le (by omega) (by omega)) hz⟩)
    exact sv_S2 sv2_166 (by intro q hq; simp only [List.mem_cons, List.not_mem_nil, or_false] at hq; rcases hq with rfl <;> rfl) (hZ)
  | succ m ih =>
    intro k a2 hk hZ
    have h6 := hT.1.2.1
    have h5 := hT.2.1.2.1
    have h31 := dV_31 h5
    refine am_goX 3 (show ((nI (dV C)) ≤ (nI k) → pz_S 4 (some .int) am_r166 2 Q 59 [(0, .ref 0), (1, .int (nI (dV C))), (2, .int a2), (3, .int (nI k))] [] h) ∧ (¬ ((nI (dV C)) ≤ (nI k)) → pz_S 4 (some .int) am_r166 2 Q 21 [(0, .ref 0), (1, .int (nI (dV C))), (2, .int a2), (3, .int (nI k))] [] h) from ⟨fun hz => absurd hz (show ¬ (nI (dV C) ≤ nI k) by rw [nI_leI (by omega) (by omega)]; omega), fun _ => ?_⟩)
    refine am_goX 2 (show 0 ≤ 8 ∧ h.2.2.2.2 + am_al 69 ≤ 175 ∧ am_call am_cod 2 69 [.int (nI k)] h (fun vv h' => pz_S 4 (some .int) am_r166 2 Q 25 [(0, .ref 0), (1, .int (nI (dV C))), (2, .int a2), (3, .int (nI k))] (vv.toList ++ []) h') from ⟨by decide, ex_lim hP rfl, am_call.up (d_69_w hP ?_) (by decide)⟩)
    refine am_goX 2 (show 1 ≤ 8 ∧ h.2.2.2.2 + am_al 69 ≤ 175 ∧ am_call am_cod 2 69 [.int a2] h (fun vv h' => pz_S 4 (some .int) am_r166 2 Q 29 [(0, .ref 0), (1, .int (nI (dV C))), (2, .int a2), (3, .int (nI k))] (vv.toList ++ [.int (d_69 (nI k))]) h') from ⟨by decide, ex_lim hP rfl, am_call.up (d_69_w hP ?_) (by decide)⟩)
    suffices key : ∀ (v17 : Int32), v17 = (if (d_69 a2) ≤ (d_69 (nI k)) then a2 else (if ¬ (d_167 C (nI k)) = (d_167 C (nI (dV C))) then a2 else nI k)) → pz_S 4 (some .int) am_r166 2 Q 53 [(0, .ref 0), (1, .int (nI (dV C))), (2, .int v17), (3, .int (nI k))] [] h by
      refine am_goX 1 (show ((d_69 a2) ≤ (d_69 (nI k)) → pz_S 4 (some .int) am_r166 2 Q 53 [(0, .ref 0), (1, .int (nI (dV C))), (2, .int a2), (3, .int (nI k))] [] h) ∧ (¬ ((d_69 a2) ≤ (d_69 (nI k))) → pz_S 4 (some .int) am_r166 2 Q 32 [(0, .ref 0), (1, .int (nI (dV C))), (2, .int a2), (3, .int (nI k))] [] h) from ⟨fun c16 => ?_, fun c16 => ?_⟩)
      · exact sv_S2 sv2_166 (by intro q hq; simp only [List.mem_cons, List.not_mem_nil, or_false] at hq; rcases hq with rfl | rfl | rfl | rfl <;> rfl) (key _ (if_pos c16).symm)
      · refine am_goX 2 (show am_sh h 0 = some (10, 0) ∧ pz_S 4 (some .int) am_r166 2 Q 36 [(0, .ref 0), (1, .int (nI (dV C))), (2, .int a2), (3, .int (nI k))] [am_rf (h.2.2.1 0 3)] h from ⟨ex_0 hP, ?_⟩)
        rw [show am_rf (h.2.2.1 0 3) = .ref 6 from congrArg am_rf (hR)]
        refine am_goX 2 (show am_rc h 6 0 ∧ 0 ≤ 8 ∧ h.2.2.2.2 + am_al 167 ≤ 175 ∧ am_call am_cod 2 167 [.ref 6, .int (nI k)] h (fun vv h' => pz_S 4 (some .int) am_r166 2 Q 40 [(0, .ref 0), (1, .int (nI (dV C))), (2, .int a2), (3, .int (nI k))] (vv.toList ++ []) h') from ⟨Or.inl ⟨by decide, ex_6 hP⟩, by decide, ex_lim hP rfl, am_call.up (d_167_t6 hP hT ?_) (by decide)⟩)
        refine am_goX 2 (show am_sh h 0 = some (10, 0) ∧ pz_S 4 (some .int) am_r166 2 Q 44 [(0, .ref 0), (1, .int (nI (dV C))), (2, .int a2), (3, .int (nI k))] [am_rf (h.2.2.1 0 3), .int (d_167 C (nI k))] h from ⟨ex_0 hP, ?_⟩)
        rw [show am_rf (h.2.2.1 0 3) = .ref 6 from congrArg am_rf (hR)]
        refine am_goX 2 (show am_rc h 6 0 ∧ 1 ≤ 8 ∧ h.2.2.2.2 + am_al 167 ≤ 175 ∧ am_call am_cod 2 167 [.ref 6, .int (nI (dV C))] h (fun vv h' => pz_S 4 (some .int) am_r166 2 Q 48 [(0, .ref 0), (1, .int (nI (dV C))), (2, .int a2), (3, .int (nI k))] (vv.toList ++ [.int (d_167 C (nI k))]) h') from ⟨Or.inl ⟨by decide, ex_6 hP⟩, by decide, ex_lim hP rfl, am_call.up (d_167_t6 hP hT ?_) (by decide)⟩)
        suffices key : ∀ (v19 : Int32), v19 = (if ¬ (d_167 C (nI k)) = (d_167 C (nI (dV C))) then a2 else nI k) → pz_S 4 (some .int) am_r166 2 Q 53 [(0, .ref 0), (1, .int (nI (dV C))), (2, .int v19), (3, .int (nI k))] [] h by
          refine am_goX 1 (show (¬ (d_167 C (nI k)) = (d_167 C (nI (dV C))) → pz_S 4 (some .int) am_r166 2 Q 53 [(0, .ref 0), (1, .int (nI (dV C))), (2, .int a2), (3, .int (nI k))] [] h) ∧ (¬ ¬ (d_167 C (nI k)) = (d_167 C (nI (dV C))) → pz_S 4 (some .int) am_r166 2 Q 51 [(0, .ref 0), (1, .int (nI (dV C))), (2, .int a2), (3, .int (nI k))] [] h) from ⟨fun c18 => ?_, fun c18 => ?_⟩)
          · exact sv_S2 sv2_166 (by intro q hq; simp only [List.mem_cons, List.not_mem_nil, or_false] at hq; rcases hq with rfl | rfl | rfl | rfl <;> rfl) (key _ (if_pos c18).symm)
          · refine am_goX 2 (show 2 < 4 ∧ pz_S 4 (some .int) am_r166 2 Q 53 [(2, .int (nI k)), (0, .ref 0), (1, .int (nI (dV C))), (3, .int (nI k))] [] h from ⟨by decide, ?_⟩)
            exact sv_S2 sv2_166 (by intro q hq; simp only [List.mem_cons, List.not_mem_nil, or_false] at hq; rcases hq with rfl | rfl | rfl | rfl <;> rfl) (key _ (if_neg c18).symm)
        intro v19 e20
        subst e20
        exact sv_S2 sv2_166 (by intro q hq; simp only [List.mem_cons, List.not_mem_nil, or_false] at hq; rcases hq with rfl | rfl | rfl | rfl <;> rfl) (key _ (if_neg c16).symm)
    intro v17 e21
    subst e21
    refine am_goX 2 (show 3 < 4 ∧ pz_S 4 (some .int) am_r166 2 Q 16 [(3, .int ((nI k) + (Int32.ofInt 1))), (0, .ref 0), (1, .int (nI (dV C))), (2, .int (if (d_69 a2) ≤ (d_69 (nI k)) then a2 else (if ¬ (d_167 C (nI k)) = (d_167 C (nI (dV C))) then a2 else nI k)))] [] h from ⟨by decide, ?_⟩)
    rw [show (nI k) + (Int32.ofInt 1) = nI (k + 1) from (dn_a rfl rfl)]
    exact sv_S2 sv2_166 (by intro q hq; simp only [List.mem_cons, List.not_mem_nil, or_false] at hq; rcases hq with rfl | rfl | rfl | rfl <;> rfl) (ih (k + 1) (if (d_69 a2) ≤ (d_69 (nI k)) then a2 else (if ¬ (d_167 C (nI k)) = (d_167 C (nI (dV C))) then a2 else nI k)) (by omega) hZ)
def d_166 (C : sp_C) : Int32 := d_166_16 C (dV C) 0 (nI (dV C))
theorem d_166_t6 (hP : ex_P h) (hT : c_v 6 C h) (hR : h.2.2.1 0 3 = some 6)  (hQ : Q (some (.int (d_166 C))) h) : am_call am_cod 3 166 [.ref 0] h Q := by
  have h6 := hT.1.2.1
  have h5 := hT.2.1.2.1
  have h31 := dV_31 h5
  refine pz_call (n := 166) (nL := 4) (rt := (some .int)) (rows := am_r166) (d := 2) (by decide +kernel) (by decide +kernel) rfl (by funext pc; rfl) (ex_175 hP) (by exact Nat.le_of_ble_eq_true rfl) ?_
  refine am_goX 3 (show am_sh h 0 = some (10, 0) ∧ pz_S 4 (some .int) am_r166 2 Q 5 [(0, .ref 0)] [am_rf (h.2.2.1 0 3), .int (Int32.ofInt 1)] h from ⟨ex_0 hP, ?_⟩)
  rw [show am_rf (h.2.2.1 0 3) = .ref 6 from congrArg am_rf (hR)]
  refine am_goX 1 (show am_sh h 6 = some (0, 0) ∧ pz_S 4 (some .int) am_r166 2 Q 8 [(0, .ref 0)] [.int (h.1 6 4), .int (Int32.ofInt 1)] h from ⟨ex_6 hP, ?_⟩)
  rw [show h.1 6 4 = nI (dE C) from hT.2.1.1]
  refine am_goX 3 (show pz_S 4 (some .int) am_r166 2 Q 11 [(0, .ref 0)] [.int (((Int32.ofInt 1) <<< ((nI (dE C)) &&& 31)) - (Int32.ofInt 1))] h from ?_)
  rw [show ((Int32.ofInt 1) <<< ((nI (dE C)) &&& 31)) - (Int32.ofInt 1) = nI (dV C) from (dV_31 h5).2.2]
  refine am_goX 5 (show 1 < 4 ∧ 2 < 4 ∧ 3 < 4 ∧ pz_S 4 (some .int) am_r166 2 Q 16 [(3, .int (Int32.ofInt 0)), (2, .int (nI (dV C))), (1, .int (nI (dV C))), (0, .ref 0)] [] h from ⟨by decide, by decide, by decide, ?_⟩)
  refine sv_S2 sv2_166 (by intro q hq; simp only [List.mem_cons, List.not_mem_nil, or_false] at hq; rcases hq with rfl | rfl | rfl | rfl <;> rfl) (d_166_16_t6 hP hT hR (dV C) 0 (nI (dV C)) (by omega) ?_)
  exact am_goX 2 (show (∃ ty, (some .int) = some ty ∧ narrow ty (.int (d_166_16 C (dV C) 0 (nI (dV C)))) = .int (d_166_16 C (dV C) 0 (nI (dV C)))) ∧ h.2.2.2.2 = 175 ∧ _ from ⟨⟨.int, rfl, rfl⟩, ex_175 hP, hQ⟩)
theorem d_87_t17 (hP : ex_P h) (hT : c_v 17 C h) (hR : h.2.2.1 0 3 = some 17)  (hQ : Q (some (.int (d_87 C x))) h) : am_call am_cod 2 87 [.ref 0, .int x] h Q := by
  have h6 := hT.1.2.1
  have h5 := hT.2.1.2.1
  refine pz_call (n := 87) (nL := 2) (rt := (some .boolean)) (rows := am_r87) (d := 1) (by decide +kernel) (by decide +kernel) rfl (by funext pc; rfl) (ex_175 hP) (by exact Nat.le_of_ble_eq_true rfl) ?_
  suffices key : ∀ (v23 : Int32), v23 = (if x < 0 then Int32.ofInt 0 else (if (nI (dP C)) ≤ x then Int32.ofInt 0 else Int32.ofInt 1)) → pz_S 2 (some .boolean) am_r87 1 Q 20 [] [.int v23] h by
    refine am_goX 2 (show (x < 0 → pz_S 2 (some .boolean) am_r87 1 Q 19 [(0, .ref 0), (1, .int x)] [] h) ∧ (¬ (x < 0) → pz_S 2 (some .boolean) am_r87 1 Q 4 [(0, .ref 0), (1, .int x)] [] h) from ⟨fun c22 => ?_, fun c22 => ?_⟩)
    · refine am_goX 1 (show pz_S 2 (some .boolean) am_r87 1 Q 20 [(0, .ref 0), (1, .int x)] [.int (Int32.ofInt 0)] h from ?_)
      exact sv_S2 sv2_87 (fun q hq => absurd hq List.not_mem_nil) (key _ (if_pos c22).symm)
    · refine am_goX 3 (show am_sh h 0 = some (10, 0) ∧ pz_S 2 (some .boolean) am_r87 1 Q 9 [(0, .ref 0), (1, .int x)] [am_rf (h.2.2.1 0 3), .int x] h from ⟨ex_0 hP, ?_⟩)
      rw [show am_rf (h.2.2.1 0 3) = .ref 17 from congrArg am_rf (hR)]
      refine am_goX 1 (show am_sh h 17 = some (0, 0) ∧ pz_S 2 (some .boolean) am_r87 1 Q 12 [(0, .ref 0), (1, .int x)] [.int (h.1 17 0), .int x] h from ⟨ex_17 hP, ?_⟩)
      rw [show h.1 17 0 = nI (dP C) from hT.1.1]
      suffices key : ∀ (v25 : Int32), v25 = (if (nI (dP C)) ≤ x then Int32.ofInt 0 else Int32.ofInt 1) → pz_S 2 (some .boolean) am_r87 1 Q 20 [] [.int v25] h by
        refine am_goX 1 (show ((nI (dP C)) ≤ x → pz_S 2 (some .boolean) am_r87 1 Q 19 [(0, .ref 0), (1, .int x)] [] h) ∧ (¬ ((nI (dP C)) ≤ x) → pz_S 2 (some .boolean) am_r87 1 Q 15 [(0, .ref 0), (1, .int x)] [] h) from ⟨fun c24 => ?_, fun c24 => ?_⟩)
        · refine am_goX 1 (show pz_S 2 (some .boolean) am_r87 1 Q 20 [(0, .ref 0), (1, .int x)] [.int (Int32.ofInt 0)] h from ?_)
          exact sv_S2 sv2_87 (fun q hq => absurd hq List.not_mem_nil) (key _ (if_pos c24).symm)
        · refine am_goX 2 (show pz_S 2 (some .boolean) am_r87 1 Q 20 [(0, .ref 0), (1, .int x)] [.int (Int32.ofInt 1)] h from ?_)
          exact sv_S2 sv2_87 (fun q hq => absurd hq List.not_mem_nil) (key _ (if_neg c24).symm)
      intro v25 e26
      subst e26
      exact sv_S2 sv2_87 (fun q hq => absurd hq List.not_mem_nil) (key _ (if_neg c22).symm)
  intro v23 e27
  subst e27
  exact am_goX 1 (show (∃ ty, (some .boolean) = some ty ∧ narrow ty (.int (if x < 0 then Int32.ofInt 0 else (if (nI (dP C)) ≤ x then Int32.ofInt 0 else Int32.ofInt 1))) = .int (if x < 0 then Int32.ofInt 0 else (if (nI (dP C)) ≤ x then Int32.ofInt 0 else Int32.ofInt 1))) ∧ h.2.2.2.2 = 175 ∧ _ from ⟨⟨.boolean, rfl, (by (repeat' split) <;> rfl)⟩, ex_175 hP, hQ⟩)
theorem d_91_4_t17 (hP : ex_P h) (hT : c_v 17 C h) : ∀ (m k : Nat) (a2 : Int32), k + m = dE C → (pz_S 4 (some .int) am_r91 1 Q 37 [(2, .int (d_91_4 C p m k a2))] [] h) → pz_S 4 (some .int) am_r91 1 Q 4 [(0, .ref 17), (1, .int (nI p)), (2, .int a2), (3, .int (nI k))] [] h := by
  intro m
  induction m with
  | zero =>
    intro k a2 hk hZ
    have h6 := hT.1.2.1
    have h5 := hT.2.1.2.1
    refine am_goX 3 (show am_sh h 17 = some (0, 0) ∧ pz_S 4 (some .int) am_r91 1 Q 9 [(0, .ref 17), (1, .int (nI p)), (2, .int a2), (3, .int (nI k))] [.int (h.1 17 4), .int (nI k)] h from ⟨ex_17 hP, ?_⟩)
    rw [show h.1 17 4 = nI (dE C) from hT.2.1.1]
    refine am_goX 1 (show ((nI (dE C)) ≤ (nI k) → pz_S 4 (some .int) am_r91 1 Q 37 [(0, .ref 17), (1, .int (nI p)), (2, .int a2), (3, .int (nI k))] [] h) ∧ (¬ ((nI (dE C)) ≤ (nI k)) → pz_S 4 (some .int) am_r91 1 Q 12 [(0, .ref 17), (1, .int (nI p)), (2, .int a2), (3, .int (nI k))] [] h) from ⟨fun _ => ?_, fun hz => absurd (show nI (dE C) ≤ nI k from nI_le (by omega) (by omega)) hz⟩)
    exact sv_S2 sv2_91 (by intro q hq; simp only [List.mem_cons, List.not_mem_nil, or_false] at hq; rcases hq with rfl <;> rfl) (hZ)
  | succ m ih =>
    intro k a2 hk hZ
    have h6 := hT.1.2.1
    have h5 := hT.2.1.2.1
    refine am_goX 3 (show am_sh h 17 = some (0, 0) ∧ pz_S 4 (some .int) am_r91 1 Q 9 [(0, .ref 17), (1, .int (nI p)), (2, .int a2), (3, .int (nI k))] [.int (h.1 17 4), .int (nI k)] h from ⟨ex_17 hP, ?_⟩)
    rw [show h.1 17 4 = nI (dE C) from hT.2.1.1]
    refine am_goX 1 (show ((nI (dE C)) ≤ (nI k) → pz_S 4 (some .int) am_r91 1 Q 37 [(0, .ref 17), (1, .int (nI p)), (2, .int a2), (3, .int (nI k))] [] h) ∧ (¬ ((nI (dE C)) ≤ (nI k)) → pz_S 4 (some .int) am_r91 1 Q 12 [(0, .ref 17), (1, .int (nI p)), (2, .int a2), (3, .int (nI k))] [] h) from ⟨fun hz => absurd hz (show ¬ (nI (dE C) ≤ nI k) by rw [nI_leI (by omega) (by omega)]; omega), fun _ => ?_⟩)
    refine am_goX 2 (show am_sh h 17 = some (0, 0) ∧ pz_S 4 (some .int) am_r91 1 Q 16 [(0, .ref 17), (1, .int (nI p)), (2, .int a2), (3, .int (nI k))] [am_rf (h.2.2.1 17 8)] h from ⟨ex_17 hP, ?_⟩)
    rw [show am_rf (h.2.2.1 17 8) = .ref 24 from congrArg am_rf (ex_r17_8 hP)]
    refine am_goX 2 (show ∃ jj nn : Nat, am_sh h 24 = some (13, nn) ∧ jj < nn ∧ nI k = nI jj ∧ pz_S 4 (some .int) am_r91 1 Q 18 [(0, .ref 17), (1, .int (nI p)), (2, .int a2), (3, .int (nI k))] [.int (h.1 24 jj)] h from ⟨k, 5, ex_24 hP, (by omega), rfl, ?_⟩)
    rw [show h.1 24 k = dG C k from (hT.2.1.2.2 k (by omega)).2]
    refine am_goX 2 (show 0 ≤ 8 ∧ h.2.2.2.2 + am_al 65 ≤ 175 ∧ am_call am_cod 1 65 [.int (dG C k), .int (nI p)] h (fun vv h' => pz_S 4 (some .int) am_r91 1 Q 22 [(0, .ref 17), (1, .int (nI p)), (2, .int a2), (3, .int (nI k))] (vv.toList ++ []) h') from ⟨by decide, ex_lim hP rfl, am_call.up (d_65_w hP ?_) (by decide)⟩)
    suffices key : ∀ (v29 : Int32), v29 = (if (d_65 (dG C k) (nI p)) = 0 then a2 else a2 ||| ((Int32.ofInt 1) <<< ((nI k) &&& 31))) → pz_S 4 (some .int) am_r91 1 Q 31 [(0, .ref 17), (1, .int (nI p)), (2, .int v29), (3, .int (nI k))] [] h by
      refine am_goX 1 (show ((d_65 (dG C k) (nI p)) = 0 → pz_S 4 (some .int) am_r91 1 Q 31 [(0, .ref 17), (1, .int (nI p)), (2, .int a2), (3, .int (nI k))] [] h) ∧ (¬ ((d_65 (dG C k) (nI p)) = 0) → pz_S 4 (some .int) am_r91 1 Q 25 [(0, .ref 17), (1, .int (nI p)), (2, .int a2), (3, .int (nI k))] [] h) from ⟨fun c28 => ?_, fun c28 => ?_⟩)
      · exact sv_S2 sv2_91 (by intro q hq; simp only [List.mem_cons, List.not_mem_nil, or_false] at hq; rcases hq with rfl | rfl | rfl | rfl <;> rfl) (key _ (if_pos c28).symm)
      · refine am_goX 6 (show 2 < 4 ∧ pz_S 4 (some .int) am_r91 1 Q 31 [(2, .int (a2 ||| ((Int32.ofInt 1) <<< ((nI k) &&& 31)))), (0, .ref 17), (1, .int (nI p)), (3, .int (nI k))] [] h from ⟨by decide, ?_⟩)
        exact sv_S2 sv2_91 (by intro q hq; simp only [List.mem_cons, List.not_mem_nil, or_false] at hq; rcases hq with rfl | rfl | rfl | rfl <;> rfl) (key _ (if_neg c28).symm)
    intro v29 e30
    subst e30
    refine am_goX 2 (show 3 < 4 ∧ pz_S 4 (some .int) am_r91 1 Q 4 [(3, .int ((nI k) + (Int32.ofInt 1))), (0, .ref 17), (1, .int (nI p)), (2, .int (if (d_65 (dG C k) (nI p)) = 0 then a2 else a2 ||| ((Int32.ofInt 1) <<< ((nI k) &&& 31))))] [] h from ⟨by decide, ?_⟩)
    rw [show (nI k) + (Int32.ofInt 1) = nI (k + 1) from (dn_a rfl rfl)]
    exact sv_S2 sv2_91 (by intro q hq; simp only [List.mem_cons, List.not_mem_nil, or_false] at hq; rcases hq with rfl | rfl | rfl | rfl <;> rfl) (ih (k + 1) (if (d_65 (dG C k) (nI p)) = 0 then a2 else a2 ||| ((Int32.ofInt 1) <<< ((nI k) &&& 31))) (by omega) hZ)
theorem d_91_t17 (hP : ex_P h) (hT : c_v 17 C h)  (hQ : Q (some (.int (d_91 C p))) h) : am_call am_cod 2 91 [.ref 17, .int (nI p)] h Q := by
  have h6 := hT.1.2.1
  have h5 := hT.2.1.2.1
  refine pz_call (n := 91) (nL := 4) (rt := (some .int)) (rows := am_r91) (d := 1) (by decide +kernel) (by decide +kernel) rfl (by funext pc; rfl) (ex_175 hP) (by exact Nat.le_of_ble_eq_true rfl) ?_
  refine am_goX 4 (show 2 < 4 ∧ 3 < 4 ∧ pz_S 4 (some .int) am_r91 1 Q 4 [(3, .int (Int32.ofInt 0)), (2, .int (Int32.ofInt 0)), (0, .ref 17), (1, .int (nI p))] [] h from ⟨by decide, by decide, ?_⟩)
  refine sv_S2 sv2_91 (by intro q hq; simp only [List.mem_cons, List.not_mem_nil, or_false] at hq; rcases hq with rfl | rfl | rfl | rfl <;> rfl) (d_91_4_t17 hP hT (dE C) 0 (Int32.ofInt 0) (by omega) ?_)
  exact am_goX 2 (show (∃ ty, (some .int) = some ty ∧ narrow ty (.int (d_91_4 C p (dE C) 0 (Int32.ofInt 0))) = .int (d_91_4 C p (dE C) 0 (Int32.ofInt 0))) ∧ h.2.2.2.2 = 175 ∧ _ from ⟨⟨.int, rfl, rfl⟩, ex_175 hP, hQ⟩)
theorem d_167_4_t17 (hP : ex_P h) (hT : c_v 17 C h) : ∀ (m k : Nat) (a2 : Int32), k + m = dE C → (pz_S 4 (some .int) am_r167 1 Q 35 [(2, .int (d_167_4 C x m k a2))] [] h) → pz_S 4 (some .int) am_r167 1 Q 4 [(0, .ref 17), (1, .int x), (2, .int a2), (3, .int (nI k))] [] h := by
  intro m
  induction m with
  | zero =>
    intro k a2 hk hZ
    have h6 := hT.1.2.1
    have h5 := hT.2.1.2.1
    refine am_goX 3 (show am_sh h 17 = some (0, 0) ∧ pz_S 4 (some .int) am_r167 1 Q 9 [(0, .ref 17), (1, .int x), (2, .int a2), (3, .int (nI k))] [.int (h.1 17 4), .int (nI k)] h from ⟨ex_17 hP, ?_⟩)
    rw [show h.1 17 4 = nI (dE C) from hT.2.1.1]
    refine am_goX 1 (show ((nI (dE C)) ≤ (nI k) → pz_S 4 (some .int) am_r167 1 Q 35 [(0, .ref 17), (1, .int x), (2, .int a2), (3, .int (nI k))] [] h) ∧ (¬ ((nI (dE C)) ≤ (nI k)) → pz_S 4 (some .int) am_r167 1 Q 12 [(0, .ref 17), (1, .int x), (2, .int a2), (3, .int (nI k))] [] h) from ⟨fun _ => ?_, fun hz => absurd (show nI (dE C) ≤ nI k from nI_le (by omega) (by omega)) hz⟩)
    exact sv_S2 sv2_167 (by intro q hq; simp only [List.mem_cons, List.not_mem_nil, or_false] at hq; rcases hq with rfl <;> rfl) (hZ)
  | succ m ih =>
    intro k a2 hk hZ
    have h6 := hT.1.2.1
    have h5 := hT.2.1.2.1
    refine am_goX 3 (show am_sh h 17 = some (0, 0) ∧ pz_S 4 (some .int) am_r167 1 Q 9 [(0, .ref 17), (1, .int x), (2, .int a2), (3, .int (nI k))] [.int (h.1 17 4), .int (nI k)] h from ⟨ex_17 hP, ?_⟩)
    rw [show h.1 17 4 = nI (dE C) from hT.2.1.1]
    refine am_goX 1 (show ((nI (dE C)) ≤ (nI k) → pz_S 4 (some .int) am_r167 1 Q 35 [(0, .ref 17), (1, .int x), (2, .int a2), (3, .int (nI k))] [] h) ∧ (¬ ((nI (dE C)) ≤ (nI k)) → pz_S 4 (some .int) am_r167 1 Q 12 [(0, .ref 17), (1, .int x), (2, .int a2), (3, .int (nI k))] [] h) from ⟨fun hz => absurd hz (show ¬ (nI (dE C) ≤ nI k) by rw [nI_leI (by omega) (by omega)]; omega), fun _ => ?_⟩)
    refine am_goX 3 (show 0 ≤ 8 ∧ h.2.2.2.2 + am_al 65 ≤ 175 ∧ am_call am_cod 1 65 [.int x, .int (nI k)] h (fun vv h' => pz_S 4 (some .int) am_r167 1 Q 17 [(0, .ref 17), (1, .int x), (2, .int a2), (3, .int (nI k))] (vv.toList ++ []) h') from ⟨by decide, ex_lim hP rfl, am_call.up (d_65_w hP ?_) (by decide)⟩)
    suffices key : ∀ (v32 : Int32), v32 = (if (d_65 x (nI k)) = 0 then a2 else a2 ||| (dG C k)) → pz_S 4 (some .int) am_r167 1 Q 29 [(0, .ref 17), (1, .int x), (2, .int v32), (3, .int (nI k))] [] h by
      refine am_goX 1 (show ((d_65 x (nI k)) = 0 → pz_S 4 (some .int) am_r167 1 Q 29 [(0, .ref 17), (1, .int x), (2, .int a2), (3, .int (nI k))] [] h) ∧ (¬ ((d_65 x (nI k)) = 0) → pz_S 4 (some .int) am_r167 1 Q 20 [(0, .ref 17), (1, .int x), (2, .int a2), (3, .int (nI k))] [] h) from ⟨fun c31 => ?_, fun c31 => ?_⟩)
      · exact sv_S2 sv2_167 (by intro q hq; simp only [List.mem_cons, List.not_mem_nil, or_false] at hq; rcases hq with rfl | rfl | rfl | rfl <;> rfl) (key _ (if_pos c31).symm)
      · refine am_goX 3 (show am_sh h 17 = some (0, 0) ∧ pz_S 4 (some .int) am_r167 1 Q 25 [(0, .ref 17), (1, .int x), (2, .int a2), (3, .int (nI k))] [am_rf (h.2.2.1 17 8), .int a2] h from ⟨ex_17 hP, ?_⟩)
        rw [show am_rf (h.2.2.1 17 8) = .ref 24 from congrArg am_rf (ex_r17_8 hP)]
        refine am_goX 2 (show ∃ jj nn : Nat, am_sh h 24 = some (13, nn) ∧ jj < nn ∧ nI k = nI jj ∧ pz_S 4 (some .int) am_r167 1 Q 27 [(0, .ref 17), (1, .int x), (2, .int a2), (3, .int (nI k))] [.int (h.1 24 jj), .int a2] h from ⟨k, 5, ex_24 hP, (by omega), rfl, ?_⟩)
        rw [show h.1 24 k = dG C k from (hT.2.1.2.2 k (by omega)).2]
        refine am_goX 2 (show 2 < 4 ∧ pz_S 4 (some .int) am_r167 1 Q 29 [(2, .int (a2 ||| (dG C k))), (0, .ref 17), (1, .int x), (3, .int (nI k))] [] h from ⟨by decide, ?_⟩)
        exact sv_S2 sv2_167 (by intro q hq; simp only [List.mem_cons, List.not_mem_nil, or_false] at hq; rcases hq with rfl | rfl | rfl | rfl <;> rfl) (key _ (if_neg c31).symm)
    intro v32 e33
    subst e33
    refine am_goX 2 (show 3 < 4 ∧ pz_S 4 (some .int) am_r167 1 Q 4 [(3, .int ((nI k) + (Int32.ofInt 1))), (0, .ref 17), (1, .int x), (2, .int (if (d_65 x (nI k)) = 0 then a2 else a2 ||| (dG C k)))] [] h from ⟨by decide, ?_⟩)
    rw [show (nI k) + (Int32.ofInt 1) = nI (k + 1) from (dn_a rfl rfl)]
    exact sv_S2 sv2_167 (by intro q hq; simp only [List.mem_cons, List.not_mem_nil, or_false] at hq; rcases hq with rfl | rfl | rfl | rfl <;> rfl) (ih (k + 1) (if (d_65 x (nI k)) = 0 then a2 else a2 ||| (dG C k)) (by omega) hZ)
theorem d_167_t17 (hP : ex_P h) (hT : c_v 17 C h)  (hQ : Q (some (.int (d_167 C x))) h) : am_call am_cod 2 167 [.ref 17, .int x] h Q := by
  have h6 := hT.1.2.1
  have h5 := hT.2.1.2.1
  refine pz_call (n := 167) (nL := 4) (rt := (some .int)) (rows := am_r167) (d := 1) (by decide +kernel) (by decide +kernel) rfl (by funext pc; rfl) (ex_175 hP) (by exact Nat.le_of_ble_eq_true rfl) ?_
  refine am_goX 4 (show 2 < 4 ∧ 3 < 4 ∧ pz_S 4 (some .int) am_r167 1 Q 4 [(3, .int (Int32.ofInt 0)), (2, .int (Int32.ofInt 0)), (0, .ref 17), (1, .int x)] [] h from ⟨by decide, by decide, ?_⟩)
  refine sv_S2 sv2_167 (by intro q hq; simp only [List.mem_cons, List.not_mem_nil, or_false] at hq; rcases hq with rfl | rfl | rfl | rfl <;> rfl) (d_167_4_t17 hP hT (dE C) 0 (Int32.ofInt 0) (by omega) ?_)
  exact am_goX 2 (show (∃ ty, (some .int) = some ty ∧ narrow ty (.int (d_167_4 C x (dE C) 0 (Int32.ofInt 0))) = .int (d_167_4 C x (dE C) 0 (Int32.ofInt 0))) ∧ h.2.2.2.2 = 175 ∧ _ from ⟨⟨.int, rfl, rfl⟩, ex_175 hP, hQ⟩)
theorem d_165_t17 (hP : ex_P h) (hT : c_v 17 C h) (hR : h.2.2.1 0 3 = some 17) (hp : p < dP C) (hq : q < dP C) (hQ : Q (some (.int (d_165 C p q))) h) : am_call am_cod 4 165 [.ref 0, .int (nI p), .int (nI q)] h Q := by
  have h6 := hT.1.2.1
  have h5 := hT.2.1.2.1
  refine pz_call (n := 165) (nL := 3) (rt := (some .int)) (rows := am_r165) (d := 3) (by decide +kernel) (by decide +kernel) rfl (by funext pc; rfl) (ex_175 hP) (by exact Nat.le_of_ble_eq_true rfl) ?_
  refine am_goX 3 (show am_rc h 0 10 ∧ 0 ≤ 8 ∧ h.2.2.2.2 + am_al 87 ≤ 175 ∧ am_call am_cod 3 87 [.ref 0, .int (nI p)] h (fun vv h' => pz_S 3 (some .int) am_r165 3 Q 5 [(0, .ref 0), (1, .int (nI p)), (2, .int (nI q))] (vv.toList ++ []) h') from ⟨Or.inl ⟨by decide, ex_0 hP⟩, by decide, ex_lim hP rfl, am_call.up (d_87_t17 hP hT hR ?_) (by decide)⟩)
  rw [show d_87 C (nI p) = Int32.ofInt 1 from (v_87 hp)]
  refine am_goX 1 (show ((Int32.ofInt 1) = 0 → pz_S 3 (some .int) am_r165 3 Q 16 [(0, .ref 0), (1, .int (nI p)), (2, .int (nI q))] [] h) ∧ (¬ ((Int32.ofInt 1) = 0) → pz_S 3 (some .int) am_r165 3 Q 8 [(0, .ref 0), (1, .int (nI p)), (2, .int (nI q))] [] h) from ⟨fun hz => absurd hz (by decide), fun _ => ?_⟩)
  refine am_goX 3 (show am_rc h 0 10 ∧ 0 ≤ 8 ∧ h.2.2.2.2 + am_al 87 ≤ 175 ∧ am_call am_cod 3 87 [.ref 0, .int (nI q)] h (fun vv h' => pz_S 3 (some .int) am_r165 3 Q 13 [(0, .ref 0), (1, .int (nI p)), (2, .int (nI q))] (vv.toList ++ []) h') from ⟨Or.inl ⟨by decide, ex_0 hP⟩, by decide, ex_lim hP rfl, am_call.up (d_87_t17 hP hT hR ?_) (by decide)⟩)
  rw [show d_87 C (nI q) = Int32.ofInt 1 from (v_87 hq)]
  refine am_goX 1 (show (¬ (Int32.ofInt 1) = 0 → pz_S 3 (some .int) am_r165 3 Q 18 [(0, .ref 0), (1, .int (nI p)), (2, .int (nI q))] [] h) ∧ (¬ ¬ (Int32.ofInt 1) = 0 → pz_S 3 (some .int) am_r165 3 Q 16 [(0, .ref 0), (1, .int (nI p)), (2, .int (nI q))] [] h) from ⟨fun _ => ?_, fun hz => absurd (by decide) hz⟩)
  refine am_goX 2 (show am_sh h 0 = some (10, 0) ∧ pz_S 3 (some .int) am_r165 3 Q 22 [(0, .ref 0), (1, .int (nI p)), (2, .int (nI q))] [am_rf (h.2.2.1 0 3)] h from ⟨ex_0 hP, ?_⟩)
  rw [show am_rf (h.2.2.1 0 3) = .ref 17 from congrArg am_rf (hR)]
  refine am_goX 2 (show am_rc h 17 0 ∧ 0 ≤ 8 ∧ h.2.2.2.2 + am_al 91 ≤ 175 ∧ am_call am_cod 3 91 [.ref 17, .int (nI p)] h (fun vv h' => pz_S 3 (some .int) am_r165 3 Q 26 [(0, .ref 0), (1, .int (nI p)), (2, .int (nI q))] (vv.toList ++ []) h') from ⟨Or.inl ⟨by decide, ex_17 hP⟩, by decide, ex_lim hP rfl, am_call.up (d_91_t17 hP hT ?_) (by decide)⟩)
  refine am_goX 2 (show am_sh h 0 = some (10, 0) ∧ pz_S 3 (some .int) am_r165 3 Q 30 [(0, .ref 0), (1, .int (nI p)), (2, .int (nI q))] [am_rf (h.2.2.1 0 3), .int (d_91 C p)] h from ⟨ex_0 hP, ?_⟩)
  rw [show am_rf (h.2.2.1 0 3) = .ref 17 from congrArg am_rf (hR)]
  refine am_goX 2 (show am_rc h 17 0 ∧ 1 ≤ 8 ∧ h.2.2.2.2 + am_al 91 ≤ 175 ∧ am_call am_cod 3 91 [.ref 17, .int (nI q)] h (fun vv h' => pz_S 3 (some .int) am_r165 3 Q 34 [(0, .ref 0), (1, .int (nI p)), (2, .int (nI q))] (vv.toList ++ [.int (d_91 C p)]) h') from ⟨Or.inl ⟨by decide, ex_17 hP⟩, by decide, ex_lim hP rfl, am_call.up (d_91_t17 hP hT ?_) (by decide)⟩)
  exact am_goX 2 (show (∃ ty, (some .int) = some ty ∧ narrow ty (.int ((d_91 C p) &&& (d_91 C q))) = .int ((d_91 C p) &&& (d_91 C q))) ∧ h.2.2.2.2 = 175 ∧ _ from ⟨⟨.int, rfl, rfl⟩, ex_175 hP, hQ⟩)
theorem d_165_xt17 (hP : ex_P h) (hT : c_v 17 C h) (hR : h.2.2.1 0 3 = some 17) (ex : d_87 C x = Int32.ofInt 0) (hQ : Q (some (.int d_165x)) h) : am_call am_cod 4 165 [.ref 0, .int x, .int y] h Q := by
  have h6 := hT.1.2.1
  have h5 := hT.2.1.2.1
  refine pz_call (n := 165) (nL := 3) (rt := (some .int)) (rows := am_r165) (d := 3) (by decide +kernel) (by decide +kernel) rfl (by funext pc; rfl) (ex_175 hP) (by exact Nat.le_of_ble_eq_true rfl) ?_
  refine am_goX 3 (show am_rc h 0 10 ∧ 0 ≤ 8 ∧ h.2.2.2.2 + am_al 87 ≤ 175 ∧ am_call am_cod 3 87 [.ref 0, .int x] h (fun vv h' => pz_S 3 (some .int) am_r165 3 Q 5 [(0, .ref 0), (1, .int x), (2, .int y)] (vv.toList ++ []) h') from ⟨Or.inl ⟨by decide, ex_0 hP⟩, by decide, ex_lim hP rfl, am_call.up (d_87_t17 hP hT hR ?_) (by decide)⟩)
  rw [show d_87 C x = Int32.ofInt 0 from ex]
  refine am_goX 1 (show ((Int32.ofInt 0) = 0 → pz_S 3 (some .int) am_r165 3 Q 16 [(0, .ref 0), (1, .int x), (2, .int y)] [] h) ∧ (¬ ((Int32.ofInt 0) = 0) → pz_S 3 (some .int) am_r165 3 Q 8 [(0, .ref 0), (1, .int x), (2, .int y)] [] h) from ⟨fun _ => ?_, fun hz => absurd (by decide) hz⟩)
  exact am_goX 2 (show (∃ ty, (some .int) = some ty ∧ narrow ty (.int (Int32.ofInt (-1))) = .int (Int32.ofInt (-1))) ∧ h.2.2.2.2 = 175 ∧ _ from ⟨⟨.int, rfl, rfl⟩, ex_175 hP, hQ⟩)
theorem d_165_yt17 (hP : ex_P h) (hT : c_v 17 C h) (hR : h.2.2.1 0 3 = some 17) (hp : p < dP C) (ey : d_87 C y = Int32.ofInt 0) (hQ : Q (some (.int d_165x)) h) : am_call am_cod 4 165 [.ref 0, .int (nI p), .int y] h Q := by
  have h6 := hT.1.2.1
  have h5 := hT.2.1.2.1
  refine pz_call (n := 165) (nL := 3) (rt := (some .int)) (rows := am_r165) (d := 3) (by decide +kernel) (by decide +kernel) rfl (by funext pc; rfl) (ex_175 hP) (by exact Nat.le_of_ble_eq_true rfl) ?_
  refine am_goX 3 (show am_rc h 0 10 ∧ 0 ≤ 8 ∧ h.2.2.2.2 + am_al 87 ≤ 175 ∧ am_call am_cod 3 87 [.ref 0, .int (nI p)] h (fun vv h' => pz_S 3 (some .int) am_r165 3 Q 5 [(0, .ref 0), (1, .int (nI p)), (2, .int y)] (vv.toList ++ []) h') from ⟨Or.inl ⟨by decide, ex_0 hP⟩, by decide, ex_lim hP rfl, am_call.up (d_87_t17 hP hT hR ?_) (by decide)⟩)
  rw [show d_87 C (nI p) = Int32.ofInt 1 from (v_87 hp)]
  refine am_goX 1 (show ((Int32.ofInt 1) = 0 → pz_S 3 (some .int) am_r165 3 Q 16 [(0, .ref 0), (1, .int (nI p)), (2, .int y)] [] h) ∧ (¬ ((Int32.ofInt 1) = 0) → pz_S 3 (some .int) am_r165 3 Q 8 [(0, .ref 0), (1, .int (nI p)), (2, .int y)] [] h) from ⟨fun hz => absurd hz (by decide), fun _ => ?_⟩)
  refine am_goX 3 (show am_rc h 0 10 ∧ 0 ≤ 8 ∧ h.2.2.2.2 + am_al 87 ≤ 175 ∧ am_call am_cod 3 87 [.ref 0, .int y] h (fun vv h' => pz_S 3 (some .int) am_r165 3 Q 13 [(0, .ref 0), (1, .int (nI p)), (2, .int y)] (vv.toList ++ []) h') from ⟨Or.inl ⟨by decide, ex_0 hP⟩, by decide, ex_lim hP rfl, am_call.up (d_87_t17 hP hT hR ?_) (by decide)⟩)
  rw [show d_87 C y = Int32.ofInt 0 from ey]
  refine am_goX 1 (show (¬ (Int32.ofInt 0) = 0 → pz_S 3 (some .int) am_r165 3 Q 18 [(0, .ref 0), (1, .int (nI p)), (2, .int y)] [] h) ∧ (¬ ¬ (Int32.ofInt 0) = 0 → pz_S 3 (some .int) am_r165 3 Q 16 [(0, .ref 0), (1, .int (nI p)), (2, .int y)] [] h) from ⟨fun hz => absurd hz (by decide), fun _ => ?_⟩)
  exact am_goX 2 (show (∃ ty, (some .int) = some ty ∧ narrow ty (.int (Int32.ofInt (-1))) = .int (Int32.ofInt (-1))) ∧ h.2.2.2.2 = 175 ∧ _ from ⟨⟨.int, rfl, rfl⟩, ex_175 hP, hQ⟩)
theorem d_166_16_t17 (hP : ex_P h) (hT : c_v 17 C h) (hR : h.2.2.1 0 3 = some 17) : ∀ (m k : Nat) (a2 : Int32), k + m = dV C → (pz_S 4 (some .int) am_r166 2 Q 59 [(2, .int (d_166_16 C m k a2))] [] h) → pz_S 4 (some .int) am_r166 2 Q 16 [(0, .ref 0), (1, .int (nI (dV C))), (2, .int a2), (3, .int (nI k))] [] h := by
  intro m
  induction m with
  | zero =>
    intro k a2 hk hZ
    have h6 := hT.1.2.1
    have h5 := hT.2.1.2.1
    have h31 := dV_31 h5
    refine am_goX 3 (show ((nI (dV C)) ≤ (nI k) → pz_S 4 (some .int) am_r166 2 Q 59 [(0, .ref 0), (1, .int (nI (dV C))), (2, .int a2), (3, .int (nI k))] [] h) ∧ (¬ ((nI (dV C)) ≤ (nI k)) → pz_S 4 (some .int) am_r166 2 Q 21 [(0, .ref 0), (1, .int (nI (dV C))), (2, .int a2), (3, .int (nI k))] [] h) from ⟨fun _ => ?_, fun hz => absurd (show nI (dV C) ≤ nI k from nI_le (by omega) (by omega)) hz⟩)
    exact sv_S2 sv2_166 (by intro q hq; simp only [List.mem_cons, List.not_mem_nil, or_false] at hq; rcases hq with rfl <;> rfl) (hZ)
  | succ m ih =>
    intro k a2 hk hZ
    have h6 := hT.1.2.1
    have h5 := hT.2.1.2.1
    have h31 := dV_31 h5
    refine am_goX 3 (show ((nI (dV C)) ≤ (nI k) → pz_S 4 (some .int) am_r166 2 Q 59 [(0, .ref 0), (1, .int (nI (dV C))), (2, .int a2), (3, .int (nI k))] [] h) ∧ (¬ ((nI (dV C)) ≤ (nI k)) → pz_S 4 (some .int) am_r166 2 Q 21 [(0, .ref 0), (1, .int (nI (dV C))), (2, .int a2), (3, .int (nI k))] [] h) from ⟨fun hz => absurd hz (show ¬ (nI (dV C) ≤ nI k) by rw [nI_leI (by omega) (by omega)]; omega), fun _ => ?_⟩)
    refine am_goX 2 (show 0 ≤ 8 ∧ h.2.2.2.2 + am_al 69 ≤ 175 ∧ am_call am_cod 2 69 [.int (nI k)] h (fun vv h' => pz_S 4 (some .int) am_r166 2 Q 25 [(0, .ref 0), (1, .int (nI (dV C))), (2, .int a2), (3, .int (nI k))] (vv.toList ++ []) h') from ⟨by decide, ex_lim hP rfl, am_call.up (d_69_w hP ?_) (by decide)⟩)
    refine am_goX 2 (show 1 ≤ 8 ∧ h.2.2.2.2 + am_al 69 ≤ 175 ∧ am_call am_cod 2 69 [.int a2] h (fun vv h' => pz_S 4 (some .int) am_r166 2 Q 29 [(0, .ref 0), (1, .int (nI (dV C))), (2, .int a2), (3, .int (nI k))] (vv.toList ++ [.int (d_69 (nI k))]) h') from ⟨by decide, ex_lim hP rfl, am_call.up (d_69_w hP ?_) (by decide)⟩)
    suffices key : ∀ (v35 : Int32), v35 = (if (d_69 a2) ≤ (d_69 (nI k)) then a2 else (if ¬ (d_167 C (nI k)) = (d_167 C (nI (dV C))) then a2 else nI k)) → pz_S 4 (some .int) am_r166 2 Q 53 [(0, .ref 0), (1, .int (nI (dV C))), (2, .int v35), (3, .int (nI k))] [] h by
      refine am_goX 1 (show ((d_69 a2) ≤ (d_69 (nI k)) → pz_S 4 (some .int) am_r166 2 Q 53 [(0, .ref 0), (1, .int (nI (dV C))), (2, .int a2), (3, .int (nI k))] [] h) ∧ (¬ ((d_69 a2) ≤ (d_69 (nI k))) → pz_S 4 (some .int) am_r166 2 Q 32 [(0, .ref 0), (1, .int (nI (dV C))), (2, .int a2), (3, .int (nI k))] [] h) from ⟨fun c34 => ?_, fun c34 => ?_⟩)
      · exact sv_S2 sv2_166 (by intro q hq; simp only [List.mem_cons, List.not_mem_nil, or_false] at hq; rcases hq with rfl | rfl | rfl | rfl <;> rfl) (key _ (if_pos c34).symm)
      · refine am_goX 2 (show am_sh h 0 = some (10, 0) ∧ pz_S 4 (some .int) am_r166 2 Q 36 [(0, .ref 0), (1, .int (nI (dV C))), (2, .int a2), (3, .int (nI k))] [am_rf (h.2.2.1 0 3)] h from ⟨ex_0 hP, ?_⟩)
        rw [show am_rf (h.2.2.1 0 3) = .ref 17 from congrArg am_rf (hR)]
        refine am_goX 2 (show am_rc h 17 0 ∧ 0 ≤ 8 ∧ h.2.2.2.2 + am_al 167 ≤ 175 ∧ am_call am_cod 2 167 [.ref 17, .int (nI k)] h (fun vv h' => pz_S 4 (some .int) am_r166 2 Q 40 [(0, .ref 0), (1, .int (nI (dV C))), (2, .int a2), (3, .int (nI k))] (vv.toList ++ []) h') from ⟨Or.inl ⟨by decide, ex_17 hP⟩, by decide, ex_lim hP rfl, am_call.up (d_167_t17 hP hT ?_) (by decide)⟩)
        refine am_goX 2 (show am_sh h 0 = some (10, 0) ∧ pz_S 4 (some .int) am_r166 2 Q 44 [(0, .ref 0), (1, .int (nI (dV C))), (2, .int a2), (3, .int (nI k))] [am_rf (h.2.2.1 0 3), .int (d_167 C (nI k))] h from ⟨ex_0 hP, ?_⟩)
        rw [show am_rf (h.2.2.1 0 3) = .ref 17 from congrArg am_rf (hR)]
        refine am_goX 2 (show am_rc h 17 0 ∧ 1 ≤ 8 ∧ h.2.2.2.2 + am_al 167 ≤ 175 ∧ am_call am_cod 2 167 [.ref 17, .int (nI (dV C))] h (fun vv h' => pz_S 4 (some .int) am_r166 2 Q 48 [(0, .ref 0), (1, .int (nI (dV C))), (2, .int a2), (3, .int (nI k))] (vv.toList ++ [.int (d_167 C (nI k))]) h') from ⟨Or.inl ⟨by decide, ex_17 hP⟩, by decide, ex_lim hP rfl, am_call.up (d_167_t17 hP hT ?_) (by decide)⟩)
        suffices key : ∀ (v37 : Int32), v37 = (if ¬ (d_167 C (nI k)) = (d_167 C (nI (dV C))) then a2 else nI k) → pz_S 4 (some .int) am_r166 2 Q 53 [(0, .ref 0), (1, .int (nI (dV C))), (2, .int v37), (3, .int (nI k))] [] h by
          refine am_goX 1 (show (¬ (d_167 C (nI k)) = (d_167 C (nI (dV C))) → pz_S 4 (some .int) am_r166 2 Q 53 [(0, .ref 0), (1, .int (nI (dV C))), (2, .int a2), (3, .int (nI k))] [] h) ∧ (¬ ¬ (d_167 C (nI k)) = (d_167 C (nI (dV C))) → pz_S 4 (some .int) am_r166 2 Q 51 [(0, .ref 0), (1, .int (nI (dV C))), (2, .int a2), (3, .int (nI k))] [] h) from ⟨fun c36 => ?_, fun c36 => ?_⟩)
          · exact sv_S2 sv2_166 (by intro q hq; simp only [List.mem_cons, List.not_mem_nil, or_false] at hq; rcases hq with rfl | rfl | rfl | rfl <;> rfl) (key _ (if_pos c36).symm)
          · refine am_goX 2 (show 2 < 4 ∧ pz_S 4 (some .int) am_r166 2 Q 53 [(2, .int (nI k)), (0, .ref 0), (1, .int (nI (dV C))), (3, .int (nI k))] [] h from ⟨by decide, ?_⟩)
            exact sv_S2 sv2_166 (by intro q hq; simp only [List.mem_cons, List.not_mem_nil, or_false] at hq; rcases hq with rfl | rfl | rfl | rfl <;> rfl) (key _ (if_neg c36).symm)
        intro v37 e38
        subst e38
        exact sv_S2 sv2_166 (by intro q hq; simp only [List.mem_cons, List.not_mem_nil, or_false] at hq; rcases hq with rfl | rfl | rfl | rfl <;> rfl) (key _ (if_neg c34).symm)
    intro v35 e39
    subst e39
    refine am_goX 2 (show 3 < 4 ∧ pz_S 4 (some .int) am_r166 2 Q 16 [(3, .int ((nI k) + (Int32.ofInt 1))), (0, .ref 0), (1, .int (nI (dV C))), (2, .int (if (d_69 a2) ≤ (d_69 (nI k)) then a2 else (if ¬ (d_167 C (nI k)) = (d_167 C (nI (dV C))) then a2 else nI k)))] [] h from ⟨by decide, ?_⟩)
    rw [show (nI k) + (Int32.ofInt 1) = nI (k + 1) from (dn_a rfl rfl)]
    exact sv_S2 sv2_166 (by intro q hq; simp only [List.mem_cons, List.not_mem_nil, or_false] at hq; rcases hq with rfl | rfl | rfl | rfl <;> rfl) (ih (k + 1) (if (d_69 a2) ≤ (d_69 (nI k)) then a2 else (if ¬ (d_167 C (nI k)) = (d_167 C (nI (dV C))) then a2 else nI k)) (by omega) hZ)
theorem d_166_t17 (hP : ex_P h) (hT : c_v 17 C h) (hR : h.2.2.1 0 3 = some 17)  (hQ : Q (some (.int (d_166 C))) h) : am_call am_cod 3 166 [.ref 0] h Q := by
  have h6 := hT.1.2.1
  have h5 := hT.2.1.2.1
  have h31 := dV_31 h5
  refine pz_call (n := 166) (nL := 4) (rt := (some .int)) (rows := am_r166) (d := 2) (by decide +kernel) (by decide +kernel) rfl (by funext pc; rfl) (ex_175 hP) (by exact Nat.le_of_ble_eq_true rfl) ?_
  refine am_goX 3 (show am_sh h 0 = some (10, 0) ∧ pz_S 4 (some .int) am_r166 2 Q 5 [(0, .ref 0)] [am_rf (h.2.2.1 0 3), .int (Int32.ofInt 1)] h from ⟨ex_0 hP, ?_⟩)
  rw [show am_rf (h.2.2.1 0 3) = .ref 17 from congrArg am_rf (hR)]
  refine am_goX 1 (show am_sh h 17 = some (0, 0) ∧ pz_S 4 (some .int) am_r166 2 Q 8 [(0, .ref 0)] [.int (h.1 17 4), .int (Int32.ofInt 1)] h from ⟨ex_17 hP, ?_⟩)
  rw [show h.1 17 4 = nI (dE C) from hT.2.1.1]
  refine am_goX 3 (show pz_S 4 (some .int) am_r166 2 Q 11 [(0, .ref 0)] [.int (((Int32.ofInt 1) <<< ((nI (dE C)) &&& 31)) - (Int32.ofInt 1))] h from ?_)
  rw [show ((Int32.ofInt 1) <<< ((nI (dE C)) &&& 31)) - (Int32.ofInt 1) = nI (dV C) from (dV_31 h5).2.2]
  refine am_goX 5 (show 1 < 4 ∧ 2 < 4 ∧ 3 < 4 ∧ pz_S 4 (some .int) am_r166 2 Q 16 [(3, .int (Int32.ofInt 0)), (2, .int (nI (dV C))), (1, .int (nI (dV C))), (0, .ref 0)] [] h from ⟨by decide, by decide, by decide, ?_⟩)
  refine sv_S2 sv2_166 (by intro q hq; simp only [List.mem_cons, List.not_mem_nil, or_false] at hq; rcases hq with rfl | rfl | rfl | rfl <;> rfl) (d_166_16_t17 hP hT hR (dV C) 0 (nI (dV C)) (by omega) ?_)
  exact am_goX 2 (show (∃ ty, (some .int) = some ty ∧ narrow ty (.int (d_166_16 C (dV C) 0 (nI (dV C)))) = .int (d_166_16 C (dV C) 0 (nI (dV C)))) ∧ h.2.2.2.2 = 175 ∧ _ from ⟨⟨.int, rfl, rfl⟩, ex_175 hP, hQ⟩)
def d_186 (C : sp_C) : Int32 := nI (dP C)
theorem d_186_r (hP : ex_P h) (hT : tR C h)  (hQ : Q (some (.int (d_186 C))) h) : am_call am_cod 1 186 [.ref 154] h Q := by
  have h6 := hT.1.2.1
  have h5 := hT.2.1.2.1
  refine pz_call (n := 186) (nL := 1) (rt := (some .int)) (rows := am_r186) (d := 0) (by decide +kernel) (by decide +kernel) rfl (by funext pc; rfl) (ex_175 hP) (by exact Nat.le_of_ble_eq_true rfl) ?_
  refine am_goX 2 (show am_sh h 154 = some (11, 0) ∧ pz_S 1 (some .int) am_r186 0 Q 4 [(0, .ref 154)] [am_rf (h.2.2.1 154 10)] h from ⟨ex_154 hP, ?_⟩)
  rw [show am_rf (h.2.2.1 154 10) = .ref 160 from congrArg am_rf (ex_r154_10 hP)]
  refine am_goX 2 (show ∃ jj nn : Nat, am_sh h 160 = some (13, nn) ∧ jj < nn ∧ Int32.ofInt 0 = nI jj ∧ pz_S 1 (some .int) am_r186 0 Q 6 [(0, .ref 154)] [.int (h.1 160 jj)] h from ⟨0, 80, ex_160 hP, (by omega), rfl, ?_⟩)
  rw [show h.1 160 0 = nI (dP C) from hT.1.1]
  exact am_goX 1 (show (∃ ty, (some .int) = some ty ∧ narrow ty (.int (nI (dP C))) = .int (nI (dP C))) ∧ h.2.2.2.2 = 175 ∧ _ from ⟨⟨.int, rfl, rfl⟩, ex_175 hP, hQ⟩)
def d_183 (C : sp_C) : Int32 := nI (dE C)
theorem d_183_r (hP : ex_P h) (hT : tR C h)  (hQ : Q (some (.int (d_183 C))) h) : am_call am_cod 1 183 [.ref 154] h Q := by
  have h6 := hT.1.2.1
  have h5 := hT.2.1.2.1
  refine pz_call (n := 183) (nL := 1) (rt := (some .int)) (rows := am_r183) (d := 0) (by decide +kernel) (by decide +kernel) rfl (by funext pc; rfl) (ex_175 hP) (by exact Nat.le_of_ble_eq_true rfl) ?_
  refine am_goX 2 (show am_sh h 154 = some (11, 0) ∧ pz_S 1 (some .int) am_r183 0 Q 4 [(0, .ref 154)] [am_rf (h.2.2.1 154 10)] h from ⟨ex_154 hP, ?_⟩)
  rw [show am_rf (h.2.2.1 154 10) = .ref 160 from congrArg am_rf (ex_r154_10 hP)]
  refine am_goX 2 (show ∃ jj nn : Nat, am_sh h 160 = some (13, nn) ∧ jj < nn ∧ Int32.ofInt 1 = nI jj ∧ pz_S 1 (some .int) am_r183 0 Q 6 [(0, .ref 154)] [.int (h.1 160 jj)] h from ⟨1, 80, ex_160 hP, (by omega), rfl, ?_⟩)
  rw [show h.1 160 1 = nI (dE C) from hT.2.1.1]
  exact am_goX 1 (show (∃ ty, (some .int) = some ty ∧ narrow ty (.int (nI (dE C))) = .int (nI (dE C))) ∧ h.2.2.2.2 = 175 ∧ _ from ⟨⟨.int, rfl, rfl⟩, ex_175 hP, hQ⟩)
theorem d_187_r0 (hP : ex_P h) (hT : tR C h) (hp : p < dP C) (hQ : Q (some (.int (dK C p))) h) : am_call am_cod 1 187 [.ref 154, .int (nI p), .int (Int32.ofInt 0)] h Q := by
  have h6 := hT.1.2.1
  have h5 := hT.2.1.2.1
  refine pz_call (n := 187) (nL := 3) (rt := (some .int)) (rows := am_r187) (d := 0) (by decide +kernel) (by decide +kernel) rfl (by funext pc; rfl) (ex_175 hP) (by exact Nat.le_of_ble_eq_true rfl) ?_
  refine am_goX 2 (show am_sh h 154 = some (11, 0) ∧ pz_S 3 (some .int) am_r187 0 Q 4 [(0, .ref 154), (1, .int (nI p)), (2, .int (Int32.ofInt 0))] [am_rf (h.2.2.1 154 10)] h from ⟨ex_154 hP, ?_⟩)
  rw [show am_rf (h.2.2.1 154 10) = .ref 160 from congrArg am_rf (ex_r154_10 hP)]
  refine am_goX 8 (show ∃ jj nn : Nat, am_sh h 160 = some (13, nn) ∧ jj < nn ∧ ((Int32.ofInt 4) + ((Int32.ofInt 3) * (nI p))) + (Int32.ofInt 0) = nI jj ∧ pz_S 3 (some .int) am_r187 0 Q 12 [(0, .ref 154), (1, .int (nI p)), (2, .int (Int32.ofInt 0))] [.int (h.1 160 jj)] h from ⟨((4 + (3 * p)) + 0), 80, ex_160 hP, (by omega), (dn_a (dn_a rfl (dn_m rfl rfl)) rfl), ?_⟩)
  rw [show h.1 160 ((4 + (3 * p)) + 0) = dK C p from (by rw [show ((4 + (3 * p)) + 0) = 4 + 3 * p by omega]; exact (hT.1.2.2 p (by omega)).1)]
  exact am_goX 1 (show (∃ ty, (some .int) = some ty ∧ narrow ty (.int (dK C p)) = .int (dK C p)) ∧ h.2.2.2.2 = 175 ∧ _ from ⟨⟨.int, rfl, rfl⟩, ex_175 hP, hQ⟩)
theorem d_187_r1 (hP : ex_P h) (hT : tR C h) (hp : p < dP C) (hQ : Q (some (.int (dL C p))) h) : am_call am_cod 1 187 [.ref 154, .int (nI p), .int (Int32.ofInt 1)] h Q := by
  have h6 := hT.1.2.1
  have h5 := hT.2.1.2.1
  refine pz_call (n := 187) (nL := 3) (rt := (some .int)) (rows := am_r187) (d := 0) (by decide +kernel) (by decide +kernel) rfl (by funext pc; rfl) (ex_175 hP) (by exact Nat.le_of_ble_eq_true rfl) ?_
  refine am_goX 2 (show am_sh h 154 = some (11, 0) ∧ pz_S 3 (some .int) am_r187 0 Q 4 [(0, .ref 154), (1, .int (nI p)), (2, .int (Int32.ofInt 1))] [am_rf (h.2.2.1 154 10)] h from ⟨ex_154 hP, ?_⟩)
  rw [show am_rf (h.2.2.1 154 10) = .ref 160 from congrArg am_rf (ex_r154_10 hP)]
  refine am_goX 8 (show ∃ jj nn : Nat, am_sh h 160 = some (13, nn) ∧ jj < nn ∧ ((Int32.ofInt 4) + ((Int32.ofInt 3) * (nI p))) + (Int32.ofInt 1) = nI jj ∧ pz_S 3 (some .int) am_r187 0 Q 12 [(0, .ref 154), (1, .int (nI p)), (2, .int (Int32.ofInt 1))] [.int (h.1 160 jj)] h from ⟨((4 + (3 * p)) + 1), 80, ex_160 hP, (by omega), (dn_a (dn_a rfl (dn_m rfl rfl)) rfl), ?_⟩)
  rw [show h.1 160 ((4 + (3 * p)) + 1) = dL C p from (by rw [show ((4 + (3 * p)) + 1) = 5 + 3 * p by omega]; exact (hT.1.2.2 p (by omega)).2)]
  exact am_goX 1 (show (∃ ty, (some .int) = some ty ∧ narrow ty (.int (dL C p)) = .int (dL C p)) ∧ h.2.2.2.2 = 175 ∧ _ from ⟨⟨.int, rfl, rfl⟩, ex_175 hP, hQ⟩)
theorem d_187_r2 (hP : ex_P h) (hT : tR C h) (hp : p < dP C) (hQ : Q (some (.int (dB C p))) h) : am_call am_cod 1 187 [.ref 154, .int (nI p), .int (Int32.ofInt 2)] h Q := by
  have h6 := hT.1.2.1
  have h5 := hT.2.1.2.1
  refine pz_call (n := 187) (nL := 3) (rt := (some .int)) (rows := am_r187) (d := 0) (by decide +kernel) (by decide +kernel) rfl (by funext pc; rfl) (ex_175 hP) (by exact Nat.le_of_ble_eq_true rfl) ?_
  refine am_goX 2 (show am_sh h 154 = some (11, 0) ∧ pz_S 3 (some .int) am_r187 0 Q 4 [(0, .ref 154), (1, .int (nI p)), (2, .int (Int32.ofInt 2))] [am_rf (h.2.2.1 154 10)] h from ⟨ex_154 hP, ?_⟩)
  rw [show am_rf (h.2.2.1 154 10) = .ref 160 from congrArg am_rf (ex_r154_10 hP)]
  refine am_goX 8 (show ∃ jj nn : Nat, am_sh h 160 = some (13, nn) ∧ jj < nn ∧ ((Int32.ofInt 4) + ((Int32.ofInt 3) * (nI p))) + (Int32.ofInt 2) = nI jj ∧ pz_S 3 (some .int) am_r187 0 Q 12 [(0, .ref 154), (1, .int (nI p)), (2, .int (Int32.ofInt 2))] [.int (h.1 160 jj)] h from ⟨((4 + (3 * p)) + 2), 80, ex_160 hP, (by omega), (dn_a (dn_a rfl (dn_m rfl rfl)) rfl), ?_⟩)
  rw [show h.1 160 ((4 + (3 * p)) + 2) = dB C p from (by rw [show ((4 + (3 * p)) + 2) = 6 + 3 * p by omega]; exact tR_B hT (by omega))]
  exact am_goX 1 (show (∃ ty, (some .int) = some ty ∧ narrow ty (.int (dB C p)) = .int (dB C p)) ∧ h.2.2.2.2 = 175 ∧ _ from ⟨⟨.int, rfl, rfl⟩, ex_175 hP, hQ⟩)
theorem d_184_r0 (hP : ex_P h) (hT : tR C h) (he : e < dE C) (hQ : Q (some (.int (dW C e))) h) : am_call am_cod 1 184 [.ref 154, .int (nI e), .int (Int32.ofInt 0)] h Q := by
  have h6 := hT.1.2.1
  have h5 := hT.2.1.2.1
  refine pz_call (n := 184) (nL := 3) (rt := (some .int)) (rows := am_r184) (d := 0) (by decide +kernel) (by decide +kernel) rfl (by funext pc; rfl) (ex_175 hP) (by exact Nat.le_of_ble_eq_true rfl) ?_
  refine am_goX 2 (show am_sh h 154 = some (11, 0) ∧ pz_S 3 (some .int) am_r184 0 Q 4 [(0, .ref 154), (1, .int (nI e)), (2, .int (Int32.ofInt 0))] [am_rf (h.2.2.1 154 10)] h from ⟨ex_154 hP, ?_⟩)
  rw [show am_rf (h.2.2.1 154 10) = .ref 160 from congrArg am_rf (ex_r154_10 hP)]
  refine am_goX 8 (show ∃ jj nn : Nat, am_sh h 160 = some (13, nn) ∧ jj < nn ∧ (((Int8.ofInt 22).toInt32) + ((Int32.ofInt 2) * (nI e))) + (Int32.ofInt 0) = nI jj ∧ pz_S 3 (some .int) am_r184 0 Q 13 [(0, .ref 154), (1, .int (nI e)), (2, .int (Int32.ofInt 0))] [.int (h.1 160 jj)] h from ⟨((22 + (2 * e)) + 0), 80, ex_160 hP, (by omega), (dn_a (dn_a (show (Int8.ofInt 22).toInt32 = nI 22 by decide) (dn_m rfl rfl)) rfl), ?_⟩)
  rw [show h.1 160 ((22 + (2 * e)) + 0) = dW C e from (by rw [show ((22 + (2 * e)) + 0) = 22 + 2 * e by omega]; exact (hT.2.1.2.2 e (by omega)).1)]
  exact am_goX 1 (show (∃ ty, (some .int) = some ty ∧ narrow ty (.int (dW C e)) = .int (dW C e)) ∧ h.2.2.2.2 = 175 ∧ _ from ⟨⟨.int, rfl, rfl⟩, ex_175 hP, hQ⟩)
theorem d_184_r1 (hP : ex_P h) (hT : tR C h) (he : e < dE C) (hQ : Q (some (.int (dN C e))) h) : am_call am_cod 1 184 [.ref 154, .int (nI e), .int (Int32.ofInt 1)] h Q := by
  have h6 := hT.1.2.1
  have h5 := hT.2.1.2.1
  refine pz_call (n := 184) (nL := 3) (rt := (some .int)) (rows := am_r184) (d := 0) (by decide +kernel) (by decide +kernel) rfl (by funext pc; rfl) (ex_175 hP) (by exact Nat.le_of_ble_eq_true rfl) ?_
  refine am_goX 2 (show am_sh h 154 = some (11, 0) ∧ pz_S 3 (some .int) am_r184 0 Q 4 [(0, .ref 154), (1, .int (nI e)), (2, .int (Int32.ofInt 1))] [am_rf (h.2.2.1 154 10)] h from ⟨ex_154 hP, ?_⟩)
  rw [show am_rf (h.2.2.1 154 10) = .ref 160 from congrArg am_rf (ex_r154_10 hP)]
  refine am_goX 8 (show ∃ jj nn : Nat, am_sh h 160 = some (13, nn) ∧ jj < nn ∧ (((Int8.ofInt 22).toInt32) + ((Int32.ofInt 2) * (nI e))) + (Int32.ofInt 1) = nI jj ∧ pz_S 3 (some .int) am_r184 0 Q 13 [(0, .ref 154), (1, .int (nI e)), (2, .int (Int32.ofInt 1))] [.int (h.1 160 jj)] h from ⟨((22 + (2 * e)) + 1), 80, ex_160 hP, (by omega), (dn_a (dn_a (show (Int8.ofInt 22).toInt32 = nI 22 by decide) (dn_m rfl rfl)) rfl), ?_⟩)
  rw [show h.1 160 ((22 + (2 * e)) + 1) = dN C e from (by rw [show ((22 + (2 * e)) + 1) = 23 + 2 * e by omega]; exact (hT.2.1.2.2 e (by omega)).2)]
  exact am_goX 1 (show (∃ ty, (some .int) = some ty ∧ narrow ty (.int (dN C e)) = .int (dN C e)) ∧ h.2.2.2.2 = 175 ∧ _ from ⟨⟨.int, rfl, rfl⟩, ex_175 hP, hQ⟩)
def d_221 (C : sp_C) (x : Int32) : Int32 := (if x < 0 then Int32.ofInt 0 else (if (nI (dP C)) ≤ x then Int32.ofInt 0 else Int32.ofInt 1))
theorem d_221_r (hP : ex_P h) (hT : tR C h)  (hQ : Q (some (.int (d_221 C x))) h) : am_call am_cod 2 221 [.ref 154, .int x] h Q := by
  have h6 := hT.1.2.1
  have h5 := hT.2.1.2.1
  refine pz_call (n := 221) (nL := 2) (rt := (some .boolean)) (rows := am_r221) (d := 1) (by decide +kernel) (by decide +kernel) rfl (by funext pc; rfl) (ex_175 hP) (by exact Nat.le_of_ble_eq_true rfl) ?_
  suffices key : ∀ (v41 : Int32), v41 = (if x < 0 then Int32.ofInt 0 else (if (nI (dP C)) ≤ x then Int32.ofInt 0 else Int32.ofInt 1)) → pz_S 2 (some .boolean) am_r221 1 Q 17 [] [.int v41] h by
    refine am_goX 2 (show (x < 0 → pz_S 2 (some .boolean) am_r221 1 Q 16 [(0, .ref 154), (1, .int x)] [] h) ∧ (¬ (x < 0) → pz_S 2 (some .boolean) am_r221 1 Q 4 [(0, .ref 154), (1, .int x)] [] h) from ⟨fun c40 => ?_, fun c40 => ?_⟩)
    · refine am_goX 1 (show pz_S 2 (some .boolean) am_r221 1 Q 17 [(0, .ref 154), (1, .int x)] [.int (Int32.ofInt 0)] h from ?_)
      exact sv_S2 sv2_221 (fun q hq => absurd hq List.not_mem_nil) (key _ (if_pos c40).symm)
    · refine am_goX 3 (show am_rc h 154 11 ∧ 1 ≤ 8 ∧ h.2.2.2.2 + am_al 186 ≤ 175 ∧ am_call am_cod 1 186 [.ref 154] h (fun vv h' => pz_S 2 (some .boolean) am_r221 1 Q 9 [(0, .ref 154), (1, .int x)] (vv.toList ++ [.int x]) h') from ⟨Or.inl ⟨by decide, ex_154 hP⟩, by decide, ex_lim hP rfl, am_call.up (d_186_r hP hT ?_) (by decide)⟩)
      suffices key : ∀ (v43 : Int32), v43 = (if (nI (dP C)) ≤ x then Int32.ofInt 0 else Int32.ofInt 1) → pz_S 2 (some .boolean) am_r221 1 Q 17 [] [.int v43] h by
        refine am_goX 1 (show ((nI (dP C)) ≤ x → pz_S 2 (some .boolean) am_r221 1 Q 16 [(0, .ref 154), (1, .int x)] [] h) ∧ (¬ ((nI (dP C)) ≤ x) → pz_S 2 (some .boolean) am_r221 1 Q 12 [(0, .ref 154), (1, .int x)] [] h) from ⟨fun c42 => ?_, fun c42 => ?_⟩)
        · refine am_goX 1 (show pz_S 2 (some .boolean) am_r221 1 Q 17 [(0, .ref 154), (1, .int x)] [.int (Int32.ofInt 0)] h from ?_)
          exact sv_S2 sv2_221 (fun q hq => absurd hq List.not_mem_nil) (key _ (if_pos c42).symm)
        · refine am_goX 2 (show pz_S 2 (some .boolean) am_r221 1 Q 17 [(0, .ref 154), (1, .int x)] [.int (Int32.ofInt 1)] h from ?_)
          exact sv_S2 sv2_221 (fun q hq => absurd hq List.not_mem_nil) (key _ (if_neg c42).symm)
      intro v43 e44
      subst e44
      exact sv_S2 sv2_221 (fun q hq => absurd hq List.not_mem_nil) (key _ (if_neg c40).symm)
  intro v41 e45
  subst e45
  exact am_goX 1 (show (∃ ty, (some .boolean) = some ty ∧ narrow ty (.int (if x < 0 then Int32.ofInt 0 else (if (nI (dP C)) ≤ x then Int32.ofInt 0 else Int32.ofInt 1))) = .int (if x < 0 then Int32.ofInt 0 else (if (nI (dP C)) ≤ x then Int32.ofInt 0 else Int32.ofInt 1))) ∧ h.2.2.2.2 = 175 ∧ _ from ⟨⟨.boolean, rfl, (by (repeat' split) <;> rfl)⟩, ex_175 hP, hQ⟩)
theorem d_221_e (x : Int32) : d_221 C x = d_87 C x := by
  unfold d_221 d_87
  rfl
def d_284 (C : sp_C) (p q : Nat) : Int32 := (dB C p) &&& (dB C q)
theorem d_284_r (hP : ex_P h) (hT : tR C h) (hp : p < dP C) (hq : q < dP C) (hQ : ∀ g, Q (some (.int (d_284 C p q))) g) : am_call am_cod 3 284 [.ref 154, .int (nI p), .int (nI q)] h Q := by
  have h6 := hT.1.2.1
  have h5 := hT.2.1.2.1
  refine pz_call (n := 284) (nL := 3) (rt := (some .int)) (rows := am_r284) (d := 2) (by decide +kernel) (by decide +kernel) rfl (by funext pc; rfl) (ex_175 hP) (by exact Nat.le_of_ble_eq_true rfl) ?_
  refine am_goX 3 (show am_sh h 154 = some (11, 0) ∧ narrow (am_fty 11 0) (.int (Int32.ofInt 0)) = .int (Int32.ofInt 0) ∧ fits (am_fty 11 0) (.int (Int32.ofInt 0)) = true ∧ pz_S 3 (some .int) am_r284 2 Q 5 [(0, .ref 154), (1, .int (nI p)), (2, .int (nI q))] [] (am_wI h 154 0 (Int32.ofInt 0)) from ⟨ex_154 hP, rfl, rfl, ?_⟩)
  have f47 : ex_P (am_wI h 154 0 (Int32.ofInt 0)) := hP
  have f48 : tR C (am_wI h 154 0 (Int32.ofInt 0)) := tR_w (by omega) hT
  generalize am_wI h 154 0 (Int32.ofInt 0) = h46 at f47 f48 ⊢
  refine am_goX 3 (show am_rc h46 154 11 ∧ 0 ≤ 8 ∧ h46.2.2.2.2 + am_al 221 ≤ 175 ∧ am_call am_cod 2 221 [.ref 154, .int (nI p)] h46 (fun vv h' => pz_S 3 (some .int) am_r284 2 Q 10 [(0, .ref 154), (1, .int (nI p)), (2, .int (nI q))] (vv.toList ++ []) h') from ⟨Or.inl ⟨by decide, ex_154 f47⟩, by decide, ex_lim f47 rfl, am_call.up (d_221_r f47 f48 ?_) (by decide)⟩)
  rw [show d_221 C (nI p) = Int32.ofInt 1 from ((d_221_e _).trans (v_87 hp))]
  refine am_goX 1 (show ((Int32.ofInt 1) = 0 → pz_S 3 (some .int) am_r284 2 Q 37 [(0, .ref 154), (1, .int (nI p)), (2, .int (nI q))] [] h46) ∧ (¬ ((Int32.ofInt 1) = 0) → pz_S 3 (some .int) am_r284 2 Q 13 [(0, .ref 154), (1, .int (nI p)), (2, .int (nI q))] [] h46) from ⟨fun hz => absurd hz (by decide), fun _ => ?_⟩)
  refine am_goX 3 (show am_rc h46 154 11 ∧ 0 ≤ 8 ∧ h46.2.2.2.2 + am_al 221 ≤ 175 ∧ am_call am_cod 2 221 [.ref 154, .int (nI q)] h46 (fun vv h' => pz_S 3 (some .int) am_r284 2 Q 18 [(0, .ref 154), (1, .int (nI p)), (2, .int (nI q))] (vv.toList ++ []) h') from ⟨Or.inl ⟨by decide, ex_154 f47⟩, by decide, ex_lim f47 rfl, am_call.up (d_221_r f47 f48 ?_) (by decide)⟩)
  rw [show d_221 C (nI q) = Int32.ofInt 1 from ((d_221_e _).trans (v_87 hq))]
  refine am_goX 1 (show ((Int32.ofInt 1) = 0 → pz_S 3 (some .int) am_r284 2 Q 37 [(0, .ref 154), (1, .int (nI p)), (2, .int (nI q))] [] h46) ∧ (¬ ((Int32.ofInt 1) = 0) → pz_S 3 (some .int) am_r284 2 Q 21 [(0, .ref 154), (1, .int (nI p)), (2, .int (nI q))] [] h46) from ⟨fun hz => absurd hz (by decide), fun _ => ?_⟩)
  refine am_goX 4 (show am_rc h46 154 11 ∧ 0 ≤ 8 ∧ h46.2.2.2.2 + am_al 187 ≤ 175 ∧ am_call am_cod 2 187 [.ref 154, .int (nI p), .int (Int32.ofInt 2)] h46 (fun vv h' => pz_S 3 (some .int) am_r284 2 Q 27 [(0, .ref 154), (1, .int (nI p)), (2, .int (nI q))] (vv.toList ++ []) h') from ⟨Or.inl ⟨by decide, ex_154 f47⟩, by decide, ex_lim f47 rfl, am_call.up (d_187_r2 f47 f48 (by omega) ?_) (by decide)⟩)
  refine am_goX 4 (show am_rc h46 154 11 ∧ 1 ≤ 8 ∧ h46.2.2.2.2 + am_al 187 ≤ 175 ∧ am_call am_cod 2 187 [.ref 154, .int (nI q), .int (Int32.ofInt 2)] h46 (fun vv h' => pz_S 3 (some .int) am_r284 2 Q 33 [(0, .ref 154), (1, .int (nI p)), (2, .int (nI q))] (vv.toList ++ [.int (dB C p)]) h') from ⟨Or.inl ⟨by decide, ex_154 f47⟩, by decide, ex_lim f47 rfl, am_call.up (d_187_r2 f47 f48 (by omega) ?_) (by decide)⟩)
  exact am_goX 3 (show (∃ ty, (some .int) = some ty ∧ narrow ty (.int ((dB C p) &&& (dB C q))) = .int ((dB C p) &&& (dB C q))) ∧ h46.2.2.2.2 = 175 ∧ _ from ⟨⟨.int, rfl, rfl⟩, ex_175 f47, hQ _⟩)
def d_284x  : Int32 := Int32.ofInt (-1)
theorem d_284_rx (hP : ex_P h) (hT : tR C h) (ex : d_87 C x = Int32.ofInt 0) (hQ : ∀ g, Q (some (.int d_284x)) g) : am_call am_cod 3 284 [.ref 154, .int x, .int y] h Q := by
  have h6 := hT.1.2.1
  have h5 := hT.2.1.2.1
  refine pz_call (n := 284) (nL := 3) (rt := (some .int)) (rows := am_r284) (d := 2) (by decide +kernel) (by decide +kernel) rfl (by funext pc; rfl) (ex_175 hP) (by exact Nat.le_of_ble_eq_true rfl) ?_
  refine am_goX 3 (show am_sh h 154 = some (11, 0) ∧ narrow (am_fty 11 0) (.int (Int32.ofInt 0)) = .int (Int32.ofInt 0) ∧ fits (am_fty 11 0) (.int (Int32.ofInt 0)) = true ∧ pz_S 3 (some .int) am_r284 2 Q 5 [(0, .ref 154), (1, .int x), (2, .int y)] [] (am_wI h 154 0 (Int32.ofInt 0)) from ⟨ex_154 hP, rfl, rfl, ?_⟩)
  have f50 : ex_P (am_wI h 154 0 (Int32.ofInt 0)) := hP
  have f51 : tR C (am_wI h 154 0 (Int32.ofInt 0)) := tR_w (by omega) hT
  generalize am_wI h 154 0 (Int32.ofInt 0) = h49 at f50 f51 ⊢
  refine am_goX 3 (show am_rc h49 154 11 ∧ 0 ≤ 8 ∧ h49.2.2.2.2 + am_al 221 ≤ 175 ∧ am_call am_cod 2 221 [.ref 154, .int x] h49 (fun vv h' => pz_S 3 (some .int) am_r284 2 Q 10 [(0, .ref 154), (1, .int x), (2, .int y)] (vv.toList ++ []) h') from ⟨Or.inl ⟨by decide, ex_154 f50⟩, by decide, ex_lim f50 rfl, am_call.up (d_221_r f50 f51 ?_) (by decide)⟩)
  rw [show d_221 C x = Int32.ofInt 0 from ((d_221_e _).trans ex)]
  refine am_goX 1 (show ((Int32.ofInt 0) = 0 → pz_S 3 (some .int) am_r284 2 Q 37 [(0, .ref 154), (1, .int x), (2, .int y)] [] h49) ∧ (¬ ((Int32.ofInt 0) = 0) → pz_S 3 (some .int) am_r284 2 Q 13 [(0, .ref 154), (1, .int x), (2, .int y)] [] h49) from ⟨fun _ => ?_, fun hz => absurd (by decide) hz⟩)
  exact am_goX 2 (show (∃ ty, (some .int) = some ty ∧ narrow ty (.int (Int32.ofInt (-1))) = .int (Int32.ofInt (-1))) ∧ h49.2.2.2.2 = 175 ∧ _ from ⟨⟨.int, rfl, rfl⟩, ex_175 f50, hQ _⟩)
theorem d_284_ry (hP : ex_P h) (hT : tR C h) (hp : p < dP C) (ey : d_87 C y = Int32.ofInt 0) (hQ : ∀ g, Q (some (.int d_284x)) g) : am_call am_cod 3 284 [.ref 154, .int (nI p), .int y] h Q := by
  have h6 := hT.1.2.1
  have h5 := hT.2.1.2.1
  refine pz_call (n := 284) (nL := 3) (rt := (some .int)) (rows := am_r284) (d := 2) (by decide +kernel) (by decide +kernel) rfl (by funext pc; rfl) (ex_175 hP) (by exact Nat.le_of_ble_eq_true rfl) ?_
  refine am_goX 3 (show am_sh h 154 = some (11, 0) ∧ narrow (am_fty 11 0) (.int (Int32.ofInt 0)) = .int (Int32.ofInt 0) ∧ fits (am_fty 11 0) (.int (Int32.ofInt 0)) = true ∧ pz_S 3 (some .int) am_r284 2 Q 5 [(0, .ref 154), (1, .int (nI p)), (2, .int y)] [] (am_wI h 154 0 (Int32.ofInt 0)) from ⟨ex_154 hP, rfl, rfl, ?_⟩)
  have f53 : ex_P (am_wI h 154 0 (Int32.ofInt 0)) := hP
  have f54 : tR C (am_wI h 154 0 (Int32.ofInt 0)) := tR_w (by omega) hT
  generalize am_wI h 154 0 (Int32.ofInt 0) = h52 at f53 f54 ⊢
  refine am_goX 3 (show am_rc h52 154 11 ∧ 0 ≤ 8 ∧ h52.2.2.2.2 + am_al 221 ≤ 175 ∧ am_call am_cod 2 221 [.ref 154, .int (nI p)] h52 (fun vv h' => pz_S 3 (some .int) am_r284 2 Q 10 [(0, .ref 154), (1, .int (nI p)), (2, .int y)] (vv.toList ++ []) h') from ⟨Or.inl ⟨by decide, ex_154 f53⟩, by decide, ex_lim f53 rfl, am_call.up (d_221_r f53 f54 ?_) (by decide)⟩)
  rw [show d_221 C (nI p) = Int32.ofInt 1 from ((d_221_e _).trans (v_87 hp))]
  refine am_goX 1 (show ((Int32.ofInt 1) = 0 → pz_S 3 (some .int) am_r284 2 Q 37 [(0, .ref 154), (1, .int (nI p)), (2, .int y)] [] h52) ∧ (¬ ((Int32.ofInt 1) = 0) → pz_S 3 (some .int) am_r284 2 Q 13 [(0, .ref 154), (1, .int (nI p)), (2, .int y)] [] h52) from ⟨fun hz => absurd hz (by decide), fun _ => ?_⟩)
  refine am_goX 3 (show am_rc h52 154 11 ∧ 0 ≤ 8 ∧ h52.2.2.2.2 + am_al 221 ≤ 175 ∧ am_call am_cod 2 221 [.ref 154, .int y] h52 (fun vv h' => pz_S 3 (some .int) am_r284 2 Q 18 [(0, .ref 154), (1, .int (nI p)), (2, .int y)] (vv.toList ++ []) h') from ⟨Or.inl ⟨by decide, ex_154 f53⟩, by decide, ex_lim f53 rfl, am_call.up (d_221_r f53 f54 ?_) (by decide)⟩)
  rw [show d_221 C y = Int32.ofInt 0 from ((d_221_e _).trans ey)]
  refine am_goX 1 (show ((Int32.ofInt 0) = 0 → pz_S 3 (some .int) am_r284 2 Q 37 [(0, .ref 154), (1, .int (nI p)), (2, .int y)] [] h52) ∧ (¬ ((Int32.ofInt 0) = 0) → pz_S 3 (some .int) am_r284 2 Q 21 [(0, .ref 154), (1, .int (nI p)), (2, .int y)] [] h52) from ⟨fun _ => ?_, fun hz => absurd (by decide) hz⟩)
  exact am_goX 2 (show (∃ ty, (some .int) = some ty ∧ narrow ty (.int (Int32.ofInt (-1))) = .int (Int32.ofInt (-1))) ∧ h52.2.2.2.2 = 175 ∧ _ from ⟨⟨.int, rfl, rfl⟩, ex_175 f53, hQ _⟩)
def d_235_4 (x : Int32) : Nat → Nat → Int32 → Int32
  | 0, _, a1 => a1
  | m + 1, k, a1 => d_235_4 x m (k + 1) (a1 + ((x >>> ((nI k) &&& 31)) &&& (Int32.ofInt 1)))
theorem d_235_4_w (hP : ex_P h) : ∀ (m k : Nat) (a1 : Int32), k + m = 30 → (pz_S 3 (some .int) am_r235 0 Q 24 [(1, .int (d_235_4 x m k a1))] [] h) → pz_S 3 (some .int) am_r235 0 Q 4 [(0, .int x), (1, .int a1), (2, .int (nI k))] [] h := by
  intro m
  induction m with
  | zero =>
    intro k a1 hk hZ
    refine am_goX 3 (show (((Int8.ofInt 30).toInt32) ≤ (nI k) → pz_S 3 (some .int) am_r235 0 Q 24 [(0, .int x), (1, .int a1), (2, .int (nI k))] [] h) ∧ (¬ (((Int8.ofInt 30).toInt32) ≤ (nI k)) → pz_S 3 (some .int) am_r235 0 Q 10 [(0, .int x), (1, .int a1), (2, .int (nI k))] [] h) from ⟨fun _ => ?_, fun hz => absurd (show nI 30 ≤ nI k from nI_le (by omega) (by omega)) hz⟩)
    exact sv_S2 sv2_235 (by intro q hq; simp only [List.mem_cons, List.not_mem_nil, or_false] at hq; rcases hq with rfl <;> rfl) (hZ)
  | succ m ih =>
    intro k a1 hk hZ
    refine am_goX 3 (show (((Int8.ofInt 30).toInt32) ≤ (nI k) → pz_S 3 (some .int) am_r235 0 Q 24 [(0, .int x), (1, .int a1), (2, .int (nI k))] [] h) ∧ (¬ (((Int8.ofInt 30).toInt32) ≤ (nI k)) → pz_S 3 (some .int) am_r235 0 Q 10 [(0, .int x), (1, .int a1), (2, .int (nI k))] [] h) from ⟨fun hz => absurd hz (show ¬ (nI 30 ≤ nI k) by rw [nI_leI (by omega) (by omega)]; omega), fun _ => ?_⟩)
    refine am_goX 10 (show 1 < 3 ∧ 2 < 3 ∧ pz_S 3 (some .int) am_r235 0 Q 4 [(2, .int ((nI k) + (Int32.ofInt 1))), (1, .int (a1 + ((x >>> ((nI k) &&& 31)) &&& (Int32.ofInt 1)))), (0, .int x)] [] h from ⟨by decide, by decide, ?_⟩)
    rw [show (nI k) + (Int32.ofInt 1) = nI (k + 1) from (dn_a rfl rfl)]
    exact sv_S2 sv2_235 (by intro q hq; simp only [List.mem_cons, List.not_mem_nil, or_false] at hq; rcases hq with rfl | rfl | rfl <;> rfl) (ih (k + 1) (a1 + ((x >>> ((nI k) &&& 31)) &&& (Int32.ofInt 1))) (by omega) hZ)
def d_235 (x : Int32) : Int32 := d_235_4 x 30 0 (Int32.ofInt 0)
theorem d_235_w (hP : ex_P h)  (hQ : Q (some (.int (d_235 x))) h) : am_call am_cod 1 235 [.int x] h Q := by
  refine pz_call (n := 235) (nL := 3) (rt := (some .int)) (rows := am_r235) (d := 0) (by decide +kernel) (by decide +kernel) rfl (by funext pc; rfl) (ex_175 hP) (by exact Nat.le_of_ble_eq_true rfl) ?_
  refine am_goX 4 (show 1 < 3 ∧ 2 < 3 ∧ pz_S 3 (some .int) am_r235 0 Q 4 [(2, .int (Int32.ofInt 0)), (1, .int (Int32.ofInt 0)), (0, .int x)] [] h from ⟨by decide, by decide, ?_⟩)
  refine sv_S2 sv2_235 (by intro q hq; simp only [List.mem_cons, List.not_mem_nil, or_false] at hq; rcases hq with rfl | rfl | rfl <;> rfl) (d_235_4_w hP 30 0 (Int32.ofInt 0) (by omega) ?_)
  exact am_goX 2 (show (∃ ty, (some .int) = some ty ∧ narrow ty (.int (d_235_4 x 30 0 (Int32.ofInt 0))) = .int (d_235_4 x 30 0 (Int32.ofInt 0))) ∧ h.2.2.2.2 = 175 ∧ _ from ⟨⟨.int, rfl, rfl⟩, ex_175 hP, hQ⟩)
def d_283_24 (C : sp_C) (n2 : Nat) : Nat → Nat → Int32 → Int32
  | 0, _, a3 => a3
  | m + 1, k, a3 => d_283_24 C n2 m (k + 1) (if a3 = 0 then Int32.ofInt 0 else (if (dB C k) = 0 then Int32.ofInt 1 else (if ((dB C k) &&& (nI n2)) = 0 then Int32.ofInt 0 else Int32.ofInt 1)))
theorem d_283_24_r (x1 : Int32) (n2 : Nat) (hP : ex_P h) (hT : tR C h) : ∀ (m k : Nat) (a3 : Int32), k + m = dP C → (pz_S 5 (some .int) am_r283 3 Q 71 [(0, .ref 154), (1, .int x1), (2, .int (nI n2)), (3, .int (d_283_24 C n2 m k a3))] [] h) → pz_S 5 (some .int) am_r283 3 Q 24 [(0, .ref 154), (1, .int x1), (2, .int (nI n2)), (3, .int a3), (4, .int (nI k))] [] h := by
  intro m
  induction m with
  | zero =>
    intro k a3 hk hZ
    have h6 := hT.1.2.1
    have h5 := hT.2.1.2.1
    refine am_goX 3 (show am_rc h 154 11 ∧ 1 ≤ 8 ∧ h.2.2.2.2 + am_al 186 ≤ 175 ∧ am_call am_cod 3 186 [.ref 154] h (fun vv h' => pz_S 5 (some .int) am_r283 3 Q 30 [(0, .ref 154), (1, .int x1), (2, .int (nI n2)), (3, .int a3), (4, .int (nI k))] (vv.toList ++ [.int (nI k)]) h') from ⟨Or.inl ⟨by decide, ex_154 hP⟩, by decide, ex_lim hP rfl, am_call.up (d_186_r hP hT ?_) (by decide)⟩)
    refine am_goX 1 (show ((nI (dP C)) ≤ (nI k) → pz_S 5 (some .int) am_r283 3 Q 71 [(0, .ref 154), (1, .int x1), (2, .int (nI n2)), (3, .int a3), (4, .int (nI k))] [] h) ∧ (¬ ((nI (dP C)) ≤ (nI k)) → pz_S 5 (some .int) am_r283 3 Q 33 [(0, .ref 154), (1, .int x1), (2, .int (nI n2)), (3, .int a3), (4, .int (nI k))] [] h) from ⟨fun _ => ?_, fun hz => absurd (show nI (dP C) ≤ nI k from nI_le (by omega) (by omega)) hz⟩)
    exact sv_S2 sv2_283 (by intro q hq; simp only [List.mem_cons, List.not_mem_nil, or_false] at hq; rcases hq with rfl | rfl | rfl | rfl <;> rfl) (hZ)
  | succ m ih =>
    intro k a3 hk hZ
    have h6 := hT.1.2.1
    have h5 := hT.2.1.2.1
    refine am_goX 3 (show am_rc h 154 11 ∧ 1 ≤ 8 ∧ h.2.2.2.2 + am_al 186 ≤ 175 ∧ am_call am_cod 3 186 [.ref 154] h (fun vv h' => pz_S 5 (some .int) am_r283 3 Q 30 [(0, .ref 154), (1, .int x1), (2, .int (nI n2)), (3, .int a3), (4, .int (nI k))] (vv.toList ++ [.int (nI k)]) h') from ⟨Or.inl ⟨by decide, ex_154 hP⟩, by decide, ex_lim hP rfl, am_call.up (d_186_r hP hT ?_) (by decide)⟩)
    refine am_goX 1 (show ((nI (dP C)) ≤ (nI k) → pz_S 5 (some .int) am_r283 3 Q 71 [(0, .ref 154), (1, .int x1), (2, .int (nI n2)), (3, .int a3), (4, .int (nI k))] [] h) ∧ (¬ ((nI (dP C)) ≤ (nI k)) → pz_S 5 (some .int) am_r283 3 Q 33 [(0, .ref 154), (1, .int x1), (2, .int (nI n2)), (3, .int a3), (4, .int (nI k))] [] h) from ⟨fun hz => absurd hz (show ¬ (nI (dP C) ≤ nI k) by rw [nI_leI (by omega) (by omega)]; omega), fun _ => ?_⟩)
    suffices key : ∀ (v59 : Int32), v59 = (if a3 = 0 then Int32.ofInt 0 else (if (dB C k) = 0 then Int32.ofInt 1 else (if ((dB C k) &&& (nI n2)) = 0 then Int32.ofInt 0 else Int32.ofInt 1))) → pz_S 5 (some .int) am_r283 3 Q 64 [(0, .ref 154), (1, .int x1), (2, .int (nI n2)), (4, .int (nI k))] [.int v59] h by
      refine am_goX 2 (show (a3 = 0 → pz_S 5 (some .int) am_r283 3 Q 63 [(0, .ref 154), (1, .int x1), (2, .int (nI n2)), (3, .int a3), (4, .int (nI k))] [] h) ∧ (¬ (a3 = 0) → pz_S 5 (some .int) am_r283 3 Q 37 [(0, .ref 154), (1, .int x1), (2, .int (nI n2)), (3, .int a3), (4, .int (nI k))] [] h) from ⟨fun c58 => ?_, fun c58 => ?_⟩)
      · refine am_goX 1 (show pz_S 5 (some .int) am_r283 3 Q 64 [(0, .ref 154), (1, .int x1), (2, .int (nI n2)), (3, .int a3), (4, .int (nI k))] [.int (Int32.ofInt 0)] h from ?_)
        exact sv_S2 sv2_283 (by intro q hq; simp only [List.mem_cons, List.not_mem_nil, or_false] at hq; rcases hq with rfl | rfl | rfl | rfl <;> rfl) (key _ (if_pos c58).symm)
      · refine am_goX 4 (show am_rc h 154 11 ∧ 0 ≤ 8 ∧ h.2.2.2.2 + am_al 187 ≤ 175 ∧ am_call am_cod 3 187 [.ref 154, .int (nI k), .int (Int32.ofInt 2)] h (fun vv h' => pz_S 5 (some .int) am_r283 3 Q 44 [(0, .ref 154), (1, .int x1), (2, .int (nI n2)), (3, .int a3), (4, .int (nI k))] (vv.toList ++ []) h') from ⟨Or.inl ⟨by decide, ex_154 hP⟩, by decide, ex_lim hP rfl, am_call.up (d_187_r2 hP hT (by omega) ?_) (by decide)⟩)
        suffices key : ∀ (v61 : Int32), v61 = (if (dB C k) = 0 then Int32.ofInt 1 else (if ((dB C k) &&& (nI n2)) = 0 then Int32.ofInt 0 else Int32.ofInt 1)) → pz_S 5 (some .int) am_r283 3 Q 64 [(0, .ref 154), (1, .int x1), (2, .int (nI n2)), (4, .int (nI k))] [.int v61] h by
          refine am_goX 1 (show ((dB C k) = 0 → pz_S 5 (some .int) am_r283 3 Q 59 [(0, .ref 154), (1, .int x1), (2, .int (nI n2)), (3, .int a3), (4, .int (nI k))] [] h) ∧ (¬ ((dB C k) = 0) → pz_S 5 (some .int) am_r283 3 Q 47 [(0, .ref 154), (1, .int x1), (2, .int (nI n2)), (3, .int a3), (4, .int (nI k))] [] h) from ⟨fun c60 => ?_, fun c60 => ?_⟩)
          · refine am_goX 2 (show pz_S 5 (some .int) am_r283 3 Q 64 [(0, .ref 154), (1, .int x1), (2, .int (nI n2)), (3, .int a3), (4, .int (nI k))] [.int (Int32.ofInt 1)] h from ?_)
            exact sv_S2 sv2_283 (by intro q hq; simp only [List.mem_cons, List.not_mem_nil, or_false] at hq; rcases hq with rfl | rfl | rfl | rfl <;> rfl) (key _ (if_pos c60).symm)
          · refine am_goX 4 (show am_rc h 154 11 ∧ 0 ≤ 8 ∧ h.2.2.2.2 + am_al 187 ≤ 175 ∧ am_call am_cod 3 187 [.ref 154, .int (nI k), .int (Int32.ofInt 2)] h (fun vv h' => pz_S 5 (some .int) am_r283 3 Q 54 [(0, .ref 154), (1, .int x1), (2, .int (nI n2)), (3, .int a3), (4, .int (nI k))] (vv.toList ++ []) h') from ⟨Or.inl ⟨by decide, ex_154 hP⟩, by decide, ex_lim hP rfl, am_call.up (d_187_r2 hP hT (by omega) ?_) (by decide)⟩)
            suffices key : ∀ (v63 : Int32), v63 = (if ((dB C k) &&& (nI n2)) = 0 then Int32.ofInt 0 else Int32.ofInt 1) → pz_S 5 (some .int) am_r283 3 Q 64 [(0, .ref 154), (1, .int x1), (2, .int (nI n2)), (4, .int (nI k))] [.int v63] h by
              refine am_goX 3 (show (((dB C k) &&& (nI n2)) = 0 → pz_S 5 (some .int) am_r283 3 Q 63 [(0, .ref 154), (1, .int x1), (2, .int (nI n2)), (3, .int a3), (4, .int (nI k))] [] h) ∧ (¬ (((dB C k) &&& (nI n2)) = 0) → pz_S 5 (some .int) am_r283 3 Q 59 [(0, .ref 154), (1, .int x1), (2, .int (nI n2)), (3, .int a3), (4, .int (nI k))] [] h) from ⟨fun c62 => ?_, fun c62 => ?_⟩)
              · refine am_goX 1 (show pz_S 5 (some .int) am_r283 3 Q 64 [(0, .ref 154), (1, .int x1), (2, .int (nI n2)), (3, .int a3), (4, .int (nI k))] [.int (Int32.ofInt 0)] h from ?_)
                exact sv_S2 sv2_283 (by intro q hq; simp only [List.mem_cons, List.not_mem_nil, or_false] at hq; rcases hq with rfl | rfl | rfl | rfl <;> rfl) (key _ (if_pos c62).symm)
              · refine am_goX 2 (show pz_S 5 (some .int) am_r283 3 Q 64 [(0, .ref 154), (1, .int x1), (2, .int (nI n2)), (3, .int a3), (4, .int (nI k))] [.int (Int32.ofInt 1)] h from ?_)
                exact sv_S2 sv2_283 (by intro q hq; simp only [List.mem_cons, List.not_mem_nil, or_false] at hq; rcases hq with rfl | rfl | rfl | rfl <;> rfl) (key _ (if_neg c62).symm)
            intro v63 e64
            subst e64
            exact sv_S2 sv2_283 (by intro q hq; simp only [List.mem_cons, List.not_mem_nil, or_false] at hq; rcases hq with rfl | rfl | rfl | rfl <;> rfl) (key _ (if_neg c60).symm)
        intro v61 e65
        subst e65
        exact sv_S2 sv2_283 (by intro q hq; simp only [List.mem_cons, List.not_mem_nil, or_false] at hq; rcases hq with rfl | rfl | rfl | rfl <;> rfl) (key _ (if_neg c58).symm)
    intro v59 e66
    subst e66
    refine am_goX 3 (show 3 < 5 ∧ 4 < 5 ∧ pz_S 5 (some .int) am_r283 3 Q 24 [(4, .int ((nI k) + (Int32.ofInt 1))), (3, .int (if a3 = 0 then Int32.ofInt 0 else (if (dB C k) = 0 then Int32.ofInt 1 else (if ((dB C k) &&& (nI n2)) = 0 then Int32.ofInt 0 else Int32.ofInt 1)))), (0, .ref 154), (1, .int x1), (2, .int (nI n2))] [] h from ⟨by decide, by decide, ?_⟩)
    rw [show (nI k) + (Int32.ofInt 1) = nI (k + 1) from (dn_a rfl rfl)]
    exact sv_S2 sv2_283 (by intro q hq; simp only [List.mem_cons, List.not_mem_nil, or_false] at hq; rcases hq with rfl | rfl | rfl | rfl | rfl <;> rfl) (ih (k + 1) (if a3 = 0 then Int32.ofInt 0 else (if (dB C k) = 0 then Int32.ofInt 1 else (if ((dB C k) &&& (nI n2)) = 0 then Int32.ofInt 0 else Int32.ofInt 1))) (by omega) hZ)
def d_283_9 (C : sp_C) : Nat → Nat → Int32 → Int32
  | 0, _, a1 => a1
  | m + 1, k, a1 => d_283_9 C m (k + 1) (if (d_283_24 C k (dP C) 0 (Int32.ofInt 1)) = 0 then a1 else (if a1 < 0 then nI k else (if (d_235 a1) ≤ (d_235 (nI k)) then a1 else nI k)))
theorem d_283_9_r (hP : ex_P h) (hT : tR C h) : ∀ (m k : Nat) (a1 : Int32), k + m = (dV C + 1) → (pz_S 5 (some .int) am_r283 3 Q 102 [(1, .int (d_283_9 C m k a1))] [] h) → pz_S 5 (some .int) am_r283 3 Q 9 [(0, .ref 154), (1, .int a1), (2, .int (nI k))] [] h := by
  intro m
  induction m with
  | zero =>
    intro k a1 hk hZ
    have h6 := hT.1.2.1
    have h5 := hT.2.1.2.1
    have h31 := dV_31 h5
    refine am_goX 4 (show am_rc h 154 11 ∧ 2 ≤ 8 ∧ h.2.2.2.2 + am_al 183 ≤ 175 ∧ am_call am_cod 3 183 [.ref 154] h (fun vv h' => pz_S 5 (some .int) am_r283 3 Q 15 [(0, .ref 154), (1, .int a1), (2, .int (nI k))] (vv.toList ++ [.int (Int32.ofInt 1), .int (nI k)]) h') from ⟨Or.inl ⟨by decide, ex_154 hP⟩, by decide, ex_lim hP rfl, am_call.up (d_183_r hP hT ?_) (by decide)⟩)
    refine am_goX 1 (show pz_S 5 (some .int) am_r283 3 Q 16 [(0, .ref 154), (1, .int a1), (2, .int (nI k))] [.int ((Int32.ofInt 1) <<< ((nI (dE C)) &&& 31)), .int (nI k)] h from ?_)
    rw [show (Int32.ofInt 1) <<< ((nI (dE C)) &&& 31) = nI (dV C + 1) from (dV_31 h5).2.1]
    refine am_goX 1 (show ((nI (dV C + 1)) ≤ (nI k) → pz_S 5 (some .int) am_r283 3 Q 102 [(0, .ref 154), (1, .int a1), (2, .int (nI k))] [] h) ∧ (¬ ((nI (dV C + 1)) ≤ (nI k)) → pz_S 5 (some .int) am_r283 3 Q 19 [(0, .ref 154), (1, .int a1), (2, .int (nI k))] [] h) from ⟨fun _ => ?_, fun hz => absurd (show nI (dV C + 1) ≤ nI k from nI_le (by omega) (by omega)) hz⟩)
    exact sv_S2 sv2_283 (by intro q hq; simp only [List.mem_cons, List.not_mem_nil, or_false] at hq; rcases hq with rfl <;> rfl) (hZ)
  | succ m ih =>
    intro k a1 hk hZ
    have h6 := hT.1.2.1
    have h5 := hT.2.1.2.1
    have h31 := dV_31 h5
    refine am_goX 4 (show am_rc h 154 11 ∧ 2 ≤ 8 ∧ h.2.2.2.2 + am_al 183 ≤ 175 ∧ am_call am_cod 3 183 [.ref 154] h (fun vv h' => pz_S 5 (some .int) am_r283 3 Q 15 [(0, .ref 154), (1, .int a1), (2, .int (nI k))] (vv.toList ++ [.int (Int32.ofInt 1), .int (nI k)]) h') from ⟨Or.inl ⟨by decide, ex_154 hP⟩, by decide, ex_lim hP rfl, am_call.up (d_183_r hP hT ?_) (by decide)⟩)
    refine am_goX 1 (show pz_S 5 (some .int) am_r283 3 Q 16 [(0, .ref 154), (1, .int a1), (2, .int (nI k))] [.int ((Int32.ofInt 1) <<< ((nI (dE C)) &&& 31)), .int (nI k)] h from ?_)
    rw [show (Int32.ofInt 1) <<< ((nI (dE C)) &&& 31) = nI (dV C + 1) from (dV_31 h5).2.1]
    refine am_goX 1 (show ((nI (dV C + 1)) ≤ (nI k) → pz_S 5 (some .int) am_r283 3 Q 102 [(0, .ref 154), (1, .int a1), (2, .int (nI k))] [] h) ∧ (¬ ((nI (dV C + 1)) ≤ (nI k)) → pz_S 5 (some .int) am_r283 3 Q 19 [(0, .ref 154), (1, .int a1), (2, .int (nI k))] [] h) from ⟨fun hz => absurd hz (show ¬ (nI (dV C + 1) ≤ nI k) by rw [nI_leI (by omega) (by omega)]; omega), fun _ => ?_⟩)
    refine am_goX 4 (show 3 < 5 ∧ 4 < 5 ∧ pz_S 5 (some .int) am_r283 3 Q 24 [(4, .int (Int32.ofInt 0)), (3, .int (Int32.ofInt 1)), (0, .ref 154), (1, .int a1), (2, .int (nI k))] [] h from ⟨by decide, by decide, ?_⟩)
    refine sv_S2 sv2_283 (by intro q hq; simp only [List.mem_cons, List.not_mem_nil, or_false] at hq; rcases hq with rfl | rfl | rfl | rfl | rfl <;> rfl) (d_283_24_r a1 k hP hT (dP C) 0 (Int32.ofInt 1) (by omega) ?_)
    suffices key : ∀ (v59 : Int32), v59 = (if (d_283_24 C k (dP C) 0 (Int32.ofInt 1)) = 0 then a1 else (if a1 < 0 then nI k else (if (d_235 a1) ≤ (d_235 (nI k)) then a1 else nI k))) → pz_S 5 (some .int) am_r283 3 Q 95 [(0, .ref 154), (2, .int (nI k))] [.int v59] h by
      refine am_goX 2 (show ((d_283_24 C k (dP C) 0 (Int32.ofInt 1)) = 0 → pz_S 5 (some .int) am_r283 3 Q 94 [(0, .ref 154), (1, .int a1), (2, .int (nI k)), (3, .int (d_283_24 C k (dP C) 0 (Int32.ofInt 1)))] [] h) ∧ (¬ ((d_283_24 C k (dP C) 0 (Int32.ofInt 1)) = 0) → pz_S 5 (some .int) am_r283 3 Q 75 [(0, .ref 154), (1, .int a1), (2, .int (nI k)), (3, .int (d_283_24 C k (dP C) 0 (Int32.ofInt 1)))] [] h) from ⟨fun c58 => ?_, fun c58 => ?_⟩)
      · refine am_goX 1 (show pz_S 5 (some .int) am_r283 3 Q 95 [(0, .ref 154), (1, .int a1), (2, .int (nI k)), (3, .int (d_283_24 C k (dP C) 0 (Int32.ofInt 1)))] [.int a1] h from ?_)
        exact sv_S2 sv2_283 (by intro q hq; simp only [List.mem_cons, List.not_mem_nil, or_false] at hq; rcases hq with rfl | rfl <;> rfl) (key _ (if_pos c58).symm)
      · suffices key : ∀ (v61 : Int32), v61 = (if a1 < 0 then nI k else (if (d_235 a1) ≤ (d_235 (nI k)) then a1 else nI k)) → pz_S 5 (some .int) am_r283 3 Q 95 [(0, .ref 154), (2, .int (nI k))] [.int v61] h by
          refine am_goX 2 (show (a1 < 0 → pz_S 5 (some .int) am_r283 3 Q 90 [(0, .ref 154), (1, .int a1), (2, .int (nI k)), (3, .int (d_283_24 C k (dP C) 0 (Int32.ofInt 1)))] [] h) ∧ (¬ (a1 < 0) → pz_S 5 (some .int) am_r283 3 Q 79 [(0, .ref 154), (1, .int a1), (2, .int (nI k)), (3, .int (d_283_24 C k (dP C) 0 (Int32.ofInt 1)))] [] h) from ⟨fun c60 => ?_, fun c60 => ?_⟩)
          · refine am_goX 2 (show pz_S 5 (some .int) am_r283 3 Q 95 [(0, .ref 154), (1, .int a1), (2, .int (nI k)), (3, .int (d_283_24 C k (dP C) 0 (Int32.ofInt 1)))] [.int (nI k)] h from ?_)
            exact sv_S2 sv2_283 (by intro q hq; simp only [List.mem_cons, List.not_mem_nil, or_false] at hq; rcases hq with rfl | rfl <;> rfl) (key _ (if_pos c60).symm)
          · refine am_goX 2 (show 0 ≤ 8 ∧ h.2.2.2.2 + am_al 235 ≤ 175 ∧ am_call am_cod 3 235 [.int (nI k)] h (fun vv h' => pz_S 5 (some .int) am_r283 3 Q 83 [(0, .ref 154), (1, .int a1), (2, .int (nI k)), (3, .int (d_283_24 C k (dP C) 0 (Int32.ofInt 1)))] (vv.toList ++ []) h') from ⟨by decide, ex_lim hP rfl, am_call.up (d_235_w hP ?_) (by decide)⟩)
            refine am_goX 2 (show 1 ≤ 8 ∧ h.2.2.2.2 + am_al 235 ≤ 175 ∧ am_call am_cod 3 235 [.int a1] h (fun vv h' => pz_S 5 (some .int) am_r283 3 Q 87 [(0, .ref 154), (1, .int a1), (2, .int (nI k)), (3, .int (d_283_24 C k (dP C) 0 (Int32.ofInt 1)))] (vv.toList ++ [.int (d_235 (nI k))]) h') from ⟨by decide, ex_lim hP rfl, am_call.up (d_235_w hP ?_) (by decide)⟩)
            suffices key : ∀ (v63 : Int32), v63 = (if (d_235 a1) ≤ (d_235 (nI k)) then a1 else nI k) → pz_S 5 (some .int) am_r283 3 Q 95 [(0, .ref 154), (2, .int (nI k))] [.int v63] h by
              refine am_goX 1 (show ((d_235 a1) ≤ (d_235 (nI k)) → pz_S 5 (some .int) am_r283 3 Q 94 [(0, .ref 154), (1, .int a1), (2, .int (nI k)), (3, .int (d_283_24 C k (dP C) 0 (Int32.ofInt 1)))] [] h) ∧ (¬ ((d_235 a1) ≤ (d_235 (nI k))) → pz_S 5 (some .int) am_r283 3 Q 90 [(0, .ref 154), (1, .int a1), (2, .int (nI k)), (3, .int (d_283_24 C k (dP C) 0 (Int32.ofInt 1)))] [] h) from ⟨fun c62 => ?_, fun c62 => ?_⟩)
              · refine am_goX 1 (show pz_S 5 (some .int) am_r283 3 Q 95 [(0, .ref 154), (1, .int a1), (2, .int (nI k)), (3, .int (d_283_24 C k (dP C) 0 (Int32.ofInt 1)))] [.int a1] h from ?_)
                exact sv_S2 sv2_283 (by intro q hq; simp only [List.mem_cons, List.not_mem_nil, or_false] at hq; rcases hq with rfl | rfl <;> rfl) (key _ (if_pos c62).symm)
              · refine am_goX 2 (show pz_S 5 (some .int) am_r283 3 Q 95 [(0, .ref 154), (1, .int a1), (2, .int (nI k)), (3, .int (d_283_24 C k (dP C) 0 (Int32.ofInt 1)))] [.int (nI k)] h from ?_)
                exact sv_S2 sv2_283 (by intro q hq; simp only [List.mem_cons, List.not_mem_nil, or_false] at hq; rcases hq with rfl | rfl <;> rfl) (key _ (if_neg c62).symm)
            intro v63 e64
            subst e64
            exact sv_S2 sv2_283 (by intro q hq; simp only [List.mem_cons, List.not_mem_nil, or_false] at hq; rcases hq with rfl | rfl <;> rfl) (key _ (if_neg c60).symm)
        intro v61 e65
        subst e65
        exact sv_S2 sv2_283 (by intro q hq; simp only [List.mem_cons, List.not_mem_nil, or_false] at hq; rcases hq with rfl | rfl <;> rfl) (key _ (if_neg c58).symm)
    intro v59 e66
    subst e66
    refine am_goX 3 (show 1 < 5 ∧ 2 < 5 ∧ pz_S 5 (some .int) am_r283 3 Q 9 [(2, .int ((nI k) + (Int32.ofInt 1))), (1, .int (if (d_283_24 C k (dP C) 0 (Int32.ofInt 1)) = 0 then a1 else (if a1 < 0 then nI k else (if (d_235 a1) ≤ (d_235 (nI k)) then a1 else nI k)))), (0, .ref 154)] [] h from ⟨by decide, by decide, ?_⟩)
    rw [show (nI k) + (Int32.ofInt 1) = nI (k + 1) from (dn_a rfl rfl)]
    exact sv_S2 sv2_283 (by intro q hq; simp only [List.mem_cons, List.not_mem_nil, or_false] at hq; rcases hq with rfl | rfl | rfl <;> rfl) (ih (k + 1) (if (d_283_24 C k (dP C) 0 (Int32.ofInt 1)) = 0 then a1 else (if a1 < 0 then nI k else (if (d_235 a1) ≤ (d_235 (nI k)) then a1 else nI k))) (by omega) hZ)
def d_283 (C : sp_C) : Int32 := d_283_9 C (dV C + 1) 0 (Int32.ofInt (-1))
theorem d_283_r (hP : ex_P h) (hT : tR C h)  (hQ : ∀ g, Q (some (.int (d_283 C))) g) : am_call am_cod 4 283 [.ref 154] h Q := by
  have h6 := hT.1.2.1
  have h5 := hT.2.1.2.1
  have h31 := dV_31 h5
  refine pz_call (n := 283) (nL := 5) (rt := (some .int)) (rows := am_r283) (d := 3) (by decide +kernel) (by decide +kernel) rfl (by funext pc; rfl) (ex_175 hP) (by exact Nat.le_of_ble_eq_true rfl) ?_
  refine am_goX 3 (show am_sh h 154 = some (11, 0) ∧ narrow (am_fty 11 0) (.int (Int32.ofInt 0)) = .int (Int32.ofInt 0) ∧ fits (am_fty 11 0) (.int (Int32.ofInt 0)) = true ∧ pz_S 5 (some .int) am_r283 3 Q 5 [(0, .ref 154)] [] (am_wI h 154 0 (Int32.ofInt 0)) from ⟨ex_154 hP, rfl, rfl, ?_⟩)
  have f56 : ex_P (am_wI h 154 0 (Int32.ofInt 0)) := hP
  have f57 : tR C (am_wI h 154 0 (Int32.ofInt 0)) := tR_w (by omega) hT
  generalize am_wI h 154 0 (Int32.ofInt 0) = h55 at f56 f57 ⊢
  refine am_goX 4 (show 1 < 5 ∧ 2 < 5 ∧ pz_S 5 (some .int) am_r283 3 Q 9 [(2, .int (Int32.ofInt 0)), (1, .int (Int32.ofInt (-1))), (0, .ref 154)] [] h55 from ⟨by decide, by decide, ?_⟩)
  refine sv_S2 sv2_283 (by intro q hq; simp only [List.mem_cons, List.not_mem_nil, or_false] at hq; rcases hq with rfl | rfl | rfl <;> rfl) (d_283_9_r f56 f57 (dV C + 1) 0 (Int32.ofInt (-1)) (by omega) ?_)
  exact am_goX 2 (show (∃ ty, (some .int) = some ty ∧ narrow ty (.int (d_283_9 C (dV C + 1) 0 (Int32.ofInt (-1)))) = .int (d_283_9 C (dV C + 1) 0 (Int32.ofInt (-1)))) ∧ h55.2.2.2.2 = 175 ∧ _ from ⟨⟨.int, rfl, rfl⟩, ex_175 f56, hQ _⟩)
end
section
/-! THE TOLD CANTON OF BOTH BETWEEN CALLS -/
theorem iv_P {h : am_H} (hI : iv_I h) : ex_P h := by
  obtain ⟨N, hN, hW, -⟩ := hI
  exact ex_G hW.1 hW.2.1
theorem kr_sub {R S : ag_M} (hs : S.all (fun s => R.any (fun r => Nat.beq r.1 s.1 && (Nat.ble r.2.1 s.2.1 && Nat.ble s.2.2 r.2.2))) = true) {h h' : am_H} (k : kr R h h') : kr S h h' := fun o q e => k o q (by
  unfold ag_atM at e ⊢
  obtain ⟨s, s1, s2⟩ := List.any_eq_true.mp e
  obtain ⟨r, r1, r2⟩ := List.any_eq_true.mp (List.all_eq_true.mp hs s s1)
  refine List.any_eq_true.mpr ⟨r, r1, ?_⟩
  have s2 : (Nat.beq s.1 o && (Nat.ble s.2.1 q && Nat.ble q s.2.2)) = true := s2
  show (Nat.beq r.1 o && (Nat.ble r.2.1 q && Nat.ble q r.2.2)) = true
  rw [Bool.and_eq_true, Bool.and_eq_true] at s2 r2 ⊢
  have a1 := Nat.eq_of_beq_eq_true s2.1
  have a2 := Nat.eq_of_beq_eq_true r2.1
  have b1 := Nat.le_of_ble_eq_true s2.2.1
  have b2 := Nat.le_of_ble_eq_true s2.2.2
  have c1 := Nat.le_of_ble_eq_true r2.2.1
  have c2 := Nat.le_of_ble_eq_true r2.2.2
  exact ⟨by rw [a2, a1]; exact Nat.beq_refl o, Nat.ble_eq_true_of_le (by omega), Nat.ble_eq_true_of_le (by omega)⟩)
def kr_V : ag_M := [(0, 3, 3), (6, 0, 11), (8, 0, 5), (9, 0, 5), (12, 0, 4), (13, 0, 4), (14, 2, 2), (15, 0, 999), (17, 0, 11), (19, 0, 5), (20, 0, 5), (23, 0, 4), (24, 0, 4), (25, 2, 2), (26, 0, 999)]
def kr_T : ag_M := [(160, 0, 39), (161, 0, 1099), (162, 0, 1099)]
/-- the class's told canton is C -/
def jC (C : sp_C) (h : am_H) : Prop := ∃ c, (c = 6 ∨ c = 17) ∧ h.2.2.1 0 3 = some c ∧ c_v c C h
theorem c_v_x {c : Nat} {C : sp_C} {h g : am_H} (e0 : g.1 c 0 = h.1 c 0) (e4 : g.1 c 4 = h.1 c 4) (e10 : g.1 c 10 = h.1 c 10) (e2 : ∀ i, i < 6 → g.1 (c + 2) i = h.1 (c + 2) i ∧ g.1 (c + 3) i = h.1 (c + 3) i) (e6 : ∀ i, i < 5 → g.1 (c + 6) i = h.1 (c + 6) i ∧ g.1 (c + 7) i = h.1 (c + 7) i) (e8 : g.1 (c + 8) 2 = h.1 (c + 8) 2) (e9 : ∀ i, i < 1000 → g.1 (c + 9) i = h.1 (c + 9) i) (l : c_v c C h) : c_v c C g := by
  obtain ⟨⟨a1, a2, a3⟩, ⟨b1, b2, b3⟩, ⟨d1, d2⟩, f1, f2, f3⟩ := l
  refine ⟨⟨e0.trans a1, a2, fun i hi => ?_⟩, ⟨e4.trans b1, b2, fun i hi => ?_⟩, ⟨e10.trans d1, d2⟩, e8.trans f1, f2, fun i hi => (e9 i (by omega)).trans (f3 i hi)⟩
  · rw [(e2 i (by omega)).1, (e2 i (by omega)).2]; exact a3 i hi
  · rw [(e6 i (by omega)).1, (e6 i (by omega)).2]; exact b3 i hi
theorem jC_k {C : sp_C} {h g : am_H} (j : jC C h) (k : kr kr_V h g) : jC C g := by
  obtain ⟨c, c1, c2, c3⟩ := j
  refine ⟨c, c1, (k 0 3 (by decide +kernel)).2.2.trans c2, ?_⟩
  rcases c1 with rfl | rfl
  · exact c_v_x (k 6 0 (by decide +kernel)).1 (k 6 4 (by decide +kernel)).1 (k 6 10 (by decide +kernel)).1 (fun i hi => ⟨(k 8 i (kr_at (a := 0) (b := 5) (by decide +kernel) (Nat.zero_le _) (by omega))).1, (k 9 i (kr_at (a := 0) (b := 5) (by decide +kernel) (Nat.zero_le _) (by omega))).1⟩) (fun i hi => ⟨(k 12 i (kr_at (a := 0) (b := 4) (by decide +kernel) (Nat.zero_le _) (by omega))).1, (k 13 i (kr_at (a := 0) (b := 4) (by decide +kernel) (Nat.zero_le _) (by omega))).1⟩) (k 14 2 (by decide +kernel)).1 (fun i hi => (k 15 i (kr_at (a := 0) (b := 999) (by decide +kernel) (Nat.zero_le _) (by omega))).1) c3
  · exact c_v_x (k 17 0 (by decide +kernel)).1 (k 17 4 (by decide +kernel)).1 (k 17 10 (by decide +kernel)).1 (fun i hi => ⟨(k 19 i (kr_at (a := 0) (b := 5) (by decide +kernel) (Nat.zero_le _) (by omega))).1, (k 20 i (kr_at (a := 0) (b := 5) (by decide +kernel) (Nat.zero_le _) (by omega))).1⟩) (fun i hi => ⟨(k 23 i (kr_at (a := 0) (b := 4) (by decide +kernel) (Nat.zero_le _) (by omega))).1, (k 24 i (kr_at (a := 0) (b := 4) (by decide +kernel) (Nat.zero_le _) (by omega))).1⟩) (k 25 2 (by decide +kernel)).1 (fun i hi => (k 26 i (kr_at (a := 0) (b := 999) (by decide +kernel) (Nat.zero_le _) (by omega))).1) c3
theorem tR_k {C : sp_C} {h g : am_H} (j : tR C h) (k : kr kr_T h g) : tR C g := by
  obtain ⟨⟨a1, a2, a3⟩, ⟨b1, b2, b3⟩, c3, ⟨d1, d2⟩, e1, e2, e3, e4, e5⟩ := j
  have w : ∀ q, q ≤ 39 → g.1 160 q = h.1 160 q := fun q hq => (k 160 q (kr_at (a := 0) (b := 39) (by decide +kernel) (Nat.zero_le _) hq)).1
  have w1 : ∀ q, q ≤ 1099 → g.1 161 q = h.1 161 q := fun q hq => (k 161 q (kr_at (a := 0) (b := 1099) (by decide +kernel) (Nat.zero_le _) hq)).1
  have w2 : ∀ q, q ≤ 1099 → g.1 162 q = h.1 162 q := fun q hq => (k 162 q (kr_at (a := 0) (b := 1099) (by decide +kernel) (Nat.zero_le _) hq)).1
  refine ⟨⟨?_, a2, fun i hi => ?_⟩, ⟨?_, b2, fun i hi => ?_⟩, fun p q hp hq => ?_, ⟨?_, d2⟩, e1, fun j hj => ?_, fun w => ?_, e4, ?_⟩
  · rw [w _ (by omega)]; exact a1
  · rw [w _ (by omega), w _ (by omega)]; exact a3 i hi
  · rw [w _ (by omega)]; exact b1
  · rw [w _ (by omega), w _ (by omega)]; exact b3 i hi
  · rw [w _ (by omega)]; exact c3 p q hp hq
  · rw [w _ (by omega)]; exact d1
  · rw [w1 _ (by omega), w2 _ (by omega)]; exact e2 j hj
  · rw [w1 _ (by omega)]; exact e3 w
  · rw [w _ (by omega)]; exact e5
theorem c_v_q {c d : Nat} {C : sp_C} {h g : am_H} (hc : (c = 6 ∧ d = 17) ∨ (c = 17 ∧ d = 6)) (w : ∀ o k, ¬ c_in c o → g.1 o k = h.1 o k ∧ g.2.1 o k = h.2.1 o k) (l : c_v d C h) : c_v d C g := by
  have n : ∀ o k, d ≤ o → o ≤ d + 10 → g.1 o k = h.1 o k := fun o k h1 h2 => (w o k (by unfold c_in; omega)).1
  exact c_v_x (n _ _ (by omega) (by omega)) (n _ _ (by omega) (by omega)) (n _ _ (by omega) (by omega)) (fun i _ => ⟨n _ _ (by omega) (by omega), n _ _ (by omega) (by omega)⟩) (fun i _ => ⟨n _ _ (by omega) (by omega), n _ _ (by omega) (by omega)⟩) (n _ _ (by omega) (by omega)) (fun i _ => n _ _ (by omega) (by omega)) l
/-- what canton makes of it: the old one, or the one that was read -/
theorem jC_cn {T : Nat → Int32} {sz : Nat} {h g : am_H} {C : sp_C} (p : cnC T sz h g) (j : jC C h) : (∃ F, sp_canton (tt T sz) = .inl F ∧ jC C g) ∨ (∃ s, sp_canton (tt T sz) = .inr s ∧ jC s.2 g) := by
  rcases p with ⟨F, e, c, d, hc, ht, e2, w⟩ | ⟨s, e, c, hc, ht, l, -⟩
  · obtain ⟨b, b1, b2, b3⟩ := j
    have eb : b = d := Option.some.inj (b2.symm.trans ht)
    subst eb
    exact Or.inl ⟨F, e, b, b1, by rw [e2]; exact b2, c_v_q hc w b3⟩
  · exact Or.inr ⟨s, e, c, hc, ht, (c_c_v l).1⟩
theorem jT_cn {T : Nat → Int32} {sz : Nat} {h g g2 : am_H} {C : sp_C} (p : cnC T sz h g) (k : kr kr_14 h g) (r : cnR (tt T sz) g g2) (j1 : jC C h) (j2 : tR C h) : ∃ C', jC C' g2 ∧ tR C' g2 := by
  rcases jC_cn p j1 with ⟨F, e, q⟩ | ⟨s, e, q⟩
  · rcases r.2 with ⟨F', e', w⟩ | ⟨s', e', w⟩
    · exact ⟨C, jC_k q (kr_sub (by decide +kernel) r.1), tR_k (tR_k j2 (kr_sub (by decide +kernel) k)) (kr_sub (by decide +kernel) w)⟩
    · rw [e] at e'
      cases e'
  · rcases r.2 with ⟨F', e', w⟩ | ⟨s', e', w1, -, -⟩
    · rw [e] at e'
      cases e'
    · rw [e] at e'
      cases e'
      exact ⟨s.2, jC_k q (kr_sub (by decide +kernel) r.1), w1⟩
end
section
/-! WHAT EVERY CANTON THAT WAS READ KEEPS -/
variable {τ : sp_T} {p : sp_S → sp_R} {s s' t : sp_S}
/-- how many values wait behind a part (none: too many, or too few) -/
def ls1 (x : Int32) (k : Nat) : Option Nat := if (-4 : Int32) ≤ x then (if k < 32 then some (k + 1) else none) else if x = -5 then (if 0 < k then some k else none) else (if 1 < k then some (k - 1) else none)
def lst : List Int32 → Nat → Option Nat
  | [], k => some k
  | x :: L, k => (ls1 x k).bind (lst L)
theorem lst_app : ∀ (L M : List Int32) (k : Nat), lst (L ++ M) k = (lst L k).bind (lst M)
  | [], M, k => rfl
  | x :: L, M, k => by
    show (ls1 x k).bind (lst (L ++ M)) = ((ls1 x k).bind (lst L)).bind (lst M)
    cases ls1 x k with
    | none => rfl
    | some j => exact lst_app L M j
def lval (B : Nat) (L : List Int32) : Prop := ∀ k, k + B ≤ 32 → lst L k = some (k + 1)
def ltail (B : Nat) (L : List Int32) : Prop := ∀ k, k + B ≤ 32 → lst L (k + 1) = some (k + 1)
theorem lval_le {B B' : Nat} {L : List Int32} (h : B ≤ B') (l : lval B L) : lval B' L := fun k hk => l k (by omega)
theorem ltail_0 {B : Nat} : ltail B [] := fun _ _ => rfl
theorem ls1_b {x : Int32} {k : Nat} (h1 : ¬ (-4 : Int32) ≤ x) (h2 : ¬ x = -5) : ls1 x (k + 2) = some (k + 1) := by
  unfold ls1
  rw [if_neg h1, if_neg h2, if_pos (by omega)]
  rfl
theorem ltail_1 {B B' : Nat} {L M : List Int32} {x : Int32} (h1 : ¬ (-4 : Int32) ≤ x) (h2 : ¬ x = -5) (hB : B + 1 ≤ B') (l : lval B L) (m : ltail B' M) : ltail B' (L ++ x :: M) := fun k hk => by
  rw [lst_app, l (k + 1) (by omega)]
  show (ls1 x (k + 2)).bind (lst M) = _
  rw [ls1_b h1 h2]
  exact m k hk
theorem lval_t {B B' : Nat} {L M : List Int32} (hB : B ≤ B') (l : lval B L) (m : ltail B' M) : lval B' (L ++ M) := fun k hk => by
  rw [lst_app, l k (by omega)]
  exact m k hk
/-- what is laid behind -/
def lad (C : sp_C) (L : List Int32) : sp_C := L.foldl sp_em C
def spV (p : sp_S → sp_R) (B : Nat) : Prop := ∀ s s', p s = .inr s' → ∃ L, s'.2 = lad s.2 L ∧ lval B L
theorem lad_app (C : sp_C) (L M : List Int32) : lad C (L ++ M) = lad (lad C L) M := List.foldl_append
theorem spV_pL {B : Nat} (hp : spV p B) : ∀ (m : Nat) (s s' : sp_S), sp_pL τ p m s = .inr s' → ∃ L, s'.2 = lad s.2 L ∧ ltail (B + 1) L
  | 0, s, s', e => by
    cases e
    exact ⟨[], rfl, ltail_0⟩
  | m + 1, s, s', e => by
    unfold sp_pL at e
    cases h1 : sp_s τ s.1 (Int8.ofInt 42).toInt32 with
    | true =>
      rw [h1] at e
      obtain ⟨t, e1, e2⟩ := sp_bI e
      obtain ⟨L, l1, l2⟩ := hp _ _ e1
      obtain ⟨M, m1, m2⟩ := spV_pL hp m _ _ e2
      refine ⟨L ++ (Int8.ofInt (-12)).toInt32 :: M, ?_, ltail_1 (by decide) (by decide) (by omega) l2 m2⟩
      rw [lad_app]
      show s'.2 = lad (sp_em (lad s.2 L) _) M
      rw [m1, l1]
    | false =>
      rw [h1] at e
      cases e
      exact ⟨[], rfl, ltail_0⟩
theorem spV_p {B : Nat} (hp : spV p B) : spV (sp_p τ p) (B + 1) := fun s s' e => by
  obtain ⟨t, e1, e2⟩ := sp_bI e
  obtain ⟨L, l1, l2⟩ := hp _ _ e1
  obtain ⟨M, m1, m2⟩ := spV_pL hp _ _ _ e2
  exact ⟨L ++ M, by rw [lad_app, m1, l1], lval_t (by omega) l2 m2⟩
theorem spV_sL {B : Nat} (hp : spV p B) : ∀ (m : Nat) (s s' : sp_S), sp_sL τ p m s = .inr s' → ∃ L, s'.2 = lad s.2 L ∧ ltail (B + 2) L
  | 0, s, s', e => by
    cases e
    exact ⟨[], rfl, ltail_0⟩
  | m + 1, s, s', e => by
    unfold sp_sL at e
    cases h1 : sp_s τ s.1 (Int8.ofInt 43).toInt32 with
    | true =>
      rw [h1] at e
      obtain ⟨t, e1, e2⟩ := sp_bI e
      obtain ⟨L, l1, l2⟩ := spV_p hp _ _ e1
      obtain ⟨M, m1, m2⟩ := spV_sL hp m _ _ e2
      refine ⟨L ++ (Int8.ofInt (-10)).toInt32 :: M, ?_, ltail_1 (by decide) (by decide) (by omega) l2 m2⟩
      rw [lad_app]
      show s'.2 = lad (sp_em (lad s.2 L) _) M
      rw [m1, l1]
    | false =>
      rw [h1] at e
      cases h2 : sp_s τ s.1 (Int8.ofInt 45).toInt32 with
      | true =>
        rw [h2] at e
        obtain ⟨t, e1, e2⟩ := sp_bI e
        obtain ⟨L, l1, l2⟩ := spV_p hp _ _ e1
        obtain ⟨M, m1, m2⟩ := spV_sL hp m _ _ e2
        refine ⟨L ++ (Int8.ofInt (-11)).toInt32 :: M, ?_, ltail_1 (by decide) (by decide) (by omega) l2 m2⟩
        rw [lad_app]
        show s'.2 = lad (sp_em (lad s.2 L) _) M
        rw [m1, l1]
      | false =>
        rw [h2] at e
        cases e
        exact ⟨[], rfl, ltail_0⟩
theorem spV_su {B : Nat} (hp : spV p B) : spV (sp_su τ p) (B + 2) := fun s s' e => by
  obtain ⟨t, e1, e2⟩ := sp_bI e
  obtain ⟨L, l1, l2⟩ := spV_p hp _ _ e1
  obtain ⟨M, m1, m2⟩ := spV_sL hp _ _ _ e2
  exact ⟨L ++ M, by rw [lad_app, m1, l1], lval_t (by omega) l2 m2⟩
theorem spV_te {B : Nat} (hp : spV p B) : spV (sp_te τ p) (B + 3) := fun s s' e => by
  obtain ⟨t, e1, e2⟩ := sp_bI e
  obtain ⟨L, l1, l2⟩ := spV_su hp _ _ e1
  cases h1 : sp_s τ t.1 (Int8.ofInt 60).toInt32 with
  | true =>
    rw [h1] at e2
    obtain ⟨u, e3, e4⟩ := sp_bI e2
    cases e4
    obtain ⟨M, m1, m2⟩ := spV_su hp _ _ e3
    refine ⟨L ++ (M ++ [(Int8.ofInt (-8)).toInt32]), ?_, lval_t (by omega) l2 (ltail_1 (B := B + 2) (by decide) (by decide) (by omega) m2 ltail_0)⟩
    rw [lad_app, lad_app]
    show sp_em u.2 _ = sp_em (lad (lad s.2 L) M) _
    rw [m1, l1]
  | false =>
    rw [h1] at e2
    cases h2 : sp_s τ t.1 (Int8.ofInt 61).toInt32 with
    | true =>
      rw [h2] at e2
      obtain ⟨u, e3, e4⟩ := sp_bI e2
      cases e4
      obtain ⟨M, m1, m2⟩ := spV_su hp _ _ e3
      refine ⟨L ++ (M ++ [(Int8.ofInt (-9)).toInt32]), ?_, lval_t (by omega) l2 (ltail_1 (B := B + 2) (by decide) (by decide) (by omega) m2 ltail_0)⟩
      rw [lad_app, lad_app]
      show sp_em u.2 _ = sp_em (lad (lad s.2 L) M) _
      rw [m1, l1]
    | false =>
      rw [h2] at e2
      cases e2
      exact ⟨L, l1, lval_le (by omega) l2⟩
theorem spV_wL {B : Nat} (hp : spV p B) : ∀ (m : Nat) (s s' : sp_S), sp_wL τ p m s = .inr s' → ∃ L, s'.2 = lad s.2 L ∧ ltail (B + 4) L
  | 0, s, s', e => by
    cases e
    exact ⟨[], rfl, ltail_0⟩
  | m + 1, s, s', e => by
    unfold sp_wL at e
    cases h1 : sp_w τ s.1 1891 with
    | true =>
      rw [h1] at e
      obtain ⟨t, e1, e2⟩ := sp_bI e
      obtain ⟨L, l1, l2⟩ := spV_te hp _ _ e1
      obtain ⟨M, m1, m2⟩ := spV_wL hp m _ _ e2
      refine ⟨L ++ (Int8.ofInt (-6)).toInt32 :: M, ?_, ltail_1 (by decide) (by decide) (by omega) l2 m2⟩
      rw [lad_app]
      show s'.2 = lad (sp_em (lad s.2 L) _) M
      rw [m1, l1]
    | false =>
      rw [h1] at e
      cases h2 : sp_w τ s.1 573 with
      | true =>
        rw [h2] at e
        obtain ⟨t, e1, e2⟩ := sp_bI e
        obtain ⟨L, l1, l2⟩ := spV_te hp _ _ e1
        obtain ⟨M, m1, m2⟩ := spV_wL hp m _ _ e2
        refine ⟨L ++ (Int8.ofInt (-7)).toInt32 :: M, ?_, ltail_1 (by decide) (by decide) (by omega) l2 m2⟩
        rw [lad_app]
        show s'.2 = lad (sp_em (lad s.2 L) _) M
        rw [m1, l1]
      | false =>
        rw [h2] at e
        cases e
        exact ⟨[], rfl, ltail_0⟩
theorem spV_wh {B : Nat} (hp : spV p B) : spV (sp_wh τ p) (B + 4) := fun s s' e => by
  obtain ⟨t, e1, e2⟩ := sp_bI e
  obtain ⟨L, l1, l2⟩ := spV_te hp _ _ e1
  obtain ⟨M, m1, m2⟩ := spV_wL hp _ _ _ e2
  exact ⟨L ++ M, by rw [lad_app, m1, l1], lval_t (by omega) l2 m2⟩
/-- NUMBERS of the tokens are none below 0 -/
def tNum (τ : sp_T) : Prop := ∀ i, (τ i).1 = 2 → ∃ D : Nat, D ≤ 9999 ∧ (τ i).2.1 = Int64.ofNat D
theorem tt_num {T : Nat → Int32} {sz : Nat} : tNum (tt T sz) := fun _ hi => nm_2 hi
theorem rb1 {x : Int32} (h : Int32.ofInt 1 = rb_o x) : 0 ≤ x := by
  by_cases hx : 0 ≤ x
  · exact hx
  · unfold rb_o at h
    rw [decide_eq_false hx] at h
    dsimp only [cond] at h
    exfalso
    revert h
    cases decide ((-4 : Int32) ≤ x) <;> cases decide (x = -5) <;> cases decide (x = -6) <;> cases decide (x = -7) <;> cases decide (x = -8) <;> cases decide (x = -9) <;> cases decide (x = -10) <;> cases decide (x = -11) <;> decide
theorem le_m4 {x : Int32} (h : 0 ≤ x) : (-4 : Int32) ≤ x := by
  have a := Int32.le_iff_toInt_le.mp h
  have e0 : (0 : Int32).toInt = 0 := rfl
  have e4 : (-4 : Int32).toInt = -4 := by decide
  exact Int32.le_iff_toInt_le.mpr (by omega)
theorem lval_1 {x : Int32} {B : Nat} (hB : 1 ≤ B) (h : (-4 : Int32) ≤ x) : lval B [x] := fun k hk => by
  show (ls1 x k).bind (lst []) = _
  unfold ls1
  rw [if_pos h, if_pos (by omega)]
  rfl
theorem fa_4 {a : Nat} : (-4 : Int32) ≤ sp_fa τ a := by
  unfold sp_fa
  cases sp_w τ a 20763 with
  | true => exact (show (-4 : Int32) ≤ Int32.ofInt (-1) by decide)
  | false =>
    cases sp_w τ a 1172060 with
    | true => exact (show (-4 : Int32) ≤ (Int8.ofInt (-2)).toInt32 by decide)
    | false =>
      cases sp_w τ a 18002 with
      | true => exact (show (-4 : Int32) ≤ (Int8.ofInt (-3)).toInt32 by decide)
      | false =>
        cases sp_w τ a 43523993 with
        | true => exact (show (-4 : Int32) ≤ (Int8.ofInt (-4)).toInt32 by decide)
        | false => exact (show (-4 : Int32) ≤ Int32.ofInt 0 by decide)
theorem spV_pt (hτ : tNum τ) : ∀ (r : Nat), spV (sp_pt τ r) (4 * r + 1)
  | 0 => fun s s' e => by
    unfold sp_pt at e
    cases h1 : decide (sp_fa τ s.1 = 0) && (!sp_k τ s.1 2 && (!sp_w τ s.1 19741 && !sp_s τ s.1 (Int8.ofInt 40).toInt32)) with
    | true => rw [h1] at e; cases e
    | false => rw [h1] at e; cases e
  | r + 1 => fun s s' e => by
    unfold sp_pt at e
    cases h1 : decide (sp_fa τ s.1 = 0) && (!sp_k τ s.1 2 && (!sp_w τ s.1 19741 && !sp_s τ s.1 (Int8.ofInt 40).toInt32)) with
    | true => rw [h1] at e; cases e
    | false =>
      rw [h1] at e
      cases h2 : sp_k τ s.1 2 with
      | true =>
        rw [h2] at e
        cases e
        obtain ⟨D, d1, d2⟩ := hτ s.1 (of_decide_eq_true h2)
        exact ⟨[sp_v τ s.1], rfl, lval_1 (by omega) (le_m4 (rb1 (num_o d1 d2).1))⟩
      | false =>
        rw [h2] at e
        cases h3 : !decide (sp_fa τ s.1 = 0) with
        | true =>
          rw [h3] at e
          cases e
          exact ⟨[sp_fa τ s.1], rfl, lval_1 (by omega) fa_4⟩
        | false =>
          rw [h3] at e
          cases h4 : sp_w τ s.1 19741 with
          | true =>
            rw [h4] at e
            obtain ⟨t, e1, e2⟩ := sp_bI e
            cases e2
            obtain ⟨L, l1, l2⟩ := spV_pt hτ r _ _ e1
            refine ⟨L ++ [(Int8.ofInt (-5)).toInt32], ?_, fun k hk => ?_⟩
            · rw [lad_app]
              show sp_em t.2 _ = sp_em (lad s.2 L) _
              rw [l1]
            · rw [lst_app, l2 k (by omega)]
              show (ls1 (Int8.ofInt (-5)).toInt32 (k + 1)).bind (lst []) = _
              unfold ls1
              rw [if_neg (by decide), if_pos (by decide), if_pos (by omega)]
              rfl
          | false =>
            rw [h4] at e
            obtain ⟨t, e1, e2⟩ := sp_bI e
            obtain ⟨L, l1, l2⟩ := spV_wh (spV_pt hτ r) _ _ e1
            rw [sp_tS_ok e2]
            exact ⟨L, l1, lval_le (by omega) l2⟩
theorem lad_e : ∀ (L : List Int32) (C : sp_C), (lad C L).1 = C.1 ∧ (lad C L).2.1 = C.2.1 ∧ (lad C L).2.2.1 = C.2.2.1 ∧ (lad C L).2.2.2.1 = C.2.2.2.1 ∧ dM (lad C L) = dM C + L.length ∧ ∀ i, i < dM C + L.length → dT (lad C L) i = if i < dM C then dT C i else L.getD (i - dM C) 0
  | [], C => ⟨rfl, rfl, rfl, rfl, rfl, fun i hi => by rw [if_pos (by simpa using hi)]; rfl⟩
  | x :: L, C => by
    obtain ⟨a, b, c, d, e, f⟩ := lad_e L (sp_em C x)
    have em : dM (sp_em C x) = dM C + 1 := rfl
    refine ⟨a, b, c, d, ?_, fun i hi => ?_⟩
    · show dM (lad (sp_em C x) L) = _
      rw [e, em, List.length_cons]
      omega
    · rw [List.length_cons] at hi
      show dT (lad (sp_em C x) L) i = _
      rw [f i (by rw [em]; omega), em]
      by_cases h1 : i < dM C
      · rw [if_pos (by omega), if_pos h1]
        show (if i = dM C then x else dT C i) = _
        rw [if_neg (by omega)]
      · rw [if_neg h1]
        by_cases h2 : i = dM C
        · rw [if_pos (by omega), h2, Nat.sub_self]
          show (if dM C = dM C then x else dT C (dM C)) = x
          rw [if_pos rfl]
        · rw [if_neg (by omega), show i - dM C = (i - (dM C + 1)) + 1 by omega]
          rfl
/-- the law's parts, in a row -/
def dTL (C : sp_C) : List Int32 := (List.range (dM C)).map (dT C)
theorem lad_TL {C : sp_C} (h0 : dM C = 0) (L : List Int32) : dTL (lad C L) = L := by
  obtain ⟨-, -, -, -, e, f⟩ := lad_e L C
  unfold dTL
  refine List.ext_getElem ?_ (fun i h1 h2 => ?_)
  · rw [List.length_map, List.length_range, e, h0]
    omega
  · rw [List.getElem_map, List.getElem_range]
    rw [f i (by omega), if_neg (by omega), h0, Nat.sub_zero, List.getD_eq_getElem?_getD, List.getElem?_eq_getElem h2]
    rfl
def cIP (C : sp_C) : Prop := ∀ p, p < dP C → (∃ k, k < 4 ∧ dK C p = nI k) ∧ ∃ l, l < 5 ∧ dL C p = nI l
def cIE (C : sp_C) : Prop := ∀ e, e < dE C → (∃ d, d < 7 ∧ dW C e = nI d) ∧ (∃ n, 1 ≤ n ∧ n ≤ 6 ∧ dN C e = nI n) ∧ bN (dG C e) < 2 ^ dP C
def cIL (C : sp_C) : Prop := (C.2.2.2.1 = false ∧ dM C = 0) ∨ (C.2.2.2.1 = true ∧ lst (dTL C) 0 = some 1)
def cI (C : sp_C) : Prop := (dP C ≤ 6 ∧ dE C ≤ 5) ∧ cIP C ∧ cIE C ∧ cIL C
theorem in_nat {a : Nat} {lo hi : Int32} {m n : Nat} (hm : lo = nI m) (hn : hi = nI n) (hb : n < 100) (hmn : m ≤ n) (e : sp_in τ a lo hi = true) : ∃ l, m ≤ l ∧ l ≤ n ∧ sp_v τ a = nI l := by
  unfold sp_in at e
  rw [Bool.and_eq_true, decide_eq_true_eq, decide_eq_true_eq] at e
  have a1 := Int32.le_iff_toInt_le.mp e.1
  have a2 := Int32.le_iff_toInt_le.mp e.2
  rw [hm, nI_toInt (by omega)] at a1
  rw [hn, nI_toInt (by omega)] at a2
  refine ⟨(sp_v τ a).toInt.toNat, by omega, by omega, Int32.toInt_inj.mp ?_⟩
  rw [nI_toInt (by omega)]
  omega
theorem kd_4 {a : Nat} {k : Int32} (e : sp_kd τ a = some k) : ∃ j, j < 4 ∧ k = nI j := by
  unfold sp_kd at e
  cases h1 : sp_w τ a 30596128 with
  | true => rw [h1] at e; cases e; exact ⟨0, by decide, rfl⟩
  | false =>
    rw [h1] at e
    cases h2 : sp_w τ a 43567634 with
    | true => rw [h2] at e; cases e; exact ⟨1, by decide, rfl⟩
    | false =>
      rw [h2] at e
      cases h3 : sp_w τ a 37900956 with
      | true => rw [h3] at e; cases e; exact ⟨2, by decide, rfl⟩
      | false =>
        rw [h3] at e
        cases h4 : sp_w τ a 488058286 with
        | true => rw [h4] at e; cases e; exact ⟨3, by decide, rfl⟩
        | false => rw [h4] at e; cases e
theorem fd_lt {f : Nat → Int64} {v : Int64} : ∀ (m k i : Nat), sp_fd f v m k = some i → i < k + m
  | 0, k, i, e => by cases e
  | m + 1, k, i, e => by
    unfold sp_fd at e
    cases h : decide (f k = v) with
    | true =>
      rw [h] at e
      cases e
      omega
    | false =>
      rw [h] at e
      have := fd_lt m (k + 1) i e
      omega
theorem cI_person (hc : cI s.2) (e : sp_person τ s = .inr t) : cI t.2 := by
  obtain ⟨⟨c1, c2⟩, c3, c4, c5⟩ := hc
  unfold sp_person at e
  cases h1 : Nat.ble 6 s.2.1.1 with
  | true => simp only [h1, cond_true, sp_f] at e; cases e
  | false =>
    simp only [h1, cond_false] at e
    obtain ⟨u1, e1, e2⟩ := sp_b_inr e
    have p1 := (sp_fn_inr e1).1
    subst p1
    cases h2 : sp_kd τ (s.1 + 1 + 1) with
    | none => simp only [h2, sp_f] at e2; cases e2
    | some k =>
      simp only [h2] at e2
      obtain ⟨u2, e3, e4⟩ := sp_b_inr e2
      obtain ⟨u3, e5, e6⟩ := sp_b_inr e4
      have p2 := sp_tW_inr e3
      subst p2
      obtain ⟨p3, -, p4⟩ := sp_tN_inr e5
      subst p3
      have p5 := sp_tS_inr e6
      obtain ⟨l, -, l2, l3⟩ := in_nat (m := 0) (n := 4) rfl rfl (by decide) (by decide) p4
      rw [p5]
      refine ⟨⟨j6n h1, c2⟩, fun p hp => ?_, fun e he => ?_, c5⟩
      · have hp : p < dP s.2 + 1 := hp
        show (∃ k', k' < 4 ∧ (if p = dP s.2 then k else dK s.2 p) = nI k') ∧ ∃ l', l' < 5 ∧ (if p = dP s.2 then sp_v τ _ else dL s.2 p) = nI l'
        by_cases ep : p = dP s.2
        · rw [if_pos ep, if_pos ep]
          exact ⟨kd_4 h2, l, by omega, l3⟩
        · rw [if_neg ep, if_neg ep]
          exact c3 p (by omega)
      · obtain ⟨g1, g2, g3⟩ := c4 e he
        exact ⟨g1, g2, Nat.lt_of_lt_of_le g3 (Nat.pow_le_pow_right (by decide) (show dP s.2 ≤ dP s.2 + 1 by omega))⟩
theorem cI_event (hc : cI s.2) (e : sp_event τ s = .inr t) : cI t.2 := by
  obtain ⟨⟨c1, c2⟩, c3, c4, c5⟩ := hc
  unfold sp_event at e
  cases h1 : Nat.ble 5 s.2.2.1.1 with
  | true => simp only [h1, cond_true, sp_f] at e; cases e
  | false =>
    simp only [h1, cond_false] at e
    obtain ⟨u1, e1, e2⟩ := sp_b_inr e
    obtain ⟨u2, e3, e4⟩ := sp_b_inr e2
    obtain ⟨u3, e5, e6⟩ := sp_b_inr e4
    obtain ⟨u4, e7, e8⟩ := sp_b_inr e6
    obtain ⟨u5, e9, e10⟩ := sp_b_inr e8
    have p1 := (sp_fn_inr e1).1
    subst p1
    have p2 := sp_tW_inr e3
    subst p2
    obtain ⟨p3, -, p4⟩ := sp_tN_inr e5
    subst p3
    have p5 := sp_tW_inr e7
    subst p5
    obtain ⟨p6, -, p7⟩ := sp_tN_inr e9
    subst p6
    have p8 := sp_tS_inr e10
    obtain ⟨l, -, l2, l3⟩ := in_nat (m := 0) (n := 6) rfl (by decide) (by decide) (by decide) p4
    obtain ⟨n, n1, n2, n3⟩ := in_nat (m := 1) (n := 6) rfl (by decide) (by decide) (by decide) p7
    rw [p8]
    refine ⟨⟨c1, j5n h1⟩, c3, fun e he => ?_, c5⟩
    have he : e < dE s.2 + 1 := he
    show (∃ d, d < 7 ∧ (if e = dE s.2 then sp_v τ _ else dW s.2 e) = nI d) ∧ (∃ n, 1 ≤ n ∧ n ≤ 6 ∧ (if e = dE s.2 then sp_v τ _ else dN s.2 e) = nI n) ∧ bN (if e = dE s.2 then 0 else dG s.2 e) < 2 ^ dP s.2
    by_cases ee : e = dE s.2
    · rw [if_pos ee, if_pos ee, if_pos ee]
      exact ⟨⟨l, by omega, l3⟩, ⟨n, n1, n2, n3⟩, Nat.two_pow_pos _⟩
    · rw [if_neg ee, if_neg ee, if_neg ee]
      exact c4 e (by omega)
theorem cI_comes (hc : cI s.2) (e : sp_comes τ s = .inr t) : cI t.2 := by
  obtain ⟨⟨c1, c2⟩, c3, c4, c5⟩ := hc
  unfold sp_comes at e
  cases h1 : sp_n τ (s.1 + 1) with
  | false => simp only [h1, cond_false, sp_f] at e; cases e
  | true =>
    simp only [h1, cond_true] at e
    cases h2 : sp_pf s.2 (τ (s.1 + 1)).2.1 with
    | none => simp only [h2, sp_f] at e; cases e
    | some p =>
      simp only [h2] at e
      cases h3 : sp_n τ (s.1 + 1 + 1) with
      | false => simp only [h3, cond_false, sp_f] at e; cases e
      | true =>
        simp only [h3, cond_true] at e
        cases h4 : sp_ef s.2 (τ (s.1 + 1 + 1)).2.1 with
        | none => simp only [h4, sp_f] at e; cases e
        | some q =>
          simp only [h4] at e
          cases h5 : sp_bit (s.2.2.1.2.2.2.2 q) (nI p) with
          | true => simp only [h5, cond_true, sp_f] at e; cases e
          | false =>
            simp only [h5, cond_false] at e
            have p4 := sp_tS_inr e
            have hp : p < 0 + dP s.2 := fd_lt _ _ _ h2
            rw [p4]
            refine ⟨⟨c1, c2⟩, c3, fun e he => ?_, c5⟩
            obtain ⟨g1, g2, g3⟩ := c4 e he
            refine ⟨g1, g2, ?_⟩
            show bN (if e = q then dG s.2 q ||| ((Int32.ofInt 1) <<< (nI p &&& 31)) else dG s.2 e) < _
            by_cases ee : e = q
            · rw [if_pos ee, bN_or, bN_1s (by omega), ← ee]
              exact Nat.or_lt_two_pow g3 (Nat.pow_lt_pow_right (by decide) (show p < dP s.2 by omega))
            · rw [if_neg ee]; exact g3
theorem sd_C (e : sp_sd τ s = .inr t) : t.2.1 = s.2.1 ∧ t.2.2.1 = s.2.2.1 ∧ t.2.2.2.2 = s.2.2.2.2 := by
  unfold sp_sd at e
  cases h1 : sp_k τ s.1 2 with
  | false => simp only [h1, cond_false, sp_f] at e; cases e
  | true =>
    simp only [h1, cond_true] at e
    cases h2 : sp_in τ s.1 (Int32.ofInt 0) (Int8.ofInt 27).toInt32 with
    | false => simp only [h2, cond_false, sp_f] at e; cases e
    | true =>
      simp only [h2, cond_true] at e
      cases h3 : sp_bit s.2.2.2.1.2 (sp_v τ s.1) with
      | true => simp only [h3, cond_true, sp_f] at e; cases e
      | false =>
        simp only [h3, cond_false] at e
        cases h4 : Nat.ble 8 (sp_pc s.2.2.2.1.2 28) with
        | true => simp only [h4, cond_true, sp_f] at e; cases e
        | false => simp only [h4, cond_false] at e; cases e; exact ⟨rfl, rfl, rfl⟩
theorem sl_C : ∀ {m : Nat} {s t : sp_S}, sp_sl τ m s = .inr t → t.2.1 = s.2.1 ∧ t.2.2.1 = s.2.2.1 ∧ t.2.2.2.2 = s.2.2.2.2
  | 0, s, t, e => by cases e; exact ⟨rfl, rfl, rfl⟩
  | m + 1, s, t, e => by
    unfold sp_sl at e
    cases h1 : sp_k τ s.1 2 with
    | false => rw [h1] at e; cases e; exact ⟨rfl, rfl, rfl⟩
    | true =>
      rw [h1] at e
      obtain ⟨u, e1, e2⟩ := sp_b_inr e
      obtain ⟨a1, a2, a3⟩ := sd_C e1
      obtain ⟨b1, b2, b3⟩ := sl_C e2
      exact ⟨b1.trans a1, b2.trans a2, b3.trans a3⟩
theorem cI_e {C D : sp_C} (h1 : D.1 = C.1) (h2 : D.2.1 = C.2.1) (h3 : D.2.2.2 = C.2.2.2) (hc : cI C) : cI D := by
  obtain ⟨c1, c2, c3, c4⟩ := C
  obtain ⟨d1, d2, d3, d4⟩ := D
  cases h1
  cases h2
  cases h3
  exact hc
theorem cI_snow (hc : cI s.2) (e : sp_snow τ s = .inr t) : cI t.2 := by
  unfold sp_snow at e
  cases h1 : s.2.2.2.1.1 with
  | true => simp only [h1, cond_true, sp_f] at e; cases e
  | false =>
    simp only [h1, cond_false] at e
    obtain ⟨u1, e1, e2⟩ := sp_b_inr e
    obtain ⟨u2, e3, e4⟩ := sp_b_inr e2
    obtain ⟨a1, a2, a3⟩ := sd_C e1
    obtain ⟨b1, b2, b3⟩ := sl_C e3
    have p4 := sp_tS_inr (a := u2.1) (C := u2.2) e4
    rw [p4]
    exact cI_e (C := s.2) (b1.trans a1) (b2.trans a2) (b3.trans a3) hc
theorem cI_goes (hτ : tNum τ) (hc : cI s.2) (e : sp_goes τ s = .inr t) : cI t.2 := by
  obtain ⟨c0, c3, c4, c5⟩ := hc
  unfold sp_goes at e
  cases h1 : s.2.2.2.2.1 with
  | true => simp only [h1, cond_true, sp_f] at e; cases e
  | false =>
    simp only [h1, cond_false] at e
    obtain ⟨u1, e1, e2⟩ := sp_b_inr e
    obtain ⟨L, l1, l2⟩ := spV_wh (spV_pt hτ 5) _ _ e1
    have p4 := sp_tS_inr (a := u1.1) (C := u1.2) e2
    rw [p4]
    have hM : dM (sp_cL s.2) = 0 := by
      rcases c5 with w | w
      · exact w.2
      · rw [h1] at w
        cases w.1
    obtain ⟨a1, a2, a3, a4, -, -⟩ := lad_e L (sp_cL s.2)
    show cI u1.2
    have l1 : u1.2 = lad (sp_cL s.2) L := l1
    rw [l1]
    have cc : cI (((lad (sp_cL s.2) L).1, (lad (sp_cL s.2) L).2.1, (lad (sp_cL s.2) L).2.2)) := by
      refine ⟨?_, ?_, ?_, Or.inr ⟨a4, ?_⟩⟩
      · show (lad (sp_cL s.2) L).1.1 ≤ 6 ∧ (lad (sp_cL s.2) L).2.1.1 ≤ 5
        rw [a1, a2]; exact c0
      · intro p hp
        have hp : p < (lad (sp_cL s.2) L).1.1 := hp
        show (∃ k, k < 4 ∧ (lad (sp_cL s.2) L).1.2.2.1 p = nI k) ∧ ∃ l, l < 5 ∧ (lad (sp_cL s.2) L).1.2.2.2 p = nI l
        rw [a1] at hp ⊢
        exact c3 p hp
      · intro e he
        have he : e < (lad (sp_cL s.2) L).2.1.1 := he
        show (∃ d, d < 7 ∧ (lad (sp_cL s.2) L).2.1.2.2.1 e = nI d) ∧ (∃ n, 1 ≤ n ∧ n ≤ 6 ∧ (lad (sp_cL s.2) L).2.1.2.2.2.1 e = nI n) ∧ bN ((lad (sp_cL s.2) L).2.1.2.2.2.2 e) < 2 ^ (lad (sp_cL s.2) L).1.1
        rw [a2] at he ⊢
        rw [a1]
        exact c4 e he
      · show lst (dTL (lad (sp_cL s.2) L)) 0 = some 1
        rw [lad_TL hM]
        exact l2 0 (by decide)
    exact cc
theorem cI_line (hτ : tNum τ) (hc : cI s.2) (e : sp_line τ s = .inr t) : cI t.2 := by
  unfold sp_line at e
  cases h1 : sp_w τ s.1 1119812451 with
  | true => simp only [h1, cond_true] at e; exact cI_person hc e
  | false =>
    simp only [h1, cond_false] at e
    cases h2 : sp_w τ s.1 10492554 with
    | true => simp only [h2, cond_true] at e; exact cI_event hc e
    | false =>
      simp only [h2, cond_false] at e
      cases h3 : sp_w τ s.1 6400279 with
      | true => simp only [h3, cond_true] at e; exact cI_comes hc e
      | false =>
        simp only [h3, cond_false] at e
        cases h4 : sp_w τ s.1 982151 with
        | true => simp only [h4, cond_true] at e; exact cI_snow hc e
        | false =>
          simp only [h4, cond_false] at e
          cases h5 : sp_w τ s.1 375310 with
          | true => simp only [h5, cond_true] at e; exact cI_goes hτ hc e
          | false => simp only [h5, cond_false, sp_f] at e; cases e
theorem cI_all (hτ : tNum τ) : ∀ (m : Nat) (s t : sp_S), cI s.2 → sp_all τ m s = .inr t → cI t.2
  | 0, s, t, hc, e => by cases e; exact hc
  | m + 1, s, t, hc, e => by
    unfold sp_all at e
    cases h1 : sp_k τ s.1 0 with
    | true => rw [h1] at e; cases e; exact hc
    | false =>
      rw [h1] at e
      obtain ⟨u, e1, e2⟩ := sp_b_inr e
      exact cI_all hτ m u t (cI_line hτ hc e1) e2
theorem cI_0 : cI sp_C0 := ⟨⟨by decide, by decide⟩, fun p hp => absurd hp (Nat.not_lt_zero p), fun e he => absurd he (Nat.not_lt_zero e), Or.inl ⟨rfl, rfl⟩⟩
theorem cI_canton {T : Nat → Int32} {sz : Nat} {s : sp_S} (e : sp_canton (tt T sz) = .inr s) : cI s.2 := cI_all tt_num 1001 (0, sp_C0) s cI_0 e
end
section
/-! WALKS: the class's day, its small functions -/
theorem dn_s {x y : Int32} {a b : Nat} (hb : b ≤ a) (h1 : x = nI a) (h2 : y = nI b) : x - y = nI (a - b) := by
  rw [h1, h2]
  have e := nI_add (a - b) b
  rw [Nat.sub_add_cancel hb] at e
  rw [← e, Int32.add_sub_cancel]
theorem dn_d {x y : Int32} {a b : Nat} (hb : b ≤ a) (h1 : x = nI a) (h2 : y = - nI b) : x + y = nI (a - b) := by
  rw [h1, h2, ← Int32.sub_eq_add_neg]
  exact dn_s hb rfl rfl
/-! states written to -/
abbrev sSD (s : dS) (v : Int32) : dS := (v, s.2)
abbrev sSX (s : dS) (v : Int32) : dS := (s.1, v, s.2.2)
abbrev sSL (s : dS) (i : Nat) (v : Int32) : dS := (s.1, s.2.1, sp_uI s.2.2.1 i v, s.2.2.2)
abbrev sSM (s : dS) (i : Nat) (v : Int32) : dS := (s.1, s.2.1, s.2.2.1, sp_uI s.2.2.2.1 i v, s.2.2.2.2)
abbrev sSH (s : dS) (i : Nat) (v : Int32) : dS := (s.1, s.2.1, s.2.2.1, s.2.2.2.1, sp_uI s.2.2.2.2.1 i v, s.2.2.2.2.2)
abbrev sSA (s : dS) (i : Nat) (v : Int32) : dS := (s.1, s.2.1, s.2.2.1, s.2.2.2.1, s.2.2.2.2.1, sp_uI s.2.2.2.2.2 i v)
theorem em_u (h : am_H) (o k j : Nat) (v : Int32) : (am_wI h o k v).1 o j = if j = k then v else h.1 o j := by
  show (if o = o ∧ j = k then v else h.1 o j) = _
  by_cases e : j = k
  · rw [if_pos ⟨rfl, e⟩, if_pos e]
  · rw [if_neg (fun w => e w.2), if_neg e]
theorem sC_w {o ob k : Nat} {v : Int32} {s : dS} {h : am_H} (hn : ¬ (o ≤ ob ∧ ob ≤ o + 4)) (l : sC o s h) : sC o s (am_wI h ob k v) := by
  obtain ⟨⟨a, b⟩, c, d⟩ := l
  refine ⟨⟨?_, ?_⟩, fun i hi => ⟨?_, ?_⟩, fun i hi => ⟨?_, ?_⟩⟩ <;> rw [em_wn _ _ (by omega)]
  · exact a
  · exact b
  · exact (c i hi).1
  · exact (c i hi).2
  · exact (d i hi).1
  · exact (d i hi).2
theorem sC_wD {o : Nat} {v : Int32} {s : dS} {h : am_H} (_ : 0 = 0) (l : sC o s h) : sC o (sSD s v) (am_wI h o 0 v) := by
  obtain ⟨⟨a, b⟩, c, d⟩ := l
  refine ⟨⟨em_we _ _ _ _, ?_⟩, fun i hi => ⟨?_, ?_⟩, fun i hi => ⟨?_, ?_⟩⟩ <;> rw [em_wn _ _ (by omega)]
  · exact b
  · exact (c i hi).1
  · exact (c i hi).2
  · exact (d i hi).1
  · exact (d i hi).2
theorem sC_wX {o : Nat} {v : Int32} {s : dS} {h : am_H} (_ : 0 = 0) (l : sC o s h) : sC o (sSX s v) (am_wI h o 1 v) := by
  obtain ⟨⟨a, b⟩, c, d⟩ := l
  refine ⟨⟨?_, em_we _ _ _ _⟩, fun i hi => ⟨?_, ?_⟩, fun i hi => ⟨?_, ?_⟩⟩ <;> rw [em_wn _ _ (by omega)]
  · exact a
  · exact (c i hi).1
  · exact (c i hi).2
  · exact (d i hi).1
  · exact (d i hi).2

theorem sC_wL {o k : Nat} {v : Int32} {s : dS} {h : am_H} (_ : 0 = 0) (l : sC o s h) : sC o (sSL s k v) (am_wI h (o + 1) k v) := by
  obtain ⟨⟨a, b⟩, c, d⟩ := l
  refine ⟨⟨?_, ?_⟩, fun i hi => ⟨?_, ?_⟩, fun i hi => ⟨?_, ?_⟩⟩
  · rw [em_wn _ _ (by omega)]; exact a
  · rw [em_wn _ _ (by omega)]; exact b
  · rw [em_u, (c i hi).1]; rfl
  · rw [em_wn _ _ (by omega)]; exact (c i hi).2
  · rw [em_wn _ _ (by omega)]; exact (d i hi).1
  · rw [em_wn _ _ (by omega)]; exact (d i hi).2
theorem sC_wM {o k : Nat} {v : Int32} {s : dS} {h : am_H} (_ : 0 = 0) (l : sC o s h) : sC o (sSM s k v) (am_wI h (o + 2) k v) := by
  obtain ⟨⟨a, b⟩, c, d⟩ := l
  refine ⟨⟨?_, ?_⟩, fun i hi => ⟨?_, ?_⟩, fun i hi => ⟨?_, ?_⟩⟩
  · rw [em_wn _ _ (by omega)]; exact a
  · rw [em_wn _ _ (by omega)]; exact b
  · rw [em_wn _ _ (by omega)]; exact (c i hi).1
  · rw [em_u, (c i hi).2]; rfl
  · rw [em_wn _ _ (by omega)]; exact (d i hi).1
  · rw [em_wn _ _ (by omega)]; exact (d i hi).2
theorem sC_wH {o k : Nat} {v : Int32} {s : dS} {h : am_H} (_ : 0 = 0) (l : sC o s h) : sC o (sSH s k v) (am_wI h (o + 3) k v) := by
  obtain ⟨⟨a, b⟩, c, d⟩ := l
  refine ⟨⟨?_, ?_⟩, fun i hi => ⟨?_, ?_⟩, fun i hi => ⟨?_, ?_⟩⟩
  · rw [em_wn _ _ (by omega)]; exact a
  · rw [em_wn _ _ (by omega)]; exact b
  · rw [em_wn _ _ (by omega)]; exact (c i hi).1
  · rw [em_wn _ _ (by omega)]; exact (c i hi).2
  · rw [em_u, (d i hi).1]; rfl
  · rw [em_wn _ _ (by omega)]; exact (d i hi).2
theorem sC_wA {o k : Nat} {v : Int32} {s : dS} {h : am_H} (_ : 0 = 0) (l : sC o s h) : sC o (sSA s k v) (am_wI h (o + 4) k v) := by
  obtain ⟨⟨a, b⟩, c, d⟩ := l
  refine ⟨⟨?_, ?_⟩, fun i hi => ⟨?_, ?_⟩, fun i hi => ⟨?_, ?_⟩⟩
  · rw [em_wn _ _ (by omega)]; exact a
  · rw [em_wn _ _ (by omega)]; exact b
  · rw [em_wn _ _ (by omega)]; exact (c i hi).1
  · rw [em_wn _ _ (by omega)]; exact (c i hi).2
  · rw [em_wn _ _ (by omega)]; exact (d i hi).1
  · rw [em_u, (d i hi).2]; rfl
theorem c_v_w {c ob k : Nat} {v : Int32} {C : sp_C} {h : am_H} (hn : ¬ (c ≤ ob ∧ ob ≤ c + 9)) (l : c_v c C h) : c_v c C (am_wI h ob k v) := by
  obtain ⟨⟨a1, a2, a3⟩, ⟨b1, b2, b3⟩, ⟨d1, d2⟩, f1, f2, f3⟩ := l
  refine ⟨⟨?_, a2, fun i hi => ⟨?_, ?_⟩⟩, ⟨?_, b2, fun i hi => ⟨?_, ?_⟩⟩, ⟨?_, d2⟩, ?_, f2, fun i hi => ?_⟩ <;> rw [em_wn _ _ (by omega)]
  · exact a1
  · exact (a3 i hi).1
  · exact (a3 i hi).2
  · exact b1
  · exact (b3 i hi).1
  · exact (b3 i hi).2
  · exact d1
  · exact f1
  · exact f3 i hi
theorem c_d_w {c ob k : Nat} {v : Int32} {C : sp_C} {h : am_H} (hn : ¬ ob = c + 5) (l : c_d c C h) : c_d c C (am_wI h ob k v) := fun i hi => by
  rw [em_wn _ _ (by omega)]
  exact l i hi
theorem stk_w {o k m : Nat} {v : Int32} {f : Nat → Int32} {h : am_H} (l : ∀ j, j < m → h.1 o j = f j) : ∀ j, j < m → (am_wI h o k v).1 o j = sp_uI f k v j := fun j hj => by
  rw [em_u, l j hj]
  rfl
/-- what the law leaves: all but its stack o -/
def lfr (o : Nat) (h0 h : am_H) : Prop := h.2 = h0.2 ∧ ∀ a k, ¬ a = o → h.1 a k = h0.1 a k
theorem lfr_w {o k : Nat} {v : Int32} {h0 h : am_H} (l : lfr o h0 h) : lfr o h0 (am_wI h o k v) := ⟨l.1, fun a j hn => (em_wn _ _ (fun w => hn w.1)).trans (l.2 a j hn)⟩
theorem lfr_0 {o : Nat} {h : am_H} : lfr o h h := ⟨rfl, fun _ _ _ => rfl⟩
theorem lfr_P {o : Nat} {h0 h : am_H} (l : lfr o h0 h) (hP : ex_P h0) : ex_P h := by
  unfold ex_P
  rw [l.1]
  exact hP
theorem lfr_c {o c : Nat} {C : sp_C} {h0 h : am_H} (l : lfr o h0 h) (hn : ¬ (c ≤ o ∧ o ≤ c + 9)) (t : c_v c C h0) : c_v c C h := by
  have n : ∀ a k, c ≤ a → a ≤ c + 9 → h.1 a k = h0.1 a k := fun a k h1 h2 => l.2 a k (by omega)
  exact c_v_x (n _ _ (by omega) (by omega)) (n _ _ (by omega) (by omega)) (n _ _ (by omega) (by omega)) (fun i _ => ⟨n _ _ (by omega) (by omega), n _ _ (by omega) (by omega)⟩) (fun i _ => ⟨n _ _ (by omega) (by omega), n _ _ (by omega) (by omega)⟩) (n _ _ (by omega) (by omega)) (fun i _ => n _ _ (by omega) (by omega)) t
theorem lfr_d {o c : Nat} {C : sp_C} {h0 h : am_H} (l : lfr o h0 h) (hn : ¬ o = c + 5) (t : c_d c C h0) : c_d c C h := fun i hi => (l.2 _ _ (by omega)).trans (t i hi)
theorem lfr_s {o b : Nat} {s : dS} {h0 h : am_H} (l : lfr o h0 h) (hn : ¬ (b ≤ o ∧ o ≤ b + 4)) (t : sC b s h0) : sC b s h := by
  obtain ⟨⟨a1, a2⟩, a3, a4⟩ := t
  exact ⟨⟨(l.2 _ _ (by omega)).trans a1, (l.2 _ _ (by omega)).trans a2⟩, fun i hi => ⟨(l.2 _ _ (by omega)).trans (a3 i hi).1, (l.2 _ _ (by omega)).trans (a3 i hi).2⟩, fun i hi => ⟨(l.2 _ _ (by omega)).trans (a4 i hi).1, (l.2 _ _ (by omega)).trans (a4 i hi).2⟩⟩
theorem nI_g0 {n : Nat} (hn : n ≤ 4096) (h : ¬ nI n ≤ 0) : 0 < n := by
  rcases Nat.eq_zero_or_pos n with w | w
  · rw [w] at h
    exact absurd (by decide) h
  · exact w
variable {h : am_H} {Q : am_Q} {C : sp_C} {x y w a b c d : Int32} {p q e : Nat} {s u : dS} {h0 : am_H} {f : Nat → Int32}
theorem ex_16 {h : am_H} (hP : ex_P h) : am_sh h 16 = some (13, 32) := (ex_so hP (by decide +kernel)).2
theorem ex_w16 {h : am_H} (hP : ex_P h) : am_so h 16 = some (13, 32) := (ex_so hP (by decide +kernel)).1
theorem ex_27 {h : am_H} (hP : ex_P h) : am_sh h 27 = some (13, 32) := (ex_so hP (by decide +kernel)).2
theorem ex_w27 {h : am_H} (hP : ex_P h) : am_so h 27 = some (13, 32) := (ex_so hP (by decide +kernel)).1
theorem ex_r14_1 {h : am_H} (hP : ex_P h) : h.2.2.1 14 1 = some 16 := hP.2 14 1 16 (by decide +kernel)
theorem ex_r25_1 {h : am_H} (hP : ex_P h) : h.2.2.1 25 1 = some 27 := hP.2 25 1 27 (by decide +kernel)
theorem sv2_60 : am_r60.all (fun q => sv2_ok q.2) = true := by decide +kernel
theorem sv2_102 : am_r102.all (fun q => sv2_ok q.2) = true := by decide +kernel
theorem sv2_103 : am_r103.all (fun q => sv2_ok q.2) = true := by decide +kernel
theorem sv2_105 : am_r105.all (fun q => sv2_ok q.2) = true := by decide +kernel
theorem sv2_107 : am_r107.all (fun q => sv2_ok q.2) = true := by decide +kernel
def d_60 (x y w : Int32) : Int32 := (if x < y then Int32.ofInt 0 else (if w < x then Int32.ofInt 0 else Int32.ofInt 1))
theorem d_60_w (hP : ex_P h)  (hQ : Q (some (.int (d_60 x y w))) h) : am_call am_cod 1 60 [.int x, .int y, .int w] h Q := by
  refine pz_call (n := 60) (nL := 3) (rt := (some .boolean)) (rows := am_r60) (d := 0) (by decide +kernel) (by decide +kernel) rfl (by funext pc; rfl) (ex_175 hP) (by exact Nat.le_of_ble_eq_true rfl) ?_
  suffices key : ∀ (v2 : Int32), v2 = (if x < y then Int32.ofInt 0 else (if w < x then Int32.ofInt 0 else Int32.ofInt 1)) → pz_S 3 (some .boolean) am_r60 0 Q 15 [] [.int v2] h by
    refine am_goX 3 (show (x < y → pz_S 3 (some .boolean) am_r60 0 Q 14 [(0, .int x), (1, .int y), (2, .int w)] [] h) ∧ (¬ (x < y) → pz_S 3 (some .boolean) am_r60 0 Q 5 [(0, .int x), (1, .int y), (2, .int w)] [] h) from ⟨fun c1 => ?_, fun c1 => ?_⟩)
    · refine am_goX 1 (show pz_S 3 (some .boolean) am_r60 0 Q 15 [(0, .int x), (1, .int y), (2, .int w)] [.int (Int32.ofInt 0)] h from ?_)
      exact sv_S2 sv2_60 (fun q hq => absurd hq List.not_mem_nil) (key _ (if_pos c1).symm)
    · suffices key : ∀ (v4 : Int32), v4 = (if w < x then Int32.ofInt 0 else Int32.ofInt 1) → pz_S 3 (some .boolean) am_r60 0 Q 15 [] [.int v4] h by
        refine am_goX 3 (show (w < x → pz_S 3 (some .boolean) am_r60 0 Q 14 [(0, .int x), (1, .int y), (2, .int w)] [] h) ∧ (¬ (w < x) → pz_S 3 (some .boolean) am_r60 0 Q 10 [(0, .int x), (1, .int y), (2, .int w)] [] h) from ⟨fun c3 => ?_, fun c3 => ?_⟩)
        · refine am_goX 1 (show pz_S 3 (some .boolean) am_r60 0 Q 15 [(0, .int x), (1, .int y), (2, .int w)] [.int (Int32.ofInt 0)] h from ?_)
          exact sv_S2 sv2_60 (fun q hq => absurd hq List.not_mem_nil) (key _ (if_pos c3).symm)
        · refine am_goX 2 (show pz_S 3 (some .boolean) am_r60 0 Q 15 [(0, .int x), (1, .int y), (2, .int w)] [.int (Int32.ofInt 1)] h from ?_)
          exact sv_S2 sv2_60 (fun q hq => absurd hq List.not_mem_nil) (key _ (if_neg c3).symm)
      intro v4 e5
      subst e5
      exact sv_S2 sv2_60 (fun q hq => absurd hq List.not_mem_nil) (key _ (if_neg c1).symm)
  intro v2 e6
  subst e6
  exact am_goX 1 (show (∃ ty, (some .boolean) = some ty ∧ narrow ty (.int (if x < y then Int32.ofInt 0 else (if w < x then Int32.ofInt 0 else Int32.ofInt 1))) = .int (if x < y then Int32.ofInt 0 else (if w < x then Int32.ofInt 0 else Int32.ofInt 1))) ∧ h.2.2.2.2 = 175 ∧ _ from ⟨⟨.boolean, rfl, (by (repeat' split) <;> rfl)⟩, ex_175 hP, hQ⟩)
def d_90 (x : Int32) : Int32 := (if 0 ≤ (x ^^^ ((Int8.ofInt 7).toInt32)) then x - x / ((Int8.ofInt 7).toInt32) * ((Int8.ofInt 7).toInt32) else (if (x - x / ((Int8.ofInt 7).toInt32) * ((Int8.ofInt 7).toInt32)) = 0 then x - x / ((Int8.ofInt 7).toInt32) * ((Int8.ofInt 7).toInt32) else (x - x / ((Int8.ofInt 7).toInt32) * ((Int8.ofInt 7).toInt32)) + ((Int8.ofInt 7).toInt32)))
theorem d_90_w (hP : ex_P h)  (hQ : Q (some (.int (d_90 x))) h) : am_call am_cod 1 90 [.int x, .int ((Int8.ofInt 7).toInt32)] h Q := by
  refine pz_call (n := 90) (nL := 3) (rt := (some .int)) (rows := am_r90) (d := 0) (by decide +kernel) (by decide +kernel) rfl (by funext pc; rfl) (ex_175 hP) (by exact Nat.le_of_ble_eq_true rfl) ?_
  refine am_goX 8 (show ¬ ((Int8.ofInt 7).toInt32) = 0 ∧ 2 < 3 ∧ (0 ≤ (x ^^^ ((Int8.ofInt 7).toInt32)) → pz_S 3 (some .int) am_r90 0 Q 18 [(2, .int (x - x / ((Int8.ofInt 7).toInt32) * ((Int8.ofInt 7).toInt32))), (0, .int x), (1, .int ((Int8.ofInt 7).toInt32))] [] h) ∧ (¬ (0 ≤ (x ^^^ ((Int8.ofInt 7).toInt32))) → pz_S 3 (some .int) am_r90 0 Q 10 [(2, .int (x - x / ((Int8.ofInt 7).toInt32) * ((Int8.ofInt 7).toInt32))), (0, .int x), (1, .int ((Int8.ofInt 7).toInt32))] [] h) from ⟨by decide, by decide, fun c7 => ?_, fun c7 => ?_⟩)
  · exact am_goX 2 (show (∃ ty, (some .int) = some ty ∧ narrow ty (.int (x - x / ((Int8.ofInt 7).toInt32) * ((Int8.ofInt 7).toInt32))) = .int (x - x / ((Int8.ofInt 7).toInt32) * ((Int8.ofInt 7).toInt32))) ∧ h.2.2.2.2 = 175 ∧ _ from ⟨⟨.int, rfl, rfl⟩, ex_175 hP, dn_q (if_pos c7) hQ⟩)
  · refine am_goX 2 (show ((x - x / ((Int8.ofInt 7).toInt32) * ((Int8.ofInt 7).toInt32)) = 0 → pz_S 3 (some .int) am_r90 0 Q 18 [(2, .int (x - x / ((Int8.ofInt 7).toInt32) * ((Int8.ofInt 7).toInt32))), (0, .int x), (1, .int ((Int8.ofInt 7).toInt32))] [] h) ∧ (¬ ((x - x / ((Int8.ofInt 7).toInt32) * ((Int8.ofInt 7).toInt32)) = 0) → pz_S 3 (some .int) am_r90 0 Q 14 [(2, .int (x - x / ((Int8.ofInt 7).toInt32) * ((Int8.ofInt 7).toInt32))), (0, .int x), (1, .int ((Int8.ofInt 7).toInt32))] [] h) from ⟨fun c8 => ?_, fun c8 => ?_⟩)
    · exact am_goX 2 (show (∃ ty, (some .int) = some ty ∧ narrow ty (.int (x - x / ((Int8.ofInt 7).toInt32) * ((Int8.ofInt 7).toInt32))) = .int (x - x / ((Int8.ofInt 7).toInt32) * ((Int8.ofInt 7).toInt32))) ∧ h.2.2.2.2 = 175 ∧ _ from ⟨⟨.int, rfl, rfl⟩, ex_175 hP, dn_q ((if_neg c7).trans (if_pos c8)) hQ⟩)
    · exact am_goX 4 (show (∃ ty, (some .int) = some ty ∧ narrow ty (.int ((x - x / ((Int8.ofInt 7).toInt32) * ((Int8.ofInt 7).toInt32)) + ((Int8.ofInt 7).toInt32))) = .int ((x - x / ((Int8.ofInt 7).toInt32) * ((Int8.ofInt 7).toInt32)) + ((Int8.ofInt 7).toInt32))) ∧ h.2.2.2.2 = 175 ∧ _ from ⟨⟨.int, rfl, rfl⟩, ex_175 hP, dn_q ((if_neg c7).trans (if_neg c8)) hQ⟩)
def d_103 (x y w : Int32) : Int32 := (if ¬ x = (Int32.ofInt 2) then (if w = y then Int32.ofInt 1 else (if ¬ x = (Int32.ofInt 1) then Int32.ofInt 0 else (if ¬ w = ((y + (Int32.ofInt 1)) - (y + (Int32.ofInt 1)) / ((Int8.ofInt 7).toInt32) * ((Int8.ofInt 7).toInt32)) then Int32.ofInt 0 else Int32.ofInt 1))) else (if y = (Int32.ofInt 1) then (if w = y then Int32.ofInt 1 else (if ¬ x = (Int32.ofInt 1) then Int32.ofInt 0 else (if ¬ w = ((y + (Int32.ofInt 1)) - (y + (Int32.ofInt 1)) / ((Int8.ofInt 7).toInt32) * ((Int8.ofInt 7).toInt32)) then Int32.ofInt 0 else Int32.ofInt 1))) else Int32.ofInt 0))
theorem d_103_w (hP : ex_P h)  (hQ : Q (some (.int (d_103 x y w))) h) : am_call am_cod 1 103 [.int x, .int y, .int w] h Q := by
  refine pz_call (n := 103) (nL := 3) (rt := (some .boolean)) (rows := am_r103) (d := 0) (by decide +kernel) (by decide +kernel) rfl (by funext pc; rfl) (ex_175 hP) (by exact Nat.le_of_ble_eq_true rfl) ?_
  refine am_goX 3 (show (¬ x = (Int32.ofInt 2) → pz_S 3 (some .boolean) am_r103 0 Q 12 [(0, .int x), (1, .int y), (2, .int w)] [] h) ∧ (¬ ¬ x = (Int32.ofInt 2) → pz_S 3 (some .boolean) am_r103 0 Q 5 [(0, .int x), (1, .int y), (2, .int w)] [] h) from ⟨fun c9 => ?_, fun c9 => ?_⟩)
  · suffices key : ∀ (v11 : Int32), v11 = (if w = y then Int32.ofInt 1 else (if ¬ x = (Int32.ofInt 1) then Int32.ofInt 0 else (if ¬ w = ((y + (Int32.ofInt 1)) - (y + (Int32.ofInt 1)) / ((Int8.ofInt 7).toInt32) * ((Int8.ofInt 7).toInt32)) then Int32.ofInt 0 else Int32.ofInt 1))) → pz_S 3 (some .boolean) am_r103 0 Q 37 [] [.int v11] h by
      refine am_goX 3 (show (w = y → pz_S 3 (some .boolean) am_r103 0 Q 32 [(0, .int x), (1, .int y), (2, .int w)] [] h) ∧ (¬ (w = y) → pz_S 3 (some .boolean) am_r103 0 Q 17 [(0, .int x), (1, .int y), (2, .int w)] [] h) from ⟨fun c10 => ?_, fun c10 => ?_⟩)
      · refine am_goX 2 (show pz_S 3 (some .boolean) am_r103 0 Q 37 [(0, .int x), (1, .int y), (2, .int w)] [.int (Int32.ofInt 1)] h from ?_)
        exact sv_S2 sv2_103 (fun q hq => absurd hq List.not_mem_nil) (key _ (if_pos c10).symm)
      · suffices key : ∀ (v13 : Int32), v13 = (if ¬ x = (Int32.ofInt 1) then Int32.ofInt 0 else (if ¬ w = ((y + (Int32.ofInt 1)) - (y + (Int32.ofInt 1)) / ((Int8.ofInt 7).toInt32) * ((Int8.ofInt 7).toInt32)) then Int32.ofInt 0 else Int32.ofInt 1)) → pz_S 3 (some .boolean) am_r103 0 Q 37 [] [.int v13] h by
          refine am_goX 3 (show (¬ x = (Int32.ofInt 1) → pz_S 3 (some .boolean) am_r103 0 Q 36 [(0, .int x), (1, .int y), (2, .int w)] [] h) ∧ (¬ ¬ x = (Int32.ofInt 1) → pz_S 3 (some .boolean) am_r103 0 Q 22 [(0, .int x), (1, .int y), (2, .int w)] [] h) from ⟨fun c12 => ?_, fun c12 => ?_⟩)
          · refine am_goX 1 (show pz_S 3 (some .boolean) am_r103 0 Q 37 [(0, .int x), (1, .int y), (2, .int w)] [.int (Int32.ofInt 0)] h from ?_)
            exact sv_S2 sv2_103 (fun q hq => absurd hq List.not_mem_nil) (key _ (if_pos c12).symm)
          · suffices key : ∀ (v15 : Int32), v15 = (if ¬ w = ((y + (Int32.ofInt 1)) - (y + (Int32.ofInt 1)) / ((Int8.ofInt 7).toInt32) * ((Int8.ofInt 7).toInt32)) then Int32.ofInt 0 else Int32.ofInt 1) → pz_S 3 (some .boolean) am_r103 0 Q 37 [] [.int v15] h by
              refine am_goX 7 (show ¬ ((Int8.ofInt 7).toInt32) = 0 ∧ (¬ w = ((y + (Int32.ofInt 1)) - (y + (Int32.ofInt 1)) / ((Int8.ofInt 7).toInt32) * ((Int8.ofInt 7).toInt32)) → pz_S 3 (some .boolean) am_r103 0 Q 36 [(0, .int x), (1, .int y), (2, .int w)] [] h) ∧ (¬ ¬ w = ((y + (Int32.ofInt 1)) - (y + (Int32.ofInt 1)) / ((Int8.ofInt 7).toInt32) * ((Int8.ofInt 7).toInt32)) → pz_S 3 (some .boolean) am_r103 0 Q 32 [(0, .int x), (1, .int y), (2, .int w)] [] h) from ⟨by decide, fun c14 => ?_, fun c14 => ?_⟩)
              · refine am_goX 1 (show pz_S 3 (some .boolean) am_r103 0 Q 37 [(0, .int x), (1, .int y), (2, .int w)] [.int (Int32.ofInt 0)] h from ?_)
                exact sv_S2 sv2_103 (fun q hq => absurd hq List.not_mem_nil) (key _ (if_pos c14).symm)
              · refine am_goX 2 (show pz_S 3 (some .boolean) am_r103 0 Q 37 [(0, .int x), (1, .int y), (2, .int w)] [.int (Int32.ofInt 1)] h from ?_)
                exact sv_S2 sv2_103 (fun q hq => absurd hq List.not_mem_nil) (key _ (if_neg c14).symm)
            intro v15 e16
            subst e16
            exact sv_S2 sv2_103 (fun q hq => absurd hq List.not_mem_nil) (key _ (if_neg c12).symm)
        intro v13 e17
        subst e17
        exact sv_S2 sv2_103 (fun q hq => absurd hq List.not_mem_nil) (key _ (if_neg c10).symm)
    intro v11 e18
    subst e18
    exact am_goX 1 (show (∃ ty, (some .boolean) = some ty ∧ narrow ty (.int (if w = y then Int32.ofInt 1 else (if ¬ x = (Int32.ofInt 1) then Int32.ofInt 0 else (if ¬ w = ((y + (Int32.ofInt 1)) - (y + (Int32.ofInt 1)) / ((Int8.ofInt 7).toInt32) * ((Int8.ofInt 7).toInt32)) then Int32.ofInt 0 else Int32.ofInt 1)))) = .int (if w = y then Int32.ofInt 1 else (if ¬ x = (Int32.ofInt 1) then Int32.ofInt 0 else (if ¬ w = ((y + (Int32.ofInt 1)) - (y + (Int32.ofInt 1)) / ((Int8.ofInt 7).toInt32) * ((Int8.ofInt 7).toInt32)) then Int32.ofInt 0 else Int32.ofInt 1)))) ∧ h.2.2.2.2 = 175 ∧ _ from ⟨⟨.boolean, rfl, (by (repeat' split) <;> rfl)⟩, ex_175 hP, dn_q (if_pos c9) hQ⟩)
  · refine am_goX 3 (show (y = (Int32.ofInt 1) → pz_S 3 (some .boolean) am_r103 0 Q 12 [(0, .int x), (1, .int y), (2, .int w)] [] h) ∧ (¬ (y = (Int32.ofInt 1)) → pz_S 3 (some .boolean) am_r103 0 Q 10 [(0, .int x), (1, .int y), (2, .int w)] [] h) from ⟨fun c19 => ?_, fun c19 => ?_⟩)
    · suffices key : ∀ (v21 : Int32), v21 = (if w = y then Int32.ofInt 1 else (if ¬ x = (Int32.ofInt 1) then Int32.ofInt 0 else (if ¬ w = ((y + (Int32.ofInt 1)) - (y + (Int32.ofInt 1)) / ((Int8.ofInt 7).toInt32) * ((Int8.ofInt 7).toInt32)) then Int32.ofInt 0 else Int32.ofInt 1))) → pz_S 3 (some .boolean) am_r103 0 Q 37 [] [.int v21] h by
        refine am_goX 3 (show (w = y → pz_S 3 (some .boolean) am_r103 0 Q 32 [(0, .int x), (1, .int y), (2, .int w)] [] h) ∧ (¬ (w = y) → pz_S 3 (some .boolean) am_r103 0 Q 17 [(0, .int x), (1, .int y), (2, .int w)] [] h) from ⟨fun c20 => ?_, fun c20 => ?_⟩)
        · refine am_goX 2 (show pz_S 3 (some .boolean) am_r103 0 Q 37 [(0, .int x), (1, .int y), (2, .int w)] [.int (Int32.ofInt 1)] h from ?_)
          exact sv_S2 sv2_103 (fun q hq => absurd hq List.not_mem_nil) (key _ (if_pos c20).symm)
        · suffices key : ∀ (v23 : Int32), v23 = (if ¬ x = (Int32.ofInt 1) then Int32.ofInt 0 else (if ¬ w = ((y + (Int32.ofInt 1)) - (y + (Int32.ofInt 1)) / ((Int8.ofInt 7).toInt32) * ((Int8.ofInt 7).toInt32)) then Int32.ofInt 0 else Int32.ofInt 1)) → pz_S 3 (some .boolean) am_r103 0 Q 37 [] [.int v23] h by
            refine am_goX 3 (show (¬ x = (Int32.ofInt 1) → pz_S 3 (some .boolean) am_r103 0 Q 36 [(0, .int x), (1, .int y), (2, .int w)] [] h) ∧ (¬ ¬ x = (Int32.ofInt 1) → pz_S 3 (some .boolean) am_r103 0 Q 22 [(0, .int x), (1, .int y), (2, .int w)] [] h) from ⟨fun c22 => ?_, fun c22 => ?_⟩)
            · refine am_goX 1 (show pz_S 3 (some .boolean) am_r103 0 Q 37 [(0, .int x), (1, .int y), (2, .int w)] [.int (Int32.ofInt 0)] h from ?_)
              exact sv_S2 sv2_103 (fun q hq => absurd hq List.not_mem_nil) (key _ (if_pos c22).symm)
            · suffices key : ∀ (v25 : Int32), v25 = (if ¬ w = ((y + (Int32.ofInt 1)) - (y + (Int32.ofInt 1)) / ((Int8.ofInt 7).toInt32) * ((Int8.ofInt 7).toInt32)) then Int32.ofInt 0 else Int32.ofInt 1) → pz_S 3 (some .boolean) am_r103 0 Q 37 [] [.int v25] h by
                refine am_goX 7 (show ¬ ((Int8.ofInt 7).toInt32) = 0 ∧ (¬ w = ((y + (Int32.ofInt 1)) - (y + (Int32.ofInt 1)) / ((Int8.ofInt 7).toInt32) * ((Int8.ofInt 7).toInt32)) → pz_S 3 (some .boolean) am_r103 0 Q 36 [(0, .int x), (1, .int y), (2, .int w)] [] h) ∧ (¬ ¬ w = ((y + (Int32.ofInt 1)) - (y + (Int32.ofInt 1)) / ((Int8.ofInt 7).toInt32) * ((Int8.ofInt 7).toInt32)) → pz_S 3 (some .boolean) am_r103 0 Q 32 [(0, .int x), (1, .int y), (2, .int w)] [] h) from ⟨by decide, fun c24 => ?_, fun c24 => ?_⟩)
                · refine am_goX 1 (show pz_S 3 (some .boolean) am_r103 0 Q 37 [(0, .int x), (1, .int y), (2, .int w)] [.int (Int32.ofInt 0)] h from ?_)
                  exact sv_S2 sv2_103 (fun q hq => absurd hq List.not_mem_nil) (key _ (if_pos c24).symm)
                · refine am_goX 2 (show pz_S 3 (some .boolean) am_r103 0 Q 37 [(0, .int x), (1, .int y), (2, .int w)] [.int (Int32.ofInt 1)] h from ?_)
                  exact sv_S2 sv2_103 (fun q hq => absurd hq List.not_mem_nil) (key _ (if_neg c24).symm)
              intro v25 e26
              subst e26
              exact sv_S2 sv2_103 (fun q hq => absurd hq List.not_mem_nil) (key _ (if_neg c22).symm)
          intro v23 e27
          subst e27
          exact sv_S2 sv2_103 (fun q hq => absurd hq List.not_mem_nil) (key _ (if_neg c20).symm)
      intro v21 e28
      subst e28
      exact am_goX 1 (show (∃ ty, (some .boolean) = some ty ∧ narrow ty (.int (if w = y then Int32.ofInt 1 else (if ¬ x = (Int32.ofInt 1) then Int32.ofInt 0 else (if ¬ w = ((y + (Int32.ofInt 1)) - (y + (Int32.ofInt 1)) / ((Int8.ofInt 7).toInt32) * ((Int8.ofInt 7).toInt32)) then Int32.ofInt 0 else Int32.ofInt 1)))) = .int (if w = y then Int32.ofInt 1 else (if ¬ x = (Int32.ofInt 1) then Int32.ofInt 0 else (if ¬ w = ((y + (Int32.ofInt 1)) - (y + (Int32.ofInt 1)) / ((Int8.ofInt 7).toInt32) * ((Int8.ofInt 7).toInt32)) then Int32.ofInt 0 else Int32.ofInt 1)))) ∧ h.2.2.2.2 = 175 ∧ _ from ⟨⟨.boolean, rfl, (by (repeat' split) <;> rfl)⟩, ex_175 hP, dn_q ((if_neg c9).trans (if_pos c19)) hQ⟩)
    · exact am_goX 2 (show (∃ ty, (some .boolean) = some ty ∧ narrow ty (.int (Int32.ofInt 0)) = .int (Int32.ofInt 0)) ∧ h.2.2.2.2 = 175 ∧ _ from ⟨⟨.boolean, rfl, rfl⟩, ex_175 hP, dn_q ((if_neg c9).trans (if_neg c19)) hQ⟩)
def d_106 (x a b c d : Int32) : Int32 := (if x = Int32.ofInt (-3) then c else (if x = Int32.ofInt (-2) then b else (if x = Int32.ofInt (-1) then a else d)))
theorem d_106_w (hP : ex_P h)  (hQ : Q (some (.int (d_106 x a b c d))) h) : am_call am_cod 1 106 [.int x, .int a, .int b, .int c, .int d] h Q := by
  refine pz_call (n := 106) (nL := 5) (rt := (some .int)) (rows := am_r106) (d := 0) (by decide +kernel) (by decide +kernel) rfl (by funext pc; rfl) (ex_175 hP) (by exact Nat.le_of_ble_eq_true rfl) ?_
  refine am_goX 2 (show ((x.toInt < (-3) ∨ (-1) < x.toInt) → pz_S 5 (some .int) am_r106 0 Q 34 [(0, .int x), (1, .int a), (2, .int b), (3, .int c), (4, .int d)] [] h) ∧ (∀ j : Nat, x.toInt = (-3) + (j : Int) → (-3) + (j : Int) ≤ (-1) → pz_S 5 (some .int) am_r106 0 Q ((1 : Int) + ((#[31, 29, 27] : Array Int)[j]?).getD 0).toNat [(0, .int x), (1, .int a), (2, .int b), (3, .int c), (4, .int d)] [] h) from ⟨fun hd => ?_, fun j hj1 hj2 => ?_⟩)
  · have c29 : ¬ x = Int32.ofInt (-3) := fun w => by rw [w] at hd; revert hd; decide
    have c30 : ¬ x = Int32.ofInt (-2) := fun w => by rw [w] at hd; revert hd; decide
    have c31 : ¬ x = Int32.ofInt (-1) := fun w => by rw [w] at hd; revert hd; decide
    exact am_goX 2 (show (∃ ty, (some .int) = some ty ∧ narrow ty (.int d) = .int d) ∧ h.2.2.2.2 = 175 ∧ _ from ⟨⟨.int, rfl, rfl⟩, ex_175 hP, dn_q ((if_neg c29).trans ((if_neg c30).trans (if_neg c31))) hQ⟩)
  · have hj : j = 0 ∨ j = 1 ∨ j = 2 := by omega
    rcases hj with rfl | rfl | rfl
    · have c29 : x = Int32.ofInt (-3) := Int32.toInt_inj.mp (hj1.trans (by decide))
      show pz_S 5 (some .int) am_r106 0 Q 32 [(0, .int x), (1, .int a), (2, .int b), (3, .int c), (4, .int d)] [] h
      exact am_goX 2 (show (∃ ty, (some .int) = some ty ∧ narrow ty (.int c) = .int c) ∧ h.2.2.2.2 = 175 ∧ _ from ⟨⟨.int, rfl, rfl⟩, ex_175 hP, dn_q (if_pos c29) hQ⟩)
    · have c30 : x = Int32.ofInt (-2) := Int32.toInt_inj.mp (hj1.trans (by decide))
      have c29 : ¬ x = Int32.ofInt (-3) := by rw [c30]; decide
      show pz_S 5 (some .int) am_r106 0 Q 30 [(0, .int x), (1, .int a), (2, .int b), (3, .int c), (4, .int d)] [] h
      exact am_goX 2 (show (∃ ty, (some .int) = some ty ∧ narrow ty (.int b) = .int b) ∧ h.2.2.2.2 = 175 ∧ _ from ⟨⟨.int, rfl, rfl⟩, ex_175 hP, dn_q ((if_neg c29).trans (if_pos c30)) hQ⟩)
    · have c31 : x = Int32.ofInt (-1) := Int32.toInt_inj.mp (hj1.trans (by decide))
      have c29 : ¬ x = Int32.ofInt (-3) := by rw [c31]; decide
      have c30 : ¬ x = Int32.ofInt (-2) := by rw [c31]; decide
      show pz_S 5 (some .int) am_r106 0 Q 28 [(0, .int x), (1, .int a), (2, .int b), (3, .int c), (4, .int d)] [] h
      exact am_goX 2 (show (∃ ty, (some .int) = some ty ∧ narrow ty (.int a) = .int a) ∧ h.2.2.2.2 = 175 ∧ _ from ⟨⟨.int, rfl, rfl⟩, ex_175 hP, dn_q ((if_neg c29).trans ((if_neg c30).trans (if_pos c31))) hQ⟩)
def d_107 (x a b : Int32) : Int32 := (if x = Int32.ofInt (-11) then a - b else (if x = Int32.ofInt (-10) then a + b else (if x = Int32.ofInt (-9) then (if ¬ a = b then Int32.ofInt 0 else Int32.ofInt 1) else (if x = Int32.ofInt (-8) then (if b ≤ a then Int32.ofInt 0 else Int32.ofInt 1) else (if x = Int32.ofInt (-7) then (if ¬ a = 0 then Int32.ofInt 1 else (if b = 0 then Int32.ofInt 0 else Int32.ofInt 1)) else (if x = Int32.ofInt (-6) then (if a = 0 then Int32.ofInt 0 else (if b = 0 then Int32.ofInt 0 else Int32.ofInt 1)) else a * b))))))
theorem d_107_w (hP : ex_P h)  (hQ : Q (some (.int (d_107 x a b))) h) : am_call am_cod 1 107 [.int x, .int a, .int b] h Q := by
  refine pz_call (n := 107) (nL := 3) (rt := (some .int)) (rows := am_r107) (d := 0) (by decide +kernel) (by decide +kernel) rfl (by funext pc; rfl) (ex_175 hP) (by exact Nat.le_of_ble_eq_true rfl) ?_
  refine am_goX 2 (show ((x.toInt < (-11) ∨ (-6) < x.toInt) → pz_S 3 (some .int) am_r107 0 Q 98 [(0, .int x), (1, .int a), (2, .int b)] [] h) ∧ (∀ j : Nat, x.toInt = (-11) + (j : Int) → (-11) + (j : Int) ≤ (-6) → pz_S 3 (some .int) am_r107 0 Q ((1 : Int) + ((#[93, 89, 78, 67, 53, 39] : Array Int)[j]?).getD 0).toNat [(0, .int x), (1, .int a), (2, .int b)] [] h) from ⟨fun hd => ?_, fun j hj1 hj2 => ?_⟩)
  · have c32 : ¬ x = Int32.ofInt (-11) := fun w => by rw [w] at hd; revert hd; decide
    have c33 : ¬ x = Int32.ofInt (-10) := fun w => by rw [w] at hd; revert hd; decide
    have c34 : ¬ x = Int32.ofInt (-9) := fun w => by rw [w] at hd; revert hd; decide
    have c35 : ¬ x = Int32.ofInt (-8) := fun w => by rw [w] at hd; revert hd; decide
    have c36 : ¬ x = Int32.ofInt (-7) := fun w => by rw [w] at hd; revert hd; decide
    have c37 : ¬ x = Int32.ofInt (-6) := fun w => by rw [w] at hd; revert hd; decide
    exact am_goX 4 (show (∃ ty, (some .int) = some ty ∧ narrow ty (.int (a * b)) = .int (a * b)) ∧ h.2.2.2.2 = 175 ∧ _ from ⟨⟨.int, rfl, rfl⟩, ex_175 hP, dn_q ((if_neg c32).trans ((if_neg c33).trans ((if_neg c34).trans ((if_neg c35).trans ((if_neg c36).trans (if_neg c37)))))) hQ⟩)
  · have hj : j = 0 ∨ j = 1 ∨ j = 2 ∨ j = 3 ∨ j = 4 ∨ j = 5 := by omega
    rcases hj with rfl | rfl | rfl | rfl | rfl | rfl
    · have c32 : x = Int32.ofInt (-11) := Int32.toInt_inj.mp (hj1.trans (by decide))
      show pz_S 3 (some .int) am_r107 0 Q 94 [(0, .int x), (1, .int a), (2, .int b)] [] h
      exact am_goX 4 (show (∃ ty, (some .int) = some ty ∧ narrow ty (.int (a - b)) = .int (a - b)) ∧ h.2.2.2.2 = 175 ∧ _ from ⟨⟨.int, rfl, rfl⟩, ex_175 hP, dn_q (if_pos c32) hQ⟩)
    · have c33 : x = Int32.ofInt (-10) := Int32.toInt_inj.mp (hj1.trans (by decide))
      have c32 : ¬ x = Int32.ofInt (-11) := by rw [c33]; decide
      show pz_S 3 (some .int) am_r107 0 Q 90 [(0, .int x), (1, .int a), (2, .int b)] [] h
      exact am_goX 4 (show (∃ ty, (some .int) = some ty ∧ narrow ty (.int (a + b)) = .int (a + b)) ∧ h.2.2.2.2 = 175 ∧ _ from ⟨⟨.int, rfl, rfl⟩, ex_175 hP, dn_q ((if_neg c32).trans (if_pos c33)) hQ⟩)
    · have c34 : x = Int32.ofInt (-9) := Int32.toInt_inj.mp (hj1.trans (by decide))
      have c32 : ¬ x = Int32.ofInt (-11) := by rw [c34]; decide
      have c33 : ¬ x = Int32.ofInt (-10) := by rw [c34]; decide
      show pz_S 3 (some .int) am_r107 0 Q 79 [(0, .int x), (1, .int a), (2, .int b)] [] h
      suffices key : ∀ (v39 : Int32), v39 = (if ¬ a = b then Int32.ofInt 0 else Int32.ofInt 1) → pz_S 3 (some .int) am_r107 0 Q 89 [] [.int v39] h by
        refine am_goX 3 (show (¬ a = b → pz_S 3 (some .int) am_r107 0 Q 88 [(0, .int x), (1, .int a), (2, .int b)] [] h) ∧ (¬ ¬ a = b → pz_S 3 (some .int) am_r107 0 Q 84 [(0, .int x), (1, .int a), (2, .int b)] [] h) from ⟨fun c38 => ?_, fun c38 => ?_⟩)
        · refine am_goX 1 (show pz_S 3 (some .int) am_r107 0 Q 89 [(0, .int x), (1, .int a), (2, .int b)] [.int (Int32.ofInt 0)] h from ?_)
          exact sv_S2 sv2_107 (fun q hq => absurd hq List.not_mem_nil) (key _ (if_pos c38).symm)
        · refine am_goX 2 (show pz_S 3 (some .int) am_r107 0 Q 89 [(0, .int x), (1, .int a), (2, .int b)] [.int (Int32.ofInt 1)] h from ?_)
          exact sv_S2 sv2_107 (fun q hq => absurd hq List.not_mem_nil) (key _ (if_neg c38).symm)
      intro v39 e40
      subst e40
      exact am_goX 1 (show (∃ ty, (some .int) = some ty ∧ narrow ty (.int (if ¬ a = b then Int32.ofInt 0 else Int32.ofInt 1)) = .int (if ¬ a = b then Int32.ofInt 0 else Int32.ofInt 1)) ∧ h.2.2.2.2 = 175 ∧ _ from ⟨⟨.int, rfl, rfl⟩, ex_175 hP, dn_q ((if_neg c32).trans ((if_neg c33).trans (if_pos c34))) hQ⟩)
    · have c35 : x = Int32.ofInt (-8) := Int32.toInt_inj.mp (hj1.trans (by decide))
      have c32 : ¬ x = Int32.ofInt (-11) := by rw [c35]; decide
      have c33 : ¬ x = Int32.ofInt (-10) := by rw [c35]; decide
      have c34 : ¬ x = Int32.ofInt (-9) := by rw [c35]; decide
      show pz_S 3 (some .int) am_r107 0 Q 68 [(0, .int x), (1, .int a), (2, .int b)] [] h
      suffices key : ∀ (v42 : Int32), v42 = (if b ≤ a then Int32.ofInt 0 else Int32.ofInt 1) → pz_S 3 (some .int) am_r107 0 Q 78 [] [.int v42] h by
        refine am_goX 3 (show (b ≤ a → pz_S 3 (some .int) am_r107 0 Q 77 [(0, .int x), (1, .int a), (2, .int b)] [] h) ∧ (¬ (b ≤ a) → pz_S 3 (some .int) am_r107 0 Q 73 [(0, .int x), (1, .int a), (2, .int b)] [] h) from ⟨fun c41 => ?_, fun c41 => ?_⟩)
        · refine am_goX 1 (show pz_S 3 (some .int) am_r107 0 Q 78 [(0, .int x), (1, .int a), (2, .int b)] [.int (Int32.ofInt 0)] h from ?_)
          exact sv_S2 sv2_107 (fun q hq => absurd hq List.not_mem_nil) (key _ (if_pos c41).symm)
        · refine am_goX 2 (show pz_S 3 (some .int) am_r107 0 Q 78 [(0, .int x), (1, .int a), (2, .int b)] [.int (Int32.ofInt 1)] h from ?_)
          exact sv_S2 sv2_107 (fun q hq => absurd hq List.not_mem_nil) (key _ (if_neg c41).symm)
      intro v42 e43
      subst e43
      exact am_goX 1 (show (∃ ty, (some .int) = some ty ∧ narrow ty (.int (if b ≤ a then Int32.ofInt 0 else Int32.ofInt 1)) = .int (if b ≤ a then Int32.ofInt 0 else Int32.ofInt 1)) ∧ h.2.2.2.2 = 175 ∧ _ from ⟨⟨.int, rfl, rfl⟩, ex_175 hP, dn_q ((if_neg c32).trans ((if_neg c33).trans ((if_neg c34).trans (if_pos c35)))) hQ⟩)
    · have c36 : x = Int32.ofInt (-7) := Int32.toInt_inj.mp (hj1.trans (by decide))
      have c32 : ¬ x = Int32.ofInt (-11) := by rw [c36]; decide
      have c33 : ¬ x = Int32.ofInt (-10) := by rw [c36]; decide
      have c34 : ¬ x = Int32.ofInt (-9) := by rw [c36]; decide
      have c35 : ¬ x = Int32.ofInt (-8) := by rw [c36]; decide
      show pz_S 3 (some .int) am_r107 0 Q 54 [(0, .int x), (1, .int a), (2, .int b)] [] h
      suffices key : ∀ (v45 : Int32), v45 = (if ¬ a = 0 then Int32.ofInt 1 else (if b = 0 then Int32.ofInt 0 else Int32.ofInt 1)) → pz_S 3 (some .int) am_r107 0 Q 67 [] [.int v45] h by
        refine am_goX 2 (show (¬ a = 0 → pz_S 3 (some .int) am_r107 0 Q 62 [(0, .int x), (1, .int a), (2, .int b)] [] h) ∧ (¬ ¬ a = 0 → pz_S 3 (some .int) am_r107 0 Q 58 [(0, .int x), (1, .int a), (2, .int b)] [] h) from ⟨fun c44 => ?_, fun c44 => ?_⟩)
        · refine am_goX 2 (show pz_S 3 (some .int) am_r107 0 Q 67 [(0, .int x), (1, .int a), (2, .int b)] [.int (Int32.ofInt 1)] h from ?_)
          exact sv_S2 sv2_107 (fun q hq => absurd hq List.not_mem_nil) (key _ (if_pos c44).symm)
        · suffices key : ∀ (v47 : Int32), v47 = (if b = 0 then Int32.ofInt 0 else Int32.ofInt 1) → pz_S 3 (some .int) am_r107 0 Q 67 [] [.int v47] h by
            refine am_goX 2 (show (b = 0 → pz_S 3 (some .int) am_r107 0 Q 66 [(0, .int x), (1, .int a), (2, .int b)] [] h) ∧ (¬ (b = 0) → pz_S 3 (some .int) am_r107 0 Q 62 [(0, .int x), (1, .int a), (2, .int b)] [] h) from ⟨fun c46 => ?_, fun c46 => ?_⟩)
            · refine am_goX 1 (show pz_S 3 (some .int) am_r107 0 Q 67 [(0, .int x), (1, .int a), (2, .int b)] [.int (Int32.ofInt 0)] h from ?_)
              exact sv_S2 sv2_107 (fun q hq => absurd hq List.not_mem_nil) (key _ (if_pos c46).symm)
            · refine am_goX 2 (show pz_S 3 (some .int) am_r107 0 Q 67 [(0, .int x), (1, .int a), (2, .int b)] [.int (Int32.ofInt 1)] h from ?_)
              exact sv_S2 sv2_107 (fun q hq => absurd hq List.not_mem_nil) (key _ (if_neg c46).symm)
          intro v47 e48
          subst e48
          exact sv_S2 sv2_107 (fun q hq => absurd hq List.not_mem_nil) (key _ (if_neg c44).symm)
      intro v45 e49
      subst e49
      exact am_goX 1 (show (∃ ty, (some .int) = some ty ∧ narrow ty (.int (if ¬ a = 0 then Int32.ofInt 1 else (if b = 0 then Int32.ofInt 0 else Int32.ofInt 1))) = .int (if ¬ a = 0 then Int32.ofInt 1 else (if b = 0 then Int32.ofInt 0 else Int32.ofInt 1))) ∧ h.2.2.2.2 = 175 ∧ _ from ⟨⟨.int, rfl, rfl⟩, ex_175 hP, dn_q ((if_neg c32).trans ((if_neg c33).trans ((if_neg c34).trans ((if_neg c35).trans (if_pos c36))))) hQ⟩)
    · have c37 : x = Int32.ofInt (-6) := Int32.toInt_inj.mp (hj1.trans (by decide))
      have c32 : ¬ x = Int32.ofInt (-11) := by rw [c37]; decide
      have c33 : ¬ x = Int32.ofInt (-10) := by rw [c37]; decide
      have c34 : ¬ x = Int32.ofInt (-9) := by rw [c37]; decide
      have c35 : ¬ x = Int32.ofInt (-8) := by rw [c37]; decide
      have c36 : ¬ x = Int32.ofInt (-7) := by rw [c37]; decide
      show pz_S 3 (some .int) am_r107 0 Q 40 [(0, .int x), (1, .int a), (2, .int b)] [] h
      suffices key : ∀ (v51 : Int32), v51 = (if a = 0 then Int32.ofInt 0 else (if b = 0 then Int32.ofInt 0 else Int32.ofInt 1)) → pz_S 3 (some .int) am_r107 0 Q 53 [] [.int v51] h by
        refine am_goX 2 (show (a = 0 → pz_S 3 (some .int) am_r107 0 Q 52 [(0, .int x), (1, .int a), (2, .int b)] [] h) ∧ (¬ (a = 0) → pz_S 3 (some .int) am_r107 0 Q 44 [(0, .int x), (1, .int a), (2, .int b)] [] h) from ⟨fun c50 => ?_, fun c50 => ?_⟩)
        · refine am_goX 1 (show pz_S 3 (some .int) am_r107 0 Q 53 [(0, .int x), (1, .int a), (2, .int b)] [.int (Int32.ofInt 0)] h from ?_)
          exact sv_S2 sv2_107 (fun q hq => absurd hq List.not_mem_nil) (key _ (if_pos c50).symm)
        · suffices key : ∀ (v53 : Int32), v53 = (if b = 0 then Int32.ofInt 0 else Int32.ofInt 1) → pz_S 3 (some .int) am_r107 0 Q 53 [] [.int v53] h by
            refine am_goX 2 (show (b = 0 → pz_S 3 (some .int) am_r107 0 Q 52 [(0, .int x), (1, .int a), (2, .int b)] [] h) ∧ (¬ (b = 0) → pz_S 3 (some .int) am_r107 0 Q 48 [(0, .int x), (1, .int a), (2, .int b)] [] h) from ⟨fun c52 => ?_, fun c52 => ?_⟩)
            · refine am_goX 1 (show pz_S 3 (some .int) am_r107 0 Q 53 [(0, .int x), (1, .int a), (2, .int b)] [.int (Int32.ofInt 0)] h from ?_)
              exact sv_S2 sv2_107 (fun q hq => absurd hq List.not_mem_nil) (key _ (if_pos c52).symm)
            · refine am_goX 2 (show pz_S 3 (some .int) am_r107 0 Q 53 [(0, .int x), (1, .int a), (2, .int b)] [.int (Int32.ofInt 1)] h from ?_)
              exact sv_S2 sv2_107 (fun q hq => absurd hq List.not_mem_nil) (key _ (if_neg c52).symm)
          intro v53 e54
          subst e54
          exact sv_S2 sv2_107 (fun q hq => absurd hq List.not_mem_nil) (key _ (if_neg c50).symm)
      intro v51 e55
      subst e55
      exact am_goX 1 (show (∃ ty, (some .int) = some ty ∧ narrow ty (.int (if a = 0 then Int32.ofInt 0 else (if b = 0 then Int32.ofInt 0 else Int32.ofInt 1))) = .int (if a = 0 then Int32.ofInt 0 else (if b = 0 then Int32.ofInt 0 else Int32.ofInt 1))) ∧ h.2.2.2.2 = 175 ∧ _ from ⟨⟨.int, rfl, rfl⟩, ex_175 hP, dn_q ((if_neg c32).trans ((if_neg c33).trans ((if_neg c34).trans ((if_neg c35).trans ((if_neg c36).trans (if_pos c37)))))) hQ⟩)
theorem d_65_n (x y : Int32) : narrow .boolean (.int (d_65 x y)) = .int (d_65 x y) := by
  unfold d_65
  split <;> rfl
def d_68 (C : sp_C) (x : Int32) : Int32 := d_65 (dO C) (x - x / ((Int8.ofInt 28).toInt32) * ((Int8.ofInt 28).toInt32))
theorem d_68_t6 (hP : ex_P h) (hT : c_v 6 C h)  (hQ : Q (some (.int (d_68 C x))) h) : am_call am_cod 2 68 [.ref 6, .int x] h Q := by
  have h6 := hT.1.2.1
  have h5 := hT.2.1.2.1
  refine pz_call (n := 68) (nL := 2) (rt := (some .boolean)) (rows := am_r68) (d := 1) (by decide +kernel) (by decide +kernel) rfl (by funext pc; rfl) (ex_175 hP) (by exact Nat.le_of_ble_eq_true rfl) ?_
  refine am_goX 2 (show am_sh h 6 = some (0, 0) ∧ pz_S 2 (some .boolean) am_r68 1 Q 4 [(0, .ref 6), (1, .int x)] [.int (h.1 6 10)] h from ⟨ex_6 hP, ?_⟩)
  rw [show h.1 6 10 = dO C from hT.2.2.1.1]
  refine am_goX 4 (show ¬ ((Int8.ofInt 28).toInt32) = 0 ∧ 0 ≤ 8 ∧ h.2.2.2.2 + am_al 65 ≤ 175 ∧ am_call am_cod 1 65 [.int (dO C), .int (x - x / ((Int8.ofInt 28).toInt32) * ((Int8.ofInt 28).toInt32))] h (fun vv h' => pz_S 2 (some .boolean) am_r68 1 Q 11 [(0, .ref 6), (1, .int x)] (vv.toList ++ []) h') from ⟨by decide, by decide, ex_lim hP rfl, am_call.up (d_65_w hP ?_) (by decide)⟩)
  exact am_goX 1 (show (∃ ty, (some .boolean) = some ty ∧ narrow ty (.int (d_65 (dO C) (x - x / ((Int8.ofInt 28).toInt32) * ((Int8.ofInt 28).toInt32)))) = .int (d_65 (dO C) (x - x / ((Int8.ofInt 28).toInt32) * ((Int8.ofInt 28).toInt32)))) ∧ h.2.2.2.2 = 175 ∧ _ from ⟨⟨.boolean, rfl, d_65_n _ _⟩, ex_175 hP, hQ⟩)
def d_102_5 (C : sp_C) (p : Nat) (y : Int32) : Nat → Nat → Int32 → Int32
  | 0, _, a3 => a3
  | m + 1, k, a3 => d_102_5 C p y m (k + 1) (if (d_65 (dG C k) (nI p)) = 0 then a3 else (if (d_103 (dK C p) (dW C k) y) = 0 then a3 else a3 ||| ((Int32.ofInt 1) <<< ((nI k) &&& 31))))
theorem d_102_5_w6 (hP : ex_P h) (hT : c_v 6 C h) (hD : c_d 6 C h) (hp : p < dP C) : ∀ (m k : Nat) (a3 : Int32), k + m = dE C → (pz_S 5 (some .int) am_r102 1 Q 61 [(3, .int (d_102_5 C p y m k a3))] [] h) → pz_S 5 (some .int) am_r102 1 Q 5 [(0, .ref 6), (1, .int (nI p)), (2, .int y), (3, .int a3), (4, .int (nI k))] [] h := by
  intro m
  induction m with
  | zero =>
    intro k a3 hk hZ
    have h6 := hT.1.2.1
    have h5 := hT.2.1.2.1
    refine am_goX 3 (show am_sh h 6 = some (0, 0) ∧ pz_S 5 (some .int) am_r102 1 Q 11 [(0, .ref 6), (1, .int (nI p)), (2, .int y), (3, .int a3), (4, .int (nI k))] [.int (h.1 6 4), .int (nI k)] h from ⟨ex_6 hP, ?_⟩)
    rw [show h.1 6 4 = nI (dE C) from hT.2.1.1]
    refine am_goX 1 (show ((nI (dE C)) ≤ (nI k) → pz_S 5 (some .int) am_r102 1 Q 61 [(0, .ref 6), (1, .int (nI p)), (2, .int y), (3, .int a3), (4, .int (nI k))] [] h) ∧ (¬ ((nI (dE C)) ≤ (nI k)) → pz_S 5 (some .int) am_r102 1 Q 14 [(0, .ref 6), (1, .int (nI p)), (2, .int y), (3, .int a3), (4, .int (nI k))] [] h) from ⟨fun _ => ?_, fun hz => absurd (show nI (dE C) ≤ nI k from nI_le (by omega) (by omega)) hz⟩)
    exact sv_S2 sv2_102 (by intro q hq; simp only [List.mem_cons, List.not_mem_nil, or_false] at hq; rcases hq with rfl <;> rfl) (hZ)
  | succ m ih =>
    intro k a3 hk hZ
    have h6 := hT.1.2.1
    have h5 := hT.2.1.2.1
    refine am_goX 3 (show am_sh h 6 = some (0, 0) ∧ pz_S 5 (some .int) am_r102 1 Q 11 [(0, .ref 6), (1, .int (nI p)), (2, .int y), (3, .int a3), (4, .int (nI k))] [.int (h.1 6 4), .int (nI k)] h from ⟨ex_6 hP, ?_⟩)
    rw [show h.1 6 4 = nI (dE C) from hT.2.1.1]
    refine am_goX 1 (show ((nI (dE C)) ≤ (nI k) → pz_S 5 (some .int) am_r102 1 Q 61 [(0, .ref 6), (1, .int (nI p)), (2, .int y), (3, .int a3), (4, .int (nI k))] [] h) ∧ (¬ ((nI (dE C)) ≤ (nI k)) → pz_S 5 (some .int) am_r102 1 Q 14 [(0, .ref 6), (1, .int (nI p)), (2, .int y), (3, .int a3), (4, .int (nI k))] [] h) from ⟨fun hz => absurd hz (show ¬ (nI (dE C) ≤ nI k) by rw [nI_leI (by omega) (by omega)]; omega), fun _ => ?_⟩)
    refine am_goX 2 (show am_sh h 6 = some (0, 0) ∧ pz_S 5 (some .int) am_r102 1 Q 18 [(0, .ref 6), (1, .int (nI p)), (2, .int y), (3, .int a3), (4, .int (nI k))] [am_rf (h.2.2.1 6 8)] h from ⟨ex_6 hP, ?_⟩)
    rw [show am_rf (h.2.2.1 6 8) = .ref 13 from congrArg am_rf (ex_r6_8 hP)]
    refine am_goX 2 (show ∃ jj nn : Nat, am_sh h 13 = some (13, nn) ∧ jj < nn ∧ nI k = nI jj ∧ pz_S 5 (some .int) am_r102 1 Q 21 [(0, .ref 6), (1, .int (nI p)), (2, .int y), (3, .int a3), (4, .int (nI k))] [.int (h.1 13 jj)] h from ⟨k, 5, ex_13 hP, (by omega), rfl, ?_⟩)
    rw [show h.1 13 k = dG C k from (hT.2.1.2.2 k (by omega)).2]
    refine am_goX 2 (show 0 ≤ 8 ∧ h.2.2.2.2 + am_al 65 ≤ 175 ∧ am_call am_cod 1 65 [.int (dG C k), .int (nI p)] h (fun vv h' => pz_S 5 (some .int) am_r102 1 Q 25 [(0, .ref 6), (1, .int (nI p)), (2, .int y), (3, .int a3), (4, .int (nI k))] (vv.toList ++ []) h') from ⟨by decide, ex_lim hP rfl, am_call.up (d_65_w hP ?_) (by decide)⟩)
    suffices key : ∀ (v57 : Int32), v57 = (if (d_65 (dG C k) (nI p)) = 0 then a3 else (if (d_103 (dK C p) (dW C k) y) = 0 then a3 else a3 ||| ((Int32.ofInt 1) <<< ((nI k) &&& 31)))) → pz_S 5 (some .int) am_r102 1 Q 55 [(0, .ref 6), (1, .int (nI p)), (2, .int y), (3, .int v57), (4, .int (nI k))] [] h by
      refine am_goX 1 (show ((d_65 (dG C k) (nI p)) = 0 → pz_S 5 (some .int) am_r102 1 Q 55 [(0, .ref 6), (1, .int (nI p)), (2, .int y), (3, .int a3), (4, .int (nI k))] [] h) ∧ (¬ ((d_65 (dG C k) (nI p)) = 0) → pz_S 5 (some .int) am_r102 1 Q 28 [(0, .ref 6), (1, .int (nI p)), (2, .int y), (3, .int a3), (4, .int (nI k))] [] h) from ⟨fun c56 => ?_, fun c56 => ?_⟩)
      · exact sv_S2 sv2_102 (by intro q hq; simp only [List.mem_cons, List.not_mem_nil, or_false] at hq; rcases hq with rfl | rfl | rfl | rfl | rfl <;> rfl) (key _ (if_pos c56).symm)
      · refine am_goX 2 (show am_sh h 6 = some (0, 0) ∧ pz_S 5 (some .int) am_r102 1 Q 32 [(0, .ref 6), (1, .int (nI p)), (2, .int y), (3, .int a3), (4, .int (nI k))] [am_rf (h.2.2.1 6 2)] h from ⟨ex_6 hP, ?_⟩)
        rw [show am_rf (h.2.2.1 6 2) = .ref 8 from congrArg am_rf (ex_r6_2 hP)]
        refine am_goX 2 (show ∃ jj nn : Nat, am_sh h 8 = some (13, nn) ∧ jj < nn ∧ nI p = nI jj ∧ pz_S 5 (some .int) am_r102 1 Q 34 [(0, .ref 6), (1, .int (nI p)), (2, .int y), (3, .int a3), (4, .int (nI k))] [.int (h.1 8 jj)] h from ⟨p, 6, ex_8 hP, (by omega), rfl, ?_⟩)
        rw [show h.1 8 p = dK C p from (hT.1.2.2 p (by omega)).1]
        refine am_goX 2 (show am_sh h 6 = some (0, 0) ∧ pz_S 5 (some .int) am_r102 1 Q 38 [(0, .ref 6), (1, .int (nI p)), (2, .int y), (3, .int a3), (4, .int (nI k))] [am_rf (h.2.2.1 6 6), .int (dK C p)] h from ⟨ex_6 hP, ?_⟩)
        rw [show am_rf (h.2.2.1 6 6) = .ref 11 from congrArg am_rf (ex_r6_6 hP)]
        refine am_goX 2 (show ∃ jj nn : Nat, am_sh h 11 = some (13, nn) ∧ jj < nn ∧ nI k = nI jj ∧ pz_S 5 (some .int) am_r102 1 Q 41 [(0, .ref 6), (1, .int (nI p)), (2, .int y), (3, .int a3), (4, .int (nI k))] [.int (h.1 11 jj), .int (dK C p)] h from ⟨k, 5, ex_11 hP, (by omega), rfl, ?_⟩)
        rw [show h.1 11 k = dW C k from hD k (by omega)]
        refine am_goX 2 (show 0 ≤ 8 ∧ h.2.2.2.2 + am_al 103 ≤ 175 ∧ am_call am_cod 1 103 [.int (dK C p), .int (dW C k), .int y] h (fun vv h' => pz_S 5 (some .int) am_r102 1 Q 45 [(0, .ref 6), (1, .int (nI p)), (2, .int y), (3, .int a3), (4, .int (nI k))] (vv.toList ++ []) h') from ⟨by decide, ex_lim hP rfl, am_call.up (d_103_w hP ?_) (by decide)⟩)
        suffices key : ∀ (v59 : Int32), v59 = (if (d_103 (dK C p) (dW C k) y) = 0 then a3 else a3 ||| ((Int32.ofInt 1) <<< ((nI k) &&& 31))) → pz_S 5 (some .int) am_r102 1 Q 55 [(0, .ref 6), (1, .int (nI p)), (2, .int y), (3, .int v59), (4, .int (nI k))] [] h by
          refine am_goX 1 (show ((d_103 (dK C p) (dW C k) y) = 0 → pz_S 5 (some .int) am_r102 1 Q 55 [(0, .ref 6), (1, .int (nI p)), (2, .int y), (3, .int a3), (4, .int (nI k))] [] h) ∧ (¬ ((d_103 (dK C p) (dW C k) y) = 0) → pz_S 5 (some .int) am_r102 1 Q 48 [(0, .ref 6), (1, .int (nI p)), (2, .int y), (3, .int a3), (4, .int (nI k))] [] h) from ⟨fun c58 => ?_, fun c58 => ?_⟩)
          · exact sv_S2 sv2_102 (by intro q hq; simp only [List.mem_cons, List.not_mem_nil, or_false] at hq; rcases hq with rfl | rfl | rfl | rfl | rfl <;> rfl) (key _ (if_pos c58).symm)
          · refine am_goX 6 (show 3 < 5 ∧ pz_S 5 (some .int) am_r102 1 Q 55 [(3, .int (a3 ||| ((Int32.ofInt 1) <<< ((nI k) &&& 31)))), (0, .ref 6), (1, .int (nI p)), (2, .int y), (4, .int (nI k))] [] h from ⟨by decide, ?_⟩)
            exact sv_S2 sv2_102 (by intro q hq; simp only [List.mem_cons, List.not_mem_nil, or_false] at hq; rcases hq with rfl | rfl | rfl | rfl | rfl <;> rfl) (key _ (if_neg c58).symm)
        intro v59 e60
        subst e60
        exact sv_S2 sv2_102 (by intro q hq; simp only [List.mem_cons, List.not_mem_nil, or_false] at hq; rcases hq with rfl | rfl | rfl | rfl | rfl <;> rfl) (key _ (if_neg c56).symm)
    intro v57 e61
    subst e61
    refine am_goX 2 (show 4 < 5 ∧ pz_S 5 (some .int) am_r102 1 Q 5 [(4, .int ((nI k) + (Int32.ofInt 1))), (0, .ref 6), (1, .int (nI p)), (2, .int y), (3, .int (if (d_65 (dG C k) (nI p)) = 0 then a3 else (if (d_103 (dK C p) (dW C k) y) = 0 then a3 else a3 ||| ((Int32.ofInt 1) <<< ((nI k) &&& 31)))))] [] h from ⟨by decide, ?_⟩)
    rw [show (nI k) + (Int32.ofInt 1) = nI (k + 1) from (dn_a rfl rfl)]
    exact sv_S2 sv2_102 (by intro q hq; simp only [List.mem_cons, List.not_mem_nil, or_false] at hq; rcases hq with rfl | rfl | rfl | rfl | rfl <;> rfl) (ih (k + 1) (if (d_65 (dG C k) (nI p)) = 0 then a3 else (if (d_103 (dK C p) (dW C k) y) = 0 then a3 else a3 ||| ((Int32.ofInt 1) <<< ((nI k) &&& 31)))) (by omega) hZ)
def d_102 (C : sp_C) (p : Nat) (y : Int32) : Int32 := d_102_5 C p y (dE C) 0 (Int32.ofInt 0)
theorem d_102_w6 (hP : ex_P h) (hT : c_v 6 C h) (hD : c_d 6 C h) (hp : p < dP C) (hQ : Q (some (.int (d_102 C p y))) h) : am_call am_cod 2 102 [.ref 6, .int (nI p), .int y] h Q := by
  have h6 := hT.1.2.1
  have h5 := hT.2.1.2.1
  refine pz_call (n := 102) (nL := 5) (rt := (some .int)) (rows := am_r102) (d := 1) (by decide +kernel) (by decide +kernel) rfl (by funext pc; rfl) (ex_175 hP) (by exact Nat.le_of_ble_eq_true rfl) ?_
  refine am_goX 4 (show 3 < 5 ∧ 4 < 5 ∧ pz_S 5 (some .int) am_r102 1 Q 5 [(4, .int (Int32.ofInt 0)), (3, .int (Int32.ofInt 0)), (0, .ref 6), (1, .int (nI p)), (2, .int y)] [] h from ⟨by decide, by decide, ?_⟩)
  refine sv_S2 sv2_102 (by intro q hq; simp only [List.mem_cons, List.not_mem_nil, or_false] at hq; rcases hq with rfl | rfl | rfl | rfl | rfl <;> rfl) (d_102_5_w6 hP hT hD hp (dE C) 0 (Int32.ofInt 0) (by omega) ?_)
  exact am_goX 2 (show (∃ ty, (some .int) = some ty ∧ narrow ty (.int (d_102_5 C p y (dE C) 0 (Int32.ofInt 0))) = .int (d_102_5 C p y (dE C) 0 (Int32.ofInt 0))) ∧ h.2.2.2.2 = 175 ∧ _ from ⟨⟨.int, rfl, rfl⟩, ex_175 hP, hQ⟩)
def d_105_6 (C : sp_C) (a b c d : Int32) : Nat → Nat → Nat → (Nat → Int32) → Nat × (Nat → Int32)
  | 0, _, a5, f => (a5, f)
  | m + 1, k, a5, f => (if (dT C k) < ((Int8.ofInt (-4)).toInt32) then (if ¬ (dT C k) = ((Int8.ofInt (-5)).toInt32) then (if ((Int8.ofInt (-5)).toInt32) ≤ (dT C k) then (d_105_6 C a b c d m (k + 1) a5 f) else (if (nI a5) ≤ (Int32.ofInt 1) then (d_105_6 C a b c d m (k + 1) a5 f) else (d_105_6 C a b c d m (k + 1) (a5 - 1) (sp_uI f ((a5 - 1) - 1) (d_107 (dT C k) (f ((a5 - 1) - 1)) (f (a5 - 1))))))) else (if (nI a5) ≤ 0 then (if ((Int8.ofInt (-5)).toInt32) ≤ (dT C k) then (d_105_6 C a b c d m (k + 1) a5 f) else (if (nI a5) ≤ (Int32.ofInt 1) then (d_105_6 C a b c d m (k + 1) a5 f) else (d_105_6 C a b c d m (k + 1) (a5 - 1) (sp_uI f ((a5 - 1) - 1) (d_107 (dT C k) (f ((a5 - 1) - 1)) (f (a5 - 1))))))) else (d_105_6 C a b c d m (k + 1) a5 (sp_uI f (a5 - 1) (if ¬ (f (a5 - 1)) = 0 then Int32.ofInt 0 else Int32.ofInt 1))))) else (if ((Int8.ofInt 32).toInt32) ≤ (nI a5) then (if ¬ (dT C k) = ((Int8.ofInt (-5)).toInt32) then (if ((Int8.ofInt (-5)).toInt32) ≤ (dT C k) then (d_105_6 C a b c d m (k + 1) a5 f) else (if (nI a5) ≤ (Int32.ofInt 1) then (d_105_6 C a b c d m (k + 1) a5 f) else (d_105_6 C a b c d m (k + 1) (a5 - 1) (sp_uI f ((a5 - 1) - 1) (d_107 (dT C k) (f ((a5 - 1) - 1)) (f (a5 - 1))))))) else (if (nI a5) ≤ 0 then (if ((Int8.ofInt (-5)).toInt32) ≤ (dT C k) then (d_105_6 C a b c d m (k + 1) a5 f) else (if (nI a5) ≤ (Int32.ofInt 1) then (d_105_6 C a b c d m (k + 1) a5 f) else (d_105_6 C a b c d m (k + 1) (a5 - 1) (sp_uI f ((a5 - 1) - 1) (d_107 (dT C k) (f ((a5 - 1) - 1)) (f (a5 - 1))))))) else (d_105_6 C a b c d m (k + 1) a5 (sp_uI f (a5 - 1) (if ¬ (f (a5 - 1)) = 0 then Int32.ofInt 0 else Int32.ofInt 1))))) else (d_105_6 C a b c d m (k + 1) (a5 + 1) (sp_uI f a5 (if (dT C k) < 0 then d_106 (dT C k) a b c d else dT C k)))))
theorem d_105_6_l6 : ∀ (m k : Nat) (a5 : Nat) (f : (Nat → Int32)) (h : am_H), k + m = dM C → (ex_P h) → (c_v 6 C h) → (lfr 16 h0 h) → (∀ j, j < 32 → h.1 16 j = f j) → (a5 ≤ 32) → (∀ h1, (ex_P h1) → (c_v 6 C h1) → (lfr 16 h0 h1) → (∀ j, j < 32 → h1.1 16 j = ((d_105_6 C a b c d m k a5 f).2) j) → ((d_105_6 C a b c d m k a5 f).1 ≤ 32) → pz_S 8 (some .int) am_r105 1 Q 164 [(0, .ref 14), (5, .int (nI ((d_105_6 C a b c d m k a5 f).1)))] [] h1) → pz_S 8 (some .int) am_r105 1 Q 6 [(0, .ref 14), (1, .int a), (2, .int b), (3, .int c), (4, .int d), (5, .int (nI a5)), (6, .int (nI k))] [] h := by
  intro m
  induction m with
  | zero =>
    intro k a5 f h hk hP hT hF hK hn hZ
    have hM := hT.2.2.2.2.1
    refine am_goX 3 (show am_sh h 14 = some (3, 0) ∧ pz_S 8 (some .int) am_r105 1 Q 12 [(0, .ref 14), (1, .int a), (2, .int b), (3, .int c), (4, .int d), (5, .int (nI a5)), (6, .int (nI k))] [.int (h.1 14 2), .int (nI k)] h from ⟨ex_14 hP, ?_⟩)
    rw [show h.1 14 2 = nI (dM C) from hT.2.2.2.1]
    refine am_goX 1 (show ((nI (dM C)) ≤ (nI k) → pz_S 8 (some .int) am_r105 1 Q 164 [(0, .ref 14), (1, .int a), (2, .int b), (3, .int c), (4, .int d), (5, .int (nI a5)), (6, .int (nI k))] [] h) ∧ (¬ ((nI (dM C)) ≤ (nI k)) → pz_S 8 (some .int) am_r105 1 Q 15 [(0, .ref 14), (1, .int a), (2, .int b), (3, .int c), (4, .int d), (5, .int (nI a5)), (6, .int (nI k))] [] h) from ⟨fun _ => ?_, fun hz => absurd (show nI (dM C) ≤ nI k from nI_le (by omega) (by omega)) hz⟩)
    exact sv_S2 sv2_105 (by intro q hq; simp only [List.mem_cons, List.not_mem_nil, or_false] at hq; rcases hq with rfl | rfl <;> rfl) (hZ _ hP hT hF hK hn)
  | succ m ih =>
    intro k a5 f h hk hP hT hF hK hn hZ
    have hM := hT.2.2.2.2.1
    refine am_goX 3 (show am_sh h 14 = some (3, 0) ∧ pz_S 8 (some .int) am_r105 1 Q 12 [(0, .ref 14), (1, .int a), (2, .int b), (3, .int c), (4, .int d), (5, .int (nI a5)), (6, .int (nI k))] [.int (h.1 14 2), .int (nI k)] h from ⟨ex_14 hP, ?_⟩)
    rw [show h.1 14 2 = nI (dM C) from hT.2.2.2.1]
    refine am_goX 1 (show ((nI (dM C)) ≤ (nI k) → pz_S 8 (some .int) am_r105 1 Q 164 [(0, .ref 14), (1, .int a), (2, .int b), (3, .int c), (4, .int d), (5, .int (nI a5)), (6, .int (nI k))] [] h) ∧ (¬ ((nI (dM C)) ≤ (nI k)) → pz_S 8 (some .int) am_r105 1 Q 15 [(0, .ref 14), (1, .int a), (2, .int b), (3, .int c), (4, .int d), (5, .int (nI a5)), (6, .int (nI k))] [] h) from ⟨fun hz => absurd hz (show ¬ (nI (dM C) ≤ nI k) by rw [nI_leI (by omega) (by omega)]; omega), fun _ => ?_⟩)
    refine am_goX 2 (show am_sh h 14 = some (3, 0) ∧ pz_S 8 (some .int) am_r105 1 Q 19 [(0, .ref 14), (1, .int a), (2, .int b), (3, .int c), (4, .int d), (5, .int (nI a5)), (6, .int (nI k))] [am_rf (h.2.2.1 14 0)] h from ⟨ex_14 hP, ?_⟩)
    rw [show am_rf (h.2.2.1 14 0) = .ref 15 from congrArg am_rf (ex_r14_0 hP)]
    refine am_goX 2 (show ∃ jj nn : Nat, am_sh h 15 = some (13, nn) ∧ jj < nn ∧ nI k = nI jj ∧ pz_S 8 (some .int) am_r105 1 Q 22 [(0, .ref 14), (1, .int a), (2, .int b), (3, .int c), (4, .int d), (5, .int (nI a5)), (6, .int (nI k))] [.int (h.1 15 jj)] h from ⟨k, 1000, ex_15 hP, (by omega), rfl, ?_⟩)
    rw [show h.1 15 k = dT C k from hT.2.2.2.2.2 k (by omega)]
    refine am_goX 4 (show 7 < 8 ∧ ((dT C k) < ((Int8.ofInt (-4)).toInt32) → pz_S 8 (some .int) am_r105 1 Q 71 [(7, .int (dT C k)), (0, .ref 14), (1, .int a), (2, .int b), (3, .int c), (4, .int d), (5, .int (nI a5)), (6, .int (nI k))] [] h) ∧ (¬ ((dT C k) < ((Int8.ofInt (-4)).toInt32)) → pz_S 8 (some .int) am_r105 1 Q 31 [(7, .int (dT C k)), (0, .ref 14), (1, .int a), (2, .int b), (3, .int c), (4, .int d), (5, .int (nI a5)), (6, .int (nI k))] [] h) from ⟨by decide, fun c62 => ?_, fun c62 => ?_⟩)
    · refine am_goX 3 (show (¬ (dT C k) = ((Int8.ofInt (-5)).toInt32) → pz_S 8 (some .int) am_r105 1 Q 112 [(7, .int (dT C k)), (0, .ref 14), (1, .int a), (2, .int b), (3, .int c), (4, .int d), (5, .int (nI a5)), (6, .int (nI k))] [] h) ∧ (¬ ¬ (dT C k) = ((Int8.ofInt (-5)).toInt32) → pz_S 8 (some .int) am_r105 1 Q 78 [(7, .int (dT C k)), (0, .ref 14), (1, .int a), (2, .int b), (3, .int c), (4, .int d), (5, .int (nI a5)), (6, .int (nI k))] [] h) from ⟨fun c63 => ?_, fun c63 => ?_⟩)
      · refine am_goX 3 (show (((Int8.ofInt (-5)).toInt32) ≤ (dT C k) → pz_S 8 (some .int) am_r105 1 Q 158 [(7, .int (dT C k)), (0, .ref 14), (1, .int a), (2, .int b), (3, .int c), (4, .int d), (5, .int (nI a5)), (6, .int (nI k))] [] h) ∧ (¬ (((Int8.ofInt (-5)).toInt32) ≤ (dT C k)) → pz_S 8 (some .int) am_r105 1 Q 119 [(7, .int (dT C k)), (0, .ref 14), (1, .int a), (2, .int b), (3, .int c), (4, .int d), (5, .int (nI a5)), (6, .int (nI k))] [] h) from ⟨fun c64 => ?_, fun c64 => ?_⟩)
        · refine am_goX 2 (show 6 < 8 ∧ pz_S 8 (some .int) am_r105 1 Q 6 [(6, .int ((nI k) + (Int32.ofInt 1))), (7, .int (dT C k)), (0, .ref 14), (1, .int a), (2, .int b), (3, .int c), (4, .int d), (5, .int (nI a5))] [] h from ⟨by decide, ?_⟩)
          rw [show d_105_6 C a b c d (m + 1) k a5 f = d_105_6 C a b c d m (k + 1) a5 f from (if_pos c62).trans ((if_pos c63).trans (if_pos c64))] at hZ
          rw [show (nI k) + (Int32.ofInt 1) = nI (k + 1) from (dn_a rfl rfl)]
          exact sv_S2 sv2_105 (by intro q hq; simp only [List.mem_cons, List.not_mem_nil, or_false] at hq; rcases hq with rfl | rfl | rfl | rfl | rfl | rfl | rfl <;> rfl) (ih (k + 1) a5 f _ (by omega) hP hT hF hK (by omega) hZ)
        · refine am_goX 3 (show ((nI a5) ≤ (Int32.ofInt 1) → pz_S 8 (some .int) am_r105 1 Q 158 [(7, .int (dT C k)), (0, .ref 14), (1, .int a), (2, .int b), (3, .int c), (4, .int d), (5, .int (nI a5)), (6, .int (nI k))] [] h) ∧ (¬ ((nI a5) ≤ (Int32.ofInt 1)) → pz_S 8 (some .int) am_r105 1 Q 125 [(7, .int (dT C k)), (0, .ref 14), (1, .int a), (2, .int b), (3, .int c), (4, .int d), (5, .int (nI a5)), (6, .int (nI k))] [] h) from ⟨fun c65 => ?_, fun c65 => ?_⟩)
          · have c65n : a5 ≤ 1 := (nI_leI (by omega) (by omega)).mp (show nI a5 ≤ nI 1 from c65)
            refine am_goX 2 (show 6 < 8 ∧ pz_S 8 (some .int) am_r105 1 Q 6 [(6, .int ((nI k) + (Int32.ofInt 1))), (7, .int (dT C k)), (0, .ref 14), (1, .int a), (2, .int b), (3, .int c), (4, .int d), (5, .int (nI a5))] [] h from ⟨by decide, ?_⟩)
            rw [show d_105_6 C a b c d (m + 1) k a5 f = d_105_6 C a b c d m (k + 1) a5 f from (if_pos c62).trans ((if_pos c63).trans ((if_neg c64).trans (if_pos c65)))] at hZ
            rw [show (nI k) + (Int32.ofInt 1) = nI (k + 1) from (dn_a rfl rfl)]
            exact sv_S2 sv2_105 (by intro q hq; simp only [List.mem_cons, List.not_mem_nil, or_false] at hq; rcases hq with rfl | rfl | rfl | rfl | rfl | rfl | rfl <;> rfl) (ih (k + 1) a5 f _ (by omega) hP hT hF hK (by omega) hZ)
          · have c65n : ¬ (a5 ≤ 1) := fun w => absurd (show nI a5 ≤ nI 1 from (nI_leI (by omega) (by omega)).mpr w) c65
            refine am_goX 3 (show 5 < 8 ∧ am_sh h 14 = some (3, 0) ∧ pz_S 8 (some .int) am_r105 1 Q 132 [(5, .int ((nI a5) + (Int32.ofInt (-1)))), (7, .int (dT C k)), (0, .ref 14), (1, .int a), (2, .int b), (3, .int c), (4, .int d), (6, .int (nI k))] [am_rf (h.2.2.1 14 1)] h from ⟨by decide, ex_14 hP, ?_⟩)
            rw [show am_rf (h.2.2.1 14 1) = .ref 16 from congrArg am_rf (ex_r14_1 hP)]
            refine am_goX 6 (show am_sh h 14 = some (3, 0) ∧ pz_S 8 (some .int) am_r105 1 Q 142 [(5, .int ((nI a5) + (Int32.ofInt (-1)))), (7, .int (dT C k)), (0, .ref 14), (1, .int a), (2, .int b), (3, .int c), (4, .int d), (6, .int (nI k))] [am_rf (h.2.2.1 14 1), .int (dT C k), .int (((nI a5) + (Int32.ofInt (-1))) - (Int32.ofInt 1)), .ref 16] h from ⟨ex_14 hP, ?_⟩)
            rw [show am_rf (h.2.2.1 14 1) = .ref 16 from congrArg am_rf (ex_r14_1 hP)]
            refine am_goX 4 (show ∃ jj nn : Nat, am_sh h 16 = some (13, nn) ∧ jj < nn ∧ ((nI a5) + (Int32.ofInt (-1))) - (Int32.ofInt 1) = nI jj ∧ pz_S 8 (some .int) am_r105 1 Q 147 [(5, .int ((nI a5) + (Int32.ofInt (-1)))), (7, .int (dT C k)), (0, .ref 14), (1, .int a), (2, .int b), (3, .int c), (4, .int d), (6, .int (nI k))] [.int (h.1 16 jj), .int (dT C k), .int (((nI a5) + (Int32.ofInt (-1))) - (Int32.ofInt 1)), .ref 16] h from ⟨((a5 - 1) - 1), 32, ex_16 hP, (by omega), (dn_s (by omega) (dn_d (by omega) rfl (by decide)) rfl), ?_⟩)
            rw [show h.1 16 ((a5 - 1) - 1) = f ((a5 - 1) - 1) from hK ((a5 - 1) - 1) (by omega)]
            refine am_goX 2 (show am_sh h 14 = some (3, 0) ∧ pz_S 8 (some .int) am_r105 1 Q 151 [(5, .int ((nI a5) + (Int32.ofInt (-1)))), (7, .int (dT C k)), (0, .ref 14), (1, .int a), (2, .int b), (3, .int c), (4, .int d), (6, .int (nI k))] [am_rf (h.2.2.1 14 1), .int (f ((a5 - 1) - 1)), .int (dT C k), .int (((nI a5) + (Int32.ofInt (-1))) - (Int32.ofInt 1)), .ref 16] h from ⟨ex_14 hP, ?_⟩)
            rw [show am_rf (h.2.2.1 14 1) = .ref 16 from congrArg am_rf (ex_r14_1 hP)]
            refine am_goX 2 (show ∃ jj nn : Nat, am_sh h 16 = some (13, nn) ∧ jj < nn ∧ (nI a5) + (Int32.ofInt (-1)) = nI jj ∧ pz_S 8 (some .int) am_r105 1 Q 154 [(5, .int ((nI a5) + (Int32.ofInt (-1)))), (7, .int (dT C k)), (0, .ref 14), (1, .int a), (2, .int b), (3, .int c), (4, .int d), (6, .int (nI k))] [.int (h.1 16 jj), .int (f ((a5 - 1) - 1)), .int (dT C k), .int (((nI a5) + (Int32.ofInt (-1))) - (Int32.ofInt 1)), .ref 16] h from ⟨(a5 - 1), 32, ex_16 hP, (by omega), (dn_d (by omega) rfl (by decide)), ?_⟩)
            rw [show h.1 16 (a5 - 1) = f (a5 - 1) from hK (a5 - 1) (by omega)]
            refine am_goX 1 (show 2 ≤ 8 ∧ h.2.2.2.2 + am_al 107 ≤ 175 ∧ am_call am_cod 1 107 [.int (dT C k), .int (f ((a5 - 1) - 1)), .int (f (a5 - 1))] h (fun vv h' => pz_S 8 (some .int) am_r105 1 Q 157 [(5, .int ((nI a5) + (Int32.ofInt (-1)))), (7, .int (dT C k)), (0, .ref 14), (1, .int a), (2, .int b), (3, .int c), (4, .int d), (6, .int (nI k))] (vv.toList ++ [.int (((nI a5) + (Int32.ofInt (-1))) - (Int32.ofInt 1)), .ref 16]) h') from ⟨by decide, ex_lim hP rfl, am_call.up (d_107_w hP ?_) (by decide)⟩)
            refine am_goX 1 (show ∃ jj nn : Nat, am_so h 16 = some (13, nn) ∧ jj < nn ∧ ((nI a5) + (Int32.ofInt (-1))) - (Int32.ofInt 1) = nI jj ∧ pz_S 8 (some .int) am_r105 1 Q 158 [(5, .int ((nI a5) + (Int32.ofInt (-1)))), (7, .int (dT C k)), (0, .ref 14), (1, .int a), (2, .int b), (3, .int c), (4, .int d), (6, .int (nI k))] [] (am_wI h 16 jj (d_107 (dT C k) (f ((a5 - 1) - 1)) (f (a5 - 1)))) from ⟨((a5 - 1) - 1), 32, ex_w16 hP, (by omega), (dn_s (by omega) (dn_d (by omega) rfl (by decide)) rfl), ?_⟩)
            have f67 : ex_P (am_wI h 16 ((a5 - 1) - 1) (d_107 (dT C k) (f ((a5 - 1) - 1)) (f (a5 - 1)))) := hP
            have f68 : c_v 6 C (am_wI h 16 ((a5 - 1) - 1) (d_107 (dT C k) (f ((a5 - 1) - 1)) (f (a5 - 1)))) := c_v_w (by omega) hT
            have f69 : lfr 16 h0 (am_wI h 16 ((a5 - 1) - 1) (d_107 (dT C k) (f ((a5 - 1) - 1)) (f (a5 - 1)))) := lfr_w hF
            have f70 : ∀ j, j < 32 → (am_wI h 16 ((a5 - 1) - 1) (d_107 (dT C k) (f ((a5 - 1) - 1)) (f (a5 - 1)))).1 16 j = (sp_uI f ((a5 - 1) - 1) (d_107 (dT C k) (f ((a5 - 1) - 1)) (f (a5 - 1)))) j := stk_w hK
            generalize am_wI h 16 ((a5 - 1) - 1) (d_107 (dT C k) (f ((a5 - 1) - 1)) (f (a5 - 1))) = h66 at f67 f68 f69 f70 ⊢
            refine am_goX 2 (show 6 < 8 ∧ pz_S 8 (some .int) am_r105 1 Q 6 [(6, .int ((nI k) + (Int32.ofInt 1))), (5, .int ((nI a5) + (Int32.ofInt (-1)))), (7, .int (dT C k)), (0, .ref 14), (1, .int a), (2, .int b), (3, .int c), (4, .int d)] [] h66 from ⟨by decide, ?_⟩)
            rw [show d_105_6 C a b c d (m + 1) k a5 f = d_105_6 C a b c d m (k + 1) (a5 - 1) (sp_uI f ((a5 - 1) - 1) (d_107 (dT C k) (f ((a5 - 1) - 1)) (f (a5 - 1)))) from (if_pos c62).trans ((if_pos c63).trans ((if_neg c64).trans (if_neg c65)))] at hZ
            rw [show (nI k) + (Int32.ofInt 1) = nI (k + 1) from (dn_a rfl rfl)]
            rw [show (nI a5) + (Int32.ofInt (-1)) = nI (a5 - 1) from (dn_d (by omega) rfl (by decide))]
            exact sv_S2 sv2_105 (by intro q hq; simp only [List.mem_cons, List.not_mem_nil, or_false] at hq; rcases hq with rfl | rfl | rfl | rfl | rfl | rfl | rfl <;> rfl) (ih (k + 1) (a5 - 1) (sp_uI f ((a5 - 1) - 1) (d_107 (dT C k) (f ((a5 - 1) - 1)) (f (a5 - 1)))) _ (by omega) f67 f68 f69 f70 (by omega) hZ)
      · refine am_goX 2 (show ((nI a5) ≤ 0 → pz_S 8 (some .int) am_r105 1 Q 112 [(7, .int (dT C k)), (0, .ref 14), (1, .int a), (2, .int b), (3, .int c), (4, .int d), (5, .int (nI a5)), (6, .int (nI k))] [] h) ∧ (¬ ((nI a5) ≤ 0) → pz_S 8 (some .int) am_r105 1 Q 83 [(7, .int (dT C k)), (0, .ref 14), (1, .int a), (2, .int b), (3, .int c), (4, .int d), (5, .int (nI a5)), (6, .int (nI k))] [] h) from ⟨fun c71 => ?_, fun c71 => ?_⟩)
        · have c71n : a5 ≤ 0 := (nI_leI (by omega) (by omega)).mp (show nI a5 ≤ nI 0 from c71)
          refine am_goX 3 (show (((Int8.ofInt (-5)).toInt32) ≤ (dT C k) → pz_S 8 (some .int) am_r105 1 Q 158 [(7, .int (dT C k)), (0, .ref 14), (1, .int a), (2, .int b), (3, .int c), (4, .int d), (5, .int (nI a5)), (6, .int (nI k))] [] h) ∧ (¬ (((Int8.ofInt (-5)).toInt32) ≤ (dT C k)) → pz_S 8 (some .int) am_r105 1 Q 119 [(7, .int (dT C k)), (0, .ref 14), (1, .int a), (2, .int b), (3, .int c), (4, .int d), (5, .int (nI a5)), (6, .int (nI k))] [] h) from ⟨fun c72 => ?_, fun c72 => ?_⟩)
          · refine am_goX 2 (show 6 < 8 ∧ pz_S 8 (some .int) am_r105 1 Q 6 [(6, .int ((nI k) + (Int32.ofInt 1))), (7, .int (dT C k)), (0, .ref 14), (1, .int a), (2, .int b), (3, .int c), (4, .int d), (5, .int (nI a5))] [] h from ⟨by decide, ?_⟩)
            rw [show d_105_6 C a b c d (m + 1) k a5 f = d_105_6 C a b c d m (k + 1) a5 f from (if_pos c62).trans ((if_neg c63).trans ((if_pos c71).trans (if_pos c72)))] at hZ
            rw [show (nI k) + (Int32.ofInt 1) = nI (k + 1) from (dn_a rfl rfl)]
            exact sv_S2 sv2_105 (by intro q hq; simp only [List.mem_cons, List.not_mem_nil, or_false] at hq; rcases hq with rfl | rfl | rfl | rfl | rfl | rfl | rfl <;> rfl) (ih (k + 1) a5 f _ (by omega) hP hT hF hK (by omega) hZ)
          · refine am_goX 3 (show ((nI a5) ≤ (Int32.ofInt 1) → pz_S 8 (some .int) am_r105 1 Q 158 [(7, .int (dT C k)), (0, .ref 14), (1, .int a), (2, .int b), (3, .int c), (4, .int d), (5, .int (nI a5)), (6, .int (nI k))] [] h) ∧ (¬ ((nI a5) ≤ (Int32.ofInt 1)) → pz_S 8 (some .int) am_r105 1 Q 125 [(7, .int (dT C k)), (0, .ref 14), (1, .int a), (2, .int b), (3, .int c), (4, .int d), (5, .int (nI a5)), (6, .int (nI k))] [] h) from ⟨fun c73 => ?_, fun c73 => ?_⟩)
            · have c73n : a5 ≤ 1 := (nI_leI (by omega) (by omega)).mp (show nI a5 ≤ nI 1 from c73)
              refine am_goX 2 (show 6 < 8 ∧ pz_S 8 (some .int) am_r105 1 Q 6 [(6, .int ((nI k) + (Int32.ofInt 1))), (7, .int (dT C k)), (0, .ref 14), (1, .int a), (2, .int b), (3, .int c), (4, .int d), (5, .int (nI a5))] [] h from ⟨by decide, ?_⟩)
              rw [show d_105_6 C a b c d (m + 1) k a5 f = d_105_6 C a b c d m (k + 1) a5 f from (if_pos c62).trans ((if_neg c63).trans ((if_pos c71).trans ((if_neg c72).trans (if_pos c73))))] at hZ
              rw [show (nI k) + (Int32.ofInt 1) = nI (k + 1) from (dn_a rfl rfl)]
              exact sv_S2 sv2_105 (by intro q hq; simp only [List.mem_cons, List.not_mem_nil, or_false] at hq; rcases hq with rfl | rfl | rfl | rfl | rfl | rfl | rfl <;> rfl) (ih (k + 1) a5 f _ (by omega) hP hT hF hK (by omega) hZ)
            · have c73n : ¬ (a5 ≤ 1) := fun w => absurd (show nI a5 ≤ nI 1 from (nI_leI (by omega) (by omega)).mpr w) c73
              refine am_goX 3 (show 5 < 8 ∧ am_sh h 14 = some (3, 0) ∧ pz_S 8 (some .int) am_r105 1 Q 132 [(5, .int ((nI a5) + (Int32.ofInt (-1)))), (7, .int (dT C k)), (0, .ref 14), (1, .int a), (2, .int b), (3, .int c), (4, .int d), (6, .int (nI k))] [am_rf (h.2.2.1 14 1)] h from ⟨by decide, ex_14 hP, ?_⟩)
              rw [show am_rf (h.2.2.1 14 1) = .ref 16 from congrArg am_rf (ex_r14_1 hP)]
              refine am_goX 6 (show am_sh h 14 = some (3, 0) ∧ pz_S 8 (some .int) am_r105 1 Q 142 [(5, .int ((nI a5) + (Int32.ofInt (-1)))), (7, .int (dT C k)), (0, .ref 14), (1, .int a), (2, .int b), (3, .int c), (4, .int d), (6, .int (nI k))] [am_rf (h.2.2.1 14 1), .int (dT C k), .int (((nI a5) + (Int32.ofInt (-1))) - (Int32.ofInt 1)), .ref 16] h from ⟨ex_14 hP, ?_⟩)
              rw [show am_rf (h.2.2.1 14 1) = .ref 16 from congrArg am_rf (ex_r14_1 hP)]
              refine am_goX 4 (show ∃ jj nn : Nat, am_sh h 16 = some (13, nn) ∧ jj < nn ∧ ((nI a5) + (Int32.ofInt (-1))) - (Int32.ofInt 1) = nI jj ∧ pz_S 8 (some .int) am_r105 1 Q 147 [(5, .int ((nI a5) + (Int32.ofInt (-1)))), (7, .int (dT C k)), (0, .ref 14), (1, .int a), (2, .int b), (3, .int c), (4, .int d), (6, .int (nI k))] [.int (h.1 16 jj), .int (dT C k), .int (((nI a5) + (Int32.ofInt (-1))) - (Int32.ofInt 1)), .ref 16] h from ⟨((a5 - 1) - 1), 32, ex_16 hP, (by omega), (dn_s (by omega) (dn_d (by omega) rfl (by decide)) rfl), ?_⟩)
              rw [show h.1 16 ((a5 - 1) - 1) = f ((a5 - 1) - 1) from hK ((a5 - 1) - 1) (by omega)]
              refine am_goX 2 (show am_sh h 14 = some (3, 0) ∧ pz_S 8 (some .int) am_r105 1 Q 151 [(5, .int ((nI a5) + (Int32.ofInt (-1)))), (7, .int (dT C k)), (0, .ref 14), (1, .int a), (2, .int b), (3, .int c), (4, .int d), (6, .int (nI k))] [am_rf (h.2.2.1 14 1), .int (f ((a5 - 1) - 1)), .int (dT C k), .int (((nI a5) + (Int32.ofInt (-1))) - (Int32.ofInt 1)), .ref 16] h from ⟨ex_14 hP, ?_⟩)
              rw [show am_rf (h.2.2.1 14 1) = .ref 16 from congrArg am_rf (ex_r14_1 hP)]
              refine am_goX 2 (show ∃ jj nn : Nat, am_sh h 16 = some (13, nn) ∧ jj < nn ∧ (nI a5) + (Int32.ofInt (-1)) = nI jj ∧ pz_S 8 (some .int) am_r105 1 Q 154 [(5, .int ((nI a5) + (Int32.ofInt (-1)))), (7, .int (dT C k)), (0, .ref 14), (1, .int a), (2, .int b), (3, .int c), (4, .int d), (6, .int (nI k))] [.int (h.1 16 jj), .int (f ((a5 - 1) - 1)), .int (dT C k), .int (((nI a5) + (Int32.ofInt (-1))) - (Int32.ofInt 1)), .ref 16] h from ⟨(a5 - 1), 32, ex_16 hP, (by omega), (dn_d (by omega) rfl (by decide)), ?_⟩)
              rw [show h.1 16 (a5 - 1) = f (a5 - 1) from hK (a5 - 1) (by omega)]
              refine am_goX 1 (show 2 ≤ 8 ∧ h.2.2.2.2 + am_al 107 ≤ 175 ∧ am_call am_cod 1 107 [.int (dT C k), .int (f ((a5 - 1) - 1)), .int (f (a5 - 1))] h (fun vv h' => pz_S 8 (some .int) am_r105 1 Q 157 [(5, .int ((nI a5) + (Int32.ofInt (-1)))), (7, .int (dT C k)), (0, .ref 14), (1, .int a), (2, .int b), (3, .int c), (4, .int d), (6, .int (nI k))] (vv.toList ++ [.int (((nI a5) + (Int32.ofInt (-1))) - (Int32.ofInt 1)), .ref 16]) h') from ⟨by decide, ex_lim hP rfl, am_call.up (d_107_w hP ?_) (by decide)⟩)
              refine am_goX 1 (show ∃ jj nn : Nat, am_so h 16 = some (13, nn) ∧ jj < nn ∧ ((nI a5) + (Int32.ofInt (-1))) - (Int32.ofInt 1) = nI jj ∧ pz_S 8 (some .int) am_r105 1 Q 158 [(5, .int ((nI a5) + (Int32.ofInt (-1)))), (7, .int (dT C k)), (0, .ref 14), (1, .int a), (2, .int b), (3, .int c), (4, .int d), (6, .int (nI k))] [] (am_wI h 16 jj (d_107 (dT C k) (f ((a5 - 1) - 1)) (f (a5 - 1)))) from ⟨((a5 - 1) - 1), 32, ex_w16 hP, (by omega), (dn_s (by omega) (dn_d (by omega) rfl (by decide)) rfl), ?_⟩)
              have f75 : ex_P (am_wI h 16 ((a5 - 1) - 1) (d_107 (dT C k) (f ((a5 - 1) - 1)) (f (a5 - 1)))) := hP
              have f76 : c_v 6 C (am_wI h 16 ((a5 - 1) - 1) (d_107 (dT C k) (f ((a5 - 1) - 1)) (f (a5 - 1)))) := c_v_w (by omega) hT
              have f77 : lfr 16 h0 (am_wI h 16 ((a5 - 1) - 1) (d_107 (dT C k) (f ((a5 - 1) - 1)) (f (a5 - 1)))) := lfr_w hF
              have f78 : ∀ j, j < 32 → (am_wI h 16 ((a5 - 1) - 1) (d_107 (dT C k) (f ((a5 - 1) - 1)) (f (a5 - 1)))).1 16 j = (sp_uI f ((a5 - 1) - 1) (d_107 (dT C k) (f ((a5 - 1) - 1)) (f (a5 - 1)))) j := stk_w hK
              generalize am_wI h 16 ((a5 - 1) - 1) (d_107 (dT C k) (f ((a5 - 1) - 1)) (f (a5 - 1))) = h74 at f75 f76 f77 f78 ⊢
              refine am_goX 2 (show 6 < 8 ∧ pz_S 8 (some .int) am_r105 1 Q 6 [(6, .int ((nI k) + (Int32.ofInt 1))), (5, .int ((nI a5) + (Int32.ofInt (-1)))), (7, .int (dT C k)), (0, .ref 14), (1, .int a), (2, .int b), (3, .int c), (4, .int d)] [] h74 from ⟨by decide, ?_⟩)
              rw [show d_105_6 C a b c d (m + 1) k a5 f = d_105_6 C a b c d m (k + 1) (a5 - 1) (sp_uI f ((a5 - 1) - 1) (d_107 (dT C k) (f ((a5 - 1) - 1)) (f (a5 - 1)))) from (if_pos c62).trans ((if_neg c63).trans ((if_pos c71).trans ((if_neg c72).trans (if_neg c73))))] at hZ
              rw [show (nI k) + (Int32.ofInt 1) = nI (k + 1) from (dn_a rfl rfl)]
              rw [show (nI a5) + (Int32.ofInt (-1)) = nI (a5 - 1) from (dn_d (by omega) rfl (by decide))]
              exact sv_S2 sv2_105 (by intro q hq; simp only [List.mem_cons, List.not_mem_nil, or_false] at hq; rcases hq with rfl | rfl | rfl | rfl | rfl | rfl | rfl <;> rfl) (ih (k + 1) (a5 - 1) (sp_uI f ((a5 - 1) - 1) (d_107 (dT C k) (f ((a5 - 1) - 1)) (f (a5 - 1)))) _ (by omega) f75 f76 f77 f78 (by omega) hZ)
        · have c71n : ¬ (a5 ≤ 0) := fun w => absurd (show nI a5 ≤ nI 0 from (nI_leI (by omega) (by omega)).mpr w) c71
          refine am_goX 2 (show am_sh h 14 = some (3, 0) ∧ pz_S 8 (some .int) am_r105 1 Q 87 [(7, .int (dT C k)), (0, .ref 14), (1, .int a), (2, .int b), (3, .int c), (4, .int d), (5, .int (nI a5)), (6, .int (nI k))] [am_rf (h.2.2.1 14 1)] h from ⟨ex_14 hP, ?_⟩)
          rw [show am_rf (h.2.2.1 14 1) = .ref 16 from congrArg am_rf (ex_r14_1 hP)]
          refine am_goX 5 (show am_sh h 14 = some (3, 0) ∧ pz_S 8 (some .int) am_r105 1 Q 95 [(7, .int (dT C k)), (0, .ref 14), (1, .int a), (2, .int b), (3, .int c), (4, .int d), (5, .int (nI a5)), (6, .int (nI k))] [am_rf (h.2.2.1 14 1), .int ((nI a5) - (Int32.ofInt 1)), .ref 16] h from ⟨ex_14 hP, ?_⟩)
          rw [show am_rf (h.2.2.1 14 1) = .ref 16 from congrArg am_rf (ex_r14_1 hP)]
          refine am_goX 4 (show ∃ jj nn : Nat, am_sh h 16 = some (13, nn) ∧ jj < nn ∧ (nI a5) - (Int32.ofInt 1) = nI jj ∧ pz_S 8 (some .int) am_r105 1 Q 100 [(7, .int (dT C k)), (0, .ref 14), (1, .int a), (2, .int b), (3, .int c), (4, .int d), (5, .int (nI a5)), (6, .int (nI k))] [.int (h.1 16 jj), .int ((nI a5) - (Int32.ofInt 1)), .ref 16] h from ⟨(a5 - 1), 32, ex_16 hP, (by omega), (dn_s (by omega) rfl rfl), ?_⟩)
          rw [show h.1 16 (a5 - 1) = f (a5 - 1) from hK (a5 - 1) (by omega)]
          suffices key : ∀ (v80 : Int32), v80 = (if ¬ (f (a5 - 1)) = 0 then Int32.ofInt 0 else Int32.ofInt 1) → pz_S 8 (some .int) am_r105 1 Q 108 [(0, .ref 14), (1, .int a), (2, .int b), (3, .int c), (4, .int d), (5, .int (nI a5)), (6, .int (nI k))] [.int v80, .int ((nI a5) - (Int32.ofInt 1)), .ref 16] h by
            refine am_goX 1 (show (¬ (f (a5 - 1)) = 0 → pz_S 8 (some .int) am_r105 1 Q 107 [(7, .int (dT C k)), (0, .ref 14), (1, .int a), (2, .int b), (3, .int c), (4, .int d), (5, .int (nI a5)), (6, .int (nI k))] [.int ((nI a5) - (Int32.ofInt 1)), .ref 16] h) ∧ (¬ ¬ (f (a5 - 1)) = 0 → pz_S 8 (some .int) am_r105 1 Q 103 [(7, .int (dT C k)), (0, .ref 14), (1, .int a), (2, .int b), (3, .int c), (4, .int d), (5, .int (nI a5)), (6, .int (nI k))] [.int ((nI a5) - (Int32.ofInt 1)), .ref 16] h) from ⟨fun c79 => ?_, fun c79 => ?_⟩)
            · refine am_goX 1 (show pz_S 8 (some .int) am_r105 1 Q 108 [(7, .int (dT C k)), (0, .ref 14), (1, .int a), (2, .int b), (3, .int c), (4, .int d), (5, .int (nI a5)), (6, .int (nI k))] [.int (Int32.ofInt 0), .int ((nI a5) - (Int32.ofInt 1)), .ref 16] h from ?_)
              exact sv_S2 sv2_105 (by intro q hq; simp only [List.mem_cons, List.not_mem_nil, or_false] at hq; rcases hq with rfl | rfl | rfl | rfl | rfl | rfl | rfl <;> rfl) (key _ (if_pos c79).symm)
            · refine am_goX 2 (show pz_S 8 (some .int) am_r105 1 Q 108 [(7, .int (dT C k)), (0, .ref 14), (1, .int a), (2, .int b), (3, .int c), (4, .int d), (5, .int (nI a5)), (6, .int (nI k))] [.int (Int32.ofInt 1), .int ((nI a5) - (Int32.ofInt 1)), .ref 16] h from ?_)
              exact sv_S2 sv2_105 (by intro q hq; simp only [List.mem_cons, List.not_mem_nil, or_false] at hq; rcases hq with rfl | rfl | rfl | rfl | rfl | rfl | rfl <;> rfl) (key _ (if_neg c79).symm)
          intro v80 e81
          subst e81
          refine am_goX 1 (show ∃ jj nn : Nat, am_so h 16 = some (13, nn) ∧ jj < nn ∧ (nI a5) - (Int32.ofInt 1) = nI jj ∧ pz_S 8 (some .int) am_r105 1 Q 109 [(0, .ref 14), (1, .int a), (2, .int b), (3, .int c), (4, .int d), (5, .int (nI a5)), (6, .int (nI k))] [] (am_wI h 16 jj (if ¬ (f (a5 - 1)) = 0 then Int32.ofInt 0 else Int32.ofInt 1)) from ⟨(a5 - 1), 32, ex_w16 hP, (by omega), (dn_s (by omega) rfl rfl), ?_⟩)
          have f83 : ex_P (am_wI h 16 (a5 - 1) (if ¬ (f (a5 - 1)) = 0 then Int32.ofInt 0 else Int32.ofInt 1)) := hP
          have f84 : c_v 6 C (am_wI h 16 (a5 - 1) (if ¬ (f (a5 - 1)) = 0 then Int32.ofInt 0 else Int32.ofInt 1)) := c_v_w (by omega) hT
          have f85 : lfr 16 h0 (am_wI h 16 (a5 - 1) (if ¬ (f (a5 - 1)) = 0 then Int32.ofInt 0 else Int32.ofInt 1)) := lfr_w hF
          have f86 : ∀ j, j < 32 → (am_wI h 16 (a5 - 1) (if ¬ (f (a5 - 1)) = 0 then Int32.ofInt 0 else Int32.ofInt 1)).1 16 j = (sp_uI f (a5 - 1) (if ¬ (f (a5 - 1)) = 0 then Int32.ofInt 0 else Int32.ofInt 1)) j := stk_w hK
          generalize am_wI h 16 (a5 - 1) (if ¬ (f (a5 - 1)) = 0 then Int32.ofInt 0 else Int32.ofInt 1) = h82 at f83 f84 f85 f86 ⊢
          refine am_goX 3 (show 6 < 8 ∧ pz_S 8 (some .int) am_r105 1 Q 6 [(6, .int ((nI k) + (Int32.ofInt 1))), (0, .ref 14), (1, .int a), (2, .int b), (3, .int c), (4, .int d), (5, .int (nI a5))] [] h82 from ⟨by decide, ?_⟩)
          rw [show d_105_6 C a b c d (m + 1) k a5 f = d_105_6 C a b c d m (k + 1) a5 (sp_uI f (a5 - 1) (if ¬ (f (a5 - 1)) = 0 then Int32.ofInt 0 else Int32.ofInt 1)) from (if_pos c62).trans ((if_neg c63).trans (if_neg c71))] at hZ
          rw [show (nI k) + (Int32.ofInt 1) = nI (k + 1) from (dn_a rfl rfl)]
          exact sv_S2 sv2_105 (by intro q hq; simp only [List.mem_cons, List.not_mem_nil, or_false] at hq; rcases hq with rfl | rfl | rfl | rfl | rfl | rfl | rfl <;> rfl) (ih (k + 1) a5 (sp_uI f (a5 - 1) (if ¬ (f (a5 - 1)) = 0 then Int32.ofInt 0 else Int32.ofInt 1)) _ (by omega) f83 f84 f85 f86 (by omega) hZ)
    · refine am_goX 3 (show (((Int8.ofInt 32).toInt32) ≤ (nI a5) → pz_S 8 (some .int) am_r105 1 Q 71 [(7, .int (dT C k)), (0, .ref 14), (1, .int a), (2, .int b), (3, .int c), (4, .int d), (5, .int (nI a5)), (6, .int (nI k))] [] h) ∧ (¬ (((Int8.ofInt 32).toInt32) ≤ (nI a5)) → pz_S 8 (some .int) am_r105 1 Q 38 [(7, .int (dT C k)), (0, .ref 14), (1, .int a), (2, .int b), (3, .int c), (4, .int d), (5, .int (nI a5)), (6, .int (nI k))] [] h) from ⟨fun c87 => ?_, fun c87 => ?_⟩)
      · have c87n : 32 ≤ a5 := (nI_leI (by omega) (by omega)).mp (show nI 32 ≤ nI a5 from c87)
        refine am_goX 3 (show (¬ (dT C k) = ((Int8.ofInt (-5)).toInt32) → pz_S 8 (some .int) am_r105 1 Q 112 [(7, .int (dT C k)), (0, .ref 14), (1, .int a), (2, .int b), (3, .int c), (4, .int d), (5, .int (nI a5)), (6, .int (nI k))] [] h) ∧ (¬ ¬ (dT C k) = ((Int8.ofInt (-5)).toInt32) → pz_S 8 (some .int) am_r105 1 Q 78 [(7, .int (dT C k)), (0, .ref 14), (1, .int a), (2, .int b), (3, .int c), (4, .int d), (5, .int (nI a5)), (6, .int (nI k))] [] h) from ⟨fun c88 => ?_, fun c88 => ?_⟩)
        · refine am_goX 3 (show (((Int8.ofInt (-5)).toInt32) ≤ (dT C k) → pz_S 8 (some .int) am_r105 1 Q 158 [(7, .int (dT C k)), (0, .ref 14), (1, .int a), (2, .int b), (3, .int c), (4, .int d), (5, .int (nI a5)), (6, .int (nI k))] [] h) ∧ (¬ (((Int8.ofInt (-5)).toInt32) ≤ (dT C k)) → pz_S 8 (some .int) am_r105 1 Q 119 [(7, .int (dT C k)), (0, .ref 14), (1, .int a), (2, .int b), (3, .int c), (4, .int d), (5, .int (nI a5)), (6, .int (nI k))] [] h) from ⟨fun c89 => ?_, fun c89 => ?_⟩)
          · refine am_goX 2 (show 6 < 8 ∧ pz_S 8 (some .int) am_r105 1 Q 6 [(6, .int ((nI k) + (Int32.ofInt 1))), (7, .int (dT C k)), (0, .ref 14), (1, .int a), (2, .int b), (3, .int c), (4, .int d), (5, .int (nI a5))] [] h from ⟨by decide, ?_⟩)
            rw [show d_105_6 C a b c d (m + 1) k a5 f = d_105_6 C a b c d m (k + 1) a5 f from (if_neg c62).trans ((if_pos c87).trans ((if_pos c88).trans (if_pos c89)))] at hZ
            rw [show (nI k) + (Int32.ofInt 1) = nI (k + 1) from (dn_a rfl rfl)]
            exact sv_S2 sv2_105 (by intro q hq; simp only [List.mem_cons, List.not_mem_nil, or_false] at hq; rcases hq with rfl | rfl | rfl | rfl | rfl | rfl | rfl <;> rfl) (ih (k + 1) a5 f _ (by omega) hP hT hF hK (by omega) hZ)
          · refine am_goX 3 (show ((nI a5) ≤ (Int32.ofInt 1) → pz_S 8 (some .int) am_r105 1 Q 158 [(7, .int (dT C k)), (0, .ref 14), (1, .int a), (2, .int b), (3, .int c), (4, .int d), (5, .int (nI a5)), (6, .int (nI k))] [] h) ∧ (¬ ((nI a5) ≤ (Int32.ofInt 1)) → pz_S 8 (some .int) am_r105 1 Q 125 [(7, .int (dT C k)), (0, .ref 14), (1, .int a), (2, .int b), (3, .int c), (4, .int d), (5, .int (nI a5)), (6, .int (nI k))] [] h) from ⟨fun c90 => ?_, fun c90 => ?_⟩)
            · have c90n : a5 ≤ 1 := (nI_leI (by omega) (by omega)).mp (show nI a5 ≤ nI 1 from c90)
              refine am_goX 2 (show 6 < 8 ∧ pz_S 8 (some .int) am_r105 1 Q 6 [(6, .int ((nI k) + (Int32.ofInt 1))), (7, .int (dT C k)), (0, .ref 14), (1, .int a), (2, .int b), (3, .int c), (4, .int d), (5, .int (nI a5))] [] h from ⟨by decide, ?_⟩)
              rw [show d_105_6 C a b c d (m + 1) k a5 f = d_105_6 C a b c d m (k + 1) a5 f from (if_neg c62).trans ((if_pos c87).trans ((if_pos c88).trans ((if_neg c89).trans (if_pos c90))))] at hZ
              rw [show (nI k) + (Int32.ofInt 1) = nI (k + 1) from (dn_a rfl rfl)]
              exact sv_S2 sv2_105 (by intro q hq; simp only [List.mem_cons, List.not_mem_nil, or_false] at hq; rcases hq with rfl | rfl | rfl | rfl | rfl | rfl | rfl <;> rfl) (ih (k + 1) a5 f _ (by omega) hP hT hF hK (by omega) hZ)
            · have c90n : ¬ (a5 ≤ 1) := fun w => absurd (show nI a5 ≤ nI 1 from (nI_leI (by omega) (by omega)).mpr w) c90
              refine am_goX 3 (show 5 < 8 ∧ am_sh h 14 = some (3, 0) ∧ pz_S 8 (some .int) am_r105 1 Q 132 [(5, .int ((nI a5) + (Int32.ofInt (-1)))), (7, .int (dT C k)), (0, .ref 14), (1, .int a), (2, .int b), (3, .int c), (4, .int d), (6, .int (nI k))] [am_rf (h.2.2.1 14 1)] h from ⟨by decide, ex_14 hP, ?_⟩)
              rw [show am_rf (h.2.2.1 14 1) = .ref 16 from congrArg am_rf (ex_r14_1 hP)]
              refine am_goX 6 (show am_sh h 14 = some (3, 0) ∧ pz_S 8 (some .int) am_r105 1 Q 142 [(5, .int ((nI a5) + (Int32.ofInt (-1)))), (7, .int (dT C k)), (0, .ref 14), (1, .int a), (2, .int b), (3, .int c), (4, .int d), (6, .int (nI k))] [am_rf (h.2.2.1 14 1), .int (dT C k), .int (((nI a5) + (Int32.ofInt (-1))) - (Int32.ofInt 1)), .ref 16] h from ⟨ex_14 hP, ?_⟩)
              rw [show am_rf (h.2.2.1 14 1) = .ref 16 from congrArg am_rf (ex_r14_1 hP)]
              refine am_goX 4 (show ∃ jj nn : Nat, am_sh h 16 = some (13, nn) ∧ jj < nn ∧ ((nI a5) + (Int32.ofInt (-1))) - (Int32.ofInt 1) = nI jj ∧ pz_S 8 (some .int) am_r105 1 Q 147 [(5, .int ((nI a5) + (Int32.ofInt (-1)))), (7, .int (dT C k)), (0, .ref 14), (1, .int a), (2, .int b), (3, .int c), (4, .int d), (6, .int (nI k))] [.int (h.1 16 jj), .int (dT C k), .int (((nI a5) + (Int32.ofInt (-1))) - (Int32.ofInt 1)), .ref 16] h from ⟨((a5 - 1) - 1), 32, ex_16 hP, (by omega), (dn_s (by omega) (dn_d (by omega) rfl (by decide)) rfl), ?_⟩)
              rw [show h.1 16 ((a5 - 1) - 1) = f ((a5 - 1) - 1) from hK ((a5 - 1) - 1) (by omega)]
              refine am_goX 2 (show am_sh h 14 = some (3, 0) ∧ pz_S 8 (some .int) am_r105 1 Q 151 [(5, .int ((nI a5) + (Int32.ofInt (-1)))), (7, .int (dT C k)), (0, .ref 14), (1, .int a), (2, .int b), (3, .int c), (4, .int d), (6, .int (nI k))] [am_rf (h.2.2.1 14 1), .int (f ((a5 - 1) - 1)), .int (dT C k), .int (((nI a5) + (Int32.ofInt (-1))) - (Int32.ofInt 1)), .ref 16] h from ⟨ex_14 hP, ?_⟩)
              rw [show am_rf (h.2.2.1 14 1) = .ref 16 from congrArg am_rf (ex_r14_1 hP)]
              refine am_goX 2 (show ∃ jj nn : Nat, am_sh h 16 = some (13, nn) ∧ jj < nn ∧ (nI a5) + (Int32.ofInt (-1)) = nI jj ∧ pz_S 8 (some .int) am_r105 1 Q 154 [(5, .int ((nI a5) + (Int32.ofInt (-1)))), (7, .int (dT C k)), (0, .ref 14), (1, .int a), (2, .int b), (3, .int c), (4, .int d), (6, .int (nI k))] [.int (h.1 16 jj), .int (f ((a5 - 1) - 1)), .int (dT C k), .int (((nI a5) + (Int32.ofInt (-1))) - (Int32.ofInt 1)), .ref 16] h from ⟨(a5 - 1), 32, ex_16 hP, (by omega), (dn_d (by omega) rfl (by decide)), ?_⟩)
              rw [show h.1 16 (a5 - 1) = f (a5 - 1) from hK (a5 - 1) (by omega)]
              refine am_goX 1 (show 2 ≤ 8 ∧ h.2.2.2.2 + am_al 107 ≤ 175 ∧ am_call am_cod 1 107 [.int (dT C k), .int (f ((a5 - 1) - 1)), .int (f (a5 - 1))] h (fun vv h' => pz_S 8 (some .int) am_r105 1 Q 157 [(5, .int ((nI a5) + (Int32.ofInt (-1)))), (7, .int (dT C k)), (0, .ref 14), (1, .int a), (2, .int b), (3, .int c), (4, .int d), (6, .int (nI k))] (vv.toList ++ [.int (((nI a5) + (Int32.ofInt (-1))) - (Int32.ofInt 1)), .ref 16]) h') from ⟨by decide, ex_lim hP rfl, am_call.up (d_107_w hP ?_) (by decide)⟩)
              refine am_goX 1 (show ∃ jj nn : Nat, am_so h 16 = some (13, nn) ∧ jj < nn ∧ ((nI a5) + (Int32.ofInt (-1))) - (Int32.ofInt 1) = nI jj ∧ pz_S 8 (some .int) am_r105 1 Q 158 [(5, .int ((nI a5) + (Int32.ofInt (-1)))), (7, .int (dT C k)), (0, .ref 14), (1, .int a), (2, .int b), (3, .int c), (4, .int d), (6, .int (nI k))] [] (am_wI h 16 jj (d_107 (dT C k) (f ((a5 - 1) - 1)) (f (a5 - 1)))) from ⟨((a5 - 1) - 1), 32, ex_w16 hP, (by omega), (dn_s (by omega) (dn_d (by omega) rfl (by decide)) rfl), ?_⟩)
              have f92 : ex_P (am_wI h 16 ((a5 - 1) - 1) (d_107 (dT C k) (f ((a5 - 1) - 1)) (f (a5 - 1)))) := hP
              have f93 : c_v 6 C (am_wI h 16 ((a5 - 1) - 1) (d_107 (dT C k) (f ((a5 - 1) - 1)) (f (a5 - 1)))) := c_v_w (by omega) hT
              have f94 : lfr 16 h0 (am_wI h 16 ((a5 - 1) - 1) (d_107 (dT C k) (f ((a5 - 1) - 1)) (f (a5 - 1)))) := lfr_w hF
              have f95 : ∀ j, j < 32 → (am_wI h 16 ((a5 - 1) - 1) (d_107 (dT C k) (f ((a5 - 1) - 1)) (f (a5 - 1)))).1 16 j = (sp_uI f ((a5 - 1) - 1) (d_107 (dT C k) (f ((a5 - 1) - 1)) (f (a5 - 1)))) j := stk_w hK
              generalize am_wI h 16 ((a5 - 1) - 1) (d_107 (dT C k) (f ((a5 - 1) - 1)) (f (a5 - 1))) = h91 at f92 f93 f94 f95 ⊢
              refine am_goX 2 (show 6 < 8 ∧ pz_S 8 (some .int) am_r105 1 Q 6 [(6, .int ((nI k) + (Int32.ofInt 1))), (5, .int ((nI a5) + (Int32.ofInt (-1)))), (7, .int (dT C k)), (0, .ref 14), (1, .int a), (2, .int b), (3, .int c), (4, .int d)] [] h91 from ⟨by decide, ?_⟩)
              rw [show d_105_6 C a b c d (m + 1) k a5 f = d_105_6 C a b c d m (k + 1) (a5 - 1) (sp_uI f ((a5 - 1) - 1) (d_107 (dT C k) (f ((a5 - 1) - 1)) (f (a5 - 1)))) from (if_neg c62).trans ((if_pos c87).trans ((if_pos c88).trans ((if_neg c89).trans (if_neg c90))))] at hZ
              rw [show (nI k) + (Int32.ofInt 1) = nI (k + 1) from (dn_a rfl rfl)]
              rw [show (nI a5) + (Int32.ofInt (-1)) = nI (a5 - 1) from (dn_d (by omega) rfl (by decide))]
              exact sv_S2 sv2_105 (by intro q hq; simp only [List.mem_cons, List.not_mem_nil, or_false] at hq; rcases hq with rfl | rfl | rfl | rfl | rfl | rfl | rfl <;> rfl) (ih (k + 1) (a5 - 1) (sp_uI f ((a5 - 1) - 1) (d_107 (dT C k) (f ((a5 - 1) - 1)) (f (a5 - 1)))) _ (by omega) f92 f93 f94 f95 (by omega) hZ)
        · refine am_goX 2 (show ((nI a5) ≤ 0 → pz_S 8 (some .int) am_r105 1 Q 112 [(7, .int (dT C k)), (0, .ref 14), (1, .int a), (2, .int b), (3, .int c), (4, .int d), (5, .int (nI a5)), (6, .int (nI k))] [] h) ∧ (¬ ((nI a5) ≤ 0) → pz_S 8 (some .int) am_r105 1 Q 83 [(7, .int (dT C k)), (0, .ref 14), (1, .int a), (2, .int b), (3, .int c), (4, .int d), (5, .int (nI a5)), (6, .int (nI k))] [] h) from ⟨fun c96 => ?_, fun c96 => ?_⟩)
          · have c96n : a5 ≤ 0 := (nI_leI (by omega) (by omega)).mp (show nI a5 ≤ nI 0 from c96)
            refine am_goX 3 (show (((Int8.ofInt (-5)).toInt32) ≤ (dT C k) → pz_S 8 (some .int) am_r105 1 Q 158 [(7, .int (dT C k)), (0, .ref 14), (1, .int a), (2, .int b), (3, .int c), (4, .int d), (5, .int (nI a5)), (6, .int (nI k))] [] h) ∧ (¬ (((Int8.ofInt (-5)).toInt32) ≤ (dT C k)) → pz_S 8 (some .int) am_r105 1 Q 119 [(7, .int (dT C k)), (0, .ref 14), (1, .int a), (2, .int b), (3, .int c), (4, .int d), (5, .int (nI a5)), (6, .int (nI k))] [] h) from ⟨fun c97 => ?_, fun c97 => ?_⟩)
            · refine am_goX 2 (show 6 < 8 ∧ pz_S 8 (some .int) am_r105 1 Q 6 [(6, .int ((nI k) + (Int32.ofInt 1))), (7, .int (dT C k)), (0, .ref 14), (1, .int a), (2, .int b), (3, .int c), (4, .int d), (5, .int (nI a5))] [] h from ⟨by decide, ?_⟩)
              rw [show d_105_6 C a b c d (m + 1) k a5 f = d_105_6 C a b c d m (k + 1) a5 f from (if_neg c62).trans ((if_pos c87).trans ((if_neg c88).trans ((if_pos c96).trans (if_pos c97))))] at hZ
              rw [show (nI k) + (Int32.ofInt 1) = nI (k + 1) from (dn_a rfl rfl)]
              exact sv_S2 sv2_105 (by intro q hq; simp only [List.mem_cons, List.not_mem_nil, or_false] at hq; rcases hq with rfl | rfl | rfl | rfl | rfl | rfl | rfl <;> rfl) (ih (k + 1) a5 f _ (by omega) hP hT hF hK (by omega) hZ)
            · refine am_goX 3 (show ((nI a5) ≤ (Int32.ofInt 1) → pz_S 8 (some .int) am_r105 1 Q 158 [(7, .int (dT C k)), (0, .ref 14), (1, .int a), (2, .int b), (3, .int c), (4, .int d), (5, .int (nI a5)), (6, .int (nI k))] [] h) ∧ (¬ ((nI a5) ≤ (Int32.ofInt 1)) → pz_S 8 (some .int) am_r105 1 Q 125 [(7, .int (dT C k)), (0, .ref 14), (1, .int a), (2, .int b), (3, .int c), (4, .int d), (5, .int (nI a5)), (6, .int (nI k))] [] h) from ⟨fun c98 => ?_, fun c98 => ?_⟩)
              · have c98n : a5 ≤ 1 := (nI_leI (by omega) (by omega)).mp (show nI a5 ≤ nI 1 from c98)
                refine am_goX 2 (show 6 < 8 ∧ pz_S 8 (some .int) am_r105 1 Q 6 [(6, .int ((nI k) + (Int32.ofInt 1))), (7, .int (dT C k)), (0, .ref 14), (1, .int a), (2, .int b), (3, .int c), (4, .int d), (5, .int (nI a5))] [] h from ⟨by decide, ?_⟩)
                rw [show d_105_6 C a b c d (m + 1) k a5 f = d_105_6 C a b c d m (k + 1) a5 f from (if_neg c62).trans ((if_pos c87).trans ((if_neg c88).trans ((if_pos c96).trans ((if_neg c97).trans (if_pos c98)))))] at hZ
                rw [show (nI k) + (Int32.ofInt 1) = nI (k + 1) from (dn_a rfl rfl)]
                exact sv_S2 sv2_105 (by intro q hq; simp only [List.mem_cons, List.not_mem_nil, or_false] at hq; rcases hq with rfl | rfl | rfl | rfl | rfl | rfl | rfl <;> rfl) (ih (k + 1) a5 f _ (by omega) hP hT hF hK (by omega) hZ)
              · have c98n : ¬ (a5 ≤ 1) := fun w => absurd (show nI a5 ≤ nI 1 from (nI_leI (by omega) (by omega)).mpr w) c98
                refine am_goX 3 (show 5 < 8 ∧ am_sh h 14 = some (3, 0) ∧ pz_S 8 (some .int) am_r105 1 Q 132 [(5, .int ((nI a5) + (Int32.ofInt (-1)))), (7, .int (dT C k)), (0, .ref 14), (1, .int a), (2, .int b), (3, .int c), (4, .int d), (6, .int (nI k))] [am_rf (h.2.2.1 14 1)] h from ⟨by decide, ex_14 hP, ?_⟩)
                rw [show am_rf (h.2.2.1 14 1) = .ref 16 from congrArg am_rf (ex_r14_1 hP)]
                refine am_goX 6 (show am_sh h 14 = some (3, 0) ∧ pz_S 8 (some .int) am_r105 1 Q 142 [(5, .int ((nI a5) + (Int32.ofInt (-1)))), (7, .int (dT C k)), (0, .ref 14), (1, .int a), (2, .int b), (3, .int c), (4, .int d), (6, .int (nI k))] [am_rf (h.2.2.1 14 1), .int (dT C k), .int (((nI a5) + (Int32.ofInt (-1))) - (Int32.ofInt 1)), .ref 16] h from ⟨ex_14 hP, ?_⟩)
                rw [show am_rf (h.2.2.1 14 1) = .ref 16 from congrArg am_rf (ex_r14_1 hP)]
                refine am_goX 4 (show ∃ jj nn : Nat, am_sh h 16 = some (13, nn) ∧ jj < nn ∧ ((nI a5) + (Int32.ofInt (-1))) - (Int32.ofInt 1) = nI jj ∧ pz_S 8 (some .int) am_r105 1 Q 147 [(5, .int ((nI a5) + (Int32.ofInt (-1)))), (7, .int (dT C k)), (0, .ref 14), (1, .int a), (2, .int b), (3, .int c), (4, .int d), (6, .int (nI k))] [.int (h.1 16 jj), .int (dT C k), .int (((nI a5) + (Int32.ofInt (-1))) - (Int32.ofInt 1)), .ref 16] h from ⟨((a5 - 1) - 1), 32, ex_16 hP, (by omega), (dn_s (by omega) (dn_d (by omega) rfl (by decide)) rfl), ?_⟩)
                rw [show h.1 16 ((a5 - 1) - 1) = f ((a5 - 1) - 1) from hK ((a5 - 1) - 1) (by omega)]
                refine am_goX 2 (show am_sh h 14 = some (3, 0) ∧ pz_S 8 (some .int) am_r105 1 Q 151 [(5, .int ((nI a5) + (Int32.ofInt (-1)))), (7, .int (dT C k)), (0, .ref 14), (1, .int a), (2, .int b), (3, .int c), (4, .int d), (6, .int (nI k))] [am_rf (h.2.2.1 14 1), .int (f ((a5 - 1) - 1)), .int (dT C k), .int (((nI a5) + (Int32.ofInt (-1))) - (Int32.ofInt 1)), .ref 16] h from ⟨ex_14 hP, ?_⟩)
                rw [show am_rf (h.2.2.1 14 1) = .ref 16 from congrArg am_rf (ex_r14_1 hP)]
                refine am_goX 2 (show ∃ jj nn : Nat, am_sh h 16 = some (13, nn) ∧ jj < nn ∧ (nI a5) + (Int32.ofInt (-1)) = nI jj ∧ pz_S 8 (some .int) am_r105 1 Q 154 [(5, .int ((nI a5) + (Int32.ofInt (-1)))), (7, .int (dT C k)), (0, .ref 14), (1, .int a), (2, .int b), (3, .int c), (4, .int d), (6, .int (nI k))] [.int (h.1 16 jj), .int (f ((a5 - 1) - 1)), .int (dT C k), .int (((nI a5) + (Int32.ofInt (-1))) - (Int32.ofInt 1)), .ref 16] h from ⟨(a5 - 1), 32, ex_16 hP, (by omega), (dn_d (by omega) rfl (by decide)), ?_⟩)
                rw [show h.1 16 (a5 - 1) = f (a5 - 1) from hK (a5 - 1) (by omega)]
                refine am_goX 1 (show 2 ≤ 8 ∧ h.2.2.2.2 + am_al 107 ≤ 175 ∧ am_call am_cod 1 107 [.int (dT C k), .int (f ((a5 - 1) - 1)), .int (f (a5 - 1))] h (fun vv h' => pz_S 8 (some .int) am_r105 1 Q 157 [(5, .int ((nI a5) + (Int32.ofInt (-1)))), (7, .int (dT C k)), (0, .ref 14), (1, .int a), (2, .int b), (3, .int c), (4, .int d), (6, .int (nI k))] (vv.toList ++ [.int (((nI a5) + (Int32.ofInt (-1))) - (Int32.ofInt 1)), .ref 16]) h') from ⟨by decide, ex_lim hP rfl, am_call.up (d_107_w hP ?_) (by decide)⟩)
                refine am_goX 1 (show ∃ jj nn : Nat, am_so h 16 = some (13, nn) ∧ jj < nn ∧ ((nI a5) + (Int32.ofInt (-1))) - (Int32.ofInt 1) = nI jj ∧ pz_S 8 (some .int) am_r105 1 Q 158 [(5, .int ((nI a5) + (Int32.ofInt (-1)))), (7, .int (dT C k)), (0, .ref 14), (1, .int a), (2, .int b), (3, .int c), (4, .int d), (6, .int (nI k))] [] (am_wI h 16 jj (d_107 (dT C k) (f ((a5 - 1) - 1)) (f (a5 - 1)))) from ⟨((a5 - 1) - 1), 32, ex_w16 hP, (by omega), (dn_s (by omega) (dn_d (by omega) rfl (by decide)) rfl), ?_⟩)
                have f100 : ex_P (am_wI h 16 ((a5 - 1) - 1) (d_107 (dT C k) (f ((a5 - 1) - 1)) (f (a5 - 1)))) := hP
                have f101 : c_v 6 C (am_wI h 16 ((a5 - 1) - 1) (d_107 (dT C k) (f ((a5 - 1) - 1)) (f (a5 - 1)))) := c_v_w (by omega) hT
                have f102 : lfr 16 h0 (am_wI h 16 ((a5 - 1) - 1) (d_107 (dT C k) (f ((a5 - 1) - 1)) (f (a5 - 1)))) := lfr_w hF
                have f103 : ∀ j, j < 32 → (am_wI h 16 ((a5 - 1) - 1) (d_107 (dT C k) (f ((a5 - 1) - 1)) (f (a5 - 1)))).1 16 j = (sp_uI f ((a5 - 1) - 1) (d_107 (dT C k) (f ((a5 - 1) - 1)) (f (a5 - 1)))) j := stk_w hK
                generalize am_wI h 16 ((a5 - 1) - 1) (d_107 (dT C k) (f ((a5 - 1) - 1)) (f (a5 - 1))) = h99 at f100 f101 f102 f103 ⊢
                refine am_goX 2 (show 6 < 8 ∧ pz_S 8 (some .int) am_r105 1 Q 6 [(6, .int ((nI k) + (Int32.ofInt 1))), (5, .int ((nI a5) + (Int32.ofInt (-1)))), (7, .int (dT C k)), (0, .ref 14), (1, .int a), (2, .int b), (3, .int c), (4, .int d)] [] h99 from ⟨by decide, ?_⟩)
                rw [show d_105_6 C a b c d (m + 1) k a5 f = d_105_6 C a b c d m (k + 1) (a5 - 1) (sp_uI f ((a5 - 1) - 1) (d_107 (dT C k) (f ((a5 - 1) - 1)) (f (a5 - 1)))) from (if_neg c62).trans ((if_pos c87).trans ((if_neg c88).trans ((if_pos c96).trans ((if_neg c97).trans (if_neg c98)))))] at hZ
                rw [show (nI k) + (Int32.ofInt 1) = nI (k + 1) from (dn_a rfl rfl)]
                rw [show (nI a5) + (Int32.ofInt (-1)) = nI (a5 - 1) from (dn_d (by omega) rfl (by decide))]
                exact sv_S2 sv2_105 (by intro q hq; simp only [List.mem_cons, List.not_mem_nil, or_false] at hq; rcases hq with rfl | rfl | rfl | rfl | rfl | rfl | rfl <;> rfl) (ih (k + 1) (a5 - 1) (sp_uI f ((a5 - 1) - 1) (d_107 (dT C k) (f ((a5 - 1) - 1)) (f (a5 - 1)))) _ (by omega) f100 f101 f102 f103 (by omega) hZ)
          · have c96n : ¬ (a5 ≤ 0) := fun w => absurd (show nI a5 ≤ nI 0 from (nI_leI (by omega) (by omega)).mpr w) c96
            refine am_goX 2 (show am_sh h 14 = some (3, 0) ∧ pz_S 8 (some .int) am_r105 1 Q 87 [(7, .int (dT C k)), (0, .ref 14), (1, .int a), (2, .int b), (3, .int c), (4, .int d), (5, .int (nI a5)), (6, .int (nI k))] [am_rf (h.2.2.1 14 1)] h from ⟨ex_14 hP, ?_⟩)
            rw [show am_rf (h.2.2.1 14 1) = .ref 16 from congrArg am_rf (ex_r14_1 hP)]
            refine am_goX 5 (show am_sh h 14 = some (3, 0) ∧ pz_S 8 (some .int) am_r105 1 Q 95 [(7, .int (dT C k)), (0, .ref 14), (1, .int a), (2, .int b), (3, .int c), (4, .int d), (5, .int (nI a5)), (6, .int (nI k))] [am_rf (h.2.2.1 14 1), .int ((nI a5) - (Int32.ofInt 1)), .ref 16] h from ⟨ex_14 hP, ?_⟩)
            rw [show am_rf (h.2.2.1 14 1) = .ref 16 from congrArg am_rf (ex_r14_1 hP)]
            refine am_goX 4 (show ∃ jj nn : Nat, am_sh h 16 = some (13, nn) ∧ jj < nn ∧ (nI a5) - (Int32.ofInt 1) = nI jj ∧ pz_S 8 (some .int) am_r105 1 Q 100 [(7, .int (dT C k)), (0, .ref 14), (1, .int a), (2, .int b), (3, .int c), (4, .int d), (5, .int (nI a5)), (6, .int (nI k))] [.int (h.1 16 jj), .int ((nI a5) - (Int32.ofInt 1)), .ref 16] h from ⟨(a5 - 1), 32, ex_16 hP, (by omega), (dn_s (by omega) rfl rfl), ?_⟩)
            rw [show h.1 16 (a5 - 1) = f (a5 - 1) from hK (a5 - 1) (by omega)]
            suffices key : ∀ (v105 : Int32), v105 = (if ¬ (f (a5 - 1)) = 0 then Int32.ofInt 0 else Int32.ofInt 1) → pz_S 8 (some .int) am_r105 1 Q 108 [(0, .ref 14), (1, .int a), (2, .int b), (3, .int c), (4, .int d), (5, .int (nI a5)), (6, .int (nI k))] [.int v105, .int ((nI a5) - (Int32.ofInt 1)), .ref 16] h by
              refine am_goX 1 (show (¬ (f (a5 - 1)) = 0 → pz_S 8 (some .int) am_r105 1 Q 107 [(7, .int (dT C k)), (0, .ref 14), (1, .int a), (2, .int b), (3, .int c), (4, .int d), (5, .int (nI a5)), (6, .int (nI k))] [.int ((nI a5) - (Int32.ofInt 1)), .ref 16] h) ∧ (¬ ¬ (f (a5 - 1)) = 0 → pz_S 8 (some .int) am_r105 1 Q 103 [(7, .int (dT C k)), (0, .ref 14), (1, .int a), (2, .int b), (3, .int c), (4, .int d), (5, .int (nI a5)), (6, .int (nI k))] [.int ((nI a5) - (Int32.ofInt 1)), .ref 16] h) from ⟨fun c104 => ?_, fun c104 => ?_⟩)
              · refine am_goX 1 (show pz_S 8 (some .int) am_r105 1 Q 108 [(7, .int (dT C k)), (0, .ref 14), (1, .int a), (2, .int b), (3, .int c), (4, .int d), (5, .int (nI a5)), (6, .int (nI k))] [.int (Int32.ofInt 0), .int ((nI a5) - (Int32.ofInt 1)), .ref 16] h from ?_)
                exact sv_S2 sv2_105 (by intro q hq; simp only [List.mem_cons, List.not_mem_nil, or_false] at hq; rcases hq with rfl | rfl | rfl | rfl | rfl | rfl | rfl <;> rfl) (key _ (if_pos c104).symm)
              · refine am_goX 2 (show pz_S 8 (some .int) am_r105 1 Q 108 [(7, .int (dT C k)), (0, .ref 14), (1, .int a), (2, .int b), (3, .int c), (4, .int d), (5, .int (nI a5)), (6, .int (nI k))] [.int (Int32.ofInt 1), .int ((nI a5) - (Int32.ofInt 1)), .ref 16] h from ?_)
                exact sv_S2 sv2_105 (by intro q hq; simp only [List.mem_cons, List.not_mem_nil, or_false] at hq; rcases hq with rfl | rfl | rfl | rfl | rfl | rfl | rfl <;> rfl) (key _ (if_neg c104).symm)
            intro v105 e106
            subst e106
            refine am_goX 1 (show ∃ jj nn : Nat, am_so h 16 = some (13, nn) ∧ jj < nn ∧ (nI a5) - (Int32.ofInt 1) = nI jj ∧ pz_S 8 (some .int) am_r105 1 Q 109 [(0, .ref 14), (1, .int a), (2, .int b), (3, .int c), (4, .int d), (5, .int (nI a5)), (6, .int (nI k))] [] (am_wI h 16 jj (if ¬ (f (a5 - 1)) = 0 then Int32.ofInt 0 else Int32.ofInt 1)) from ⟨(a5 - 1), 32, ex_w16 hP, (by omega), (dn_s (by omega) rfl rfl), ?_⟩)
            have f108 : ex_P (am_wI h 16 (a5 - 1) (if ¬ (f (a5 - 1)) = 0 then Int32.ofInt 0 else Int32.ofInt 1)) := hP
            have f109 : c_v 6 C (am_wI h 16 (a5 - 1) (if ¬ (f (a5 - 1)) = 0 then Int32.ofInt 0 else Int32.ofInt 1)) := c_v_w (by omega) hT
            have f110 : lfr 16 h0 (am_wI h 16 (a5 - 1) (if ¬ (f (a5 - 1)) = 0 then Int32.ofInt 0 else Int32.ofInt 1)) := lfr_w hF
            have f111 : ∀ j, j < 32 → (am_wI h 16 (a5 - 1) (if ¬ (f (a5 - 1)) = 0 then Int32.ofInt 0 else Int32.ofInt 1)).1 16 j = (sp_uI f (a5 - 1) (if ¬ (f (a5 - 1)) = 0 then Int32.ofInt 0 else Int32.ofInt 1)) j := stk_w hK
            generalize am_wI h 16 (a5 - 1) (if ¬ (f (a5 - 1)) = 0 then Int32.ofInt 0 else Int32.ofInt 1) = h107 at f108 f109 f110 f111 ⊢
            refine am_goX 3 (show 6 < 8 ∧ pz_S 8 (some .int) am_r105 1 Q 6 [(6, .int ((nI k) + (Int32.ofInt 1))), (0, .ref 14), (1, .int a), (2, .int b), (3, .int c), (4, .int d), (5, .int (nI a5))] [] h107 from ⟨by decide, ?_⟩)
            rw [show d_105_6 C a b c d (m + 1) k a5 f = d_105_6 C a b c d m (k + 1) a5 (sp_uI f (a5 - 1) (if ¬ (f (a5 - 1)) = 0 then Int32.ofInt 0 else Int32.ofInt 1)) from (if_neg c62).trans ((if_pos c87).trans ((if_neg c88).trans (if_neg c96)))] at hZ
            rw [show (nI k) + (Int32.ofInt 1) = nI (k + 1) from (dn_a rfl rfl)]
            exact sv_S2 sv2_105 (by intro q hq; simp only [List.mem_cons, List.not_mem_nil, or_false] at hq; rcases hq with rfl | rfl | rfl | rfl | rfl | rfl | rfl <;> rfl) (ih (k + 1) a5 (sp_uI f (a5 - 1) (if ¬ (f (a5 - 1)) = 0 then Int32.ofInt 0 else Int32.ofInt 1)) _ (by omega) f108 f109 f110 f111 (by omega) hZ)
      · have c87n : ¬ (32 ≤ a5) := fun w => absurd (show nI 32 ≤ nI a5 from (nI_leI (by omega) (by omega)).mpr w) c87
        refine am_goX 2 (show am_sh h 14 = some (3, 0) ∧ pz_S 8 (some .int) am_r105 1 Q 42 [(7, .int (dT C k)), (0, .ref 14), (1, .int a), (2, .int b), (3, .int c), (4, .int d), (5, .int (nI a5)), (6, .int (nI k))] [am_rf (h.2.2.1 14 1)] h from ⟨ex_14 hP, ?_⟩)
        rw [show am_rf (h.2.2.1 14 1) = .ref 16 from congrArg am_rf (ex_r14_1 hP)]
        suffices key : ∀ (v113 : Int32), v113 = (if (dT C k) < 0 then d_106 (dT C k) a b c d else dT C k) → pz_S 8 (some .int) am_r105 1 Q 64 [(0, .ref 14), (1, .int a), (2, .int b), (3, .int c), (4, .int d), (5, .int (nI a5)), (6, .int (nI k))] [.int v113, .int (nI a5), .ref 16] h by
          refine am_goX 3 (show ((dT C k) < 0 → pz_S 8 (some .int) am_r105 1 Q 54 [(7, .int (dT C k)), (0, .ref 14), (1, .int a), (2, .int b), (3, .int c), (4, .int d), (5, .int (nI a5)), (6, .int (nI k))] [.int (nI a5), .ref 16] h) ∧ (¬ ((dT C k) < 0) → pz_S 8 (some .int) am_r105 1 Q 49 [(7, .int (dT C k)), (0, .ref 14), (1, .int a), (2, .int b), (3, .int c), (4, .int d), (5, .int (nI a5)), (6, .int (nI k))] [.int (nI a5), .ref 16] h) from ⟨fun c112 => ?_, fun c112 => ?_⟩)
          · refine am_goX 6 (show 2 ≤ 8 ∧ h.2.2.2.2 + am_al 106 ≤ 175 ∧ am_call am_cod 1 106 [.int (dT C k), .int a, .int b, .int c, .int d] h (fun vv h' => pz_S 8 (some .int) am_r105 1 Q 64 [(7, .int (dT C k)), (0, .ref 14), (1, .int a), (2, .int b), (3, .int c), (4, .int d), (5, .int (nI a5)), (6, .int (nI k))] (vv.toList ++ [.int (nI a5), .ref 16]) h') from ⟨by decide, ex_lim hP rfl, am_call.up (d_106_w hP ?_) (by decide)⟩)
            exact sv_S2 sv2_105 (by intro q hq; simp only [List.mem_cons, List.not_mem_nil, or_false] at hq; rcases hq with rfl | rfl | rfl | rfl | rfl | rfl | rfl <;> rfl) (key _ (if_pos c112).symm)
          · refine am_goX 2 (show pz_S 8 (some .int) am_r105 1 Q 64 [(7, .int (dT C k)), (0, .ref 14), (1, .int a), (2, .int b), (3, .int c), (4, .int d), (5, .int (nI a5)), (6, .int (nI k))] [.int (dT C k), .int (nI a5), .ref 16] h from ?_)
            exact sv_S2 sv2_105 (by intro q hq; simp only [List.mem_cons, List.not_mem_nil, or_false] at hq; rcases hq with rfl | rfl | rfl | rfl | rfl | rfl | rfl <;> rfl) (key _ (if_neg c112).symm)
        intro v113 e114
        subst e114
        refine am_goX 1 (show ∃ jj nn : Nat, am_so h 16 = some (13, nn) ∧ jj < nn ∧ nI a5 = nI jj ∧ pz_S 8 (some .int) am_r105 1 Q 65 [(0, .ref 14), (1, .int a), (2, .int b), (3, .int c), (4, .int d), (5, .int (nI a5)), (6, .int (nI k))] [] (am_wI h 16 jj (if (dT C k) < 0 then d_106 (dT C k) a b c d else dT C k)) from ⟨a5, 32, ex_w16 hP, (by omega), rfl, ?_⟩)
        have f116 : ex_P (am_wI h 16 a5 (if (dT C k) < 0 then d_106 (dT C k) a b c d else dT C k)) := hP
        have f117 : c_v 6 C (am_wI h 16 a5 (if (dT C k) < 0 then d_106 (dT C k) a b c d else dT C k)) := c_v_w (by omega) hT
        have f118 : lfr 16 h0 (am_wI h 16 a5 (if (dT C k) < 0 then d_106 (dT C k) a b c d else dT C k)) := lfr_w hF
        have f119 : ∀ j, j < 32 → (am_wI h 16 a5 (if (dT C k) < 0 then d_106 (dT C k) a b c d else dT C k)).1 16 j = (sp_uI f a5 (if (dT C k) < 0 then d_106 (dT C k) a b c d else dT C k)) j := stk_w hK
        generalize am_wI h 16 a5 (if (dT C k) < 0 then d_106 (dT C k) a b c d else dT C k) = h115 at f116 f117 f118 f119 ⊢
        refine am_goX 4 (show 5 < 8 ∧ 6 < 8 ∧ pz_S 8 (some .int) am_r105 1 Q 6 [(6, .int ((nI k) + (Int32.ofInt 1))), (5, .int ((nI a5) + (Int32.ofInt 1))), (0, .ref 14), (1, .int a), (2, .int b), (3, .int c), (4, .int d)] [] h115 from ⟨by decide, by decide, ?_⟩)
        rw [show d_105_6 C a b c d (m + 1) k a5 f = d_105_6 C a b c d m (k + 1) (a5 + 1) (sp_uI f a5 (if (dT C k) < 0 then d_106 (dT C k) a b c d else dT C k)) from (if_neg c62).trans (if_neg c87)] at hZ
        rw [show (nI k) + (Int32.ofInt 1) = nI (k + 1) from (dn_a rfl rfl)]
        rw [show (nI a5) + (Int32.ofInt 1) = nI (a5 + 1) from (dn_a rfl rfl)]
        exact sv_S2 sv2_105 (by intro q hq; simp only [List.mem_cons, List.not_mem_nil, or_false] at hq; rcases hq with rfl | rfl | rfl | rfl | rfl | rfl | rfl <;> rfl) (ih (k + 1) (a5 + 1) (sp_uI f a5 (if (dT C k) < 0 then d_106 (dT C k) a b c d else dT C k)) _ (by omega) f116 f117 f118 f119 (by omega) hZ)
def d_105_f (C : sp_C) (a b c d : Int32) (f : Nat → Int32) : Nat → Int32 := (d_105_6 C a b c d (dM C) 0 0 f).2
def d_105 (C : sp_C) (a b c d : Int32) (f : Nat → Int32) : Int32 := (if (nI ((d_105_6 C a b c d (dM C) 0 0 f).1)) ≤ 0 then Int32.ofInt 1 else ((d_105_6 C a b c d (dM C) 0 0 f).2) 0)
theorem d_105_l6 (hP : ex_P h) (hT : c_v 6 C h) (hF : lfr 16 h0 h) (hK : ∀ j, j < 32 → h.1 16 j = f j)  (hQ : ∀ h1, (ex_P h1) → (c_v 6 C h1) → (lfr 16 h0 h1) → (∀ j, j < 32 → h1.1 16 j = (d_105_f C a b c d f) j) → Q (some (.int (d_105 C a b c d f))) h1) : am_call am_cod 2 105 [.ref 14, .int a, .int b, .int c, .int d] h Q := by
  have hM := hT.2.2.2.2.1
  refine pz_call (n := 105) (nL := 8) (rt := (some .int)) (rows := am_r105) (d := 1) (by decide +kernel) (by decide +kernel) rfl (by funext pc; rfl) (ex_175 hP) (by exact Nat.le_of_ble_eq_true rfl) ?_
  refine am_goX 4 (show 5 < 8 ∧ 6 < 8 ∧ pz_S 8 (some .int) am_r105 1 Q 6 [(6, .int (Int32.ofInt 0)), (5, .int (Int32.ofInt 0)), (0, .ref 14), (1, .int a), (2, .int b), (3, .int c), (4, .int d)] [] h from ⟨by decide, by decide, ?_⟩)
  refine sv_S2 sv2_105 (by intro q hq; simp only [List.mem_cons, List.not_mem_nil, or_false] at hq; rcases hq with rfl | rfl | rfl | rfl | rfl | rfl | rfl <;> rfl) (d_105_6_l6 (dM C) 0 0 f _ (by omega) hP hT hF hK (by omega) (fun h120 f121 f122 f123 f124 i125 => ?_))
  suffices key : ∀ (v127 : Int32), v127 = (if (nI ((d_105_6 C a b c d (dM C) 0 0 f).1)) ≤ 0 then Int32.ofInt 1 else ((d_105_6 C a b c d (dM C) 0 0 f).2) 0) → pz_S 8 (some .int) am_r105 1 Q 179 [] [.int v127] h120 by
    refine am_goX 2 (show ((nI ((d_105_6 C a b c d (dM C) 0 0 f).1)) ≤ 0 → pz_S 8 (some .int) am_r105 1 Q 178 [(0, .ref 14), (5, .int (nI ((d_105_6 C a b c d (dM C) 0 0 f).1)))] [] h120) ∧ (¬ ((nI ((d_105_6 C a b c d (dM C) 0 0 f).1)) ≤ 0) → pz_S 8 (some .int) am_r105 1 Q 169 [(0, .ref 14), (5, .int (nI ((d_105_6 C a b c d (dM C) 0 0 f).1)))] [] h120) from ⟨fun c126 => ?_, fun c126 => ?_⟩)
    · have c126n : (d_105_6 C a b c d (dM C) 0 0 f).1 ≤ 0 := (nI_leI (by omega) (by omega)).mp (show nI ((d_105_6 C a b c d (dM C) 0 0 f).1) ≤ nI 0 from c126)
      refine am_goX 1 (show pz_S 8 (some .int) am_r105 1 Q 179 [(0, .ref 14), (5, .int (nI ((d_105_6 C a b c d (dM C) 0 0 f).1)))] [.int (Int32.ofInt 1)] h120 from ?_)
      exact sv_S2 sv2_105 (fun q hq => absurd hq List.not_mem_nil) (key _ (if_pos c126).symm)
    · have c126n : ¬ ((d_105_6 C a b c d (dM C) 0 0 f).1 ≤ 0) := fun w => absurd (show nI ((d_105_6 C a b c d (dM C) 0 0 f).1) ≤ nI 0 from (nI_leI (by omega) (by omega)).mpr w) c126
      refine am_goX 2 (show am_sh h120 14 = some (3, 0) ∧ pz_S 8 (some .int) am_r105 1 Q 173 [(0, .ref 14), (5, .int (nI ((d_105_6 C a b c d (dM C) 0 0 f).1)))] [am_rf (h120.2.2.1 14 1)] h120 from ⟨ex_14 f121, ?_⟩)
      rw [show am_rf (h120.2.2.1 14 1) = .ref 16 from congrArg am_rf (ex_r14_1 f121)]
      refine am_goX 2 (show ∃ jj nn : Nat, am_sh h120 16 = some (13, nn) ∧ jj < nn ∧ Int32.ofInt 0 = nI jj ∧ pz_S 8 (some .int) am_r105 1 Q 175 [(0, .ref 14), (5, .int (nI ((d_105_6 C a b c d (dM C) 0 0 f).1)))] [.int (h120.1 16 jj)] h120 from ⟨0, 32, ex_16 f121, (by omega), rfl, ?_⟩)
      rw [show h120.1 16 0 = ((d_105_6 C a b c d (dM C) 0 0 f).2) 0 from f124 0 (by omega)]
      refine am_goX 1 (show pz_S 8 (some .int) am_r105 1 Q 179 [(0, .ref 14), (5, .int (nI ((d_105_6 C a b c d (dM C) 0 0 f).1)))] [.int (((d_105_6 C a b c d (dM C) 0 0 f).2) 0)] h120 from ?_)
      exact sv_S2 sv2_105 (fun q hq => absurd hq List.not_mem_nil) (key _ (if_neg c126).symm)
  intro v127 e128
  subst e128
  exact am_goX 1 (show (∃ ty, (some .int) = some ty ∧ narrow ty (.int (if (nI ((d_105_6 C a b c d (dM C) 0 0 f).1)) ≤ 0 then Int32.ofInt 1 else ((d_105_6 C a b c d (dM C) 0 0 f).2) 0)) = .int (if (nI ((d_105_6 C a b c d (dM C) 0 0 f).1)) ≤ 0 then Int32.ofInt 1 else ((d_105_6 C a b c d (dM C) 0 0 f).2) 0)) ∧ h120.2.2.2.2 = 175 ∧ _ from ⟨⟨.int, rfl, rfl⟩, ex_175 f121, hQ _ f121 f122 f123 f124⟩)
theorem d_68_t17 (hP : ex_P h) (hT : c_v 17 C h)  (hQ : Q (some (.int (d_68 C x))) h) : am_call am_cod 2 68 [.ref 17, .int x] h Q := by
  have h6 := hT.1.2.1
  have h5 := hT.2.1.2.1
  refine pz_call (n := 68) (nL := 2) (rt := (some .boolean)) (rows := am_r68) (d := 1) (by decide +kernel) (by decide +kernel) rfl (by funext pc; rfl) (ex_175 hP) (by exact Nat.le_of_ble_eq_true rfl) ?_
  refine am_goX 2 (show am_sh h 17 = some (0, 0) ∧ pz_S 2 (some .boolean) am_r68 1 Q 4 [(0, .ref 17), (1, .int x)] [.int (h.1 17 10)] h from ⟨ex_17 hP, ?_⟩)
  rw [show h.1 17 10 = dO C from hT.2.2.1.1]
  refine am_goX 4 (show ¬ ((Int8.ofInt 28).toInt32) = 0 ∧ 0 ≤ 8 ∧ h.2.2.2.2 + am_al 65 ≤ 175 ∧ am_call am_cod 1 65 [.int (dO C), .int (x - x / ((Int8.ofInt 28).toInt32) * ((Int8.ofInt 28).toInt32))] h (fun vv h' => pz_S 2 (some .boolean) am_r68 1 Q 11 [(0, .ref 17), (1, .int x)] (vv.toList ++ []) h') from ⟨by decide, by decide, ex_lim hP rfl, am_call.up (d_65_w hP ?_) (by decide)⟩)
  exact am_goX 1 (show (∃ ty, (some .boolean) = some ty ∧ narrow ty (.int (d_65 (dO C) (x - x / ((Int8.ofInt 28).toInt32) * ((Int8.ofInt 28).toInt32)))) = .int (d_65 (dO C) (x - x / ((Int8.ofInt 28).toInt32) * ((Int8.ofInt 28).toInt32)))) ∧ h.2.2.2.2 = 175 ∧ _ from ⟨⟨.boolean, rfl, d_65_n _ _⟩, ex_175 hP, hQ⟩)
theorem d_102_5_w17 (hP : ex_P h) (hT : c_v 17 C h) (hD : c_d 17 C h) (hp : p < dP C) : ∀ (m k : Nat) (a3 : Int32), k + m = dE C → (pz_S 5 (some .int) am_r102 1 Q 61 [(3, .int (d_102_5 C p y m k a3))] [] h) → pz_S 5 (some .int) am_r102 1 Q 5 [(0, .ref 17), (1, .int (nI p)), (2, .int y), (3, .int a3), (4, .int (nI k))] [] h := by
  intro m
  induction m with
  | zero =>
    intro k a3 hk hZ
    have h6 := hT.1.2.1
    have h5 := hT.2.1.2.1
    refine am_goX 3 (show am_sh h 17 = some (0, 0) ∧ pz_S 5 (some .int) am_r102 1 Q 11 [(0, .ref 17), (1, .int (nI p)), (2, .int y), (3, .int a3), (4, .int (nI k))] [.int (h.1 17 4), .int (nI k)] h from ⟨ex_17 hP, ?_⟩)
    rw [show h.1 17 4 = nI (dE C) from hT.2.1.1]
    refine am_goX 1 (show ((nI (dE C)) ≤ (nI k) → pz_S 5 (some .int) am_r102 1 Q 61 [(0, .ref 17), (1, .int (nI p)), (2, .int y), (3, .int a3), (4, .int (nI k))] [] h) ∧ (¬ ((nI (dE C)) ≤ (nI k)) → pz_S 5 (some .int) am_r102 1 Q 14 [(0, .ref 17), (1, .int (nI p)), (2, .int y), (3, .int a3), (4, .int (nI k))] [] h) from ⟨fun _ => ?_, fun hz => absurd (show nI (dE C) ≤ nI k from nI_le (by omega) (by omega)) hz⟩)
    exact sv_S2 sv2_102 (by intro q hq; simp only [List.mem_cons, List.not_mem_nil, or_false] at hq; rcases hq with rfl <;> rfl) (hZ)
  | succ m ih =>
    intro k a3 hk hZ
    have h6 := hT.1.2.1
    have h5 := hT.2.1.2.1
    refine am_goX 3 (show am_sh h 17 = some (0, 0) ∧ pz_S 5 (some .int) am_r102 1 Q 11 [(0, .ref 17), (1, .int (nI p)), (2, .int y), (3, .int a3), (4, .int (nI k))] [.int (h.1 17 4), .int (nI k)] h from ⟨ex_17 hP, ?_⟩)
    rw [show h.1 17 4 = nI (dE C) from hT.2.1.1]
    refine am_goX 1 (show ((nI (dE C)) ≤ (nI k) → pz_S 5 (some .int) am_r102 1 Q 61 [(0, .ref 17), (1, .int (nI p)), (2, .int y), (3, .int a3), (4, .int (nI k))] [] h) ∧ (¬ ((nI (dE C)) ≤ (nI k)) → pz_S 5 (some .int) am_r102 1 Q 14 [(0, .ref 17), (1, .int (nI p)), (2, .int y), (3, .int a3), (4, .int (nI k))] [] h) from ⟨fun hz => absurd hz (show ¬ (nI (dE C) ≤ nI k) by rw [nI_leI (by omega) (by omega)]; omega), fun _ => ?_⟩)
    refine am_goX 2 (show am_sh h 17 = some (0, 0) ∧ pz_S 5 (some .int) am_r102 1 Q 18 [(0, .ref 17), (1, .int (nI p)), (2, .int y), (3, .int a3), (4, .int (nI k))] [am_rf (h.2.2.1 17 8)] h from ⟨ex_17 hP, ?_⟩)
    rw [show am_rf (h.2.2.1 17 8) = .ref 24 from congrArg am_rf (ex_r17_8 hP)]
    refine am_goX 2 (show ∃ jj nn : Nat, am_sh h 24 = some (13, nn) ∧ jj < nn ∧ nI k = nI jj ∧ pz_S 5 (some .int) am_r102 1 Q 21 [(0, .ref 17), (1, .int (nI p)), (2, .int y), (3, .int a3), (4, .int (nI k))] [.int (h.1 24 jj)] h from ⟨k, 5, ex_24 hP, (by omega), rfl, ?_⟩)
    rw [show h.1 24 k = dG C k from (hT.2.1.2.2 k (by omega)).2]
    refine am_goX 2 (show 0 ≤ 8 ∧ h.2.2.2.2 + am_al 65 ≤ 175 ∧ am_call am_cod 1 65 [.int (dG C k), .int (nI p)] h (fun vv h' => pz_S 5 (some .int) am_r102 1 Q 25 [(0, .ref 17), (1, .int (nI p)), (2, .int y), (3, .int a3), (4, .int (nI k))] (vv.toList ++ []) h') from ⟨by decide, ex_lim hP rfl, am_call.up (d_65_w hP ?_) (by decide)⟩)
    suffices key : ∀ (v130 : Int32), v130 = (if (d_65 (dG C k) (nI p)) = 0 then a3 else (if (d_103 (dK C p) (dW C k) y) = 0 then a3 else a3 ||| ((Int32.ofInt 1) <<< ((nI k) &&& 31)))) → pz_S 5 (some .int) am_r102 1 Q 55 [(0, .ref 17), (1, .int (nI p)), (2, .int y), (3, .int v130), (4, .int (nI k))] [] h by
      refine am_goX 1 (show ((d_65 (dG C k) (nI p)) = 0 → pz_S 5 (some .int) am_r102 1 Q 55 [(0, .ref 17), (1, .int (nI p)), (2, .int y), (3, .int a3), (4, .int (nI k))] [] h) ∧ (¬ ((d_65 (dG C k) (nI p)) = 0) → pz_S 5 (some .int) am_r102 1 Q 28 [(0, .ref 17), (1, .int (nI p)), (2, .int y), (3, .int a3), (4, .int (nI k))] [] h) from ⟨fun c129 => ?_, fun c129 => ?_⟩)
      · exact sv_S2 sv2_102 (by intro q hq; simp only [List.mem_cons, List.not_mem_nil, or_false] at hq; rcases hq with rfl | rfl | rfl | rfl | rfl <;> rfl) (key _ (if_pos c129).symm)
      · refine am_goX 2 (show am_sh h 17 = some (0, 0) ∧ pz_S 5 (some .int) am_r102 1 Q 32 [(0, .ref 17), (1, .int (nI p)), (2, .int y), (3, .int a3), (4, .int (nI k))] [am_rf (h.2.2.1 17 2)] h from ⟨ex_17 hP, ?_⟩)
        rw [show am_rf (h.2.2.1 17 2) = .ref 19 from congrArg am_rf (ex_r17_2 hP)]
        refine am_goX 2 (show ∃ jj nn : Nat, am_sh h 19 = some (13, nn) ∧ jj < nn ∧ nI p = nI jj ∧ pz_S 5 (some .int) am_r102 1 Q 34 [(0, .ref 17), (1, .int (nI p)), (2, .int y), (3, .int a3), (4, .int (nI k))] [.int (h.1 19 jj)] h from ⟨p, 6, ex_19 hP, (by omega), rfl, ?_⟩)
        rw [show h.1 19 p = dK C p from (hT.1.2.2 p (by omega)).1]
        refine am_goX 2 (show am_sh h 17 = some (0, 0) ∧ pz_S 5 (some .int) am_r102 1 Q 38 [(0, .ref 17), (1, .int (nI p)), (2, .int y), (3, .int a3), (4, .int (nI k))] [am_rf (h.2.2.1 17 6), .int (dK C p)] h from ⟨ex_17 hP, ?_⟩)
        rw [show am_rf (h.2.2.1 17 6) = .ref 22 from congrArg am_rf (ex_r17_6 hP)]
        refine am_goX 2 (show ∃ jj nn : Nat, am_sh h 22 = some (13, nn) ∧ jj < nn ∧ nI k = nI jj ∧ pz_S 5 (some .int) am_r102 1 Q 41 [(0, .ref 17), (1, .int (nI p)), (2, .int y), (3, .int a3), (4, .int (nI k))] [.int (h.1 22 jj), .int (dK C p)] h from ⟨k, 5, ex_22 hP, (by omega), rfl, ?_⟩)
        rw [show h.1 22 k = dW C k from hD k (by omega)]
        refine am_goX 2 (show 0 ≤ 8 ∧ h.2.2.2.2 + am_al 103 ≤ 175 ∧ am_call am_cod 1 103 [.int (dK C p), .int (dW C k), .int y] h (fun vv h' => pz_S 5 (some .int) am_r102 1 Q 45 [(0, .ref 17), (1, .int (nI p)), (2, .int y), (3, .int a3), (4, .int (nI k))] (vv.toList ++ []) h') from ⟨by decide, ex_lim hP rfl, am_call.up (d_103_w hP ?_) (by decide)⟩)
        suffices key : ∀ (v132 : Int32), v132 = (if (d_103 (dK C p) (dW C k) y) = 0 then a3 else a3 ||| ((Int32.ofInt 1) <<< ((nI k) &&& 31))) → pz_S 5 (some .int) am_r102 1 Q 55 [(0, .ref 17), (1, .int (nI p)), (2, .int y), (3, .int v132), (4, .int (nI k))] [] h by
          refine am_goX 1 (show ((d_103 (dK C p) (dW C k) y) = 0 → pz_S 5 (some .int) am_r102 1 Q 55 [(0, .ref 17), (1, .int (nI p)), (2, .int y), (3, .int a3), (4, .int (nI k))] [] h) ∧ (¬ ((d_103 (dK C p) (dW C k) y) = 0) → pz_S 5 (some .int) am_r102 1 Q 48 [(0, .ref 17), (1, .int (nI p)), (2, .int y), (3, .int a3), (4, .int (nI k))] [] h) from ⟨fun c131 => ?_, fun c131 => ?_⟩)
          · exact sv_S2 sv2_102 (by intro q hq; simp only [List.mem_cons, List.not_mem_nil, or_false] at hq; rcases hq with rfl | rfl | rfl | rfl | rfl <;> rfl) (key _ (if_pos c131).symm)
          · refine am_goX 6 (show 3 < 5 ∧ pz_S 5 (some .int) am_r102 1 Q 55 [(3, .int (a3 ||| ((Int32.ofInt 1) <<< ((nI k) &&& 31)))), (0, .ref 17), (1, .int (nI p)), (2, .int y), (4, .int (nI k))] [] h from ⟨by decide, ?_⟩)
            exact sv_S2 sv2_102 (by intro q hq; simp only [List.mem_cons, List.not_mem_nil, or_false] at hq; rcases hq with rfl | rfl | rfl | rfl | rfl <;> rfl) (key _ (if_neg c131).symm)
        intro v132 e133
        subst e133
        exact sv_S2 sv2_102 (by intro q hq; simp only [List.mem_cons, List.not_mem_nil, or_false] at hq; rcases hq with rfl | rfl | rfl | rfl | rfl <;> rfl) (key _ (if_neg c129).symm)
    intro v130 e134
    subst e134
    refine am_goX 2 (show 4 < 5 ∧ pz_S 5 (some .int) am_r102 1 Q 5 [(4, .int ((nI k) + (Int32.ofInt 1))), (0, .ref 17), (1, .int (nI p)), (2, .int y), (3, .int (if (d_65 (dG C k) (nI p)) = 0 then a3 else (if (d_103 (dK C p) (dW C k) y) = 0 then a3 else a3 ||| ((Int32.ofInt 1) <<< ((nI k) &&& 31)))))] [] h from ⟨by decide, ?_⟩)
    rw [show (nI k) + (Int32.ofInt 1) = nI (k + 1) from (dn_a rfl rfl)]
    exact sv_S2 sv2_102 (by intro q hq; simp only [List.mem_cons, List.not_mem_nil, or_false] at hq; rcases hq with rfl | rfl | rfl | rfl | rfl <;> rfl) (ih (k + 1) (if (d_65 (dG C k) (nI p)) = 0 then a3 else (if (d_103 (dK C p) (dW C k) y) = 0 then a3 else a3 ||| ((Int32.ofInt 1) <<< ((nI k) &&& 31)))) (by omega) hZ)
theorem d_102_w17 (hP : ex_P h) (hT : c_v 17 C h) (hD : c_d 17 C h) (hp : p < dP C) (hQ : Q (some (.int (d_102 C p y))) h) : am_call am_cod 2 102 [.ref 17, .int (nI p), .int y] h Q := by
  have h6 := hT.1.2.1
  have h5 := hT.2.1.2.1
  refine pz_call (n := 102) (nL := 5) (rt := (some .int)) (rows := am_r102) (d := 1) (by decide +kernel) (by decide +kernel) rfl (by funext pc; rfl) (ex_175 hP) (by exact Nat.le_of_ble_eq_true rfl) ?_
  refine am_goX 4 (show 3 < 5 ∧ 4 < 5 ∧ pz_S 5 (some .int) am_r102 1 Q 5 [(4, .int (Int32.ofInt 0)), (3, .int (Int32.ofInt 0)), (0, .ref 17), (1, .int (nI p)), (2, .int y)] [] h from ⟨by decide, by decide, ?_⟩)
  refine sv_S2 sv2_102 (by intro q hq; simp only [List.mem_cons, List.not_mem_nil, or_false] at hq; rcases hq with rfl | rfl | rfl | rfl | rfl <;> rfl) (d_102_5_w17 hP hT hD hp (dE C) 0 (Int32.ofInt 0) (by omega) ?_)
  exact am_goX 2 (show (∃ ty, (some .int) = some ty ∧ narrow ty (.int (d_102_5 C p y (dE C) 0 (Int32.ofInt 0))) = .int (d_102_5 C p y (dE C) 0 (Int32.ofInt 0))) ∧ h.2.2.2.2 = 175 ∧ _ from ⟨⟨.int, rfl, rfl⟩, ex_175 hP, hQ⟩)
theorem d_105_6_l17 : ∀ (m k : Nat) (a5 : Nat) (f : (Nat → Int32)) (h : am_H), k + m = dM C → (ex_P h) → (c_v 17 C h) → (lfr 27 h0 h) → (∀ j, j < 32 → h.1 27 j = f j) → (a5 ≤ 32) → (∀ h1, (ex_P h1) → (c_v 17 C h1) → (lfr 27 h0 h1) → (∀ j, j < 32 → h1.1 27 j = ((d_105_6 C a b c d m k a5 f).2) j) → ((d_105_6 C a b c d m k a5 f).1 ≤ 32) → pz_S 8 (some .int) am_r105 1 Q 164 [(0, .ref 25), (5, .int (nI ((d_105_6 C a b c d m k a5 f).1)))] [] h1) → pz_S 8 (some .int) am_r105 1 Q 6 [(0, .ref 25), (1, .int a), (2, .int b), (3, .int c), (4, .int d), (5, .int (nI a5)), (6, .int (nI k))] [] h := by
  intro m
  induction m with
  | zero =>
    intro k a5 f h hk hP hT hF hK hn hZ
    have hM := hT.2.2.2.2.1
    refine am_goX 3 (show am_sh h 25 = some (3, 0) ∧ pz_S 8 (some .int) am_r105 1 Q 12 [(0, .ref 25), (1, .int a), (2, .int b), (3, .int c), (4, .int d), (5, .int (nI a5)), (6, .int (nI k))] [.int (h.1 25 2), .int (nI k)] h from ⟨ex_25 hP, ?_⟩)
    rw [show h.1 25 2 = nI (dM C) from hT.2.2.2.1]
    refine am_goX 1 (show ((nI (dM C)) ≤ (nI k) → pz_S 8 (some .int) am_r105 1 Q 164 [(0, .ref 25), (1, .int a), (2, .int b), (3, .int c), (4, .int d), (5, .int (nI a5)), (6, .int (nI k))] [] h) ∧ (¬ ((nI (dM C)) ≤ (nI k)) → pz_S 8 (some .int) am_r105 1 Q 15 [(0, .ref 25), (1, .int a), (2, .int b), (3, .int c), (4, .int d), (5, .int (nI a5)), (6, .int (nI k))] [] h) from ⟨fun _ => ?_, fun hz => absurd (show nI (dM C) ≤ nI k from nI_le (by omega) (by omega)) hz⟩)
    exact sv_S2 sv2_105 (by intro q hq; simp only [List.mem_cons, List.not_mem_nil, or_false] at hq; rcases hq with rfl | rfl <;> rfl) (hZ _ hP hT hF hK hn)
  | succ m ih =>
    intro k a5 f h hk hP hT hF hK hn hZ
    have hM := hT.2.2.2.2.1
    refine am_goX 3 (show am_sh h 25 = some (3, 0) ∧ pz_S 8 (some .int) am_r105 1 Q 12 [(0, .ref 25), (1, .int a), (2, .int b), (3, .int c), (4, .int d), (5, .int (nI a5)), (6, .int (nI k))] [.int (h.1 25 2), .int (nI k)] h from ⟨ex_25 hP, ?_⟩)
    rw [show h.1 25 2 = nI (dM C) from hT.2.2.2.1]
    refine am_goX 1 (show ((nI (dM C)) ≤ (nI k) → pz_S 8 (some .int) am_r105 1 Q 164 [(0, .ref 25), (1, .int a), (2, .int b), (3, .int c), (4, .int d), (5, .int (nI a5)), (6, .int (nI k))] [] h) ∧ (¬ ((nI (dM C)) ≤ (nI k)) → pz_S 8 (some .int) am_r105 1 Q 15 [(0, .ref 25), (1, .int a), (2, .int b), (3, .int c), (4, .int d), (5, .int (nI a5)), (6, .int (nI k))] [] h) from ⟨fun hz => absurd hz (show ¬ (nI (dM C) ≤ nI k) by rw [nI_leI (by omega) (by omega)]; omega), fun _ => ?_⟩)
    refine am_goX 2 (show am_sh h 25 = some (3, 0) ∧ pz_S 8 (some .int) am_r105 1 Q 19 [(0, .ref 25), (1, .int a), (2, .int b), (3, .int c), (4, .int d), (5, .int (nI a5)), (6, .int (nI k))] [am_rf (h.2.2.1 25 0)] h from ⟨ex_25 hP, ?_⟩)
    rw [show am_rf (h.2.2.1 25 0) = .ref 26 from congrArg am_rf (ex_r25_0 hP)]
    refine am_goX 2 (show ∃ jj nn : Nat, am_sh h 26 = some (13, nn) ∧ jj < nn ∧ nI k = nI jj ∧ pz_S 8 (some .int) am_r105 1 Q 22 [(0, .ref 25), (1, .int a), (2, .int b), (3, .int c), (4, .int d), (5, .int (nI a5)), (6, .int (nI k))] [.int (h.1 26 jj)] h from ⟨k, 1000, ex_26 hP, (by omega), rfl, ?_⟩)
    rw [show h.1 26 k = dT C k from hT.2.2.2.2.2 k (by omega)]
    refine am_goX 4 (show 7 < 8 ∧ ((dT C k) < ((Int8.ofInt (-4)).toInt32) → pz_S 8 (some .int) am_r105 1 Q 71 [(7, .int (dT C k)), (0, .ref 25), (1, .int a), (2, .int b), (3, .int c), (4, .int d), (5, .int (nI a5)), (6, .int (nI k))] [] h) ∧ (¬ ((dT C k) < ((Int8.ofInt (-4)).toInt32)) → pz_S 8 (some .int) am_r105 1 Q 31 [(7, .int (dT C k)), (0, .ref 25), (1, .int a), (2, .int b), (3, .int c), (4, .int d), (5, .int (nI a5)), (6, .int (nI k))] [] h) from ⟨by decide, fun c135 => ?_, fun c135 => ?_⟩)
    · refine am_goX 3 (show (¬ (dT C k) = ((Int8.ofInt (-5)).toInt32) → pz_S 8 (some .int) am_r105 1 Q 112 [(7, .int (dT C k)), (0, .ref 25), (1, .int a), (2, .int b), (3, .int c), (4, .int d), (5, .int (nI a5)), (6, .int (nI k))] [] h) ∧ (¬ ¬ (dT C k) = ((Int8.ofInt (-5)).toInt32) → pz_S 8 (some .int) am_r105 1 Q 78 [(7, .int (dT C k)), (0, .ref 25), (1, .int a), (2, .int b), (3, .int c), (4, .int d), (5, .int (nI a5)), (6, .int (nI k))] [] h) from ⟨fun c136 => ?_, fun c136 => ?_⟩)
      · refine am_goX 3 (show (((Int8.ofInt (-5)).toInt32) ≤ (dT C k) → pz_S 8 (some .int) am_r105 1 Q 158 [(7, .int (dT C k)), (0, .ref 25), (1, .int a), (2, .int b), (3, .int c), (4, .int d), (5, .int (nI a5)), (6, .int (nI k))] [] h) ∧ (¬ (((Int8.ofInt (-5)).toInt32) ≤ (dT C k)) → pz_S 8 (some .int) am_r105 1 Q 119 [(7, .int (dT C k)), (0, .ref 25), (1, .int a), (2, .int b), (3, .int c), (4, .int d), (5, .int (nI a5)), (6, .int (nI k))] [] h) from ⟨fun c137 => ?_, fun c137 => ?_⟩)
        · refine am_goX 2 (show 6 < 8 ∧ pz_S 8 (some .int) am_r105 1 Q 6 [(6, .int ((nI k) + (Int32.ofInt 1))), (7, .int (dT C k)), (0, .ref 25), (1, .int a), (2, .int b), (3, .int c), (4, .int d), (5, .int (nI a5))] [] h from ⟨by decide, ?_⟩)
          rw [show d_105_6 C a b c d (m + 1) k a5 f = d_105_6 C a b c d m (k + 1) a5 f from (if_pos c135).trans ((if_pos c136).trans (if_pos c137))] at hZ
          rw [show (nI k) + (Int32.ofInt 1) = nI (k + 1) from (dn_a rfl rfl)]
          exact sv_S2 sv2_105 (by intro q hq; simp only [List.mem_cons, List.not_mem_nil, or_false] at hq; rcases hq with rfl | rfl | rfl | rfl | rfl | rfl | rfl <;> rfl) (ih (k + 1) a5 f _ (by omega) hP hT hF hK (by omega) hZ)
        · refine am_goX 3 (show ((nI a5) ≤ (Int32.ofInt 1) → pz_S 8 (some .int) am_r105 1 Q 158 [(7, .int (dT C k)), (0, .ref 25), (1, .int a), (2, .int b), (3, .int c), (4, .int d), (5, .int (nI a5)), (6, .int (nI k))] [] h) ∧ (¬ ((nI a5) ≤ (Int32.ofInt 1)) → pz_S 8 (some .int) am_r105 1 Q 125 [(7, .int (dT C k)), (0, .ref 25), (1, .int a), (2, .int b), (3, .int c), (4, .int d), (5, .int (nI a5)), (6, .int (nI k))] [] h) from ⟨fun c138 => ?_, fun c138 => ?_⟩)
          · have c138n : a5 ≤ 1 := (nI_leI (by omega) (by omega)).mp (show nI a5 ≤ nI 1 from c138)
            refine am_goX 2 (show 6 < 8 ∧ pz_S 8 (some .int) am_r105 1 Q 6 [(6, .int ((nI k) + (Int32.ofInt 1))), (7, .int (dT C k)), (0, .ref 25), (1, .int a), (2, .int b), (3, .int c), (4, .int d), (5, .int (nI a5))] [] h from ⟨by decide, ?_⟩)
            rw [show d_105_6 C a b c d (m + 1) k a5 f = d_105_6 C a b c d m (k + 1) a5 f from (if_pos c135).trans ((if_pos c136).trans ((if_neg c137).trans (if_pos c138)))] at hZ
            rw [show (nI k) + (Int32.ofInt 1) = nI (k + 1) from (dn_a rfl rfl)]
            exact sv_S2 sv2_105 (by intro q hq; simp only [List.mem_cons, List.not_mem_nil, or_false] at hq; rcases hq with rfl | rfl | rfl | rfl | rfl | rfl | rfl <;> rfl) (ih (k + 1) a5 f _ (by omega) hP hT hF hK (by omega) hZ)
          · have c138n : ¬ (a5 ≤ 1) := fun w => absurd (show nI a5 ≤ nI 1 from (nI_leI (by omega) (by omega)).mpr w) c138
            refine am_goX 3 (show 5 < 8 ∧ am_sh h 25 = some (3, 0) ∧ pz_S 8 (some .int) am_r105 1 Q 132 [(5, .int ((nI a5) + (Int32.ofInt (-1)))), (7, .int (dT C k)), (0, .ref 25), (1, .int a), (2, .int b), (3, .int c), (4, .int d), (6, .int (nI k))] [am_rf (h.2.2.1 25 1)] h from ⟨by decide, ex_25 hP, ?_⟩)
            rw [show am_rf (h.2.2.1 25 1) = .ref 27 from congrArg am_rf (ex_r25_1 hP)]
            refine am_goX 6 (show am_sh h 25 = some (3, 0) ∧ pz_S 8 (some .int) am_r105 1 Q 142 [(5, .int ((nI a5) + (Int32.ofInt (-1)))), (7, .int (dT C k)), (0, .ref 25), (1, .int a), (2, .int b), (3, .int c), (4, .int d), (6, .int (nI k))] [am_rf (h.2.2.1 25 1), .int (dT C k), .int (((nI a5) + (Int32.ofInt (-1))) - (Int32.ofInt 1)), .ref 27] h from ⟨ex_25 hP, ?_⟩)
            rw [show am_rf (h.2.2.1 25 1) = .ref 27 from congrArg am_rf (ex_r25_1 hP)]
            refine am_goX 4 (show ∃ jj nn : Nat, am_sh h 27 = some (13, nn) ∧ jj < nn ∧ ((nI a5) + (Int32.ofInt (-1))) - (Int32.ofInt 1) = nI jj ∧ pz_S 8 (some .int) am_r105 1 Q 147 [(5, .int ((nI a5) + (Int32.ofInt (-1)))), (7, .int (dT C k)), (0, .ref 25), (1, .int a), (2, .int b), (3, .int c), (4, .int d), (6, .int (nI k))] [.int (h.1 27 jj), .int (dT C k), .int (((nI a5) + (Int32.ofInt (-1))) - (Int32.ofInt 1)), .ref 27] h from ⟨((a5 - 1) - 1), 32, ex_27 hP, (by omega), (dn_s (by omega) (dn_d (by omega) rfl (by decide)) rfl), ?_⟩)
            rw [show h.1 27 ((a5 - 1) - 1) = f ((a5 - 1) - 1) from hK ((a5 - 1) - 1) (by omega)]
            refine am_goX 2 (show am_sh h 25 = some (3, 0) ∧ pz_S 8 (some .int) am_r105 1 Q 151 [(5, .int ((nI a5) + (Int32.ofInt (-1)))), (7, .int (dT C k)), (0, .ref 25), (1, .int a), (2, .int b), (3, .int c), (4, .int d), (6, .int (nI k))] [am_rf (h.2.2.1 25 1), .int (f ((a5 - 1) - 1)), .int (dT C k), .int (((nI a5) + (Int32.ofInt (-1))) - (Int32.ofInt 1)), .ref 27] h from ⟨ex_25 hP, ?_⟩)
            rw [show am_rf (h.2.2.1 25 1) = .ref 27 from congrArg am_rf (ex_r25_1 hP)]
            refine am_goX 2 (show ∃ jj nn : Nat, am_sh h 27 = some (13, nn) ∧ jj < nn ∧ (nI a5) + (Int32.ofInt (-1)) = nI jj ∧ pz_S 8 (some .int) am_r105 1 Q 154 [(5, .int ((nI a5) + (Int32.ofInt (-1)))), (7, .int (dT C k)), (0, .ref 25), (1, .int a), (2, .int b), (3, .int c), (4, .int d), (6, .int (nI k))] [.int (h.1 27 jj), .int (f ((a5 - 1) - 1)), .int (dT C k), .int (((nI a5) + (Int32.ofInt (-1))) - (Int32.ofInt 1)), .ref 27] h from ⟨(a5 - 1), 32, ex_27 hP, (by omega), (dn_d (by omega) rfl (by decide)), ?_⟩)
            rw [show h.1 27 (a5 - 1) = f (a5 - 1) from hK (a5 - 1) (by omega)]
            refine am_goX 1 (show 2 ≤ 8 ∧ h.2.2.2.2 + am_al 107 ≤ 175 ∧ am_call am_cod 1 107 [.int (dT C k), .int (f ((a5 - 1) - 1)), .int (f (a5 - 1))] h (fun vv h' => pz_S 8 (some .int) am_r105 1 Q 157 [(5, .int ((nI a5) + (Int32.ofInt (-1)))), (7, .int (dT C k)), (0, .ref 25), (1, .int a), (2, .int b), (3, .int c), (4, .int d), (6, .int (nI k))] (vv.toList ++ [.int (((nI a5) + (Int32.ofInt (-1))) - (Int32.ofInt 1)), .ref 27]) h') from ⟨by decide, ex_lim hP rfl, am_call.up (d_107_w hP ?_) (by decide)⟩)
            refine am_goX 1 (show ∃ jj nn : Nat, am_so h 27 = some (13, nn) ∧ jj < nn ∧ ((nI a5) + (Int32.ofInt (-1))) - (Int32.ofInt 1) = nI jj ∧ pz_S 8 (some .int) am_r105 1 Q 158 [(5, .int ((nI a5) + (Int32.ofInt (-1)))), (7, .int (dT C k)), (0, .ref 25), (1, .int a), (2, .int b), (3, .int c), (4, .int d), (6, .int (nI k))] [] (am_wI h 27 jj (d_107 (dT C k) (f ((a5 - 1) - 1)) (f (a5 - 1)))) from ⟨((a5 - 1) - 1), 32, ex_w27 hP, (by omega), (dn_s (by omega) (dn_d (by omega) rfl (by decide)) rfl), ?_⟩)
            have f140 : ex_P (am_wI h 27 ((a5 - 1) - 1) (d_107 (dT C k) (f ((a5 - 1) - 1)) (f (a5 - 1)))) := hP
            have f141 : c_v 17 C (am_wI h 27 ((a5 - 1) - 1) (d_107 (dT C k) (f ((a5 - 1) - 1)) (f (a5 - 1)))) := c_v_w (by omega) hT
            have f142 : lfr 27 h0 (am_wI h 27 ((a5 - 1) - 1) (d_107 (dT C k) (f ((a5 - 1) - 1)) (f (a5 - 1)))) := lfr_w hF
            have f143 : ∀ j, j < 32 → (am_wI h 27 ((a5 - 1) - 1) (d_107 (dT C k) (f ((a5 - 1) - 1)) (f (a5 - 1)))).1 27 j = (sp_uI f ((a5 - 1) - 1) (d_107 (dT C k) (f ((a5 - 1) - 1)) (f (a5 - 1)))) j := stk_w hK
            generalize am_wI h 27 ((a5 - 1) - 1) (d_107 (dT C k) (f ((a5 - 1) - 1)) (f (a5 - 1))) = h139 at f140 f141 f142 f143 ⊢
            refine am_goX 2 (show 6 < 8 ∧ pz_S 8 (some .int) am_r105 1 Q 6 [(6, .int ((nI k) + (Int32.ofInt 1))), (5, .int ((nI a5) + (Int32.ofInt (-1)))), (7, .int (dT C k)), (0, .ref 25), (1, .int a), (2, .int b), (3, .int c), (4, .int d)] [] h139 from ⟨by decide, ?_⟩)
            rw [show d_105_6 C a b c d (m + 1) k a5 f = d_105_6 C a b c d m (k + 1) (a5 - 1) (sp_uI f ((a5 - 1) - 1) (d_107 (dT C k) (f ((a5 - 1) - 1)) (f (a5 - 1)))) from (if_pos c135).trans ((if_pos c136).trans ((if_neg c137).trans (if_neg c138)))] at hZ
            rw [show (nI k) + (Int32.ofInt 1) = nI (k + 1) from (dn_a rfl rfl)]
            rw [show (nI a5) + (Int32.ofInt (-1)) = nI (a5 - 1) from (dn_d (by omega) rfl (by decide))]
            exact sv_S2 sv2_105 (by intro q hq; simp only [List.mem_cons, List.not_mem_nil, or_false] at hq; rcases hq with rfl | rfl | rfl | rfl | rfl | rfl | rfl <;> rfl) (ih (k + 1) (a5 - 1) (sp_uI f ((a5 - 1) - 1) (d_107 (dT C k) (f ((a5 - 1) - 1)) (f (a5 - 1)))) _ (by omega) f140 f141 f142 f143 (by omega) hZ)
      · refine am_goX 2 (show ((nI a5) ≤ 0 → pz_S 8 (some .int) am_r105 1 Q 112 [(7, .int (dT C k)), (0, .ref 25), (1, .int a), (2, .int b), (3, .int c), (4, .int d), (5, .int (nI a5)), (6, .int (nI k))] [] h) ∧ (¬ ((nI a5) ≤ 0) → pz_S 8 (some .int) am_r105 1 Q 83 [(7, .int (dT C k)), (0, .ref 25), (1, .int a), (2, .int b), (3, .int c), (4, .int d), (5, .int (nI a5)), (6, .int (nI k))] [] h) from ⟨fun c144 => ?_, fun c144 => ?_⟩)
        · have c144n : a5 ≤ 0 := (nI_leI (by omega) (by omega)).mp (show nI a5 ≤ nI 0 from c144)
          refine am_goX 3 (show (((Int8.ofInt (-5)).toInt32) ≤ (dT C k) → pz_S 8 (some .int) am_r105 1 Q 158 [(7, .int (dT C k)), (0, .ref 25), (1, .int a), (2, .int b), (3, .int c), (4, .int d), (5, .int (nI a5)), (6, .int (nI k))] [] h) ∧ (¬ (((Int8.ofInt (-5)).toInt32) ≤ (dT C k)) → pz_S 8 (some .int) am_r105 1 Q 119 [(7, .int (dT C k)), (0, .ref 25), (1, .int a), (2, .int b), (3, .int c), (4, .int d), (5, .int (nI a5)), (6, .int (nI k))] [] h) from ⟨fun c145 => ?_, fun c145 => ?_⟩)
          · refine am_goX 2 (show 6 < 8 ∧ pz_S 8 (some .int) am_r105 1 Q 6 [(6, .int ((nI k) + (Int32.ofInt 1))), (7, .int (dT C k)), (0, .ref 25), (1, .int a), (2, .int b), (3, .int c), (4, .int d), (5, .int (nI a5))] [] h from ⟨by decide, ?_⟩)
            rw [show d_105_6 C a b c d (m + 1) k a5 f = d_105_6 C a b c d m (k + 1) a5 f from (if_pos c135).trans ((if_neg c136).trans ((if_pos c144).trans (if_pos c145)))] at hZ
            rw [show (nI k) + (Int32.ofInt 1) = nI (k + 1) from (dn_a rfl rfl)]
            exact sv_S2 sv2_105 (by intro q hq; simp only [List.mem_cons, List.not_mem_nil, or_false] at hq; rcases hq with rfl | rfl | rfl | rfl | rfl | rfl | rfl <;> rfl) (ih (k + 1) a5 f _ (by omega) hP hT hF hK (by omega) hZ)
          · refine am_goX 3 (show ((nI a5) ≤ (Int32.ofInt 1) → pz_S 8 (some .int) am_r105 1 Q 158 [(7, .int (dT C k)), (0, .ref 25), (1, .int a), (2, .int b), (3, .int c), (4, .int d), (5, .int (nI a5)), (6, .int (nI k))] [] h) ∧ (¬ ((nI a5) ≤ (Int32.ofInt 1)) → pz_S 8 (some .int) am_r105 1 Q 125 [(7, .int (dT C k)), (0, .ref 25), (1, .int a), (2, .int b), (3, .int c), (4, .int d), (5, .int (nI a5)), (6, .int (nI k))] [] h) from ⟨fun c146 => ?_, fun c146 => ?_⟩)
            · have c146n : a5 ≤ 1 := (nI_leI (by omega) (by omega)).mp (show nI a5 ≤ nI 1 from c146)
              refine am_goX 2 (show 6 < 8 ∧ pz_S 8 (some .int) am_r105 1 Q 6 [(6, .int ((nI k) + (Int32.ofInt 1))), (7, .int (dT C k)), (0, .ref 25), (1, .int a), (2, .int b), (3, .int c), (4, .int d), (5, .int (nI a5))] [] h from ⟨by decide, ?_⟩)
              rw [show d_105_6 C a b c d (m + 1) k a5 f = d_105_6 C a b c d m (k + 1) a5 f from (if_pos c135).trans ((if_neg c136).trans ((if_pos c144).trans ((if_neg c145).trans (if_pos c146))))] at hZ
              rw [show (nI k) + (Int32.ofInt 1) = nI (k + 1) from (dn_a rfl rfl)]
              exact sv_S2 sv2_105 (by intro q hq; simp only [List.mem_cons, List.not_mem_nil, or_false] at hq; rcases hq with rfl | rfl | rfl | rfl | rfl | rfl | rfl <;> rfl) (ih (k + 1) a5 f _ (by omega) hP hT hF hK (by omega) hZ)
            · have c146n : ¬ (a5 ≤ 1) := fun w => absurd (show nI a5 ≤ nI 1 from (nI_leI (by omega) (by omega)).mpr w) c146
              refine am_goX 3 (show 5 < 8 ∧ am_sh h 25 = some (3, 0) ∧ pz_S 8 (some .int) am_r105 1 Q 132 [(5, .int ((nI a5) + (Int32.ofInt (-1)))), (7, .int (dT C k)), (0, .ref 25), (1, .int a), (2, .int b), (3, .int c), (4, .int d), (6, .int (nI k))] [am_rf (h.2.2.1 25 1)] h from ⟨by decide, ex_25 hP, ?_⟩)
              rw [show am_rf (h.2.2.1 25 1) = .ref 27 from congrArg am_rf (ex_r25_1 hP)]
              refine am_goX 6 (show am_sh h 25 = some (3, 0) ∧ pz_S 8 (some .int) am_r105 1 Q 142 [(5, .int ((nI a5) + (Int32.ofInt (-1)))), (7, .int (dT C k)), (0, .ref 25), (1, .int a), (2, .int b), (3, .int c), (4, .int d), (6, .int (nI k))] [am_rf (h.2.2.1 25 1), .int (dT C k), .int (((nI a5) + (Int32.ofInt (-1))) - (Int32.ofInt 1)), .ref 27] h from ⟨ex_25 hP, ?_⟩)
              rw [show am_rf (h.2.2.1 25 1) = .ref 27 from congrArg am_rf (ex_r25_1 hP)]
              refine am_goX 4 (show ∃ jj nn : Nat, am_sh h 27 = some (13, nn) ∧ jj < nn ∧ ((nI a5) + (Int32.ofInt (-1))) - (Int32.ofInt 1) = nI jj ∧ pz_S 8 (some .int) am_r105 1 Q 147 [(5, .int ((nI a5) + (Int32.ofInt (-1)))), (7, .int (dT C k)), (0, .ref 25), (1, .int a), (2, .int b), (3, .int c), (4, .int d), (6, .int (nI k))] [.int (h.1 27 jj), .int (dT C k), .int (((nI a5) + (Int32.ofInt (-1))) - (Int32.ofInt 1)), .ref 27] h from ⟨((a5 - 1) - 1), 32, ex_27 hP, (by omega), (dn_s (by omega) (dn_d (by omega) rfl (by decide)) rfl), ?_⟩)
              rw [show h.1 27 ((a5 - 1) - 1) = f ((a5 - 1) - 1) from hK ((a5 - 1) - 1) (by omega)]
              refine am_goX 2 (show am_sh h 25 = some (3, 0) ∧ pz_S 8 (some .int) am_r105 1 Q 151 [(5, .int ((nI a5) + (Int32.ofInt (-1)))), (7, .int (dT C k)), (0, .ref 25), (1, .int a), (2, .int b), (3, .int c), (4, .int d), (6, .int (nI k))] [am_rf (h.2.2.1 25 1), .int (f ((a5 - 1) - 1)), .int (dT C k), .int (((nI a5) + (Int32.ofInt (-1))) - (Int32.ofInt 1)), .ref 27] h from ⟨ex_25 hP, ?_⟩)
              rw [show am_rf (h.2.2.1 25 1) = .ref 27 from congrArg am_rf (ex_r25_1 hP)]
              refine am_goX 2 (show ∃ jj nn : Nat, am_sh h 27 = some (13, nn) ∧ jj < nn ∧ (nI a5) + (Int32.ofInt (-1)) = nI jj ∧ pz_S 8 (some .int) am_r105 1 Q 154 [(5, .int ((nI a5) + (Int32.ofInt (-1)))), (7, .int (dT C k)), (0, .ref 25), (1, .int a), (2, .int b), (3, .int c), (4, .int d), (6, .int (nI k))] [.int (h.1 27 jj), .int (f ((a5 - 1) - 1)), .int (dT C k), .int (((nI a5) + (Int32.ofInt (-1))) - (Int32.ofInt 1)), .ref 27] h from ⟨(a5 - 1), 32, ex_27 hP, (by omega), (dn_d (by omega) rfl (by decide)), ?_⟩)
              rw [show h.1 27 (a5 - 1) = f (a5 - 1) from hK (a5 - 1) (by omega)]
              refine am_goX 1 (show 2 ≤ 8 ∧ h.2.2.2.2 + am_al 107 ≤ 175 ∧ am_call am_cod 1 107 [.int (dT C k), .int (f ((a5 - 1) - 1)), .int (f (a5 - 1))] h (fun vv h' => pz_S 8 (some .int) am_r105 1 Q 157 [(5, .int ((nI a5) + (Int32.ofInt (-1)))), (7, .int (dT C k)), (0, .ref 25), (1, .int a), (2, .int b), (3, .int c), (4, .int d), (6, .int (nI k))] (vv.toList ++ [.int (((nI a5) + (Int32.ofInt (-1))) - (Int32.ofInt 1)), .ref 27]) h') from ⟨by decide, ex_lim hP rfl, am_call.up (d_107_w hP ?_) (by decide)⟩)
              refine am_goX 1 (show ∃ jj nn : Nat, am_so h 27 = some (13, nn) ∧ jj < nn ∧ ((nI a5) + (Int32.ofInt (-1))) - (Int32.ofInt 1) = nI jj ∧ pz_S 8 (some .int) am_r105 1 Q 158 [(5, .int ((nI a5) + (Int32.ofInt (-1)))), (7, .int (dT C k)), (0, .ref 25), (1, .int a), (2, .int b), (3, .int c), (4, .int d), (6, .int (nI k))] [] (am_wI h 27 jj (d_107 (dT C k) (f ((a5 - 1) - 1)) (f (a5 - 1)))) from ⟨((a5 - 1) - 1), 32, ex_w27 hP, (by omega), (dn_s (by omega) (dn_d (by omega) rfl (by decide)) rfl), ?_⟩)
              have f148 : ex_P (am_wI h 27 ((a5 - 1) - 1) (d_107 (dT C k) (f ((a5 - 1) - 1)) (f (a5 - 1)))) := hP
              have f149 : c_v 17 C (am_wI h 27 ((a5 - 1) - 1) (d_107 (dT C k) (f ((a5 - 1) - 1)) (f (a5 - 1)))) := c_v_w (by omega) hT
              have f150 : lfr 27 h0 (am_wI h 27 ((a5 - 1) - 1) (d_107 (dT C k) (f ((a5 - 1) - 1)) (f (a5 - 1)))) := lfr_w hF
              have f151 : ∀ j, j < 32 → (am_wI h 27 ((a5 - 1) - 1) (d_107 (dT C k) (f ((a5 - 1) - 1)) (f (a5 - 1)))).1 27 j = (sp_uI f ((a5 - 1) - 1) (d_107 (dT C k) (f ((a5 - 1) - 1)) (f (a5 - 1)))) j := stk_w hK
              generalize am_wI h 27 ((a5 - 1) - 1) (d_107 (dT C k) (f ((a5 - 1) - 1)) (f (a5 - 1))) = h147 at f148 f149 f150 f151 ⊢
              refine am_goX 2 (show 6 < 8 ∧ pz_S 8 (some .int) am_r105 1 Q 6 [(6, .int ((nI k) + (Int32.ofInt 1))), (5, .int ((nI a5) + (Int32.ofInt (-1)))), (7, .int (dT C k)), (0, .ref 25), (1, .int a), (2, .int b), (3, .int c), (4, .int d)] [] h147 from ⟨by decide, ?_⟩)
              rw [show d_105_6 C a b c d (m + 1) k a5 f = d_105_6 C a b c d m (k + 1) (a5 - 1) (sp_uI f ((a5 - 1) - 1) (d_107 (dT C k) (f ((a5 - 1) - 1)) (f (a5 - 1)))) from (if_pos c135).trans ((if_neg c136).trans ((if_pos c144).trans ((if_neg c145).trans (if_neg c146))))] at hZ
              rw [show (nI k) + (Int32.ofInt 1) = nI (k + 1) from (dn_a rfl rfl)]
              rw [show (nI a5) + (Int32.ofInt (-1)) = nI (a5 - 1) from (dn_d (by omega) rfl (by decide))]
              exact sv_S2 sv2_105 (by intro q hq; simp only [List.mem_cons, List.not_mem_nil, or_false] at hq; rcases hq with rfl | rfl | rfl | rfl | rfl | rfl | rfl <;> rfl) (ih (k + 1) (a5 - 1) (sp_uI f ((a5 - 1) - 1) (d_107 (dT C k) (f ((a5 - 1) - 1)) (f (a5 - 1)))) _ (by omega) f148 f149 f150 f151 (by omega) hZ)
        · have c144n : ¬ (a5 ≤ 0) := fun w => absurd (show nI a5 ≤ nI 0 from (nI_leI (by omega) (by omega)).mpr w) c144
          refine am_goX 2 (show am_sh h 25 = some (3, 0) ∧ pz_S 8 (some .int) am_r105 1 Q 87 [(7, .int (dT C k)), (0, .ref 25), (1, .int a), (2, .int b), (3, .int c), (4, .int d), (5, .int (nI a5)), (6, .int (nI k))] [am_rf (h.2.2.1 25 1)] h from ⟨ex_25 hP, ?_⟩)
          rw [show am_rf (h.2.2.1 25 1) = .ref 27 from congrArg am_rf (ex_r25_1 hP)]
          refine am_goX 5 (show am_sh h 25 = some (3, 0) ∧ pz_S 8 (some .int) am_r105 1 Q 95 [(7, .int (dT C k)), (0, .ref 25), (1, .int a), (2, .int b), (3, .int c), (4, .int d), (5, .int (nI a5)), (6, .int (nI k))] [am_rf (h.2.2.1 25 1), .int ((nI a5) - (Int32.ofInt 1)), .ref 27] h from ⟨ex_25 hP, ?_⟩)
          rw [show am_rf (h.2.2.1 25 1) = .ref 27 from congrArg am_rf (ex_r25_1 hP)]
          refine am_goX 4 (show ∃ jj nn : Nat, am_sh h 27 = some (13, nn) ∧ jj < nn ∧ (nI a5) - (Int32.ofInt 1) = nI jj ∧ pz_S 8 (some .int) am_r105 1 Q 100 [(7, .int (dT C k)), (0, .ref 25), (1, .int a), (2, .int b), (3, .int c), (4, .int d), (5, .int (nI a5)), (6, .int (nI k))] [.int (h.1 27 jj), .int ((nI a5) - (Int32.ofInt 1)), .ref 27] h from ⟨(a5 - 1), 32, ex_27 hP, (by omega), (dn_s (by omega) rfl rfl), ?_⟩)
          rw [show h.1 27 (a5 - 1) = f (a5 - 1) from hK (a5 - 1) (by omega)]
          suffices key : ∀ (v153 : Int32), v153 = (if ¬ (f (a5 - 1)) = 0 then Int32.ofInt 0 else Int32.ofInt 1) → pz_S 8 (some .int) am_r105 1 Q 108 [(0, .ref 25), (1, .int a), (2, .int b), (3, .int c), (4, .int d), (5, .int (nI a5)), (6, .int (nI k))] [.int v153, .int ((nI a5) - (Int32.ofInt 1)), .ref 27] h by
            refine am_goX 1 (show (¬ (f (a5 - 1)) = 0 → pz_S 8 (some .int) am_r105 1 Q 107 [(7, .int (dT C k)), (0, .ref 25), (1, .int a), (2, .int b), (3, .int c), (4, .int d), (5, .int (nI a5)), (6, .int (nI k))] [.int ((nI a5) - (Int32.ofInt 1)), .ref 27] h) ∧ (¬ ¬ (f (a5 - 1)) = 0 → pz_S 8 (some .int) am_r105 1 Q 103 [(7, .int (dT C k)), (0, .ref 25), (1, .int a), (2, .int b), (3, .int c), (4, .int d), (5, .int (nI a5)), (6, .int (nI k))] [.int ((nI a5) - (Int32.ofInt 1)), .ref 27] h) from ⟨fun c152 => ?_, fun c152 => ?_⟩)
            · refine am_goX 1 (show pz_S 8 (some .int) am_r105 1 Q 108 [(7, .int (dT C k)), (0, .ref 25), (1, .int a), (2, .int b), (3, .int c), (4, .int d), (5, .int (nI a5)), (6, .int (nI k))] [.int (Int32.ofInt 0), .int ((nI a5) - (Int32.ofInt 1)), .ref 27] h from ?_)
              exact sv_S2 sv2_105 (by intro q hq; simp only [List.mem_cons, List.not_mem_nil, or_false] at hq; rcases hq with rfl | rfl | rfl | rfl | rfl | rfl | rfl <;> rfl) (key _ (if_pos c152).symm)
            · refine am_goX 2 (show pz_S 8 (some .int) am_r105 1 Q 108 [(7, .int (dT C k)), (0, .ref 25), (1, .int a), (2, .int b), (3, .int c), (4, .int d), (5, .int (nI a5)), (6, .int (nI k))] [.int (Int32.ofInt 1), .int ((nI a5) - (Int32.ofInt 1)), .ref 27] h from ?_)
              exact sv_S2 sv2_105 (by intro q hq; simp only [List.mem_cons, List.not_mem_nil, or_false] at hq; rcases hq with rfl | rfl | rfl | rfl | rfl | rfl | rfl <;> rfl) (key _ (if_neg c152).symm)
          intro v153 e154
          subst e154
          refine am_goX 1 (show ∃ jj nn : Nat, am_so h 27 = some (13, nn) ∧ jj < nn ∧ (nI a5) - (Int32.ofInt 1) = nI jj ∧ pz_S 8 (some .int) am_r105 1 Q 109 [(0, .ref 25), (1, .int a), (2, .int b), (3, .int c), (4, .int d), (5, .int (nI a5)), (6, .int (nI k))] [] (am_wI h 27 jj (if ¬ (f (a5 - 1)) = 0 then Int32.ofInt 0 else Int32.ofInt 1)) from ⟨(a5 - 1), 32, ex_w27 hP, (by omega), (dn_s (by omega) rfl rfl), ?_⟩)
          have f156 : ex_P (am_wI h 27 (a5 - 1) (if ¬ (f (a5 - 1)) = 0 then Int32.ofInt 0 else Int32.ofInt 1)) := hP
          have f157 : c_v 17 C (am_wI h 27 (a5 - 1) (if ¬ (f (a5 - 1)) = 0 then Int32.ofInt 0 else Int32.ofInt 1)) := c_v_w (by omega) hT
          have f158 : lfr 27 h0 (am_wI h 27 (a5 - 1) (if ¬ (f (a5 - 1)) = 0 then Int32.ofInt 0 else Int32.ofInt 1)) := lfr_w hF
          have f159 : ∀ j, j < 32 → (am_wI h 27 (a5 - 1) (if ¬ (f (a5 - 1)) = 0 then Int32.ofInt 0 else Int32.ofInt 1)).1 27 j = (sp_uI f (a5 - 1) (if ¬ (f (a5 - 1)) = 0 then Int32.ofInt 0 else Int32.ofInt 1)) j := stk_w hK
          generalize am_wI h 27 (a5 - 1) (if ¬ (f (a5 - 1)) = 0 then Int32.ofInt 0 else Int32.ofInt 1) = h155 at f156 f157 f158 f159 ⊢
          refine am_goX 3 (show 6 < 8 ∧ pz_S 8 (some .int) am_r105 1 Q 6 [(6, .int ((nI k) + (Int32.ofInt 1))), (0, .ref 25), (1, .int a), (2, .int b), (3, .int c), (4, .int d), (5, .int (nI a5))] [] h155 from ⟨by decide, ?_⟩)
          rw [show d_105_6 C a b c d (m + 1) k a5 f = d_105_6 C a b c d m (k + 1) a5 (sp_uI f (a5 - 1) (if ¬ (f (a5 - 1)) = 0 then Int32.ofInt 0 else Int32.ofInt 1)) from (if_pos c135).trans ((if_neg c136).trans (if_neg c144))] at hZ
          rw [show (nI k) + (Int32.ofInt 1) = nI (k + 1) from (dn_a rfl rfl)]
          exact sv_S2 sv2_105 (by intro q hq; simp only [List.mem_cons, List.not_mem_nil, or_false] at hq; rcases hq with rfl | rfl | rfl | rfl | rfl | rfl | rfl <;> rfl) (ih (k + 1) a5 (sp_uI f (a5 - 1) (if ¬ (f (a5 - 1)) = 0 then Int32.ofInt 0 else Int32.ofInt 1)) _ (by omega) f156 f157 f158 f159 (by omega) hZ)
    · refine am_goX 3 (show (((Int8.ofInt 32).toInt32) ≤ (nI a5) → pz_S 8 (some .int) am_r105 1 Q 71 [(7, .int (dT C k)), (0, .ref 25), (1, .int a), (2, .int b), (3, .int c), (4, .int d), (5, .int (nI a5)), (6, .int (nI k))] [] h) ∧ (¬ (((Int8.ofInt 32).toInt32) ≤ (nI a5)) → pz_S 8 (some .int) am_r105 1 Q 38 [(7, .int (dT C k)), (0, .ref 25), (1, .int a), (2, .int b), (3, .int c), (4, .int d), (5, .int (nI a5)), (6, .int (nI k))] [] h) from ⟨fun c160 => ?_, fun c160 => ?_⟩)
      · have c160n : 32 ≤ a5 := (nI_leI (by omega) (by omega)).mp (show nI 32 ≤ nI a5 from c160)
        refine am_goX 3 (show (¬ (dT C k) = ((Int8.ofInt (-5)).toInt32) → pz_S 8 (some .int) am_r105 1 Q 112 [(7, .int (dT C k)), (0, .ref 25), (1, .int a), (2, .int b), (3, .int c), (4, .int d), (5, .int (nI a5)), (6, .int (nI k))] [] h) ∧ (¬ ¬ (dT C k) = ((Int8.ofInt (-5)).toInt32) → pz_S 8 (some .int) am_r105 1 Q 78 [(7, .int (dT C k)), (0, .ref 25), (1, .int a), (2, .int b), (3, .int c), (4, .int d), (5, .int (nI a5)), (6, .int (nI k))] [] h) from ⟨fun c161 => ?_, fun c161 => ?_⟩)
        · refine am_goX 3 (show (((Int8.ofInt (-5)).toInt32) ≤ (dT C k) → pz_S 8 (some .int) am_r105 1 Q 158 [(7, .int (dT C k)), (0, .ref 25), (1, .int a), (2, .int b), (3, .int c), (4, .int d), (5, .int (nI a5)), (6, .int (nI k))] [] h) ∧ (¬ (((Int8.ofInt (-5)).toInt32) ≤ (dT C k)) → pz_S 8 (some .int) am_r105 1 Q 119 [(7, .int (dT C k)), (0, .ref 25), (1, .int a), (2, .int b), (3, .int c), (4, .int d), (5, .int (nI a5)), (6, .int (nI k))] [] h) from ⟨fun c162 => ?_, fun c162 => ?_⟩)
          · refine am_goX 2 (show 6 < 8 ∧ pz_S 8 (some .int) am_r105 1 Q 6 [(6, .int ((nI k) + (Int32.ofInt 1))), (7, .int (dT C k)), (0, .ref 25), (1, .int a), (2, .int b), (3, .int c), (4, .int d), (5, .int (nI a5))] [] h from ⟨by decide, ?_⟩)
            rw [show d_105_6 C a b c d (m + 1) k a5 f = d_105_6 C a b c d m (k + 1) a5 f from (if_neg c135).trans ((if_pos c160).trans ((if_pos c161).trans (if_pos c162)))] at hZ
            rw [show (nI k) + (Int32.ofInt 1) = nI (k + 1) from (dn_a rfl rfl)]
            exact sv_S2 sv2_105 (by intro q hq; simp only [List.mem_cons, List.not_mem_nil, or_false] at hq; rcases hq with rfl | rfl | rfl | rfl | rfl | rfl | rfl <;> rfl) (ih (k + 1) a5 f _ (by omega) hP hT hF hK (by omega) hZ)
          · refine am_goX 3 (show ((nI a5) ≤ (Int32.ofInt 1) → pz_S 8 (some .int) am_r105 1 Q 158 [(7, .int (dT C k)), (0, .ref 25), (1, .int a), (2, .int b), (3, .int c), (4, .int d), (5, .int (nI a5)), (6, .int (nI k))] [] h) ∧ (¬ ((nI a5) ≤ (Int32.ofInt 1)) → pz_S 8 (some .int) am_r105 1 Q 125 [(7, .int (dT C k)), (0, .ref 25), (1, .int a), (2, .int b), (3, .int c), (4, .int d), (5, .int (nI a5)), (6, .int (nI k))] [] h) from ⟨fun c163 => ?_, fun c163 => ?_⟩)
            · have c163n : a5 ≤ 1 := (nI_leI (by omega) (by omega)).mp (show nI a5 ≤ nI 1 from c163)
              refine am_goX 2 (show 6 < 8 ∧ pz_S 8 (some .int) am_r105 1 Q 6 [(6, .int ((nI k) + (Int32.ofInt 1))), (7, .int (dT C k)), (0, .ref 25), (1, .int a), (2, .int b), (3, .int c), (4, .int d), (5, .int (nI a5))] [] h from ⟨by decide, ?_⟩)
              rw [show d_105_6 C a b c d (m + 1) k a5 f = d_105_6 C a b c d m (k + 1) a5 f from (if_neg c135).trans ((if_pos c160).trans ((if_pos c161).trans ((if_neg c162).trans (if_pos c163))))] at hZ
              rw [show (nI k) + (Int32.ofInt 1) = nI (k + 1) from (dn_a rfl rfl)]
              exact sv_S2 sv2_105 (by intro q hq; simp only [List.mem_cons, List.not_mem_nil, or_false] at hq; rcases hq with rfl | rfl | rfl | rfl | rfl | rfl | rfl <;> rfl) (ih (k + 1) a5 f _ (by omega) hP hT hF hK (by omega) hZ)
            · have c163n : ¬ (a5 ≤ 1) := fun w => absurd (show nI a5 ≤ nI 1 from (nI_leI (by omega) (by omega)).mpr w) c163
              refine am_goX 3 (show 5 < 8 ∧ am_sh h 25 = some (3, 0) ∧ pz_S 8 (some .int) am_r105 1 Q 132 [(5, .int ((nI a5) + (Int32.ofInt (-1)))), (7, .int (dT C k)), (0, .ref 25), (1, .int a), (2, .int b), (3, .int c), (4, .int d), (6, .int (nI k))] [am_rf (h.2.2.1 25 1)] h from ⟨by decide, ex_25 hP, ?_⟩)
              rw [show am_rf (h.2.2.1 25 1) = .ref 27 from congrArg am_rf (ex_r25_1 hP)]
              refine am_goX 6 (show am_sh h 25 = some (3, 0) ∧ pz_S 8 (some .int) am_r105 1 Q 142 [(5, .int ((nI a5) + (Int32.ofInt (-1)))), (7, .int (dT C k)), (0, .ref 25), (1, .int a), (2, .int b), (3, .int c), (4, .int d), (6, .int (nI k))] [am_rf (h.2.2.1 25 1), .int (dT C k), .int (((nI a5) + (Int32.ofInt (-1))) - (Int32.ofInt 1)), .ref 27] h from ⟨ex_25 hP, ?_⟩)
              rw [show am_rf (h.2.2.1 25 1) = .ref 27 from congrArg am_rf (ex_r25_1 hP)]
              refine am_goX 4 (show ∃ jj nn : Nat, am_sh h 27 = some (13, nn) ∧ jj < nn ∧ ((nI a5) + (Int32.ofInt (-1))) - (Int32.ofInt 1) = nI jj ∧ pz_S 8 (some .int) am_r105 1 Q 147 [(5, .int ((nI a5) + (Int32.ofInt (-1)))), (7, .int (dT C k)), (0, .ref 25), (1, .int a), (2, .int b), (3, .int c), (4, .int d), (6, .int (nI k))] [.int (h.1 27 jj), .int (dT C k), .int (((nI a5) + (Int32.ofInt (-1))) - (Int32.ofInt 1)), .ref 27] h from ⟨((a5 - 1) - 1), 32, ex_27 hP, (by omega), (dn_s (by omega) (dn_d (by omega) rfl (by decide)) rfl), ?_⟩)
              rw [show h.1 27 ((a5 - 1) - 1) = f ((a5 - 1) - 1) from hK ((a5 - 1) - 1) (by omega)]
              refine am_goX 2 (show am_sh h 25 = some (3, 0) ∧ pz_S 8 (some .int) am_r105 1 Q 151 [(5, .int ((nI a5) + (Int32.ofInt (-1)))), (7, .int (dT C k)), (0, .ref 25), (1, .int a), (2, .int b), (3, .int c), (4, .int d), (6, .int (nI k))] [am_rf (h.2.2.1 25 1), .int (f ((a5 - 1) - 1)), .int (dT C k), .int (((nI a5) + (Int32.ofInt (-1))) - (Int32.ofInt 1)), .ref 27] h from ⟨ex_25 hP, ?_⟩)
              rw [show am_rf (h.2.2.1 25 1) = .ref 27 from congrArg am_rf (ex_r25_1 hP)]
              refine am_goX 2 (show ∃ jj nn : Nat, am_sh h 27 = some (13, nn) ∧ jj < nn ∧ (nI a5) + (Int32.ofInt (-1)) = nI jj ∧ pz_S 8 (some .int) am_r105 1 Q 154 [(5, .int ((nI a5) + (Int32.ofInt (-1)))), (7, .int (dT C k)), (0, .ref 25), (1, .int a), (2, .int b), (3, .int c), (4, .int d), (6, .int (nI k))] [.int (h.1 27 jj), .int (f ((a5 - 1) - 1)), .int (dT C k), .int (((nI a5) + (Int32.ofInt (-1))) - (Int32.ofInt 1)), .ref 27] h from ⟨(a5 - 1), 32, ex_27 hP, (by omega), (dn_d (by omega) rfl (by decide)), ?_⟩)
              rw [show h.1 27 (a5 - 1) = f (a5 - 1) from hK (a5 - 1) (by omega)]
              refine am_goX 1 (show 2 ≤ 8 ∧ h.2.2.2.2 + am_al 107 ≤ 175 ∧ am_call am_cod 1 107 [.int (dT C k), .int (f ((a5 - 1) - 1)), .int (f (a5 - 1))] h (fun vv h' => pz_S 8 (some .int) am_r105 1 Q 157 [(5, .int ((nI a5) + (Int32.ofInt (-1)))), (7, .int (dT C k)), (0, .ref 25), (1, .int a), (2, .int b), (3, .int c), (4, .int d), (6, .int (nI k))] (vv.toList ++ [.int (((nI a5) + (Int32.ofInt (-1))) - (Int32.ofInt 1)), .ref 27]) h') from ⟨by decide, ex_lim hP rfl, am_call.up (d_107_w hP ?_) (by decide)⟩)
              refine am_goX 1 (show ∃ jj nn : Nat, am_so h 27 = some (13, nn) ∧ jj < nn ∧ ((nI a5) + (Int32.ofInt (-1))) - (Int32.ofInt 1) = nI jj ∧ pz_S 8 (some .int) am_r105 1 Q 158 [(5, .int ((nI a5) + (Int32.ofInt (-1)))), (7, .int (dT C k)), (0, .ref 25), (1, .int a), (2, .int b), (3, .int c), (4, .int d), (6, .int (nI k))] [] (am_wI h 27 jj (d_107 (dT C k) (f ((a5 - 1) - 1)) (f (a5 - 1)))) from ⟨((a5 - 1) - 1), 32, ex_w27 hP, (by omega), (dn_s (by omega) (dn_d (by omega) rfl (by decide)) rfl), ?_⟩)
              have f165 : ex_P (am_wI h 27 ((a5 - 1) - 1) (d_107 (dT C k) (f ((a5 - 1) - 1)) (f (a5 - 1)))) := hP
              have f166 : c_v 17 C (am_wI h 27 ((a5 - 1) - 1) (d_107 (dT C k) (f ((a5 - 1) - 1)) (f (a5 - 1)))) := c_v_w (by omega) hT
              have f167 : lfr 27 h0 (am_wI h 27 ((a5 - 1) - 1) (d_107 (dT C k) (f ((a5 - 1) - 1)) (f (a5 - 1)))) := lfr_w hF
              have f168 : ∀ j, j < 32 → (am_wI h 27 ((a5 - 1) - 1) (d_107 (dT C k) (f ((a5 - 1) - 1)) (f (a5 - 1)))).1 27 j = (sp_uI f ((a5 - 1) - 1) (d_107 (dT C k) (f ((a5 - 1) - 1)) (f (a5 - 1)))) j := stk_w hK
              generalize am_wI h 27 ((a5 - 1) - 1) (d_107 (dT C k) (f ((a5 - 1) - 1)) (f (a5 - 1))) = h164 at f165 f166 f167 f168 ⊢
              refine am_goX 2 (show 6 < 8 ∧ pz_S 8 (some .int) am_r105 1 Q 6 [(6, .int ((nI k) + (Int32.ofInt 1))), (5, .int ((nI a5) + (Int32.ofInt (-1)))), (7, .int (dT C k)), (0, .ref 25), (1, .int a), (2, .int b), (3, .int c), (4, .int d)] [] h164 from ⟨by decide, ?_⟩)
              rw [show d_105_6 C a b c d (m + 1) k a5 f = d_105_6 C a b c d m (k + 1) (a5 - 1) (sp_uI f ((a5 - 1) - 1) (d_107 (dT C k) (f ((a5 - 1) - 1)) (f (a5 - 1)))) from (if_neg c135).trans ((if_pos c160).trans ((if_pos c161).trans ((if_neg c162).trans (if_neg c163))))] at hZ
              rw [show (nI k) + (Int32.ofInt 1) = nI (k + 1) from (dn_a rfl rfl)]
              rw [show (nI a5) + (Int32.ofInt (-1)) = nI (a5 - 1) from (dn_d (by omega) rfl (by decide))]
              exact sv_S2 sv2_105 (by intro q hq; simp only [List.mem_cons, List.not_mem_nil, or_false] at hq; rcases hq with rfl | rfl | rfl | rfl | rfl | rfl | rfl <;> rfl) (ih (k + 1) (a5 - 1) (sp_uI f ((a5 - 1) - 1) (d_107 (dT C k) (f ((a5 - 1) - 1)) (f (a5 - 1)))) _ (by omega) f165 f166 f167 f168 (by omega) hZ)
        · refine am_goX 2 (show ((nI a5) ≤ 0 → pz_S 8 (some .int) am_r105 1 Q 112 [(7, .int (dT C k)), (0, .ref 25), (1, .int a), (2, .int b), (3, .int c), (4, .int d), (5, .int (nI a5)), (6, .int (nI k))] [] h) ∧ (¬ ((nI a5) ≤ 0) → pz_S 8 (some .int) am_r105 1 Q 83 [(7, .int (dT C k)), (0, .ref 25), (1, .int a), (2, .int b), (3, .int c), (4, .int d), (5, .int (nI a5)), (6, .int (nI k))] [] h) from ⟨fun c169 => ?_, fun c169 => ?_⟩)
          · have c169n : a5 ≤ 0 := (nI_leI (by omega) (by omega)).mp (show nI a5 ≤ nI 0 from c169)
            refine am_goX 3 (show (((Int8.ofInt (-5)).toInt32) ≤ (dT C k) → pz_S 8 (some .int) am_r105 1 Q 158 [(7, .int (dT C k)), (0, .ref 25), (1, .int a), (2, .int b), (3, .int c), (4, .int d), (5, .int (nI a5)), (6, .int (nI k))] [] h) ∧ (¬ (((Int8.ofInt (-5)).toInt32) ≤ (dT C k)) → pz_S 8 (some .int) am_r105 1 Q 119 [(7, .int (dT C k)), (0, .ref 25), (1, .int a), (2, .int b), (3, .int c), (4, .int d), (5, .int (nI a5)), (6, .int (nI k))] [] h) from ⟨fun c170 => ?_, fun c170 => ?_⟩)
            · refine am_goX 2 (show 6 < 8 ∧ pz_S 8 (some .int) am_r105 1 Q 6 [(6, .int ((nI k) + (Int32.ofInt 1))), (7, .int (dT C k)), (0, .ref 25), (1, .int a), (2, .int b), (3, .int c), (4, .int d), (5, .int (nI a5))] [] h from ⟨by decide, ?_⟩)
              rw [show d_105_6 C a b c d (m + 1) k a5 f = d_105_6 C a b c d m (k + 1) a5 f from (if_neg c135).trans ((if_pos c160).trans ((if_neg c161).trans ((if_pos c169).trans (if_pos c170))))] at hZ
              rw [show (nI k) + (Int32.ofInt 1) = nI (k + 1) from (dn_a rfl rfl)]
              exact sv_S2 sv2_105 (by intro q hq; simp only [List.mem_cons, List.not_mem_nil, or_false] at hq; rcases hq with rfl | rfl | rfl | rfl | rfl | rfl | rfl <;> rfl) (ih (k + 1) a5 f _ (by omega) hP hT hF hK (by omega) hZ)
            · refine am_goX 3 (show ((nI a5) ≤ (Int32.ofInt 1) → pz_S 8 (some .int) am_r105 1 Q 158 [(7, .int (dT C k)), (0, .ref 25), (1, .int a), (2, .int b), (3, .int c), (4, .int d), (5, .int (nI a5)), (6, .int (nI k))] [] h) ∧ (¬ ((nI a5) ≤ (Int32.ofInt 1)) → pz_S 8 (some .int) am_r105 1 Q 125 [(7, .int (dT C k)), (0, .ref 25), (1, .int a), (2, .int b), (3, .int c), (4, .int d), (5, .int (nI a5)), (6, .int (nI k))] [] h) from ⟨fun c171 => ?_, fun c171 => ?_⟩)
              · have c171n : a5 ≤ 1 := (nI_leI (by omega) (by omega)).mp (show nI a5 ≤ nI 1 from c171)
                refine am_goX 2 (show 6 < 8 ∧ pz_S 8 (some .int) am_r105 1 Q 6 [(6, .int ((nI k) + (Int32.ofInt 1))), (7, .int (dT C k)), (0, .ref 25), (1, .int a), (2, .int b), (3, .int c), (4, .int d), (5, .int (nI a5))] [] h from ⟨by decide, ?_⟩)
                rw [show d_105_6 C a b c d (m + 1) k a5 f = d_105_6 C a b c d m (k + 1) a5 f from (if_neg c135).trans ((if_pos c160).trans ((if_neg c161).trans ((if_pos c169).trans ((if_neg c170).trans (if_pos c171)))))] at hZ
                rw [show (nI k) + (Int32.ofInt 1) = nI (k + 1) from (dn_a rfl rfl)]
                exact sv_S2 sv2_105 (by intro q hq; simp only [List.mem_cons, List.not_mem_nil, or_false] at hq; rcases hq with rfl | rfl | rfl | rfl | rfl | rfl | rfl <;> rfl) (ih (k + 1) a5 f _ (by omega) hP hT hF hK (by omega) hZ)
              · have c171n : ¬ (a5 ≤ 1) := fun w => absurd (show nI a5 ≤ nI 1 from (nI_leI (by omega) (by omega)).mpr w) c171
                refine am_goX 3 (show 5 < 8 ∧ am_sh h 25 = some (3, 0) ∧ pz_S 8 (some .int) am_r105 1 Q 132 [(5, .int ((nI a5) + (Int32.ofInt (-1)))), (7, .int (dT C k)), (0, .ref 25), (1, .int a), (2, .int b), (3, .int c), (4, .int d), (6, .int (nI k))] [am_rf (h.2.2.1 25 1)] h from ⟨by decide, ex_25 hP, ?_⟩)
                rw [show am_rf (h.2.2.1 25 1) = .ref 27 from congrArg am_rf (ex_r25_1 hP)]
                refine am_goX 6 (show am_sh h 25 = some (3, 0) ∧ pz_S 8 (some .int) am_r105 1 Q 142 [(5, .int ((nI a5) + (Int32.ofInt (-1)))), (7, .int (dT C k)), (0, .ref 25), (1, .int a), (2, .int b), (3, .int c), (4, .int d), (6, .int (nI k))] [am_rf (h.2.2.1 25 1), .int (dT C k), .int (((nI a5) + (Int32.ofInt (-1))) - (Int32.ofInt 1)), .ref 27] h from ⟨ex_25 hP, ?_⟩)
                rw [show am_rf (h.2.2.1 25 1) = .ref 27 from congrArg am_rf (ex_r25_1 hP)]
                refine am_goX 4 (show ∃ jj nn : Nat, am_sh h 27 = some (13, nn) ∧ jj < nn ∧ ((nI a5) + (Int32.ofInt (-1))) - (Int32.ofInt 1) = nI jj ∧ pz_S 8 (some .int) am_r105 1 Q 147 [(5, .int ((nI a5) + (Int32.ofInt (-1)))), (7, .int (dT C k)), (0, .ref 25), (1, .int a), (2, .int b), (3, .int c), (4, .int d), (6, .int (nI k))] [.int (h.1 27 jj), .int (dT C k), .int (((nI a5) + (Int32.ofInt (-1))) - (Int32.ofInt 1)), .ref 27] h from ⟨((a5 - 1) - 1), 32, ex_27 hP, (by omega), (dn_s (by omega) (dn_d (by omega) rfl (by decide)) rfl), ?_⟩)
                rw [show h.1 27 ((a5 - 1) - 1) = f ((a5 - 1) - 1) from hK ((a5 - 1) - 1) (by omega)]
                refine am_goX 2 (show am_sh h 25 = some (3, 0) ∧ pz_S 8 (some .int) am_r105 1 Q 151 [(5, .int ((nI a5) + (Int32.ofInt (-1)))), (7, .int (dT C k)), (0, .ref 25), (1, .int a), (2, .int b), (3, .int c), (4, .int d), (6, .int (nI k))] [am_rf (h.2.2.1 25 1), .int (f ((a5 - 1) - 1)), .int (dT C k), .int (((nI a5) + (Int32.ofInt (-1))) - (Int32.ofInt 1)), .ref 27] h from ⟨ex_25 hP, ?_⟩)
                rw [show am_rf (h.2.2.1 25 1) = .ref 27 from congrArg am_rf (ex_r25_1 hP)]
                refine am_goX 2 (show ∃ jj nn : Nat, am_sh h 27 = some (13, nn) ∧ jj < nn ∧ (nI a5) + (Int32.ofInt (-1)) = nI jj ∧ pz_S 8 (some .int) am_r105 1 Q 154 [(5, .int ((nI a5) + (Int32.ofInt (-1)))), (7, .int (dT C k)), (0, .ref 25), (1, .int a), (2, .int b), (3, .int c), (4, .int d), (6, .int (nI k))] [.int (h.1 27 jj), .int (f ((a5 - 1) - 1)), .int (dT C k), .int (((nI a5) + (Int32.ofInt (-1))) - (Int32.ofInt 1)), .ref 27] h from ⟨(a5 - 1), 32, ex_27 hP, (by omega), (dn_d (by omega) rfl (by decide)), ?_⟩)
                rw [show h.1 27 (a5 - 1) = f (a5 - 1) from hK (a5 - 1) (by omega)]
                refine am_goX 1 (show 2 ≤ 8 ∧ h.2.2.2.2 + am_al 107 ≤ 175 ∧ am_call am_cod 1 107 [.int (dT C k), .int (f ((a5 - 1) - 1)), .int (f (a5 - 1))] h (fun vv h' => pz_S 8 (some .int) am_r105 1 Q 157 [(5, .int ((nI a5) + (Int32.ofInt (-1)))), (7, .int (dT C k)), (0, .ref 25), (1, .int a), (2, .int b), (3, .int c), (4, .int d), (6, .int (nI k))] (vv.toList ++ [.int (((nI a5) + (Int32.ofInt (-1))) - (Int32.ofInt 1)), .ref 27]) h') from ⟨by decide, ex_lim hP rfl, am_call.up (d_107_w hP ?_) (by decide)⟩)
                refine am_goX 1 (show ∃ jj nn : Nat, am_so h 27 = some (13, nn) ∧ jj < nn ∧ ((nI a5) + (Int32.ofInt (-1))) - (Int32.ofInt 1) = nI jj ∧ pz_S 8 (some .int) am_r105 1 Q 158 [(5, .int ((nI a5) + (Int32.ofInt (-1)))), (7, .int (dT C k)), (0, .ref 25), (1, .int a), (2, .int b), (3, .int c), (4, .int d), (6, .int (nI k))] [] (am_wI h 27 jj (d_107 (dT C k) (f ((a5 - 1) - 1)) (f (a5 - 1)))) from ⟨((a5 - 1) - 1), 32, ex_w27 hP, (by omega), (dn_s (by omega) (dn_d (by omega) rfl (by decide)) rfl), ?_⟩)
                have f173 : ex_P (am_wI h 27 ((a5 - 1) - 1) (d_107 (dT C k) (f ((a5 - 1) - 1)) (f (a5 - 1)))) := hP
                have f174 : c_v 17 C (am_wI h 27 ((a5 - 1) - 1) (d_107 (dT C k) (f ((a5 - 1) - 1)) (f (a5 - 1)))) := c_v_w (by omega) hT
                have f175 : lfr 27 h0 (am_wI h 27 ((a5 - 1) - 1) (d_107 (dT C k) (f ((a5 - 1) - 1)) (f (a5 - 1)))) := lfr_w hF
                have f176 : ∀ j, j < 32 → (am_wI h 27 ((a5 - 1) - 1) (d_107 (dT C k) (f ((a5 - 1) - 1)) (f (a5 - 1)))).1 27 j = (sp_uI f ((a5 - 1) - 1) (d_107 (dT C k) (f ((a5 - 1) - 1)) (f (a5 - 1)))) j := stk_w hK
                generalize am_wI h 27 ((a5 - 1) - 1) (d_107 (dT C k) (f ((a5 - 1) - 1)) (f (a5 - 1))) = h172 at f173 f174 f175 f176 ⊢
                refine am_goX 2 (show 6 < 8 ∧ pz_S 8 (some .int) am_r105 1 Q 6 [(6, .int ((nI k) + (Int32.ofInt 1))), (5, .int ((nI a5) + (Int32.ofInt (-1)))), (7, .int (dT C k)), (0, .ref 25), (1, .int a), (2, .int b), (3, .int c), (4, .int d)] [] h172 from ⟨by decide, ?_⟩)
                rw [show d_105_6 C a b c d (m + 1) k a5 f = d_105_6 C a b c d m (k + 1) (a5 - 1) (sp_uI f ((a5 - 1) - 1) (d_107 (dT C k) (f ((a5 - 1) - 1)) (f (a5 - 1)))) from (if_neg c135).trans ((if_pos c160).trans ((if_neg c161).trans ((if_pos c169).trans ((if_neg c170).trans (if_neg c171)))))] at hZ
                rw [show (nI k) + (Int32.ofInt 1) = nI (k + 1) from (dn_a rfl rfl)]
                rw [show (nI a5) + (Int32.ofInt (-1)) = nI (a5 - 1) from (dn_d (by omega) rfl (by decide))]
                exact sv_S2 sv2_105 (by intro q hq; simp only [List.mem_cons, List.not_mem_nil, or_false] at hq; rcases hq with rfl | rfl | rfl | rfl | rfl | rfl | rfl <;> rfl) (ih (k + 1) (a5 - 1) (sp_uI f ((a5 - 1) - 1) (d_107 (dT C k) (f ((a5 - 1) - 1)) (f (a5 - 1)))) _ (by omega) f173 f174 f175 f176 (by omega) hZ)
          · have c169n : ¬ (a5 ≤ 0) := fun w => absurd (show nI a5 ≤ nI 0 from (nI_leI (by omega) (by omega)).mpr w) c169
            refine am_goX 2 (show am_sh h 25 = some (3, 0) ∧ pz_S 8 (some .int) am_r105 1 Q 87 [(7, .int (dT C k)), (0, .ref 25), (1, .int a), (2, .int b), (3, .int c), (4, .int d), (5, .int (nI a5)), (6, .int (nI k))] [am_rf (h.2.2.1 25 1)] h from ⟨ex_25 hP, ?_⟩)
            rw [show am_rf (h.2.2.1 25 1) = .ref 27 from congrArg am_rf (ex_r25_1 hP)]
            refine am_goX 5 (show am_sh h 25 = some (3, 0) ∧ pz_S 8 (some .int) am_r105 1 Q 95 [(7, .int (dT C k)), (0, .ref 25), (1, .int a), (2, .int b), (3, .int c), (4, .int d), (5, .int (nI a5)), (6, .int (nI k))] [am_rf (h.2.2.1 25 1), .int ((nI a5) - (Int32.ofInt 1)), .ref 27] h from ⟨ex_25 hP, ?_⟩)
            rw [show am_rf (h.2.2.1 25 1) = .ref 27 from congrArg am_rf (ex_r25_1 hP)]
            refine am_goX 4 (show ∃ jj nn : Nat, am_sh h 27 = some (13, nn) ∧ jj < nn ∧ (nI a5) - (Int32.ofInt 1) = nI jj ∧ pz_S 8 (some .int) am_r105 1 Q 100 [(7, .int (dT C k)), (0, .ref 25), (1, .int a), (2, .int b), (3, .int c), (4, .int d), (5, .int (nI a5)), (6, .int (nI k))] [.int (h.1 27 jj), .int ((nI a5) - (Int32.ofInt 1)), .ref 27] h from ⟨(a5 - 1), 32, ex_27 hP, (by omega), (dn_s (by omega) rfl rfl), ?_⟩)
            rw [show h.1 27 (a5 - 1) = f (a5 - 1) from hK (a5 - 1) (by omega)]
            suffices key : ∀ (v178 : Int32), v178 = (if ¬ (f (a5 - 1)) = 0 then Int32.ofInt 0 else Int32.ofInt 1) → pz_S 8 (some .int) am_r105 1 Q 108 [(0, .ref 25), (1, .int a), (2, .int b), (3, .int c), (4, .int d), (5, .int (nI a5)), (6, .int (nI k))] [.int v178, .int ((nI a5) - (Int32.ofInt 1)), .ref 27] h by
              refine am_goX 1 (show (¬ (f (a5 - 1)) = 0 → pz_S 8 (some .int) am_r105 1 Q 107 [(7, .int (dT C k)), (0, .ref 25), (1, .int a), (2, .int b), (3, .int c), (4, .int d), (5, .int (nI a5)), (6, .int (nI k))] [.int ((nI a5) - (Int32.ofInt 1)), .ref 27] h) ∧ (¬ ¬ (f (a5 - 1)) = 0 → pz_S 8 (some .int) am_r105 1 Q 103 [(7, .int (dT C k)), (0, .ref 25), (1, .int a), (2, .int b), (3, .int c), (4, .int d), (5, .int (nI a5)), (6, .int (nI k))] [.int ((nI a5) - (Int32.ofInt 1)), .ref 27] h) from ⟨fun c177 => ?_, fun c177 => ?_⟩)
              · refine am_goX 1 (show pz_S 8 (some .int) am_r105 1 Q 108 [(7, .int (dT C k)), (0, .ref 25), (1, .int a), (2, .int b), (3, .int c), (4, .int d), (5, .int (nI a5)), (6, .int (nI k))] [.int (Int32.ofInt 0), .int ((nI a5) - (Int32.ofInt 1)), .ref 27] h from ?_)
                exact sv_S2 sv2_105 (by intro q hq; simp only [List.mem_cons, List.not_mem_nil, or_false] at hq; rcases hq with rfl | rfl | rfl | rfl | rfl | rfl | rfl <;> rfl) (key _ (if_pos c177).symm)
              · refine am_goX 2 (show pz_S 8 (some .int) am_r105 1 Q 108 [(7, .int (dT C k)), (0, .ref 25), (1, .int a), (2, .int b), (3, .int c), (4, .int d), (5, .int (nI a5)), (6, .int (nI k))] [.int (Int32.ofInt 1), .int ((nI a5) - (Int32.ofInt 1)), .ref 27] h from ?_)
                exact sv_S2 sv2_105 (by intro q hq; simp only [List.mem_cons, List.not_mem_nil, or_false] at hq; rcases hq with rfl | rfl | rfl | rfl | rfl | rfl | rfl <;> rfl) (key _ (if_neg c177).symm)
            intro v178 e179
            subst e179
            refine am_goX 1 (show ∃ jj nn : Nat, am_so h 27 = some (13, nn) ∧ jj < nn ∧ (nI a5) - (Int32.ofInt 1) = nI jj ∧ pz_S 8 (some .int) am_r105 1 Q 109 [(0, .ref 25), (1, .int a), (2, .int b), (3, .int c), (4, .int d), (5, .int (nI a5)), (6, .int (nI k))] [] (am_wI h 27 jj (if ¬ (f (a5 - 1)) = 0 then Int32.ofInt 0 else Int32.ofInt 1)) from ⟨(a5 - 1), 32, ex_w27 hP, (by omega), (dn_s (by omega) rfl rfl), ?_⟩)
            have f181 : ex_P (am_wI h 27 (a5 - 1) (if ¬ (f (a5 - 1)) = 0 then Int32.ofInt 0 else Int32.ofInt 1)) := hP
            have f182 : c_v 17 C (am_wI h 27 (a5 - 1) (if ¬ (f (a5 - 1)) = 0 then Int32.ofInt 0 else Int32.ofInt 1)) := c_v_w (by omega) hT
            have f183 : lfr 27 h0 (am_wI h 27 (a5 - 1) (if ¬ (f (a5 - 1)) = 0 then Int32.ofInt 0 else Int32.ofInt 1)) := lfr_w hF
            have f184 : ∀ j, j < 32 → (am_wI h 27 (a5 - 1) (if ¬ (f (a5 - 1)) = 0 then Int32.ofInt 0 else Int32.ofInt 1)).1 27 j = (sp_uI f (a5 - 1) (if ¬ (f (a5 - 1)) = 0 then Int32.ofInt 0 else Int32.ofInt 1)) j := stk_w hK
            generalize am_wI h 27 (a5 - 1) (if ¬ (f (a5 - 1)) = 0 then Int32.ofInt 0 else Int32.ofInt 1) = h180 at f181 f182 f183 f184 ⊢
            refine am_goX 3 (show 6 < 8 ∧ pz_S 8 (some .int) am_r105 1 Q 6 [(6, .int ((nI k) + (Int32.ofInt 1))), (0, .ref 25), (1, .int a), (2, .int b), (3, .int c), (4, .int d), (5, .int (nI a5))] [] h180 from ⟨by decide, ?_⟩)
            rw [show d_105_6 C a b c d (m + 1) k a5 f = d_105_6 C a b c d m (k + 1) a5 (sp_uI f (a5 - 1) (if ¬ (f (a5 - 1)) = 0 then Int32.ofInt 0 else Int32.ofInt 1)) from (if_neg c135).trans ((if_pos c160).trans ((if_neg c161).trans (if_neg c169)))] at hZ
            rw [show (nI k) + (Int32.ofInt 1) = nI (k + 1) from (dn_a rfl rfl)]
            exact sv_S2 sv2_105 (by intro q hq; simp only [List.mem_cons, List.not_mem_nil, or_false] at hq; rcases hq with rfl | rfl | rfl | rfl | rfl | rfl | rfl <;> rfl) (ih (k + 1) a5 (sp_uI f (a5 - 1) (if ¬ (f (a5 - 1)) = 0 then Int32.ofInt 0 else Int32.ofInt 1)) _ (by omega) f181 f182 f183 f184 (by omega) hZ)
      · have c160n : ¬ (32 ≤ a5) := fun w => absurd (show nI 32 ≤ nI a5 from (nI_leI (by omega) (by omega)).mpr w) c160
        refine am_goX 2 (show am_sh h 25 = some (3, 0) ∧ pz_S 8 (some .int) am_r105 1 Q 42 [(7, .int (dT C k)), (0, .ref 25), (1, .int a), (2, .int b), (3, .int c), (4, .int d), (5, .int (nI a5)), (6, .int (nI k))] [am_rf (h.2.2.1 25 1)] h from ⟨ex_25 hP, ?_⟩)
        rw [show am_rf (h.2.2.1 25 1) = .ref 27 from congrArg am_rf (ex_r25_1 hP)]
        suffices key : ∀ (v186 : Int32), v186 = (if (dT C k) < 0 then d_106 (dT C k) a b c d else dT C k) → pz_S 8 (some .int) am_r105 1 Q 64 [(0, .ref 25), (1, .int a), (2, .int b), (3, .int c), (4, .int d), (5, .int (nI a5)), (6, .int (nI k))] [.int v186, .int (nI a5), .ref 27] h by
          refine am_goX 3 (show ((dT C k) < 0 → pz_S 8 (some .int) am_r105 1 Q 54 [(7, .int (dT C k)), (0, .ref 25), (1, .int a), (2, .int b), (3, .int c), (4, .int d), (5, .int (nI a5)), (6, .int (nI k))] [.int (nI a5), .ref 27] h) ∧ (¬ ((dT C k) < 0) → pz_S 8 (some .int) am_r105 1 Q 49 [(7, .int (dT C k)), (0, .ref 25), (1, .int a), (2, .int b), (3, .int c), (4, .int d), (5, .int (nI a5)), (6, .int (nI k))] [.int (nI a5), .ref 27] h) from ⟨fun c185 => ?_, fun c185 => ?_⟩)
          · refine am_goX 6 (show 2 ≤ 8 ∧ h.2.2.2.2 + am_al 106 ≤ 175 ∧ am_call am_cod 1 106 [.int (dT C k), .int a, .int b, .int c, .int d] h (fun vv h' => pz_S 8 (some .int) am_r105 1 Q 64 [(7, .int (dT C k)), (0, .ref 25), (1, .int a), (2, .int b), (3, .int c), (4, .int d), (5, .int (nI a5)), (6, .int (nI k))] (vv.toList ++ [.int (nI a5), .ref 27]) h') from ⟨by decide, ex_lim hP rfl, am_call.up (d_106_w hP ?_) (by decide)⟩)
            exact sv_S2 sv2_105 (by intro q hq; simp only [List.mem_cons, List.not_mem_nil, or_false] at hq; rcases hq with rfl | rfl | rfl | rfl | rfl | rfl | rfl <;> rfl) (key _ (if_pos c185).symm)
          · refine am_goX 2 (show pz_S 8 (some .int) am_r105 1 Q 64 [(7, .int (dT C k)), (0, .ref 25), (1, .int a), (2, .int b), (3, .int c), (4, .int d), (5, .int (nI a5)), (6, .int (nI k))] [.int (dT C k), .int (nI a5), .ref 27] h from ?_)
            exact sv_S2 sv2_105 (by intro q hq; simp only [List.mem_cons, List.not_mem_nil, or_false] at hq; rcases hq with rfl | rfl | rfl | rfl | rfl | rfl | rfl <;> rfl) (key _ (if_neg c185).symm)
        intro v186 e187
        subst e187
        refine am_goX 1 (show ∃ jj nn : Nat, am_so h 27 = some (13, nn) ∧ jj < nn ∧ nI a5 = nI jj ∧ pz_S 8 (some .int) am_r105 1 Q 65 [(0, .ref 25), (1, .int a), (2, .int b), (3, .int c), (4, .int d), (5, .int (nI a5)), (6, .int (nI k))] [] (am_wI h 27 jj (if (dT C k) < 0 then d_106 (dT C k) a b c d else dT C k)) from ⟨a5, 32, ex_w27 hP, (by omega), rfl, ?_⟩)
        have f189 : ex_P (am_wI h 27 a5 (if (dT C k) < 0 then d_106 (dT C k) a b c d else dT C k)) := hP
        have f190 : c_v 17 C (am_wI h 27 a5 (if (dT C k) < 0 then d_106 (dT C k) a b c d else dT C k)) := c_v_w (by omega) hT
        have f191 : lfr 27 h0 (am_wI h 27 a5 (if (dT C k) < 0 then d_106 (dT C k) a b c d else dT C k)) := lfr_w hF
        have f192 : ∀ j, j < 32 → (am_wI h 27 a5 (if (dT C k) < 0 then d_106 (dT C k) a b c d else dT C k)).1 27 j = (sp_uI f a5 (if (dT C k) < 0 then d_106 (dT C k) a b c d else dT C k)) j := stk_w hK
        generalize am_wI h 27 a5 (if (dT C k) < 0 then d_106 (dT C k) a b c d else dT C k) = h188 at f189 f190 f191 f192 ⊢
        refine am_goX 4 (show 5 < 8 ∧ 6 < 8 ∧ pz_S 8 (some .int) am_r105 1 Q 6 [(6, .int ((nI k) + (Int32.ofInt 1))), (5, .int ((nI a5) + (Int32.ofInt 1))), (0, .ref 25), (1, .int a), (2, .int b), (3, .int c), (4, .int d)] [] h188 from ⟨by decide, by decide, ?_⟩)
        rw [show d_105_6 C a b c d (m + 1) k a5 f = d_105_6 C a b c d m (k + 1) (a5 + 1) (sp_uI f a5 (if (dT C k) < 0 then d_106 (dT C k) a b c d else dT C k)) from (if_neg c135).trans (if_neg c160)] at hZ
        rw [show (nI k) + (Int32.ofInt 1) = nI (k + 1) from (dn_a rfl rfl)]
        rw [show (nI a5) + (Int32.ofInt 1) = nI (a5 + 1) from (dn_a rfl rfl)]
        exact sv_S2 sv2_105 (by intro q hq; simp only [List.mem_cons, List.not_mem_nil, or_false] at hq; rcases hq with rfl | rfl | rfl | rfl | rfl | rfl | rfl <;> rfl) (ih (k + 1) (a5 + 1) (sp_uI f a5 (if (dT C k) < 0 then d_106 (dT C k) a b c d else dT C k)) _ (by omega) f189 f190 f191 f192 (by omega) hZ)
theorem d_105_l17 (hP : ex_P h) (hT : c_v 17 C h) (hF : lfr 27 h0 h) (hK : ∀ j, j < 32 → h.1 27 j = f j)  (hQ : ∀ h1, (ex_P h1) → (c_v 17 C h1) → (lfr 27 h0 h1) → (∀ j, j < 32 → h1.1 27 j = (d_105_f C a b c d f) j) → Q (some (.int (d_105 C a b c d f))) h1) : am_call am_cod 2 105 [.ref 25, .int a, .int b, .int c, .int d] h Q := by
  have hM := hT.2.2.2.2.1
  refine pz_call (n := 105) (nL := 8) (rt := (some .int)) (rows := am_r105) (d := 1) (by decide +kernel) (by decide +kernel) rfl (by funext pc; rfl) (ex_175 hP) (by exact Nat.le_of_ble_eq_true rfl) ?_
  refine am_goX 4 (show 5 < 8 ∧ 6 < 8 ∧ pz_S 8 (some .int) am_r105 1 Q 6 [(6, .int (Int32.ofInt 0)), (5, .int (Int32.ofInt 0)), (0, .ref 25), (1, .int a), (2, .int b), (3, .int c), (4, .int d)] [] h from ⟨by decide, by decide, ?_⟩)
  refine sv_S2 sv2_105 (by intro q hq; simp only [List.mem_cons, List.not_mem_nil, or_false] at hq; rcases hq with rfl | rfl | rfl | rfl | rfl | rfl | rfl <;> rfl) (d_105_6_l17 (dM C) 0 0 f _ (by omega) hP hT hF hK (by omega) (fun h193 f194 f195 f196 f197 i198 => ?_))
  suffices key : ∀ (v200 : Int32), v200 = (if (nI ((d_105_6 C a b c d (dM C) 0 0 f).1)) ≤ 0 then Int32.ofInt 1 else ((d_105_6 C a b c d (dM C) 0 0 f).2) 0) → pz_S 8 (some .int) am_r105 1 Q 179 [] [.int v200] h193 by
    refine am_goX 2 (show ((nI ((d_105_6 C a b c d (dM C) 0 0 f).1)) ≤ 0 → pz_S 8 (some .int) am_r105 1 Q 178 [(0, .ref 25), (5, .int (nI ((d_105_6 C a b c d (dM C) 0 0 f).1)))] [] h193) ∧ (¬ ((nI ((d_105_6 C a b c d (dM C) 0 0 f).1)) ≤ 0) → pz_S 8 (some .int) am_r105 1 Q 169 [(0, .ref 25), (5, .int (nI ((d_105_6 C a b c d (dM C) 0 0 f).1)))] [] h193) from ⟨fun c199 => ?_, fun c199 => ?_⟩)
    · have c199n : (d_105_6 C a b c d (dM C) 0 0 f).1 ≤ 0 := (nI_leI (by omega) (by omega)).mp (show nI ((d_105_6 C a b c d (dM C) 0 0 f).1) ≤ nI 0 from c199)
      refine am_goX 1 (show pz_S 8 (some .int) am_r105 1 Q 179 [(0, .ref 25), (5, .int (nI ((d_105_6 C a b c d (dM C) 0 0 f).1)))] [.int (Int32.ofInt 1)] h193 from ?_)
      exact sv_S2 sv2_105 (fun q hq => absurd hq List.not_mem_nil) (key _ (if_pos c199).symm)
    · have c199n : ¬ ((d_105_6 C a b c d (dM C) 0 0 f).1 ≤ 0) := fun w => absurd (show nI ((d_105_6 C a b c d (dM C) 0 0 f).1) ≤ nI 0 from (nI_leI (by omega) (by omega)).mpr w) c199
      refine am_goX 2 (show am_sh h193 25 = some (3, 0) ∧ pz_S 8 (some .int) am_r105 1 Q 173 [(0, .ref 25), (5, .int (nI ((d_105_6 C a b c d (dM C) 0 0 f).1)))] [am_rf (h193.2.2.1 25 1)] h193 from ⟨ex_25 f194, ?_⟩)
      rw [show am_rf (h193.2.2.1 25 1) = .ref 27 from congrArg am_rf (ex_r25_1 f194)]
      refine am_goX 2 (show ∃ jj nn : Nat, am_sh h193 27 = some (13, nn) ∧ jj < nn ∧ Int32.ofInt 0 = nI jj ∧ pz_S 8 (some .int) am_r105 1 Q 175 [(0, .ref 25), (5, .int (nI ((d_105_6 C a b c d (dM C) 0 0 f).1)))] [.int (h193.1 27 jj)] h193 from ⟨0, 32, ex_27 f194, (by omega), rfl, ?_⟩)
      rw [show h193.1 27 0 = ((d_105_6 C a b c d (dM C) 0 0 f).2) 0 from f197 0 (by omega)]
      refine am_goX 1 (show pz_S 8 (some .int) am_r105 1 Q 179 [(0, .ref 25), (5, .int (nI ((d_105_6 C a b c d (dM C) 0 0 f).1)))] [.int (((d_105_6 C a b c d (dM C) 0 0 f).2) 0)] h193 from ?_)
      exact sv_S2 sv2_105 (fun q hq => absurd hq List.not_mem_nil) (key _ (if_neg c199).symm)
  intro v200 e201
  subst e201
  exact am_goX 1 (show (∃ ty, (some .int) = some ty ∧ narrow ty (.int (if (nI ((d_105_6 C a b c d (dM C) 0 0 f).1)) ≤ 0 then Int32.ofInt 1 else ((d_105_6 C a b c d (dM C) 0 0 f).2) 0)) = .int (if (nI ((d_105_6 C a b c d (dM C) 0 0 f).1)) ≤ 0 then Int32.ofInt 1 else ((d_105_6 C a b c d (dM C) 0 0 f).2) 0)) ∧ h193.2.2.2.2 = 175 ∧ _ from ⟨⟨.int, rfl, rfl⟩, ex_175 f194, hQ _ f194 f195 f196 f197⟩)
end
