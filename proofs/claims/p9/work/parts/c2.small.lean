/-! WALKS: hasBit, bitCount, of the class's told canton; the reference's small readers -/
variable {h : am_H} {Q : am_Q} {C : sp_C} {x y w : Int32} {p q e : Nat}
theorem sv2_65 : am_r65.all (fun q => sv2_ok q.2) = true := by decide +kernel
theorem sv2_87 : am_r87.all (fun q => sv2_ok q.2) = true := by decide +kernel
theorem sv2_91 : am_r91.all (fun q => sv2_ok q.2) = true := by decide +kernel
theorem sv2_166 : am_r166.all (fun q => sv2_ok q.2) = true := by decide +kernel
theorem sv2_167 : am_r167.all (fun q => sv2_ok q.2) = true := by decide +kernel
theorem sv2_221 : am_r221.all (fun q => sv2_ok q.2) = true := by decide +kernel
theorem sv2_235 : am_r235.all (fun q => sv2_ok q.2) = true := by decide +kernel
theorem sv2_283 : am_r283.all (fun q => sv2_ok q.2) = true := by decide +kernel
def d_65 (x y : Int32) : Int32 := (if ((x >>> (y &&& 31)) &&& (Int32.ofInt 1)) = 0 then Int32.ofInt 0 else Int32.ofInt 1)
theorem d_65_w (hP : ex_P h)  (hQ : Q (some (.int (d_65 x y))) h) : am_call am_cod 1 65 [.int x, .int y] h Q := by
  refine pz_call (n := 65) (nL := 2) (rt := (some .boolean)) (rows := am_r65) (d := 0) (by decide +kernel) (by decide +kernel) rfl (by funext pc; rfl) (ex_175 hP) (by exact Nat.le_of_ble_eq_true rfl) ?_
  suffices key : ∀ (v2 : Int32), v2 = (if ((x >>> (y &&& 31)) &&& (Int32.ofInt 1)) = 0 then Int32.ofInt 0 else Int32.ofInt 1) → pz_S 2 (some .boolean) am_r65 0 Q 13 [] [.int v2] h by
    refine am_goX 6 (show (((x >>> (y &&& 31)) &&& (Int32.ofInt 1)) = 0 → pz_S 2 (some .boolean) am_r65 0 Q 12 [(0, .int x), (1, .int y)] [] h) ∧ (¬ (((x >>> (y &&& 31)) &&& (Int32.ofInt 1)) = 0) → pz_S 2 (some .boolean) am_r65 0 Q 8 [(0, .int x), (1, .int y)] [] h) from ⟨fun c1 => ?_, fun c1 => ?_⟩)
    · refine am_goX 1 (show pz_S 2 (some .boolean) am_r65 0 Q 13 [(0, .int x), (1, .int y)] [.int (Int32.ofInt 0)] h from ?_)
      exact sv_S2 sv2_65 (fun q hq => absurd hq List.not_mem_nil) (key _ (if_pos c1).symm)
    · refine am_goX 2 (show pz_S 2 (some .boolean) am_r65 0 Q 13 [(0, .int x), (1, .int y)] [.int (Int32.ofInt 1)] h from ?_)
      exact sv_S2 sv2_65 (fun q hq => absurd hq List.not_mem_nil) (key _ (if_neg c1).symm)
  intro v2 e3
  subst e3
  exact am_goX 1 (show (∃ ty, (some .boolean) = some ty ∧ narrow ty (.int (if ((x >>> (y &&& 31)) &&& (Int32.ofInt 1)) = 0 then Int32.ofInt 0 else Int32.ofInt 1)) = .int (if ((x >>> (y &&& 31)) &&& (Int32.ofInt 1)) = 0 then Int32.ofInt 0 else Int32.ofInt 1)) ∧ h.2.2.2.2 = 175 ∧ _ from ⟨⟨.boolean, rfl, (by (repeat' split) <;> rfl)⟩, ex_175 hP, hQ⟩)
def d_69 (x : Int32) : Int32 := (((((((x - (((x.toUInt32 >>> ((Int32.ofInt 1).toUInt32 &&& Int32.toUInt32 31)).toInt32) &&& (am_ki 3))) &&& (am_ki 4)) + ((((x - (((x.toUInt32 >>> ((Int32.ofInt 1).toUInt32 &&& Int32.toUInt32 31)).toInt32) &&& (am_ki 3))).toUInt32 >>> ((Int32.ofInt 2).toUInt32 &&& Int32.toUInt32 31)).toInt32) &&& (am_ki 4))) + (((((x - (((x.toUInt32 >>> ((Int32.ofInt 1).toUInt32 &&& Int32.toUInt32 31)).toInt32) &&& (am_ki 3))) &&& (am_ki 4)) + ((((x - (((x.toUInt32 >>> ((Int32.ofInt 1).toUInt32 &&& Int32.toUInt32 31)).toInt32) &&& (am_ki 3))).toUInt32 >>> ((Int32.ofInt 2).toUInt32 &&& Int32.toUInt32 31)).toInt32) &&& (am_ki 4))).toUInt32 >>> ((Int32.ofInt 4).toUInt32 &&& Int32.toUInt32 31)).toInt32)) &&& (am_ki 5)) + (((((((x - (((x.toUInt32 >>> ((Int32.ofInt 1).toUInt32 &&& Int32.toUInt32 31)).toInt32) &&& (am_ki 3))) &&& (am_ki 4)) + ((((x - (((x.toUInt32 >>> ((Int32.ofInt 1).toUInt32 &&& Int32.toUInt32 31)).toInt32) &&& (am_ki 3))).toUInt32 >>> ((Int32.ofInt 2).toUInt32 &&& Int32.toUInt32 31)).toInt32) &&& (am_ki 4))) + (((((x - (((x.toUInt32 >>> ((Int32.ofInt 1).toUInt32 &&& Int32.toUInt32 31)).toInt32) &&& (am_ki 3))) &&& (am_ki 4)) + ((((x - (((x.toUInt32 >>> ((Int32.ofInt 1).toUInt32 &&& Int32.toUInt32 31)).toInt32) &&& (am_ki 3))).toUInt32 >>> ((Int32.ofInt 2).toUInt32 &&& Int32.toUInt32 31)).toInt32) &&& (am_ki 4))).toUInt32 >>> ((Int32.ofInt 4).toUInt32 &&& Int32.toUInt32 31)).toInt32)) &&& (am_ki 5)).toUInt32 >>> (((Int8.ofInt 8).toInt32).toUInt32 &&& Int32.toUInt32 31)).toInt32)) + ((((((((x - (((x.toUInt32 >>> ((Int32.ofInt 1).toUInt32 &&& Int32.toUInt32 31)).toInt32) &&& (am_ki 3))) &&& (am_ki 4)) + ((((x - (((x.toUInt32 >>> ((Int32.ofInt 1).toUInt32 &&& Int32.toUInt32 31)).toInt32) &&& (am_ki 3))).toUInt32 >>> ((Int32.ofInt 2).toUInt32 &&& Int32.toUInt32 31)).toInt32) &&& (am_ki 4))) + (((((x - (((x.toUInt32 >>> ((Int32.ofInt 1).toUInt32 &&& Int32.toUInt32 31)).toInt32) &&& (am_ki 3))) &&& (am_ki 4)) + ((((x - (((x.toUInt32 >>> ((Int32.ofInt 1).toUInt32 &&& Int32.toUInt32 31)).toInt32) &&& (am_ki 3))).toUInt32 >>> ((Int32.ofInt 2).toUInt32 &&& Int32.toUInt32 31)).toInt32) &&& (am_ki 4))).toUInt32 >>> ((Int32.ofInt 4).toUInt32 &&& Int32.toUInt32 31)).toInt32)) &&& (am_ki 5)) + (((((((x - (((x.toUInt32 >>> ((Int32.ofInt 1).toUInt32 &&& Int32.toUInt32 31)).toInt32) &&& (am_ki 3))) &&& (am_ki 4)) + ((((x - (((x.toUInt32 >>> ((Int32.ofInt 1).toUInt32 &&& Int32.toUInt32 31)).toInt32) &&& (am_ki 3))).toUInt32 >>> ((Int32.ofInt 2).toUInt32 &&& Int32.toUInt32 31)).toInt32) &&& (am_ki 4))) + (((((x - (((x.toUInt32 >>> ((Int32.ofInt 1).toUInt32 &&& Int32.toUInt32 31)).toInt32) &&& (am_ki 3))) &&& (am_ki 4)) + ((((x - (((x.toUInt32 >>> ((Int32.ofInt 1).toUInt32 &&& Int32.toUInt32 31)).toInt32) &&& (am_ki 3))).toUInt32 >>> ((Int32.ofInt 2).toUInt32 &&& Int32.toUInt32 31)).toInt32) &&& (am_ki 4))).toUInt32 >>> ((Int32.ofInt 4).toUInt32 &&& Int32.toUInt32 31)).toInt32)) &&& (am_ki 5)).toUInt32 >>> (((Int8.ofInt 8).toInt32).toUInt32 &&& Int32.toUInt32 31)).toInt32)).toUInt32 >>> (((Int8.ofInt 16).toInt32).toUInt32 &&& Int32.toUInt32 31)).toInt32)) &&& ((Int8.ofInt 63).toInt32)
theorem d_69_w (hP : ex_P h)  (hQ : Q (some (.int (d_69 x))) h) : am_call am_cod 1 69 [.int x] h Q := by
  refine pz_call (n := 69) (nL := 1) (rt := (some .int)) (rows := am_r69) (d := 0) (by decide +kernel) (by decide +kernel) rfl (by funext pc; rfl) (ex_175 hP) (by exact Nat.le_of_ble_eq_true rfl) ?_
  exact am_goX 42 (show 0 < 1 ∧ 0 < 1 ∧ 0 < 1 ∧ 0 < 1 ∧ 0 < 1 ∧ (∃ ty, (some .int) = some ty ∧ narrow ty (.int ((((((((x - (((x.toUInt32 >>> ((Int32.ofInt 1).toUInt32 &&& Int32.toUInt32 31)).toInt32) &&& (am_ki 3))) &&& (am_ki 4)) + ((((x - (((x.toUInt32 >>> ((Int32.ofInt 1).toUInt32 &&& Int32.toUInt32 31)).toInt32) &&& (am_ki 3))).toUInt32 >>> ((Int32.ofInt 2).toUInt32 &&& Int32.toUInt32 31)).toInt32) &&& (am_ki 4))) + (((((x - (((x.toUInt32 >>> ((Int32.ofInt 1).toUInt32 &&& Int32.toUInt32 31)).toInt32) &&& (am_ki 3))) &&& (am_ki 4)) + ((((x - (((x.toUInt32 >>> ((Int32.ofInt 1).toUInt32 &&& Int32.toUInt32 31)).toInt32) &&& (am_ki 3))).toUInt32 >>> ((Int32.ofInt 2).toUInt32 &&& Int32.toUInt32 31)).toInt32) &&& (am_ki 4))).toUInt32 >>> ((Int32.ofInt 4).toUInt32 &&& Int32.toUInt32 31)).toInt32)) &&& (am_ki 5)) + (((((((x - (((x.toUInt32 >>> ((Int32.ofInt 1).toUInt32 &&& Int32.toUInt32 31)).toInt32) &&& (am_ki 3))) &&& (am_ki 4)) + ((((x - (((x.toUInt32 >>> ((Int32.ofInt 1).toUInt32 &&& Int32.toUInt32 31)).toInt32) &&& (am_ki 3))).toUInt32 >>> ((Int32.ofInt 2).toUInt32 &&& Int32.toUInt32 31)).toInt32) &&& (am_ki 4))) + (((((x - (((x.toUInt32 >>> ((Int32.ofInt 1).toUInt32 &&& Int32.toUInt32 31)).toInt32) &&& (am_ki 3))) &&& (am_ki 4)) + ((((x - (((x.toUInt32 >>> ((Int32.ofInt 1).toUInt32 &&& Int32.toUInt32 31)).toInt32) &&& (am_ki 3))).toUInt32 >>> ((Int32.ofInt 2).toUInt32 &&& Int32.toUInt32 31)).toInt32) &&& (am_ki 4))).toUInt32 >>> ((Int32.ofInt 4).toUInt32 &&& Int32.toUInt32 31)).toInt32)) &&& (am_ki 5)).toUInt32 >>> (((Int8.ofInt 8).toInt32).toUInt32 &&& Int32.toUInt32 31)).toInt32)) + ((((((((x - (((x.toUInt32 >>> ((Int32.ofInt 1).toUInt32 &&& Int32.toUInt32 31)).toInt32) &&& (am_ki 3))) &&& (am_ki 4)) + ((((x - (((x.toUInt32 >>> ((Int32.ofInt 1).toUInt32 &&& Int32.toUInt32 31)).toInt32) &&& (am_ki 3))).toUInt32 >>> ((Int32.ofInt 2).toUInt32 &&& Int32.toUInt32 31)).toInt32) &&& (am_ki 4))) + (((((x - (((x.toUInt32 >>> ((Int32.ofInt 1).toUInt32 &&& Int32.toUInt32 31)).toInt32) &&& (am_ki 3))) &&& (am_ki 4)) + ((((x - (((x.toUInt32 >>> ((Int32.ofInt 1).toUInt32 &&& Int32.toUInt32 31)).toInt32) &&& (am_ki 3))).toUInt32 >>> ((Int32.ofInt 2).toUInt32 &&& Int32.toUInt32 31)).toInt32) &&& (am_ki 4))).toUInt32 >>> ((Int32.ofInt 4).toUInt32 &&& Int32.toUInt32 31)).toInt32)) &&& (am_ki 5)) + (((((((x - (((x.toUInt32 >>> ((Int32.ofInt 1).toUInt32 &&& Int32.toUInt32 31)).toInt32) &&& (am_ki 3))) &&& (am_ki 4)) + ((((x - (((x.toUInt32 >>> ((Int32.ofInt 1).toUInt32 &&& Int32.toUInt32 31)).toInt32) &&& (am_ki 3))).toUInt32 >>> ((Int32.ofInt 2).toUInt32 &&& Int32.toUInt32 31)).toInt32) &&& (am_ki 4))) + (((((x - (((x.toUInt32 >>> ((Int32.ofInt 1).toUInt32 &&& Int32.toUInt32 31)).toInt32) &&& (am_ki 3))) &&& (am_ki 4)) + ((((x - (((x.toUInt32 >>> ((Int32.ofInt 1).toUInt32 &&& Int32.toUInt32 31)).toInt32) &&& (am_ki 3))).toUInt32 >>> ((Int32.ofInt 2).toUInt32 &&& Int32.toUInt32 31)).toInt32) &&& (am_ki 4))).toUInt32 >>> ((Int32.ofInt 4).toUInt32 &&& Int32.toUInt32 31)).toInt32)) &&& (am_ki 5)).toUInt32 >>> (((Int8.ofInt 8).toInt32).toUInt32 &&& Int32.toUInt32 31)).toInt32)).toUInt32 >>> (((Int8.ofInt 16).toInt32).toUInt32 &&& Int32.toUInt32 31)).toInt32)) &&& ((Int8.ofInt 63).toInt32))) = .int ((((((((x - (((x.toUInt32 >>> ((Int32.ofInt 1).toUInt32 &&& Int32.toUInt32 31)).toInt32) &&& (am_ki 3))) &&& (am_ki 4)) + ((((x - (((x.toUInt32 >>> ((Int32.ofInt 1).toUInt32 &&& Int32.toUInt32 31)).toInt32) &&& (am_ki 3))).toUInt32 >>> ((Int32.ofInt 2).toUInt32 &&& Int32.toUInt32 31)).toInt32) &&& (am_ki 4))) + (((((x - (((x.toUInt32 >>> ((Int32.ofInt 1).toUInt32 &&& Int32.toUInt32 31)).toInt32) &&& (am_ki 3))) &&& (am_ki 4)) + ((((x - (((x.toUInt32 >>> ((Int32.ofInt 1).toUInt32 &&& Int32.toUInt32 31)).toInt32) &&& (am_ki 3))).toUInt32 >>> ((Int32.ofInt 2).toUInt32 &&& Int32.toUInt32 31)).toInt32) &&& (am_ki 4))).toUInt32 >>> ((Int32.ofInt 4).toUInt32 &&& Int32.toUInt32 31)).toInt32)) &&& (am_ki 5)) + (((((((x - (((x.toUInt32 >>> ((Int32.ofInt 1).toUInt32 &&& Int32.toUInt32 31)).toInt32) &&& (am_ki 3))) &&& (am_ki 4)) + ((((x - (((x.toUInt32 >>> ((Int32.ofInt 1).toUInt32 &&& Int32.toUInt32 31)).toInt32) &&& (am_ki 3))).toUInt32 >>> ((Int32.ofInt 2).toUInt32 &&& Int32.toUInt32 31)).toInt32) &&& (am_ki 4))) + (((((x - (((x.toUInt32 >>> ((Int32.ofInt 1).toUInt32 &&& Int32.toUInt32 31)).toInt32) &&& (am_ki 3))) &&& (am_ki 4)) + ((((x - (((x.toUInt32 >>> ((Int32.ofInt 1).toUInt32 &&& Int32.toUInt32 31)).toInt32) &&& (am_ki 3))).toUInt32 >>> ((Int32.ofInt 2).toUInt32 &&& Int32.toUInt32 31)).toInt32) &&& (am_ki 4))).toUInt32 >>> ((Int32.ofInt 4).toUInt32 &&& Int32.toUInt32 31)).toInt32)) &&& (am_ki 5)).toUInt32 >>> (((Int8.ofInt 8).toInt32).toUInt32 &&& Int32.toUInt32 31)).toInt32)) + ((((((((x - (((x.toUInt32 >>> ((Int32.ofInt 1).toUInt32 &&& Int32.toUInt32 31)).toInt32) &&& (am_ki 3))) &&& (am_ki 4)) + ((((x - (((x.toUInt32 >>> ((Int32.ofInt 1).toUInt32 &&& Int32.toUInt32 31)).toInt32) &&& (am_ki 3))).toUInt32 >>> ((Int32.ofInt 2).toUInt32 &&& Int32.toUInt32 31)).toInt32) &&& (am_ki 4))) + (((((x - (((x.toUInt32 >>> ((Int32.ofInt 1).toUInt32 &&& Int32.toUInt32 31)).toInt32) &&& (am_ki 3))) &&& (am_ki 4)) + ((((x - (((x.toUInt32 >>> ((Int32.ofInt 1).toUInt32 &&& Int32.toUInt32 31)).toInt32) &&& (am_ki 3))).toUInt32 >>> ((Int32.ofInt 2).toUInt32 &&& Int32.toUInt32 31)).toInt32) &&& (am_ki 4))).toUInt32 >>> ((Int32.ofInt 4).toUInt32 &&& Int32.toUInt32 31)).toInt32)) &&& (am_ki 5)) + (((((((x - (((x.toUInt32 >>> ((Int32.ofInt 1).toUInt32 &&& Int32.toUInt32 31)).toInt32) &&& (am_ki 3))) &&& (am_ki 4)) + ((((x - (((x.toUInt32 >>> ((Int32.ofInt 1).toUInt32 &&& Int32.toUInt32 31)).toInt32) &&& (am_ki 3))).toUInt32 >>> ((Int32.ofInt 2).toUInt32 &&& Int32.toUInt32 31)).toInt32) &&& (am_ki 4))) + (((((x - (((x.toUInt32 >>> ((Int32.ofInt 1).toUInt32 &&& Int32.toUInt32 31)).toInt32) &&& (am_ki 3))) &&& (am_ki 4)) + ((((x - (((x.toUInt32 >>> ((Int32.ofInt 1).toUInt32 &&& Int32.toUInt32 31)).toInt32) &&& (am_ki 3))).toUInt32 >>> ((Int32.ofInt 2).toUInt32 &&& Int32.toUInt32 31)).toInt32) &&& (am_ki 4))).toUInt32 >>> ((Int32.ofInt 4).toUInt32 &&& Int32.toUInt32 31)).toInt32)) &&& (am_ki 5)).toUInt32 >>> (((Int8.ofInt 8).toInt32).toUInt32 &&& Int32.toUInt32 31)).toInt32)).toUInt32 >>> (((Int8.ofInt 16).toInt32).toUInt32 &&& Int32.toUInt32 31)).toInt32)) &&& ((Int8.ofInt 63).toInt32))) ∧ h.2.2.2.2 = 175 ∧ _ from ⟨by decide, by decide, by decide, by decide, by decide, ⟨.int, rfl, rfl⟩, ex_175 hP, hQ⟩)
def d_87 (C : sp_C) (x : Int32) : Int32 := (if x < 0 then Int32.ofInt 0 else (if (nI (dP C)) ≤ x then Int32.ofInt 0 else Int32.ofInt 1))
theorem d_87_t6 (hP : ex_P h) (hT : c_v 6 C h) (hR : h.2.2.1 0 3 = some 6)  (hQ : Q (some (.int (d_87 C x))) h) : am_call am_cod 2 87 [.ref 0, .int x] h Q := by
  have h6 := hT.1.2.1
  have h5 := hT.2.1.2.1
  refine pz_call (n := 87) (nL := 2) (rt := (some .boolean)) (rows := am_r87) (d := 1) (by decide +kernel) (by decide +kernel) rfl (by funext pc; rfl) (ex_175 hP) (by exact Nat.le_of_ble_eq_true rfl) ?_
  suffices key : ∀ (v5 : Int32), v5 = (if x < 0 then Int32.ofInt 0 else (if (nI (dP C)) ≤ x then Int32.ofInt 0 else Int32.ofInt 1)) → pz_S 2 (some .boolean) am_r87 1 Q 20 [] [.int v5] h by
    refine am_goX 2 (show (x < 0 → pz_S 2 (some .boolean) am_r87 1 Q 19 [(0, .ref 0), (1, .int x)] [] h) ∧ (¬ (x < 0) → pz_S 2 (some .boolean) am_r87 1 Q 4 [(0, .ref 0), (1, .int x)] [] h) from ⟨fun c4 => ?_, fun c4 => ?_⟩)
    · refine am_goX 1 (show pz_S 2 (some .boolean) am_r87 1 Q 20 [(0, .ref 0), (1, .int x)] [.int (Int32.ofInt 0)] h from ?_)
      exact sv_S2 sv2_87 (fun q hq => absurd hq List.not_mem_nil) (key _ (if_pos c4).symm)
    · refine am_goX 3 (show am_sh h 0 = some (10, 0) ∧ pz_S 2 (some .boolean) am_r87 1 Q 9 [(0, .ref 0), (1, .int x)] [am_rf (h.2.2.1 0 3), .int x] h from ⟨ex_0 hP, ?_⟩)
      rw [show am_rf (h.2.2.1 0 3) = .ref 6 from congrArg am_rf (hR)]
      refine am_goX 1 (show am_sh h 6 = some (0, 0) ∧ pz_S 2 (some .boolean) am_r87 1 Q 12 [(0, .ref 0), (1, .int x)] [.int (h.1 6 0), .int x] h from ⟨ex_6 hP, ?_⟩)
      rw [show h.1 6 0 = nI (dP C) from hT.1.1]
      suffices key : ∀ (v7 : Int32), v7 = (if (nI (dP C)) ≤ x then Int32.ofInt 0 else Int32.ofInt 1) → pz_S 2 (some .boolean) am_r87 1 Q 20 [] [.int v7] h by
        refine am_goX 1 (show ((nI (dP C)) ≤ x → pz_S 2 (some .boolean) am_r87 1 Q 19 [(0, .ref 0), (1, .int x)] [] h) ∧ (¬ ((nI (dP C)) ≤ x) → pz_S 2 (some .boolean) am_r87 1 Q 15 [(0, .ref 0), (1, .int x)] [] h) from ⟨fun c6 => ?_, fun c6 => ?_⟩)
        · refine am_goX 1 (show pz_S 2 (some .boolean) am_r87 1 Q 20 [(0, .ref 0), (1, .int x)] [.int (Int32.ofInt 0)] h from ?_)
          exact sv_S2 sv2_87 (fun q hq => absurd hq List.not_mem_nil) (key _ (if_pos c6).symm)
        · refine am_goX 2 (show pz_S 2 (some .boolean) am_r87 1 Q 20 [(0, .ref 0), (1, .int x)] [.int (Int32.ofInt 1)] h from ?_)
          exact sv_S2 sv2_87 (fun q hq => absurd hq List.not_mem_nil) (key _ (if_neg c6).symm)
      intro v7 e8
      subst e8
      exact sv_S2 sv2_87 (fun q hq => absurd hq List.not_mem_nil) (key _ (if_neg c4).symm)
  intro v5 e9
  subst e9
  exact am_goX 1 (show (∃ ty, (some .boolean) = some ty ∧ narrow ty (.int (if x < 0 then Int32.ofInt 0 else (if (nI (dP C)) ≤ x then Int32.ofInt 0 else Int32.ofInt 1))) = .int (if x < 0 then Int32.ofInt 0 else (if (nI (dP C)) ≤ x then Int32.ofInt 0 else Int32.ofInt 1))) ∧ h.2.2.2.2 = 175 ∧ _ from ⟨⟨.boolean, rfl, (by (repeat' split) <;> rfl)⟩, ex_175 hP, hQ⟩)
theorem x_lt0 {x : Int32} : (x < Int32.ofInt 0) = (x.toInt < 0) := by
  apply propext
  rw [Int32.lt_iff_toInt_lt]
  exact Iff.of_eq rfl
theorem v_87 (hp : p < dP C) (h6 : dP C ≤ 6 := by omega) : d_87 C (nI p) = Int32.ofInt 1 := by
  unfold d_87
  rw [if_neg (show ¬ (nI p < 0) from nI_pos (by omega)), if_neg (show ¬ (nI (dP C) ≤ nI p) by rw [nI_leI (by omega) (by omega)]; omega)]
theorem c_87 (h6 : dP C ≤ 6) (x : Int32) : d_87 C x = Int32.ofInt 0 ∨ ∃ p, p < dP C ∧ x = nI p := by
  unfold d_87
  by_cases h1 : x < 0
  · rw [if_pos h1]; exact Or.inl rfl
  · rw [if_neg h1]
    by_cases h2 : nI (dP C) ≤ x
    · rw [if_pos h2]; exact Or.inl rfl
    · refine Or.inr ⟨x.toInt.toNat, ?_, ?_⟩
      · have a := mt Int32.le_iff_toInt_le.mpr h2
        rw [nI_toInt (by omega)] at a
        have b := mt Int32.lt_iff_toInt_lt.mpr h1
        have e0 : (0 : Int32).toInt = 0 := rfl
        omega
      · have b := mt Int32.lt_iff_toInt_lt.mpr h1
        have e0 : (0 : Int32).toInt = 0 := rfl
        have a := mt Int32.le_iff_toInt_le.mpr h2
        rw [nI_toInt (by omega)] at a
        exact Int32.toInt_inj.mp (by rw [nI_toInt (by omega)]; omega)
def d_91_4 (C : sp_C) (p : Nat) : Nat → Nat → Int32 → Int32
  | 0, _, a2 => a2
  | m + 1, k, a2 => d_91_4 C p m (k + 1) (if (d_65 (dG C k) (nI p)) = 0 then a2 else a2 ||| ((Int32.ofInt 1) <<< ((nI k) &&& 31)))
theorem d_91_4_t6 (hP : ex_P h) (hT : c_v 6 C h) : ∀ (m k : Nat) (a2 : Int32), k + m = dE C → (pz_S 4 (some .int) am_r91 1 Q 37 [(2, .int (d_91_4 C p m k a2))] [] h) → pz_S 4 (some .int) am_r91 1 Q 4 [(0, .ref 6), (1, .int (nI p)), (2, .int a2), (3, .int (nI k))] [] h := by
  intro m
  induction m with
  | zero =>
    intro k a2 hk hZ
    have h6 := hT.1.2.1
    have h5 := hT.2.1.2.1
    refine am_goX 3 (show am_sh h 6 = some (0, 0) ∧ pz_S 4 (some .int) am_r91 1 Q 9 [(0, .ref 6), (1, .int (nI p)), (2, .int a2), (3, .int (nI k))] [.int (h.1 6 4), .int (nI k)] h from ⟨ex_6 hP, ?_⟩)
    rw [show h.1 6 4 = nI (dE C) from hT.2.1.1]
    refine am_goX 1 (show ((nI (dE C)) ≤ (nI k) → pz_S 4 (some .int) am_r91 1 Q 37 [(0, .ref 6), (1, .int (nI p)), (2, .int a2), (3, .int (nI k))] [] h) ∧ (¬ ((nI (dE C)) ≤ (nI k)) → pz_S 4 (some .int) am_r91 1 Q 12 [(0, .ref 6), (1, .int (nI p)), (2, .int a2), (3, .int (nI k))] [] h) from ⟨fun _ => ?_, fun hz => absurd (show nI (dE C) ≤ nI k from nI_le (by omega) (by omega)) hz⟩)
    exact sv_S2 sv2_91 (by intro q hq; simp only [List.mem_cons, List.not_mem_nil, or_false] at hq; rcases hq with rfl <;> rfl) (hZ)
  | succ m ih =>
    intro k a2 hk hZ
    have h6 := hT.1.2.1
    have h5 := hT.2.1.2.1
    refine am_goX 3 (show am_sh h 6 = some (0, 0) ∧ pz_S 4 (some .int) am_r91 1 Q 9 [(0, .ref 6), (1, .int (nI p)), (2, .int a2), (3, .int (nI k))] [.int (h.1 6 4), .int (nI k)] h from ⟨ex_6 hP, ?_⟩)
    rw [show h.1 6 4 = nI (dE C) from hT.2.1.1]
    refine am_goX 1 (show ((nI (dE C)) ≤ (nI k) → pz_S 4 (some .int) am_r91 1 Q 37 [(0, .ref 6), (1, .int (nI p)), (2, .int a2), (3, .int (nI k))] [] h) ∧ (¬ ((nI (dE C)) ≤ (nI k)) → pz_S 4 (some .int) am_r91 1 Q 12 [(0, .ref 6), (1, .int (nI p)), (2, .int a2), (3, .int (nI k))] [] h) from ⟨fun hz => absurd hz (show ¬ (nI (dE C) ≤ nI k) by rw [nI_leI (by omega) (by omega)]; omega), fun _ => ?_⟩)
    refine am_goX 2 (show am_sh h 6 = some (0, 0) ∧ pz_S 4 (some .int) am_r91 1 Q 16 [(0, .ref 6), (1, .int (nI p)), (2, .int a2), (3, .int (nI k))] [am_rf (h.2.2.1 6 8)] h from ⟨ex_6 hP, ?_⟩)
    rw [show am_rf (h.2.2.1 6 8) = .ref 13 from congrArg am_rf (ex_r6_8 hP)]
    refine am_goX 2 (show ∃ jj nn : Nat, am_sh h 13 = some (13, nn) ∧ jj < nn ∧ nI k = nI jj ∧ pz_S 4 (some .int) am_r91 1 Q 18 [(0, .ref 6), (1, .int (nI p)), (2, .int a2), (3, .int (nI k))] [.int (h.1 13 jj)] h from ⟨k, 5, ex_13 hP, (by omega), rfl, ?_⟩)
    rw [show h.1 13 k = dG C k from (hT.2.1.2.2 k (by omega)).2]
    refine am_goX 2 (show 0 ≤ 8 ∧ h.2.2.2.2 + am_al 65 ≤ 175 ∧ am_call am_cod 1 65 [.int (dG C k), .int (nI p)] h (fun vv h' => pz_S 4 (some .int) am_r91 1 Q 22 [(0, .ref 6), (1, .int (nI p)), (2, .int a2), (3, .int (nI k))] (vv.toList ++ []) h') from ⟨by decide, ex_lim hP rfl, am_call.up (d_65_w hP ?_) (by decide)⟩)
    suffices key : ∀ (v11 : Int32), v11 = (if (d_65 (dG C k) (nI p)) = 0 then a2 else a2 ||| ((Int32.ofInt 1) <<< ((nI k) &&& 31))) → pz_S 4 (some .int) am_r91 1 Q 31 [(0, .ref 6), (1, .int (nI p)), (2, .int v11), (3, .int (nI k))] [] h by
      refine am_goX 1 (show ((d_65 (dG C k) (nI p)) = 0 → pz_S 4 (some .int) am_r91 1 Q 31 [(0, .ref 6), (1, .int (nI p)), (2, .int a2), (3, .int (nI k))] [] h) ∧ (¬ ((d_65 (dG C k) (nI p)) = 0) → pz_S 4 (some .int) am_r91 1 Q 25 [(0, .ref 6), (1, .int (nI p)), (2, .int a2), (3, .int (nI k))] [] h) from ⟨fun c10 => ?_, fun c10 => ?_⟩)
      · exact sv_S2 sv2_91 (by intro q hq; simp only [List.mem_cons, List.not_mem_nil, or_false] at hq; rcases hq with rfl | rfl | rfl | rfl <;> rfl) (key _ (if_pos c10).symm)
      · refine am_goX 6 (show 2 < 4 ∧ pz_S 4 (some .int) am_r91 1 Q 31 [(2, .int (a2 ||| ((Int32.ofInt 1) <<< ((nI k) &&& 31)))), (0, .ref 6), (1, .int (nI p)), (3, .int (nI k))] [] h from ⟨by decide, ?_⟩)
        exact sv_S2 sv2_91 (by intro q hq; simp only [List.mem_cons, List.not_mem_nil, or_false] at hq; rcases hq with rfl | rfl | rfl | rfl <;> rfl) (key _ (if_neg c10).symm)
    intro v11 e12
    subst e12
    refine am_goX 2 (show 3 < 4 ∧ pz_S 4 (some .int) am_r91 1 Q 4 [(3, .int ((nI k) + (Int32.ofInt 1))), (0, .ref 6), (1, .int (nI p)), (2, .int (if (d_65 (dG C k) (nI p)) = 0 then a2 else a2 ||| ((Int32.ofInt 1) <<< ((nI k) &&& 31))))] [] h from ⟨by decide, ?_⟩)
    rw [show (nI k) + (Int32.ofInt 1) = nI (k + 1) from (dn_a rfl rfl)]
    exact sv_S2 sv2_91 (by intro q hq; simp only [List.mem_cons, List.not_mem_nil, or_false] at hq; rcases hq with rfl | rfl | rfl | rfl <;> rfl) (ih (k + 1) (if (d_65 (dG C k) (nI p)) = 0 then a2 else a2 ||| ((Int32.ofInt 1) <<< ((nI k) &&& 31))) (by omega) hZ)
def d_91 (C : sp_C) (p : Nat) : Int32 := d_91_4 C p (dE C) 0 (Int32.ofInt 0)
theorem d_91_t6 (hP : ex_P h) (hT : c_v 6 C h)  (hQ : Q (some (.int (d_91 C p))) h) : am_call am_cod 2 91 [.ref 6, .int (nI p)] h Q := by
  have h6 := hT.1.2.1
  have h5 := hT.2.1.2.1
  refine pz_call (n := 91) (nL := 4) (rt := (some .int)) (rows := am_r91) (d := 1) (by decide +kernel) (by decide +kernel) rfl (by funext pc; rfl) (ex_175 hP) (by exact Nat.le_of_ble_eq_true rfl) ?_
  refine am_goX 4 (show 2 < 4 ∧ 3 < 4 ∧ pz_S 4 (some .int) am_r91 1 Q 4 [(3, .int (Int32.ofInt 0)), (2, .int (Int32.ofInt 0)), (0, .ref 6), (1, .int (nI p))] [] h from ⟨by decide, by decide, ?_⟩)
  refine sv_S2 sv2_91 (by intro q hq; simp only [List.mem_cons, List.not_mem_nil, or_false] at hq; rcases hq with rfl | rfl | rfl | rfl <;> rfl) (d_91_4_t6 hP hT (dE C) 0 (Int32.ofInt 0) (by omega) ?_)
  exact am_goX 2 (show (∃ ty, (some .int) = some ty ∧ narrow ty (.int (d_91_4 C p (dE C) 0 (Int32.ofInt 0))) = .int (d_91_4 C p (dE C) 0 (Int32.ofInt 0))) ∧ h.2.2.2.2 = 175 ∧ _ from ⟨⟨.int, rfl, rfl⟩, ex_175 hP, hQ⟩)
theorem d_65_b (x y : Int32) : (d_65 x y = 0) = (sp_bit x y = false) := by
  unfold d_65 sp_bit
  by_cases h : (x >>> (y &&& 31)) &&& Int32.ofInt 1 = 0
  · rw [if_pos h, decide_eq_false (fun w => w h)]
    exact propext ⟨fun _ => rfl, fun _ => rfl⟩
  · rw [if_neg h, decide_eq_true h]
    exact propext ⟨fun w => absurd w (by decide), fun w => by cases w⟩
theorem d_91_b : ∀ (m k : Nat) (a : Int32), k + m ≤ 5 → bN a < 32 → bN (d_91_4 C p m k a) < 32 ∧ ∀ e, e < 5 → sp_bit (d_91_4 C p m k a) (nI e) = (sp_bit a (nI e) || (decide (k ≤ e ∧ e < k + m) && sp_bit (dG C e) (nI p))) := by
  intro m
  induction m with
  | zero =>
    intro k a hk ha
    refine ⟨ha, fun e he => ?_⟩
    rw [decide_eq_false (by omega), Bool.false_and, Bool.or_false]
    rfl
  | succ m ih =>
    intro k a hk ha
    show bN (d_91_4 C p m (k + 1) (if (d_65 (dG C k) (nI p)) = 0 then a else a ||| ((Int32.ofInt 1) <<< ((nI k) &&& 31)))) < 32 ∧ _
    by_cases hb : sp_bit (dG C k) (nI p) = false
    · rw [if_pos (by rw [d_65_b]; exact hb)]
      obtain ⟨i1, i2⟩ := ih (k + 1) a (by omega) ha
      refine ⟨i1, fun e he => ?_⟩
      show sp_bit (d_91_4 C p m (k + 1) (if (d_65 (dG C k) (nI p)) = 0 then a else _)) (nI e) = _
      rw [if_pos (by rw [d_65_b]; exact hb), i2 e he]
      by_cases ek : e = k
      · rw [ek, hb, Bool.and_false, Bool.and_false]
      · rw [show decide (k + 1 ≤ e ∧ e < k + 1 + m) = decide (k ≤ e ∧ e < k + (m + 1)) from decide_eq_decide.mpr (by omega)]
    · rw [if_neg (by rw [d_65_b]; exact hb)]
      have hb : sp_bit (dG C k) (nI p) = true := by
        cases h : sp_bit (dG C k) (nI p) with
        | true => rfl
        | false => exact absurd h hb
      obtain ⟨i1, i2⟩ := ih (k + 1) (a ||| ((Int32.ofInt 1) <<< ((nI k) &&& 31))) (by omega) (by
        rw [bN_or, bN_1s (by omega)]
        exact Nat.or_lt_two_pow (n := 5) ha (Nat.pow_lt_pow_right (by decide) (by omega)))
      refine ⟨i1, fun e he => ?_⟩
      show sp_bit (d_91_4 C p m (k + 1) (if (d_65 (dG C k) (nI p)) = 0 then a else _)) (nI e) = _
      rw [if_neg (by rw [d_65_b, hb]; decide), i2 e he, bit_or (by omega) (by omega)]
      by_cases ek : e = k
      · rw [ek, hb, decide_eq_true rfl, decide_eq_true (show k ≤ k ∧ k < k + (m + 1) by omega)]
        simp only [Bool.or_true, Bool.true_or, Bool.and_true]
      · rw [decide_eq_false (fun w => ek w.symm), Bool.or_false, show decide (k + 1 ≤ e ∧ e < k + 1 + m) = decide (k ≤ e ∧ e < k + (m + 1)) from decide_eq_decide.mpr (by omega)]
theorem b5_eq {x y : Int32} (hx : bN x < 32) (hy : bN y < 32) (hb : ∀ e, e < 5 → sp_bit x (nI e) = sp_bit y (nI e)) : x = y := by
  refine bN_inj (Nat.eq_of_testBit_eq fun i => ?_)
  by_cases hi : i < 5
  · rw [← sp_bit_tg (by omega), ← sp_bit_tg (by omega)]
    exact hb i hi
  · have h32 : 32 ≤ 2 ^ i := Nat.pow_le_pow_right (i := 5) (j := i) (show 2 > 0 by decide) (by omega)
    rw [Nat.testBit_lt_two_pow (Nat.lt_of_lt_of_le hx h32), Nat.testBit_lt_two_pow (Nat.lt_of_lt_of_le hy h32)]
/-- EVENTS that one is to come to -/
abbrev dB (C : sp_C) (p : Nat) : Int32 := d_91 C p
theorem dB_b (h5 : dE C ≤ 5) : bN (dB C p) < 32 ∧ ∀ e, e < 5 → sp_bit (dB C p) (nI e) = (decide (e < dE C) && sp_bit (dG C e) (nI p)) := by
  obtain ⟨i1, i2⟩ := d_91_b (C := C) (p := p) (dE C) 0 (Int32.ofInt 0) (by omega) (by decide)
  refine ⟨i1, fun e he => ?_⟩
  rw [show dB C p = d_91_4 C p (dE C) 0 (Int32.ofInt 0) from rfl, i2 e he]
  have key : ∀ e, e < 5 → sp_bit (Int32.ofInt 0) (nI e) = false := by decide +kernel
  rw [key e he, Bool.false_or, show decide (0 ≤ e ∧ e < 0 + dE C) = decide (e < dE C) from decide_eq_decide.mpr (by omega)]
theorem tR_B {h : am_H} {C : sp_C} (l : tR C h) {p : Nat} (hp : p < 6) : h.1 160 (6 + 3 * p) = dB C p := by
  obtain ⟨i1, i2⟩ := dB_b (C := C) (p := p) l.2.1.2.1
  exact b5_eq (l.2.2.1 p 0 hp (by decide)).2 i1 (fun e he => by rw [(l.2.2.1 p e hp he).1, i2 e he])
def d_167_4 (C : sp_C) (x : Int32) : Nat → Nat → Int32 → Int32
  | 0, _, a2 => a2
  | m + 1, k, a2 => d_167_4 C x m (k + 1) (if (d_65 x (nI k)) = 0 then a2 else a2 ||| (dG C k))
theorem d_167_4_t6 (hP : ex_P h) (hT : c_v 6 C h) : ∀ (m k : Nat) (a2 : Int32), k + m = dE C → (pz_S 4 (some .int) am_r167 1 Q 35 [(2, .int (d_167_4 C x m k a2))] [] h) → pz_S 4 (some .int) am_r167 1 Q 4 [(0, .ref 6), (1, .int x), (2, .int a2), (3, .int (nI k))] [] h := by
  intro m
  induction m with
  | zero =>
    intro k a2 hk hZ
    have h6 := hT.1.2.1
    have h5 := hT.2.1.2.1
    refine am_goX 3 (show am_sh h 6 = some (0, 0) ∧ pz_S 4 (some .int) am_r167 1 Q 9 [(0, .ref 6), (1, .int x), (2, .int a2), (3, .int (nI k))] [.int (h.1 6 4), .int (nI k)] h from ⟨ex_6 hP, ?_⟩)
    rw [show h.1 6 4 = nI (dE C) from hT.2.1.1]
    refine am_goX 1 (show ((nI (dE C)) ≤ (nI k) → pz_S 4 (some .int) am_r167 1 Q 35 [(0, .ref 6), (1, .int x), (2, .int a2), (3, .int (nI k))] [] h) ∧ (¬ ((nI (dE C)) ≤ (nI k)) → pz_S 4 (some .int) am_r167 1 Q 12 [(0, .ref 6), (1, .int x), (2, .int a2), (3, .int (nI k))] [] h) from ⟨fun _ => ?_, fun hz => absurd (show nI (dE C) ≤ nI k from nI_le (by omega) (by omega)) hz⟩)
    exact sv_S2 sv2_167 (by intro q hq; simp only [List.mem_cons, List.not_mem_nil, or_false] at hq; rcases hq with rfl <;> rfl) (hZ)
  | succ m ih =>
    intro k a2 hk hZ
    have h6 := hT.1.2.1
    have h5 := hT.2.1.2.1
    refine am_goX 3 (show am_sh h 6 = some (0, 0) ∧ pz_S 4 (some .int) am_r167 1 Q 9 [(0, .ref 6), (1, .int x), (2, .int a2), (3, .int (nI k))] [.int (h.1 6 4), .int (nI k)] h from ⟨ex_6 hP, ?_⟩)
    rw [show h.1 6 4 = nI (dE C) from hT.2.1.1]
    refine am_goX 1 (show ((nI (dE C)) ≤ (nI k) → pz_S 4 (some .int) am_r167 1 Q 35 [(0, .ref 6), (1, .int x), (2, .int a2), (3, .int (nI k))] [] h) ∧ (¬ ((nI (dE C)) ≤ (nI k)) → pz_S 4 (some .int) am_r167 1 Q 12 [(0, .ref 6), (1, .int x), (2, .int a2), (3, .int (nI k))] [] h) from ⟨fun hz => absurd hz (show ¬ (nI (dE C) ≤ nI k) by rw [nI_leI (by omega) (by omega)]; omega), fun _ => ?_⟩)
    refine am_goX 3 (show 0 ≤ 8 ∧ h.2.2.2.2 + am_al 65 ≤ 175 ∧ am_call am_cod 1 65 [.int x, .int (nI k)] h (fun vv h' => pz_S 4 (some .int) am_r167 1 Q 17 [(0, .ref 6), (1, .int x), (2, .int a2), (3, .int (nI k))] (vv.toList ++ []) h') from ⟨by decide, ex_lim hP rfl, am_call.up (d_65_w hP ?_) (by decide)⟩)
    suffices key : ∀ (v14 : Int32), v14 = (if (d_65 x (nI k)) = 0 then a2 else a2 ||| (dG C k)) → pz_S 4 (some .int) am_r167 1 Q 29 [(0, .ref 6), (1, .int x), (2, .int v14), (3, .int (nI k))] [] h by
      refine am_goX 1 (show ((d_65 x (nI k)) = 0 → pz_S 4 (some .int) am_r167 1 Q 29 [(0, .ref 6), (1, .int x), (2, .int a2), (3, .int (nI k))] [] h) ∧ (¬ ((d_65 x (nI k)) = 0) → pz_S 4 (some .int) am_r167 1 Q 20 [(0, .ref 6), (1, .int x), (2, .int a2), (3, .int (nI k))] [] h) from ⟨fun c13 => ?_, fun c13 => ?_⟩)
      · exact sv_S2 sv2_167 (by intro q hq; simp only [List.mem_cons, List.not_mem_nil, or_false] at hq; rcases hq with rfl | rfl | rfl | rfl <;> rfl) (key _ (if_pos c13).symm)
      · refine am_goX 3 (show am_sh h 6 = some (0, 0) ∧ pz_S 4 (some .int) am_r167 1 Q 25 [(0, .ref 6), (1, .int x), (2, .int a2), (3, .int (nI k))] [am_rf (h.2.2.1 6 8), .int a2] h from ⟨ex_6 hP, ?_⟩)
        rw [show am_rf (h.2.2.1 6 8) = .ref 13 from congrArg am_rf (ex_r6_8 hP)]
        refine am_goX 2 (show ∃ jj nn : Nat, am_sh h 13 = some (13, nn) ∧ jj < nn ∧ nI k = nI jj ∧ pz_S 4 (some .int) am_r167 1 Q 27 [(0, .ref 6), (1, .int x), (2, .int a2), (3, .int (nI k))] [.int (h.1 13 jj), .int a2] h from ⟨k, 5, ex_13 hP, (by omega), rfl, ?_⟩)
        rw [show h.1 13 k = dG C k from (hT.2.1.2.2 k (by omega)).2]
        refine am_goX 2 (show 2 < 4 ∧ pz_S 4 (some .int) am_r167 1 Q 29 [(2, .int (a2 ||| (dG C k))), (0, .ref 6), (1, .int x), (3, .int (nI k))] [] h from ⟨by decide, ?_⟩)
        exact sv_S2 sv2_167 (by intro q hq; simp only [List.mem_cons, List.not_mem_nil, or_false] at hq; rcases hq with rfl | rfl | rfl | rfl <;> rfl) (key _ (if_neg c13).symm)
    intro v14 e15
    subst e15
    refine am_goX 2 (show 3 < 4 ∧ pz_S 4 (some .int) am_r167 1 Q 4 [(3, .int ((nI k) + (Int32.ofInt 1))), (0, .ref 6), (1, .int x), (2, .int (if (d_65 x (nI k)) = 0 then a2 else a2 ||| (dG C k)))] [] h from ⟨by decide, ?_⟩)
    rw [show (nI k) + (Int32.ofInt 1) = nI (k + 1) from (dn_a rfl rfl)]
    exact sv_S2 sv2_167 (by intro q hq; simp only [List.mem_cons, List.not_mem_nil, or_false] at hq; rcases hq with rfl | rfl | rfl | rfl <;> rfl) (ih (k + 1) (if (d_65 x (nI k)) = 0 then a2 else a2 ||| (dG C k)) (by omega) hZ)
def d_167 (C : sp_C) (x : Int32) : Int32 := d_167_4 C x (dE C) 0 (Int32.ofInt 0)
theorem d_167_t6 (hP : ex_P h) (hT : c_v 6 C h)  (hQ : Q (some (.int (d_167 C x))) h) : am_call am_cod 2 167 [.ref 6, .int x] h Q := by
  have h6 := hT.1.2.1
  have h5 := hT.2.1.2.1
  refine pz_call (n := 167) (nL := 4) (rt := (some .int)) (rows := am_r167) (d := 1) (by decide +kernel) (by decide +kernel) rfl (by funext pc; rfl) (ex_175 hP) (by exact Nat.le_of_ble_eq_true rfl) ?_
  refine am_goX 4 (show 2 < 4 ∧ 3 < 4 ∧ pz_S 4 (some .int) am_r167 1 Q 4 [(3, .int (Int32.ofInt 0)), (2, .int (Int32.ofInt 0)), (0, .ref 6), (1, .int x)] [] h from ⟨by decide, by decide, ?_⟩)
  refine sv_S2 sv2_167 (by intro q hq; simp only [List.mem_cons, List.not_mem_nil, or_false] at hq; rcases hq with rfl | rfl | rfl | rfl <;> rfl) (d_167_4_t6 hP hT (dE C) 0 (Int32.ofInt 0) (by omega) ?_)
  exact am_goX 2 (show (∃ ty, (some .int) = some ty ∧ narrow ty (.int (d_167_4 C x (dE C) 0 (Int32.ofInt 0))) = .int (d_167_4 C x (dE C) 0 (Int32.ofInt 0))) ∧ h.2.2.2.2 = 175 ∧ _ from ⟨⟨.int, rfl, rfl⟩, ex_175 hP, hQ⟩)
def d_165 (C : sp_C) (p q : Nat) : Int32 := (d_91 C p) &&& (d_91 C q)
theorem d_165_t6 (hP : ex_P h) (hT : c_v 6 C h) (hR : h.2.2.1 0 3 = some 6) (hp : p < dP C) (hq : q < dP C) (hQ : Q (some (.int (d_165 C p q))) h) : am_call am_cod 4 165 [.ref 0, .int (nI p), .int (nI q)] h Q := by
  have h6 := hT.1.2.1
  have h5 := hT.2.1.2.1
  refine pz_call (n := 165) (nL := 3) (rt := (some .int)) (rows := am_r165) (d := 3) (by decide +kernel) (by decide +kernel) rfl (by funext pc; rfl) (ex_175 hP) (by exact Nat.le_of_ble_eq_true rfl) ?_
  refine am_goX 3 (show am_rc h 0 10 ∧ 0 ≤ 8 ∧ h.2.2.2.2 + am_al 87 ≤ 175 ∧ am_call am_cod 3 87 [.ref 0, .int (nI p)] h (fun vv h' => pz_S 3 (some .int) am_r165 3 Q 5 [(0, .ref 0), (1, .int (nI p)), (2, .int (nI q))] (vv.toList ++ []) h') from ⟨Or.inl ⟨by decide, ex_0 hP⟩, by decide, ex_lim hP rfl, am_call.up (d_87_t6 hP hT hR ?_) (by decide)⟩)
  rw [show d_87 C (nI p) = Int32.ofInt 1 from (v_87 hp)]
  refine am_goX 1 (show ((Int32.ofInt 1) = 0 → pz_S 3 (some .int) am_r165 3 Q 16 [(0, .ref 0), (1, .int (nI p)), (2, .int (nI q))] [] h) ∧ (¬ ((Int32.ofInt 1) = 0) → pz_S 3 (some .int) am_r165 3 Q 8 [(0, .ref 0), (1, .int (nI p)), (2, .int (nI q))] [] h) from ⟨fun hz => absurd hz (by decide), fun _ => ?_⟩)
  refine am_goX 3 (show am_rc h 0 10 ∧ 0 ≤ 8 ∧ h.2.2.2.2 + am_al 87 ≤ 175 ∧ am_call am_cod 3 87 [.ref 0, .int (nI q)] h (fun vv h' => pz_S 3 (some .int) am_r165 3 Q 13 [(0, .ref 0), (1, .int (nI p)), (2, .int (nI q))] (vv.toList ++ []) h') from ⟨Or.inl ⟨by decide, ex_0 hP⟩, by decide, ex_lim hP rfl, am_call.up (d_87_t6 hP hT hR ?_) (by decide)⟩)
  rw [show d_87 C (nI q) = Int32.ofInt 1 from (v_87 hq)]
  refine am_goX 1 (show (¬ (Int32.ofInt 1) = 0 → pz_S 3 (some .int) am_r165 3 Q 18 [(0, .ref 0), (1, .int (nI p)), (2, .int (nI q))] [] h) ∧ (¬ ¬ (Int32.ofInt 1) = 0 → pz_S 3 (some .int) am_r165 3 Q 16 [(0, .ref 0), (1, .int (nI p)), (2, .int (nI q))] [] h) from ⟨fun _ => ?_, fun hz => absurd (by decide) hz⟩)
  refine am_goX 2 (show am_sh h 0 = some (10, 0) ∧ pz_S 3 (some .int) am_r165 3 Q 22 [(0, .ref 0), (1, .int (nI p)), (2, .int (nI q))] [am_rf (h.2.2.1 0 3)] h from ⟨ex_0 hP, ?_⟩)
  rw [show am_rf (h.2.2.1 0 3) = .ref 6 from congrArg am_rf (hR)]
  refine am_goX 2 (show am_rc h 6 0 ∧ 0 ≤ 8 ∧ h.2.2.2.2 + am_al 91 ≤ 175 ∧ am_call am_cod 3 91 [.ref 6, .int (nI p)] h (fun vv h' => pz_S 3 (some .int) am_r165 3 Q 26 [(0, .ref 0), (1, .int (nI p)), (2, .int (nI q))] (vv.toList ++ []) h') from ⟨Or.inl ⟨by decide, ex_6 hP⟩, by decide, ex_lim hP rfl, am_call.up (d_91_t6 hP hT ?_) (by decide)⟩)
  refine am_goX 2 (show am_sh h 0 = some (10, 0) ∧ pz_S 3 (some .int) am_r165 3 Q 30 [(0, .ref 0), (1, .int (nI p)), (2, .int (nI q))] [am_rf (h.2.2.1 0 3), .int (d_91 C p)] h from ⟨ex_0 hP, ?_⟩)
  rw [show am_rf (h.2.2.1 0 3) = .ref 6 from congrArg am_rf (hR)]
  refine am_goX 2 (show am_rc h 6 0 ∧ 1 ≤ 8 ∧ h.2.2.2.2 + am_al 91 ≤ 175 ∧ am_call am_cod 3 91 [.ref 6, .int (nI q)] h (fun vv h' => pz_S 3 (some .int) am_r165 3 Q 34 [(0, .ref 0), (1, .int (nI p)), (2, .int (nI q))] (vv.toList ++ [.int (d_91 C p)]) h') from ⟨Or.inl ⟨by decide, ex_6 hP⟩, by decide, ex_lim hP rfl, am_call.up (d_91_t6 hP hT ?_) (by decide)⟩)
  exact am_goX 2 (show (∃ ty, (some .int) = some ty ∧ narrow ty (.int ((d_91 C p) &&& (d_91 C q))) = .int ((d_91 C p) &&& (d_91 C q))) ∧ h.2.2.2.2 = 175 ∧ _ from ⟨⟨.int, rfl, rfl⟩, ex_175 hP, hQ⟩)
def d_165x  : Int32 := Int32.ofInt (-1)
theorem d_165_xt6 (hP : ex_P h) (hT : c_v 6 C h) (hR : h.2.2.1 0 3 = some 6) (ex : d_87 C x = Int32.ofInt 0) (hQ : Q (some (.int d_165x)) h) : am_call am_cod 4 165 [.ref 0, .int x, .int y] h Q := by
  have h6 := hT.1.2.1
  have h5 := hT.2.1.2.1
  refine pz_call (n := 165) (nL := 3) (rt := (some .int)) (rows := am_r165) (d := 3) (by decide +kernel) (by decide +kernel) rfl (by funext pc; rfl) (ex_175 hP) (by exact Nat.le_of_ble_eq_true rfl) ?_
  refine am_goX 3 (show am_rc h 0 10 ∧ 0 ≤ 8 ∧ h.2.2.2.2 + am_al 87 ≤ 175 ∧ am_call am_cod 3 87 [.ref 0, .int x] h (fun vv h' => pz_S 3 (some .int) am_r165 3 Q 5 [(0, .ref 0), (1, .int x), (2, .int y)] (vv.toList ++ []) h') from ⟨Or.inl ⟨by decide, ex_0 hP⟩, by decide, ex_lim hP rfl, am_call.up (d_87_t6 hP hT hR ?_) (by decide)⟩)
  rw [show d_87 C x = Int32.ofInt 0 from ex]
  refine am_goX 1 (show ((Int32.ofInt 0) = 0 → pz_S 3 (some .int) am_r165 3 Q 16 [(0, .ref 0), (1, .int x), (2, .int y)] [] h) ∧ (¬ ((Int32.ofInt 0) = 0) → pz_S 3 (some .int) am_r165 3 Q 8 [(0, .ref 0), (1, .int x), (2, .int y)] [] h) from ⟨fun _ => ?_, fun hz => absurd (by decide) hz⟩)
  exact am_goX 2 (show (∃ ty, (some .int) = some ty ∧ narrow ty (.int (Int32.ofInt (-1))) = .int (Int32.ofInt (-1))) ∧ h.2.2.2.2 = 175 ∧ _ from ⟨⟨.int, rfl, rfl⟩, ex_175 hP, hQ⟩)
theorem d_165_yt6 (hP : ex_P h) (hT : c_v 6 C h) (hR : h.2.2.1 0 3 = some 6) (hp : p < dP C) (ey : d_87 C y = Int32.ofInt 0) (hQ : Q (some (.int d_165x)) h) : am_call am_cod 4 165 [.ref 0, .int (nI p), .int y] h Q := by
  have h6 := hT.1.2.1
  have h5 := hT.2.1.2.1
  refine pz_call (n := 165) (nL := 3) (rt := (some .int)) (rows := am_r165) (d := 3) (by decide +kernel) (by decide +kernel) rfl (by funext pc; rfl) (ex_175 hP) (by exact Nat.le_of_ble_eq_true rfl) ?_
  refine am_goX 3 (show am_rc h 0 10 ∧ 0 ≤ 8 ∧ h.2.2.2.2 + am_al 87 ≤ 175 ∧ am_call am_cod 3 87 [.ref 0, .int (nI p)] h (fun vv h' => pz_S 3 (some .int) am_r165 3 Q 5 [(0, .ref 0), (1, .int (nI p)), (2, .int y)] (vv.toList ++ []) h') from ⟨Or.inl ⟨by decide, ex_0 hP⟩, by decide, ex_lim hP rfl, am_call.up (d_87_t6 hP hT hR ?_) (by decide)⟩)
  rw [show d_87 C (nI p) = Int32.ofInt 1 from (v_87 hp)]
  refine am_goX 1 (show ((Int32.ofInt 1) = 0 → pz_S 3 (some .int) am_r165 3 Q 16 [(0, .ref 0), (1, .int (nI p)), (2, .int y)] [] h) ∧ (¬ ((Int32.ofInt 1) = 0) → pz_S 3 (some .int) am_r165 3 Q 8 [(0, .ref 0), (1, .int (nI p)), (2, .int y)] [] h) from ⟨fun hz => absurd hz (by decide), fun _ => ?_⟩)
  refine am_goX 3 (show am_rc h 0 10 ∧ 0 ≤ 8 ∧ h.2.2.2.2 + am_al 87 ≤ 175 ∧ am_call am_cod 3 87 [.ref 0, .int y] h (fun vv h' => pz_S 3 (some .int) am_r165 3 Q 13 [(0, .ref 0), (1, .int (nI p)), (2, .int y)] (vv.toList ++ []) h') from ⟨Or.inl ⟨by decide, ex_0 hP⟩, by decide, ex_lim hP rfl, am_call.up (d_87_t6 hP hT hR ?_) (by decide)⟩)
  rw [show d_87 C y = Int32.ofInt 0 from ey]
  refine am_goX 1 (show (¬ (Int32.ofInt 0) = 0 → pz_S 3 (some .int) am_r165 3 Q 18 [(0, .ref 0), (1, .int (nI p)), (2, .int y)] [] h) ∧ (¬ ¬ (Int32.ofInt 0) = 0 → pz_S 3 (some .int) am_r165 3 Q 16 [(0, .ref 0), (1, .int (nI p)), (2, .int y)] [] h) from ⟨fun hz => absurd hz (by decide), fun _ => ?_⟩)
  exact am_goX 2 (show (∃ ty, (some .int) = some ty ∧ narrow ty (.int (Int32.ofInt (-1))) = .int (Int32.ofInt (-1))) ∧ h.2.2.2.2 = 175 ∧ _ from ⟨⟨.int, rfl, rfl⟩, ex_175 hP, hQ⟩)
def dV (C : sp_C) : Nat := 2 ^ dE C - 1
theorem dV_31 {C : sp_C} (h5 : dE C ≤ 5) : dV C ≤ 31 ∧ (Int32.ofInt 1 <<< (nI (dE C) &&& 31)) = nI (dV C + 1) ∧ (Int32.ofInt 1 <<< (nI (dE C) &&& 31)) - Int32.ofInt 1 = nI (dV C) := by
  unfold dV
  generalize dE C = n at h5
  have key : ∀ n, n ≤ 5 → 2 ^ n - 1 ≤ 31 ∧ (Int32.ofInt 1 <<< (nI n &&& 31)) = nI (2 ^ n - 1 + 1) ∧ (Int32.ofInt 1 <<< (nI n &&& 31)) - Int32.ofInt 1 = nI (2 ^ n - 1) := by decide +kernel
  exact key n h5
def d_166_16 (C : sp_C) : Nat → Nat → Int32 → Int32
  | 0, _, a2 => a2
  | m + 1, k, a2 => d_166_16 C m (k + 1) (if (d_69 a2) ≤ (d_69 (nI k)) then a2 else (if ¬ (d_167 C (nI k)) = (d_167 C (nI (dV C))) then a2 else nI k))
theorem d_166_16_t6 (hP : ex_P h) (hT : c_v 6 C h) (hR : h.2.2.1 0 3 = some 6) : ∀ (m k : Nat) (a2 : Int32), k + m = dV C → (pz_S 4 (some .int) am_r166 2 Q 59 [(2, .int (d_166_16 C m k a2))] [] h) → pz_S 4 (some .int) am_r166 2 Q 16 [(0, .ref 0), (1, .int (nI (dV C))), (2, .int a2), (3, .int (nI k))] [] h := by
  intro m
  induction m with
  | zero =>
    intro k a2 hk hZ
    have h6 := hT.1.2.1
    have h5 := hT.2.1.2.1
    have h31 := dV_31 h5
    refine am_goX 3 (show ((nI (dV C)) ≤ (nI k) → pz_S 4 (some .int) am_r166 2 Q 59 [(0, .ref 0), (1, .int (nI (dV C))), (2, .int a2), (3, .int (nI k))] [] h) ∧ (¬ ((nI (dV C)) ≤ (nI k)) → pz_S 4 (some .int) am_r166 2 Q 21 [(0, .ref 0), (1, .int (nI (dV C))), (2, .int a2), (3, .int (nI k))] [] h) from ⟨fun _ => ?_, fun hz => absurd (show nI (dV C) ≤ nI k from nI_le (by omega) (by omega)) hz⟩)
    exact sv_S2 sv2_166 (by intro q hq; simp only [List.mem_cons, List.not_mem_nil, or_false] at hq; rcases hq with rfl <;> rfl) (hZ)
  | succ m ih =>
    intro k a2 hk hZ
    have h6 := hT.1.2.1
    have h5 := hT.2.1.2.1
    have h31 := dV_31 h5
    refine am_goX 3 (show ((nI (dV C)) ≤ (nI k) → pz_S 4 (some .int) am_r166 2 Q 59 [(0, .ref 0), (1, .int (nI (dV C))), (2, .int a2), (3, .int (nI k))] [] h) ∧ (¬ ((nI (dV C)) ≤ (nI k)) → pz_S 4 (some .int) am_r166 2 Q 21 [(0, .ref 0), (1, .int (nI (dV C))), (2, .int a2), (3, .int (nI k))] [] h) from ⟨fun hz => absurd hz (show ¬ (nI (dV C) ≤ nI k) by rw [nI_leI (by omega) (by omega)]; omega), fun _ => ?_⟩)
    refine am_goX 2 (show 0 ≤ 8 ∧ h.2.2.2.2 + am_al 69 ≤ 175 ∧ am_call am_cod 2 69 [.int (nI k)] h (fun vv h' => pz_S 4 (some .int) am_r166 2 Q 25 [(0, .ref 0), (1, .int (nI (dV C))), (2, .int a2), (3, .int (nI k))] (vv.toList ++ []) h') from ⟨by decide, ex_lim hP rfl, am_call.up (d_69_w hP ?_) (by decide)⟩)
    refine am_goX 2 (show 1 ≤ 8 ∧ h.2.2.2.2 + am_al 69 ≤ 175 ∧ am_call am_cod 2 69 [.int a2] h (fun vv h' => pz_S 4 (some .int) am_r166 2 Q 29 [(0, .ref 0), (1, .int (nI (dV C))), (2, .int a2), (3, .int (nI k))] (vv.toList ++ [.int (d_69 (nI k))]) h') from ⟨by decide, ex_lim hP rfl, am_call.up (d_69_w hP ?_) (by decide)⟩)
    suffices key : ∀ (v17 : Int32), v17 = (if (d_69 a2) ≤ (d_69 (nI k)) then a2 else (if ¬ (d_167 C (nI k)) = (d_167 C (nI (dV C))) then a2 else nI k)) → pz_S 4 (some .int) am_r166 2 Q 53 [(0, .ref 0), (1, .int (nI (dV C))), (2, .int v17), (3, .int (nI k))] [] h by
      refine am_goX 1 (show ((d_69 a2) ≤ (d_69 (nI k)) → pz_S 4 (some .int) am_r166 2 Q 53 [(0, .ref 0), (1, .int (nI (dV C))), (2, .int a2), (3, .int (nI k))] [] h) ∧ (¬ ((d_69 a2) ≤ (d_69 (nI k))) → pz_S 4 (some .int) am_r166 2 Q 32 [(0, .ref 0), (1, .int (nI (dV C))), (2, .int a2), (3, .int (nI k))] [] h) from ⟨fun c16 => ?_, fun c16 => ?_⟩)
      · exact sv_S2 sv2_166 (by intro q hq; simp only [List.mem_cons, List.not_mem_nil, or_false] at hq; rcases hq with rfl | rfl | rfl | rfl <;> rfl) (key _ (if_pos c16).symm)
      · refine am_goX 2 (show am_sh h 0 = some (10, 0) ∧ pz_S 4 (some .int) am_r166 2 Q 36 [(0, .ref 0), (1, .int (nI (dV C))), (2, .int a2), (3, .int (nI k))] [am_rf (h.2.2.1 0 3)] h from ⟨ex_0 hP, ?_⟩)
        rw [show am_rf (h.2.2.1 0 3) = .ref 6 from congrArg am_rf (hR)]
        refine am_goX 2 (show am_rc h 6 0 ∧ 0 ≤ 8 ∧ h.2.2.2.2 + am_al 167 ≤ 175 ∧ am_call am_cod 2 167 [.ref 6, .int (nI k)] h (fun vv h' => pz_S 4 (some .int) am_r166 2 Q 40 [(0, .ref 0), (1, .int (nI (dV C))), (2, .int a2), (3, .int (nI k))] (vv.toList ++ []) h') from ⟨Or.inl ⟨by decide, ex_6 hP⟩, by decide, ex_lim hP rfl, am_call.up (d_167_t6 hP hT ?_) (by decide)⟩)
        refine am_goX 2 (show am_sh h 0 = some (10, 0) ∧ pz_S 4 (some .int) am_r166 2 Q 44 [(0, .ref 0), (1, .int (nI (dV C))), (2, .int a2), (3, .int (nI k))] [am_rf (h.2.2.1 0 3), .int (d_167 C (nI k))] h from ⟨ex_0 hP, ?_⟩)
        rw [show am_rf (h.2.2.1 0 3) = .ref 6 from congrArg am_rf (hR)]
        refine am_goX 2 (show am_rc h 6 0 ∧ 1 ≤ 8 ∧ h.2.2.2.2 + am_al 167 ≤ 175 ∧ am_call am_cod 2 167 [.ref 6, .int (nI (dV C))] h (fun vv h' => pz_S 4 (some .int) am_r166 2 Q 48 [(0, .ref 0), (1, .int (nI (dV C))), (2, .int a2), (3, .int (nI k))] (vv.toList ++ [.int (d_167 C (nI k))]) h') from ⟨Or.inl ⟨by decide, ex_6 hP⟩, by decide, ex_lim hP rfl, am_call.up (d_167_t6 hP hT ?_) (by decide)⟩)
        suffices key : ∀ (v19 : Int32), v19 = (if ¬ (d_167 C (nI k)) = (d_167 C (nI (dV C))) then a2 else nI k) → pz_S 4 (some .int) am_r166 2 Q 53 [(0, .ref 0), (1, .int (nI (dV C))), (2, .int v19), (3, .int (nI k))] [] h by
          refine am_goX 1 (show (¬ (d_167 C (nI k)) = (d_167 C (nI (dV C))) → pz_S 4 (some .int) am_r166 2 Q 53 [(0, .ref 0), (1, .int (nI (dV C))), (2, .int a2), (3, .int (nI k))] [] h) ∧ (¬ ¬ (d_167 C (nI k)) = (d_167 C (nI (dV C))) → pz_S 4 (some .int) am_r166 2 Q 51 [(0, .ref 0), (1, .int (nI (dV C))), (2, .int a2), (3, .int (nI k))] [] h) from ⟨fun c18 => ?_, fun c18 => ?_⟩)
          · exact sv_S2 sv2_166 (by intro q hq; simp only [List.mem_cons, List.not_mem_nil, or_false] at hq; rcases hq with rfl | rfl | rfl | rfl <;> rfl) (key _ (if_pos c18).symm)
          · refine am_goX 2 (show 2 < 4 ∧ pz_S 4 (some .int) am_r166 2 Q 53 [(2, .int (nI k)), (0, .ref 0), (1, .int (nI (dV C))), (3, .int (nI k))] [] h from ⟨by decide, ?_⟩)
            exact sv_S2 sv2_166 (by intro q hq; simp only [List.mem_cons, List.not_mem_nil, or_false] at hq; rcases hq with rfl | rfl | rfl | rfl <;> rfl) (key _ (if_neg c18).symm)
        intro v19 e20
        subst e20
        exact sv_S2 sv2_166 (by intro q hq; simp only [List.mem_cons, List.not_mem_nil, or_false] at hq; rcases hq with rfl | rfl | rfl | rfl <;> rfl) (key _ (if_neg c16).symm)
    intro v17 e21
    subst e21
    refine am_goX 2 (show 3 < 4 ∧ pz_S 4 (some .int) am_r166 2 Q 16 [(3, .int ((nI k) + (Int32.ofInt 1))), (0, .ref 0), (1, .int (nI (dV C))), (2, .int (if (d_69 a2) ≤ (d_69 (nI k)) then a2 else (if ¬ (d_167 C (nI k)) = (d_167 C (nI (dV C))) then a2 else nI k)))] [] h from ⟨by decide, ?_⟩)
    rw [show (nI k) + (Int32.ofInt 1) = nI (k + 1) from (dn_a rfl rfl)]
    exact sv_S2 sv2_166 (by intro q hq; simp only [List.mem_cons, List.not_mem_nil, or_false] at hq; rcases hq with rfl | rfl | rfl | rfl <;> rfl) (ih (k + 1) (if (d_69 a2) ≤ (d_69 (nI k)) then a2 else (if ¬ (d_167 C (nI k)) = (d_167 C (nI (dV C))) then a2 else nI k)) (by omega) hZ)
def d_166 (C : sp_C) : Int32 := d_166_16 C (dV C) 0 (nI (dV C))
theorem d_166_t6 (hP : ex_P h) (hT : c_v 6 C h) (hR : h.2.2.1 0 3 = some 6)  (hQ : Q (some (.int (d_166 C))) h) : am_call am_cod 3 166 [.ref 0] h Q := by
  have h6 := hT.1.2.1
  have h5 := hT.2.1.2.1
  have h31 := dV_31 h5
  refine pz_call (n := 166) (nL := 4) (rt := (some .int)) (rows := am_r166) (d := 2) (by decide +kernel) (by decide +kernel) rfl (by funext pc; rfl) (ex_175 hP) (by exact Nat.le_of_ble_eq_true rfl) ?_
  refine am_goX 3 (show am_sh h 0 = some (10, 0) ∧ pz_S 4 (some .int) am_r166 2 Q 5 [(0, .ref 0)] [am_rf (h.2.2.1 0 3), .int (Int32.ofInt 1)] h from ⟨ex_0 hP, ?_⟩)
  rw [show am_rf (h.2.2.1 0 3) = .ref 6 from congrArg am_rf (hR)]
  refine am_goX 1 (show am_sh h 6 = some (0, 0) ∧ pz_S 4 (some .int) am_r166 2 Q 8 [(0, .ref 0)] [.int (h.1 6 4), .int (Int32.ofInt 1)] h from ⟨ex_6 hP, ?_⟩)
  rw [show h.1 6 4 = nI (dE C) from hT.2.1.1]
  refine am_goX 3 (show pz_S 4 (some .int) am_r166 2 Q 11 [(0, .ref 0)] [.int (((Int32.ofInt 1) <<< ((nI (dE C)) &&& 31)) - (Int32.ofInt 1))] h from ?_)
  rw [show ((Int32.ofInt 1) <<< ((nI (dE C)) &&& 31)) - (Int32.ofInt 1) = nI (dV C) from (dV_31 h5).2.2]
  refine am_goX 5 (show 1 < 4 ∧ 2 < 4 ∧ 3 < 4 ∧ pz_S 4 (some .int) am_r166 2 Q 16 [(3, .int (Int32.ofInt 0)), (2, .int (nI (dV C))), (1, .int (nI (dV C))), (0, .ref 0)] [] h from ⟨by decide, by decide, by decide, ?_⟩)
  refine sv_S2 sv2_166 (by intro q hq; simp only [List.mem_cons, List.not_mem_nil, or_false] at hq; rcases hq with rfl | rfl | rfl | rfl <;> rfl) (d_166_16_t6 hP hT hR (dV C) 0 (nI (dV C)) (by omega) ?_)
  exact am_goX 2 (show (∃ ty, (some .int) = some ty ∧ narrow ty (.int (d_166_16 C (dV C) 0 (nI (dV C)))) = .int (d_166_16 C (dV C) 0 (nI (dV C)))) ∧ h.2.2.2.2 = 175 ∧ _ from ⟨⟨.int, rfl, rfl⟩, ex_175 hP, hQ⟩)
theorem d_87_t17 (hP : ex_P h) (hT : c_v 17 C h) (hR : h.2.2.1 0 3 = some 17)  (hQ : Q (some (.int (d_87 C x))) h) : am_call am_cod 2 87 [.ref 0, .int x] h Q := by
  have h6 := hT.1.2.1
  have h5 := hT.2.1.2.1
  refine pz_call (n := 87) (nL := 2) (rt := (some .boolean)) (rows := am_r87) (d := 1) (by decide +kernel) (by decide +kernel) rfl (by funext pc; rfl) (ex_175 hP) (by exact Nat.le_of_ble_eq_true rfl) ?_
  suffices key : ∀ (v23 : Int32), v23 = (if x < 0 then Int32.ofInt 0 else (if (nI (dP C)) ≤ x then Int32.ofInt 0 else Int32.ofInt 1)) → pz_S 2 (some .boolean) am_r87 1 Q 20 [] [.int v23] h by
    refine am_goX 2 (show (x < 0 → pz_S 2 (some .boolean) am_r87 1 Q 19 [(0, .ref 0), (1, .int x)] [] h) ∧ (¬ (x < 0) → pz_S 2 (some .boolean) am_r87 1 Q 4 [(0, .ref 0), (1, .int x)] [] h) from ⟨fun c22 => ?_, fun c22 => ?_⟩)
    · refine am_goX 1 (show pz_S 2 (some .boolean) am_r87 1 Q 20 [(0, .ref 0), (1, .int x)] [.int (Int32.ofInt 0)] h from ?_)
      exact sv_S2 sv2_87 (fun q hq => absurd hq List.not_mem_nil) (key _ (if_pos c22).symm)
    · refine am_goX 3 (show am_sh h 0 = some (10, 0) ∧ pz_S 2 (some .boolean) am_r87 1 Q 9 [(0, .ref 0), (1, .int x)] [am_rf (h.2.2.1 0 3), .int x] h from ⟨ex_0 hP, ?_⟩)
      rw [show am_rf (h.2.2.1 0 3) = .ref 17 from congrArg am_rf (hR)]
      refine am_goX 1 (show am_sh h 17 = some (0, 0) ∧ pz_S 2 (some .boolean) am_r87 1 Q 12 [(0, .ref 0), (1, .int x)] [.int (h.1 17 0), .int x] h from ⟨ex_17 hP, ?_⟩)
      rw [show h.1 17 0 = nI (dP C) from hT.1.1]
      suffices key : ∀ (v25 : Int32), v25 = (if (nI (dP C)) ≤ x then Int32.ofInt 0 else Int32.ofInt 1) → pz_S 2 (some .boolean) am_r87 1 Q 20 [] [.int v25] h by
        refine am_goX 1 (show ((nI (dP C)) ≤ x → pz_S 2 (some .boolean) am_r87 1 Q 19 [(0, .ref 0), (1, .int x)] [] h) ∧ (¬ ((nI (dP C)) ≤ x) → pz_S 2 (some .boolean) am_r87 1 Q 15 [(0, .ref 0), (1, .int x)] [] h) from ⟨fun c24 => ?_, fun c24 => ?_⟩)
        · refine am_goX 1 (show pz_S 2 (some .boolean) am_r87 1 Q 20 [(0, .ref 0), (1, .int x)] [.int (Int32.ofInt 0)] h from ?_)
          exact sv_S2 sv2_87 (fun q hq => absurd hq List.not_mem_nil) (key _ (if_pos c24).symm)
        · refine am_goX 2 (show pz_S 2 (some .boolean) am_r87 1 Q 20 [(0, .ref 0), (1, .int x)] [.int (Int32.ofInt 1)] h from ?_)
          exact sv_S2 sv2_87 (fun q hq => absurd hq List.not_mem_nil) (key _ (if_neg c24).symm)
      intro v25 e26
      subst e26
      exact sv_S2 sv2_87 (fun q hq => absurd hq List.not_mem_nil) (key _ (if_neg c22).symm)
  intro v23 e27
  subst e27
  exact am_goX 1 (show (∃ ty, (some .boolean) = some ty ∧ narrow ty (.int (if x < 0 then Int32.ofInt 0 else (if (nI (dP C)) ≤ x then Int32.ofInt 0 else Int32.ofInt 1))) = .int (if x < 0 then Int32.ofInt 0 else (if (nI (dP C)) ≤ x then Int32.ofInt 0 else Int32.ofInt 1))) ∧ h.2.2.2.2 = 175 ∧ _ from ⟨⟨.boolean, rfl, (by (repeat' split) <;> rfl)⟩, ex_175 hP, hQ⟩)
theorem d_91_4_t17 (hP : ex_P h) (hT : c_v 17 C h) : ∀ (m k : Nat) (a2 : Int32), k + m = dE C → (pz_S 4 (some .int) am_r91 1 Q 37 [(2, .int (d_91_4 C p m k a2))] [] h) → pz_S 4 (some .int) am_r91 1 Q 4 [(0, .ref 17), (1, .int (nI p)), (2, .int a2), (3, .int (nI k))] [] h := by
  intro m
  induction m with
  | zero =>
    intro k a2 hk hZ
    have h6 := hT.1.2.1
    have h5 := hT.2.1.2.1
    refine am_goX 3 (show am_sh h 17 = some (0, 0) ∧ pz_S 4 (some .int) am_r91 1 Q 9 [(0, .ref 17), (1, .int (nI p)), (2, .int a2), (3, .int (nI k))] [.int (h.1 17 4), .int (nI k)] h from ⟨ex_17 hP, ?_⟩)
    rw [show h.1 17 4 = nI (dE C) from hT.2.1.1]
    refine am_goX 1 (show ((nI (dE C)) ≤ (nI k) → pz_S 4 (some .int) am_r91 1 Q 37 [(0, .ref 17), (1, .int (nI p)), (2, .int a2), (3, .int (nI k))] [] h) ∧ (¬ ((nI (dE C)) ≤ (nI k)) → pz_S 4 (some .int) am_r91 1 Q 12 [(0, .ref 17), (1, .int (nI p)), (2, .int a2), (3, .int (nI k))] [] h) from ⟨fun _ => ?_, fun hz => absurd (show nI (dE C) ≤ nI k from nI_le (by omega) (by omega)) hz⟩)
    exact sv_S2 sv2_91 (by intro q hq; simp only [List.mem_cons, List.not_mem_nil, or_false] at hq; rcases hq with rfl <;> rfl) (hZ)
  | succ m ih =>
    intro k a2 hk hZ
    have h6 := hT.1.2.1
    have h5 := hT.2.1.2.1
    refine am_goX 3 (show am_sh h 17 = some (0, 0) ∧ pz_S 4 (some .int) am_r91 1 Q 9 [(0, .ref 17), (1, .int (nI p)), (2, .int a2), (3, .int (nI k))] [.int (h.1 17 4), .int (nI k)] h from ⟨ex_17 hP, ?_⟩)
    rw [show h.1 17 4 = nI (dE C) from hT.2.1.1]
    refine am_goX 1 (show ((nI (dE C)) ≤ (nI k) → pz_S 4 (some .int) am_r91 1 Q 37 [(0, .ref 17), (1, .int (nI p)), (2, .int a2), (3, .int (nI k))] [] h) ∧ (¬ ((nI (dE C)) ≤ (nI k)) → pz_S 4 (some .int) am_r91 1 Q 12 [(0, .ref 17), (1, .int (nI p)), (2, .int a2), (3, .int (nI k))] [] h) from ⟨fun hz => absurd hz (show ¬ (nI (dE C) ≤ nI k) by rw [nI_leI (by omega) (by omega)]; omega), fun _ => ?_⟩)
    refine am_goX 2 (show am_sh h 17 = some (0, 0) ∧ pz_S 4 (some .int) am_r91 1 Q 16 [(0, .ref 17), (1, .int (nI p)), (2, .int a2), (3, .int (nI k))] [am_rf (h.2.2.1 17 8)] h from ⟨ex_17 hP, ?_⟩)
    rw [show am_rf (h.2.2.1 17 8) = .ref 24 from congrArg am_rf (ex_r17_8 hP)]
    refine am_goX 2 (show ∃ jj nn : Nat, am_sh h 24 = some (13, nn) ∧ jj < nn ∧ nI k = nI jj ∧ pz_S 4 (some .int) am_r91 1 Q 18 [(0, .ref 17), (1, .int (nI p)), (2, .int a2), (3, .int (nI k))] [.int (h.1 24 jj)] h from ⟨k, 5, ex_24 hP, (by omega), rfl, ?_⟩)
    rw [show h.1 24 k = dG C k from (hT.2.1.2.2 k (by omega)).2]
    refine am_goX 2 (show 0 ≤ 8 ∧ h.2.2.2.2 + am_al 65 ≤ 175 ∧ am_call am_cod 1 65 [.int (dG C k), .int (nI p)] h (fun vv h' => pz_S 4 (some .int) am_r91 1 Q 22 [(0, .ref 17), (1, .int (nI p)), (2, .int a2), (3, .int (nI k))] (vv.toList ++ []) h') from ⟨by decide, ex_lim hP rfl, am_call.up (d_65_w hP ?_) (by decide)⟩)
    suffices key : ∀ (v29 : Int32), v29 = (if (d_65 (dG C k) (nI p)) = 0 then a2 else a2 ||| ((Int32.ofInt 1) <<< ((nI k) &&& 31))) → pz_S 4 (some .int) am_r91 1 Q 31 [(0, .ref 17), (1, .int (nI p)), (2, .int v29), (3, .int (nI k))] [] h by
      refine am_goX 1 (show ((d_65 (dG C k) (nI p)) = 0 → pz_S 4 (some .int) am_r91 1 Q 31 [(0, .ref 17), (1, .int (nI p)), (2, .int a2), (3, .int (nI k))] [] h) ∧ (¬ ((d_65 (dG C k) (nI p)) = 0) → pz_S 4 (some .int) am_r91 1 Q 25 [(0, .ref 17), (1, .int (nI p)), (2, .int a2), (3, .int (nI k))] [] h) from ⟨fun c28 => ?_, fun c28 => ?_⟩)
      · exact sv_S2 sv2_91 (by intro q hq; simp only [List.mem_cons, List.not_mem_nil, or_false] at hq; rcases hq with rfl | rfl | rfl | rfl <;> rfl) (key _ (if_pos c28).symm)
      · refine am_goX 6 (show 2 < 4 ∧ pz_S 4 (some .int) am_r91 1 Q 31 [(2, .int (a2 ||| ((Int32.ofInt 1) <<< ((nI k) &&& 31)))), (0, .ref 17), (1, .int (nI p)), (3, .int (nI k))] [] h from ⟨by decide, ?_⟩)
        exact sv_S2 sv2_91 (by intro q hq; simp only [List.mem_cons, List.not_mem_nil, or_false] at hq; rcases hq with rfl | rfl | rfl | rfl <;> rfl) (key _ (if_neg c28).symm)
    intro v29 e30
    subst e30
    refine am_goX 2 (show 3 < 4 ∧ pz_S 4 (some .int) am_r91 1 Q 4 [(3, .int ((nI k) + (Int32.ofInt 1))), (0, .ref 17), (1, .int (nI p)), (2, .int (if (d_65 (dG C k) (nI p)) = 0 then a2 else a2 ||| ((Int32.ofInt 1) <<< ((nI k) &&& 31))))] [] h from ⟨by decide, ?_⟩)
    rw [show (nI k) + (Int32.ofInt 1) = nI (k + 1) from (dn_a rfl rfl)]
    exact sv_S2 sv2_91 (by intro q hq; simp only [List.mem_cons, List.not_mem_nil, or_false] at hq; rcases hq with rfl | rfl | rfl | rfl <;> rfl) (ih (k + 1) (if (d_65 (dG C k) (nI p)) = 0 then a2 else a2 ||| ((Int32.ofInt 1) <<< ((nI k) &&& 31))) (by omega) hZ)
theorem d_91_t17 (hP : ex_P h) (hT : c_v 17 C h)  (hQ : Q (some (.int (d_91 C p))) h) : am_call am_cod 2 91 [.ref 17, .int (nI p)] h Q := by
  have h6 := hT.1.2.1
  have h5 := hT.2.1.2.1
  refine pz_call (n := 91) (nL := 4) (rt := (some .int)) (rows := am_r91) (d := 1) (by decide +kernel) (by decide +kernel) rfl (by funext pc; rfl) (ex_175 hP) (by exact Nat.le_of_ble_eq_true rfl) ?_
  refine am_goX 4 (show 2 < 4 ∧ 3 < 4 ∧ pz_S 4 (some .int) am_r91 1 Q 4 [(3, .int (Int32.ofInt 0)), (2, .int (Int32.ofInt 0)), (0, .ref 17), (1, .int (nI p))] [] h from ⟨by decide, by decide, ?_⟩)
  refine sv_S2 sv2_91 (by intro q hq; simp only [List.mem_cons, List.not_mem_nil, or_false] at hq; rcases hq with rfl | rfl | rfl | rfl <;> rfl) (d_91_4_t17 hP hT (dE C) 0 (Int32.ofInt 0) (by omega) ?_)
  exact am_goX 2 (show (∃ ty, (some .int) = some ty ∧ narrow ty (.int (d_91_4 C p (dE C) 0 (Int32.ofInt 0))) = .int (d_91_4 C p (dE C) 0 (Int32.ofInt 0))) ∧ h.2.2.2.2 = 175 ∧ _ from ⟨⟨.int, rfl, rfl⟩, ex_175 hP, hQ⟩)
theorem d_167_4_t17 (hP : ex_P h) (hT : c_v 17 C h) : ∀ (m k : Nat) (a2 : Int32), k + m = dE C → (pz_S 4 (some .int) am_r167 1 Q 35 [(2, .int (d_167_4 C x m k a2))] [] h) → pz_S 4 (some .int) am_r167 1 Q 4 [(0, .ref 17), (1, .int x), (2, .int a2), (3, .int (nI k))] [] h := by
  intro m
  induction m with
  | zero =>
    intro k a2 hk hZ
    have h6 := hT.1.2.1
    have h5 := hT.2.1.2.1
    refine am_goX 3 (show am_sh h 17 = some (0, 0) ∧ pz_S 4 (some .int) am_r167 1 Q 9 [(0, .ref 17), (1, .int x), (2, .int a2), (3, .int (nI k))] [.int (h.1 17 4), .int (nI k)] h from ⟨ex_17 hP, ?_⟩)
    rw [show h.1 17 4 = nI (dE C) from hT.2.1.1]
    refine am_goX 1 (show ((nI (dE C)) ≤ (nI k) → pz_S 4 (some .int) am_r167 1 Q 35 [(0, .ref 17), (1, .int x), (2, .int a2), (3, .int (nI k))] [] h) ∧ (¬ ((nI (dE C)) ≤ (nI k)) → pz_S 4 (some .int) am_r167 1 Q 12 [(0, .ref 17), (1, .int x), (2, .int a2), (3, .int (nI k))] [] h) from ⟨fun _ => ?_, fun hz => absurd (show nI (dE C) ≤ nI k from nI_le (by omega) (by omega)) hz⟩)
    exact sv_S2 sv2_167 (by intro q hq; simp only [List.mem_cons, List.not_mem_nil, or_false] at hq; rcases hq with rfl <;> rfl) (hZ)
  | succ m ih =>
    intro k a2 hk hZ
    have h6 := hT.1.2.1
    have h5 := hT.2.1.2.1
    refine am_goX 3 (show am_sh h 17 = some (0, 0) ∧ pz_S 4 (some .int) am_r167 1 Q 9 [(0, .ref 17), (1, .int x), (2, .int a2), (3, .int (nI k))] [.int (h.1 17 4), .int (nI k)] h from ⟨ex_17 hP, ?_⟩)
    rw [show h.1 17 4 = nI (dE C) from hT.2.1.1]
    refine am_goX 1 (show ((nI (dE C)) ≤ (nI k) → pz_S 4 (some .int) am_r167 1 Q 35 [(0, .ref 17), (1, .int x), (2, .int a2), (3, .int (nI k))] [] h) ∧ (¬ ((nI (dE C)) ≤ (nI k)) → pz_S 4 (some .int) am_r167 1 Q 12 [(0, .ref 17), (1, .int x), (2, .int a2), (3, .int (nI k))] [] h) from ⟨fun hz => absurd hz (show ¬ (nI (dE C) ≤ nI k) by rw [nI_leI (by omega) (by omega)]; omega), fun _ => ?_⟩)
    refine am_goX 3 (show 0 ≤ 8 ∧ h.2.2.2.2 + am_al 65 ≤ 175 ∧ am_call am_cod 1 65 [.int x, .int (nI k)] h (fun vv h' => pz_S 4 (some .int) am_r167 1 Q 17 [(0, .ref 17), (1, .int x), (2, .int a2), (3, .int (nI k))] (vv.toList ++ []) h') from ⟨by decide, ex_lim hP rfl, am_call.up (d_65_w hP ?_) (by decide)⟩)
    suffices key : ∀ (v32 : Int32), v32 = (if (d_65 x (nI k)) = 0 then a2 else a2 ||| (dG C k)) → pz_S 4 (some .int) am_r167 1 Q 29 [(0, .ref 17), (1, .int x), (2, .int v32), (3, .int (nI k))] [] h by
      refine am_goX 1 (show ((d_65 x (nI k)) = 0 → pz_S 4 (some .int) am_r167 1 Q 29 [(0, .ref 17), (1, .int x), (2, .int a2), (3, .int (nI k))] [] h) ∧ (¬ ((d_65 x (nI k)) = 0) → pz_S 4 (some .int) am_r167 1 Q 20 [(0, .ref 17), (1, .int x), (2, .int a2), (3, .int (nI k))] [] h) from ⟨fun c31 => ?_, fun c31 => ?_⟩)
      · exact sv_S2 sv2_167 (by intro q hq; simp only [List.mem_cons, List.not_mem_nil, or_false] at hq; rcases hq with rfl | rfl | rfl | rfl <;> rfl) (key _ (if_pos c31).symm)
      · refine am_goX 3 (show am_sh h 17 = some (0, 0) ∧ pz_S 4 (some .int) am_r167 1 Q 25 [(0, .ref 17), (1, .int x), (2, .int a2), (3, .int (nI k))] [am_rf (h.2.2.1 17 8), .int a2] h from ⟨ex_17 hP, ?_⟩)
        rw [show am_rf (h.2.2.1 17 8) = .ref 24 from congrArg am_rf (ex_r17_8 hP)]
        refine am_goX 2 (show ∃ jj nn : Nat, am_sh h 24 = some (13, nn) ∧ jj < nn ∧ nI k = nI jj ∧ pz_S 4 (some .int) am_r167 1 Q 27 [(0, .ref 17), (1, .int x), (2, .int a2), (3, .int (nI k))] [.int (h.1 24 jj), .int a2] h from ⟨k, 5, ex_24 hP, (by omega), rfl, ?_⟩)
        rw [show h.1 24 k = dG C k from (hT.2.1.2.2 k (by omega)).2]
        refine am_goX 2 (show 2 < 4 ∧ pz_S 4 (some .int) am_r167 1 Q 29 [(2, .int (a2 ||| (dG C k))), (0, .ref 17), (1, .int x), (3, .int (nI k))] [] h from ⟨by decide, ?_⟩)
        exact sv_S2 sv2_167 (by intro q hq; simp only [List.mem_cons, List.not_mem_nil, or_false] at hq; rcases hq with rfl | rfl | rfl | rfl <;> rfl) (key _ (if_neg c31).symm)
    intro v32 e33
    subst e33
    refine am_goX 2 (show 3 < 4 ∧ pz_S 4 (some .int) am_r167 1 Q 4 [(3, .int ((nI k) + (Int32.ofInt 1))), (0, .ref 17), (1, .int x), (2, .int (if (d_65 x (nI k)) = 0 then a2 else a2 ||| (dG C k)))] [] h from ⟨by decide, ?_⟩)
    rw [show (nI k) + (Int32.ofInt 1) = nI (k + 1) from (dn_a rfl rfl)]
    exact sv_S2 sv2_167 (by intro q hq; simp only [List.mem_cons, List.not_mem_nil, or_false] at hq; rcases hq with rfl | rfl | rfl | rfl <;> rfl) (ih (k + 1) (if (d_65 x (nI k)) = 0 then a2 else a2 ||| (dG C k)) (by omega) hZ)
theorem d_167_t17 (hP : ex_P h) (hT : c_v 17 C h)  (hQ : Q (some (.int (d_167 C x))) h) : am_call am_cod 2 167 [.ref 17, .int x] h Q := by
  have h6 := hT.1.2.1
  have h5 := hT.2.1.2.1
  refine pz_call (n := 167) (nL := 4) (rt := (some .int)) (rows := am_r167) (d := 1) (by decide +kernel) (by decide +kernel) rfl (by funext pc; rfl) (ex_175 hP) (by exact Nat.le_of_ble_eq_true rfl) ?_
  refine am_goX 4 (show 2 < 4 ∧ 3 < 4 ∧ pz_S 4 (some .int) am_r167 1 Q 4 [(3, .int (Int32.ofInt 0)), (2, .int (Int32.ofInt 0)), (0, .ref 17), (1, .int x)] [] h from ⟨by decide, by decide, ?_⟩)
  refine sv_S2 sv2_167 (by intro q hq; simp only [List.mem_cons, List.not_mem_nil, or_false] at hq; rcases hq with rfl | rfl | rfl | rfl <;> rfl) (d_167_4_t17 hP hT (dE C) 0 (Int32.ofInt 0) (by omega) ?_)
  exact am_goX 2 (show (∃ ty, (some .int) = some ty ∧ narrow ty (.int (d_167_4 C x (dE C) 0 (Int32.ofInt 0))) = .int (d_167_4 C x (dE C) 0 (Int32.ofInt 0))) ∧ h.2.2.2.2 = 175 ∧ _ from ⟨⟨.int, rfl, rfl⟩, ex_175 hP, hQ⟩)
theorem d_165_t17 (hP : ex_P h) (hT : c_v 17 C h) (hR : h.2.2.1 0 3 = some 17) (hp : p < dP C) (hq : q < dP C) (hQ : Q (some (.int (d_165 C p q))) h) : am_call am_cod 4 165 [.ref 0, .int (nI p), .int (nI q)] h Q := by
  have h6 := hT.1.2.1
  have h5 := hT.2.1.2.1
  refine pz_call (n := 165) (nL := 3) (rt := (some .int)) (rows := am_r165) (d := 3) (by decide +kernel) (by decide +kernel) rfl (by funext pc; rfl) (ex_175 hP) (by exact Nat.le_of_ble_eq_true rfl) ?_
  refine am_goX 3 (show am_rc h 0 10 ∧ 0 ≤ 8 ∧ h.2.2.2.2 + am_al 87 ≤ 175 ∧ am_call am_cod 3 87 [.ref 0, .int (nI p)] h (fun vv h' => pz_S 3 (some .int) am_r165 3 Q 5 [(0, .ref 0), (1, .int (nI p)), (2, .int (nI q))] (vv.toList ++ []) h') from ⟨Or.inl ⟨by decide, ex_0 hP⟩, by decide, ex_lim hP rfl, am_call.up (d_87_t17 hP hT hR ?_) (by decide)⟩)
  rw [show d_87 C (nI p) = Int32.ofInt 1 from (v_87 hp)]
  refine am_goX 1 (show ((Int32.ofInt 1) = 0 → pz_S 3 (some .int) am_r165 3 Q 16 [(0, .ref 0), (1, .int (nI p)), (2, .int (nI q))] [] h) ∧ (¬ ((Int32.ofInt 1) = 0) → pz_S 3 (some .int) am_r165 3 Q 8 [(0, .ref 0), (1, .int (nI p)), (2, .int (nI q))] [] h) from ⟨fun hz => absurd hz (by decide), fun _ => ?_⟩)
  refine am_goX 3 (show am_rc h 0 10 ∧ 0 ≤ 8 ∧ h.2.2.2.2 + am_al 87 ≤ 175 ∧ am_call am_cod 3 87 [.ref 0, .int (nI q)] h (fun vv h' => pz_S 3 (some .int) am_r165 3 Q 13 [(0, .ref 0), (1, .int (nI p)), (2, .int (nI q))] (vv.toList ++ []) h') from ⟨Or.inl ⟨by decide, ex_0 hP⟩, by decide, ex_lim hP rfl, am_call.up (d_87_t17 hP hT hR ?_) (by decide)⟩)
  rw [show d_87 C (nI q) = Int32.ofInt 1 from (v_87 hq)]
  refine am_goX 1 (show (¬ (Int32.ofInt 1) = 0 → pz_S 3 (some .int) am_r165 3 Q 18 [(0, .ref 0), (1, .int (nI p)), (2, .int (nI q))] [] h) ∧ (¬ ¬ (Int32.ofInt 1) = 0 → pz_S 3 (some .int) am_r165 3 Q 16 [(0, .ref 0), (1, .int (nI p)), (2, .int (nI q))] [] h) from ⟨fun _ => ?_, fun hz => absurd (by decide) hz⟩)
  refine am_goX 2 (show am_sh h 0 = some (10, 0) ∧ pz_S 3 (some .int) am_r165 3 Q 22 [(0, .ref 0), (1, .int (nI p)), (2, .int (nI q))] [am_rf (h.2.2.1 0 3)] h from ⟨ex_0 hP, ?_⟩)
  rw [show am_rf (h.2.2.1 0 3) = .ref 17 from congrArg am_rf (hR)]
  refine am_goX 2 (show am_rc h 17 0 ∧ 0 ≤ 8 ∧ h.2.2.2.2 + am_al 91 ≤ 175 ∧ am_call am_cod 3 91 [.ref 17, .int (nI p)] h (fun vv h' => pz_S 3 (some .int) am_r165 3 Q 26 [(0, .ref 0), (1, .int (nI p)), (2, .int (nI q))] (vv.toList ++ []) h') from ⟨Or.inl ⟨by decide, ex_17 hP⟩, by decide, ex_lim hP rfl, am_call.up (d_91_t17 hP hT ?_) (by decide)⟩)
  refine am_goX 2 (show am_sh h 0 = some (10, 0) ∧ pz_S 3 (some .int) am_r165 3 Q 30 [(0, .ref 0), (1, .int (nI p)), (2, .int (nI q))] [am_rf (h.2.2.1 0 3), .int (d_91 C p)] h from ⟨ex_0 hP, ?_⟩)
  rw [show am_rf (h.2.2.1 0 3) = .ref 17 from congrArg am_rf (hR)]
  refine am_goX 2 (show am_rc h 17 0 ∧ 1 ≤ 8 ∧ h.2.2.2.2 + am_al 91 ≤ 175 ∧ am_call am_cod 3 91 [.ref 17, .int (nI q)] h (fun vv h' => pz_S 3 (some .int) am_r165 3 Q 34 [(0, .ref 0), (1, .int (nI p)), (2, .int (nI q))] (vv.toList ++ [.int (d_91 C p)]) h') from ⟨Or.inl ⟨by decide, ex_17 hP⟩, by decide, ex_lim hP rfl, am_call.up (d_91_t17 hP hT ?_) (by decide)⟩)
  exact am_goX 2 (show (∃ ty, (some .int) = some ty ∧ narrow ty (.int ((d_91 C p) &&& (d_91 C q))) = .int ((d_91 C p) &&& (d_91 C q))) ∧ h.2.2.2.2 = 175 ∧ _ from ⟨⟨.int, rfl, rfl⟩, ex_175 hP, hQ⟩)
theorem d_165_xt17 (hP : ex_P h) (hT : c_v 17 C h) (hR : h.2.2.1 0 3 = some 17) (ex : d_87 C x = Int32.ofInt 0) (hQ : Q (some (.int d_165x)) h) : am_call am_cod 4 165 [.ref 0, .int x, .int y] h Q := by
  have h6 := hT.1.2.1
  have h5 := hT.2.1.2.1
  refine pz_call (n := 165) (nL := 3) (rt := (some .int)) (rows := am_r165) (d := 3) (by decide +kernel) (by decide +kernel) rfl (by funext pc; rfl) (ex_175 hP) (by exact Nat.le_of_ble_eq_true rfl) ?_
  refine am_goX 3 (show am_rc h 0 10 ∧ 0 ≤ 8 ∧ h.2.2.2.2 + am_al 87 ≤ 175 ∧ am_call am_cod 3 87 [.ref 0, .int x] h (fun vv h' => pz_S 3 (some .int) am_r165 3 Q 5 [(0, .ref 0), (1, .int x), (2, .int y)] (vv.toList ++ []) h') from ⟨Or.inl ⟨by decide, ex_0 hP⟩, by decide, ex_lim hP rfl, am_call.up (d_87_t17 hP hT hR ?_) (by decide)⟩)
  rw [show d_87 C x = Int32.ofInt 0 from ex]
  refine am_goX 1 (show ((Int32.ofInt 0) = 0 → pz_S 3 (some .int) am_r165 3 Q 16 [(0, .ref 0), (1, .int x), (2, .int y)] [] h) ∧ (¬ ((Int32.ofInt 0) = 0) → pz_S 3 (some .int) am_r165 3 Q 8 [(0, .ref 0), (1, .int x), (2, .int y)] [] h) from ⟨fun _ => ?_, fun hz => absurd (by decide) hz⟩)
  exact am_goX 2 (show (∃ ty, (some .int) = some ty ∧ narrow ty (.int (Int32.ofInt (-1))) = .int (Int32.ofInt (-1))) ∧ h.2.2.2.2 = 175 ∧ _ from ⟨⟨.int, rfl, rfl⟩, ex_175 hP, hQ⟩)
theorem d_165_yt17 (hP : ex_P h) (hT : c_v 17 C h) (hR : h.2.2.1 0 3 = some 17) (hp : p < dP C) (ey : d_87 C y = Int32.ofInt 0) (hQ : Q (some (.int d_165x)) h) : am_call am_cod 4 165 [.ref 0, .int (nI p), .int y] h Q := by
  have h6 := hT.1.2.1
  have h5 := hT.2.1.2.1
  refine pz_call (n := 165) (nL := 3) (rt := (some .int)) (rows := am_r165) (d := 3) (by decide +kernel) (by decide +kernel) rfl (by funext pc; rfl) (ex_175 hP) (by exact Nat.le_of_ble_eq_true rfl) ?_
  refine am_goX 3 (show am_rc h 0 10 ∧ 0 ≤ 8 ∧ h.2.2.2.2 + am_al 87 ≤ 175 ∧ am_call am_cod 3 87 [.ref 0, .int (nI p)] h (fun vv h' => pz_S 3 (some .int) am_r165 3 Q 5 [(0, .ref 0), (1, .int (nI p)), (2, .int y)] (vv.toList ++ []) h') from ⟨Or.inl ⟨by decide, ex_0 hP⟩, by decide, ex_lim hP rfl, am_call.up (d_87_t17 hP hT hR ?_) (by decide)⟩)
  rw [show d_87 C (nI p) = Int32.ofInt 1 from (v_87 hp)]
  refine am_goX 1 (show ((Int32.ofInt 1) = 0 → pz_S 3 (some .int) am_r165 3 Q 16 [(0, .ref 0), (1, .int (nI p)), (2, .int y)] [] h) ∧ (¬ ((Int32.ofInt 1) = 0) → pz_S 3 (some .int) am_r165 3 Q 8 [(0, .ref 0), (1, .int (nI p)), (2, .int y)] [] h) from ⟨fun hz => absurd hz (by decide), fun _ => ?_⟩)
  refine am_goX 3 (show am_rc h 0 10 ∧ 0 ≤ 8 ∧ h.2.2.2.2 + am_al 87 ≤ 175 ∧ am_call am_cod 3 87 [.ref 0, .int y] h (fun vv h' => pz_S 3 (some .int) am_r165 3 Q 13 [(0, .ref 0), (1, .int (nI p)), (2, .int y)] (vv.toList ++ []) h') from ⟨Or.inl ⟨by decide, ex_0 hP⟩, by decide, ex_lim hP rfl, am_call.up (d_87_t17 hP hT hR ?_) (by decide)⟩)
  rw [show d_87 C y = Int32.ofInt 0 from ey]
  refine am_goX 1 (show (¬ (Int32.ofInt 0) = 0 → pz_S 3 (some .int) am_r165 3 Q 18 [(0, .ref 0), (1, .int (nI p)), (2, .int y)] [] h) ∧ (¬ ¬ (Int32.ofInt 0) = 0 → pz_S 3 (some .int) am_r165 3 Q 16 [(0, .ref 0), (1, .int (nI p)), (2, .int y)] [] h) from ⟨fun hz => absurd hz (by decide), fun _ => ?_⟩)
  exact am_goX 2 (show (∃ ty, (some .int) = some ty ∧ narrow ty (.int (Int32.ofInt (-1))) = .int (Int32.ofInt (-1))) ∧ h.2.2.2.2 = 175 ∧ _ from ⟨⟨.int, rfl, rfl⟩, ex_175 hP, hQ⟩)
theorem d_166_16_t17 (hP : ex_P h) (hT : c_v 17 C h) (hR : h.2.2.1 0 3 = some 17) : ∀ (m k : Nat) (a2 : Int32), k + m = dV C → (pz_S 4 (some .int) am_r166 2 Q 59 [(2, .int (d_166_16 C m k a2))] [] h) → pz_S 4 (some .int) am_r166 2 Q 16 [(0, .ref 0), (1, .int (nI (dV C))), (2, .int a2), (3, .int (nI k))] [] h := by
  intro m
  induction m with
  | zero =>
    intro k a2 hk hZ
    have h6 := hT.1.2.1
    have h5 := hT.2.1.2.1
    have h31 := dV_31 h5
    refine am_goX 3 (show ((nI (dV C)) ≤ (nI k) → pz_S 4 (some .int) am_r166 2 Q 59 [(0, .ref 0), (1, .int (nI (dV C))), (2, .int a2), (3, .int (nI k))] [] h) ∧ (¬ ((nI (dV C)) ≤ (nI k)) → pz_S 4 (some .int) am_r166 2 Q 21 [(0, .ref 0), (1, .int (nI (dV C))), (2, .int a2), (3, .int (nI k))] [] h) from ⟨fun _ => ?_, fun hz => absurd (show nI (dV C) ≤ nI k from nI_le (by omega) (by omega)) hz⟩)
    exact sv_S2 sv2_166 (by intro q hq; simp only [List.mem_cons, List.not_mem_nil, or_false] at hq; rcases hq with rfl <;> rfl) (hZ)
  | succ m ih =>
    intro k a2 hk hZ
    have h6 := hT.1.2.1
    have h5 := hT.2.1.2.1
    have h31 := dV_31 h5
    refine am_goX 3 (show ((nI (dV C)) ≤ (nI k) → pz_S 4 (some .int) am_r166 2 Q 59 [(0, .ref 0), (1, .int (nI (dV C))), (2, .int a2), (3, .int (nI k))] [] h) ∧ (¬ ((nI (dV C)) ≤ (nI k)) → pz_S 4 (some .int) am_r166 2 Q 21 [(0, .ref 0), (1, .int (nI (dV C))), (2, .int a2), (3, .int (nI k))] [] h) from ⟨fun hz => absurd hz (show ¬ (nI (dV C) ≤ nI k) by rw [nI_leI (by omega) (by omega)]; omega), fun _ => ?_⟩)
    refine am_goX 2 (show 0 ≤ 8 ∧ h.2.2.2.2 + am_al 69 ≤ 175 ∧ am_call am_cod 2 69 [.int (nI k)] h (fun vv h' => pz_S 4 (some .int) am_r166 2 Q 25 [(0, .ref 0), (1, .int (nI (dV C))), (2, .int a2), (3, .int (nI k))] (vv.toList ++ []) h') from ⟨by decide, ex_lim hP rfl, am_call.up (d_69_w hP ?_) (by decide)⟩)
    refine am_goX 2 (show 1 ≤ 8 ∧ h.2.2.2.2 + am_al 69 ≤ 175 ∧ am_call am_cod 2 69 [.int a2] h (fun vv h' => pz_S 4 (some .int) am_r166 2 Q 29 [(0, .ref 0), (1, .int (nI (dV C))), (2, .int a2), (3, .int (nI k))] (vv.toList ++ [.int (d_69 (nI k))]) h') from ⟨by decide, ex_lim hP rfl, am_call.up (d_69_w hP ?_) (by decide)⟩)
    suffices key : ∀ (v35 : Int32), v35 = (if (d_69 a2) ≤ (d_69 (nI k)) then a2 else (if ¬ (d_167 C (nI k)) = (d_167 C (nI (dV C))) then a2 else nI k)) → pz_S 4 (some .int) am_r166 2 Q 53 [(0, .ref 0), (1, .int (nI (dV C))), (2, .int v35), (3, .int (nI k))] [] h by
      refine am_goX 1 (show ((d_69 a2) ≤ (d_69 (nI k)) → pz_S 4 (some .int) am_r166 2 Q 53 [(0, .ref 0), (1, .int (nI (dV C))), (2, .int a2), (3, .int (nI k))] [] h) ∧ (¬ ((d_69 a2) ≤ (d_69 (nI k))) → pz_S 4 (some .int) am_r166 2 Q 32 [(0, .ref 0), (1, .int (nI (dV C))), (2, .int a2), (3, .int (nI k))] [] h) from ⟨fun c34 => ?_, fun c34 => ?_⟩)
      · exact sv_S2 sv2_166 (by intro q hq; simp only [List.mem_cons, List.not_mem_nil, or_false] at hq; rcases hq with rfl | rfl | rfl | rfl <;> rfl) (key _ (if_pos c34).symm)
      · refine am_goX 2 (show am_sh h 0 = some (10, 0) ∧ pz_S 4 (some .int) am_r166 2 Q 36 [(0, .ref 0), (1, .int (nI (dV C))), (2, .int a2), (3, .int (nI k))] [am_rf (h.2.2.1 0 3)] h from ⟨ex_0 hP, ?_⟩)
        rw [show am_rf (h.2.2.1 0 3) = .ref 17 from congrArg am_rf (hR)]
        refine am_goX 2 (show am_rc h 17 0 ∧ 0 ≤ 8 ∧ h.2.2.2.2 + am_al 167 ≤ 175 ∧ am_call am_cod 2 167 [.ref 17, .int (nI k)] h (fun vv h' => pz_S 4 (some .int) am_r166 2 Q 40 [(0, .ref 0), (1, .int (nI (dV C))), (2, .int a2), (3, .int (nI k))] (vv.toList ++ []) h') from ⟨Or.inl ⟨by decide, ex_17 hP⟩, by decide, ex_lim hP rfl, am_call.up (d_167_t17 hP hT ?_) (by decide)⟩)
        refine am_goX 2 (show am_sh h 0 = some (10, 0) ∧ pz_S 4 (some .int) am_r166 2 Q 44 [(0, .ref 0), (1, .int (nI (dV C))), (2, .int a2), (3, .int (nI k))] [am_rf (h.2.2.1 0 3), .int (d_167 C (nI k))] h from ⟨ex_0 hP, ?_⟩)
        rw [show am_rf (h.2.2.1 0 3) = .ref 17 from congrArg am_rf (hR)]
        refine am_goX 2 (show am_rc h 17 0 ∧ 1 ≤ 8 ∧ h.2.2.2.2 + am_al 167 ≤ 175 ∧ am_call am_cod 2 167 [.ref 17, .int (nI (dV C))] h (fun vv h' => pz_S 4 (some .int) am_r166 2 Q 48 [(0, .ref 0), (1, .int (nI (dV C))), (2, .int a2), (3, .int (nI k))] (vv.toList ++ [.int (d_167 C (nI k))]) h') from ⟨Or.inl ⟨by decide, ex_17 hP⟩, by decide, ex_lim hP rfl, am_call.up (d_167_t17 hP hT ?_) (by decide)⟩)
        suffices key : ∀ (v37 : Int32), v37 = (if ¬ (d_167 C (nI k)) = (d_167 C (nI (dV C))) then a2 else nI k) → pz_S 4 (some .int) am_r166 2 Q 53 [(0, .ref 0), (1, .int (nI (dV C))), (2, .int v37), (3, .int (nI k))] [] h by
          refine am_goX 1 (show (¬ (d_167 C (nI k)) = (d_167 C (nI (dV C))) → pz_S 4 (some .int) am_r166 2 Q 53 [(0, .ref 0), (1, .int (nI (dV C))), (2, .int a2), (3, .int (nI k))] [] h) ∧ (¬ ¬ (d_167 C (nI k)) = (d_167 C (nI (dV C))) → pz_S 4 (some .int) am_r166 2 Q 51 [(0, .ref 0), (1, .int (nI (dV C))), (2, .int a2), (3, .int (nI k))] [] h) from ⟨fun c36 => ?_, fun c36 => ?_⟩)
          · exact sv_S2 sv2_166 (by intro q hq; simp only [List.mem_cons, List.not_mem_nil, or_false] at hq; rcases hq with rfl | rfl | rfl | rfl <;> rfl) (key _ (if_pos c36).symm)
          · refine am_goX 2 (show 2 < 4 ∧ pz_S 4 (some .int) am_r166 2 Q 53 [(2, .int (nI k)), (0, .ref 0), (1, .int (nI (dV C))), (3, .int (nI k))] [] h from ⟨by decide, ?_⟩)
            exact sv_S2 sv2_166 (by intro q hq; simp only [List.mem_cons, List.not_mem_nil, or_false] at hq; rcases hq with rfl | rfl | rfl | rfl <;> rfl) (key _ (if_neg c36).symm)
        intro v37 e38
        subst e38
        exact sv_S2 sv2_166 (by intro q hq; simp only [List.mem_cons, List.not_mem_nil, or_false] at hq; rcases hq with rfl | rfl | rfl | rfl <;> rfl) (key _ (if_neg c34).symm)
    intro v35 e39
    subst e39
    refine am_goX 2 (show 3 < 4 ∧ pz_S 4 (some .int) am_r166 2 Q 16 [(3, .int ((nI k) + (Int32.ofInt 1))), (0, .ref 0), (1, .int (nI (dV C))), (2, .int (if (d_69 a2) ≤ (d_69 (nI k)) then a2 else (if ¬ (d_167 C (nI k)) = (d_167 C (nI (dV C))) then a2 else nI k)))] [] h from ⟨by decide, ?_⟩)
    rw [show (nI k) + (Int32.ofInt 1) = nI (k + 1) from (dn_a rfl rfl)]
    exact sv_S2 sv2_166 (by intro q hq; simp only [List.mem_cons, List.not_mem_nil, or_false] at hq; rcases hq with rfl | rfl | rfl | rfl <;> rfl) (ih (k + 1) (if (d_69 a2) ≤ (d_69 (nI k)) then a2 else (if ¬ (d_167 C (nI k)) = (d_167 C (nI (dV C))) then a2 else nI k)) (by omega) hZ)
theorem d_166_t17 (hP : ex_P h) (hT : c_v 17 C h) (hR : h.2.2.1 0 3 = some 17)  (hQ : Q (some (.int (d_166 C))) h) : am_call am_cod 3 166 [.ref 0] h Q := by
  have h6 := hT.1.2.1
  have h5 := hT.2.1.2.1
  have h31 := dV_31 h5
  refine pz_call (n := 166) (nL := 4) (rt := (some .int)) (rows := am_r166) (d := 2) (by decide +kernel) (by decide +kernel) rfl (by funext pc; rfl) (ex_175 hP) (by exact Nat.le_of_ble_eq_true rfl) ?_
  refine am_goX 3 (show am_sh h 0 = some (10, 0) ∧ pz_S 4 (some .int) am_r166 2 Q 5 [(0, .ref 0)] [am_rf (h.2.2.1 0 3), .int (Int32.ofInt 1)] h from ⟨ex_0 hP, ?_⟩)
  rw [show am_rf (h.2.2.1 0 3) = .ref 17 from congrArg am_rf (hR)]
  refine am_goX 1 (show am_sh h 17 = some (0, 0) ∧ pz_S 4 (some .int) am_r166 2 Q 8 [(0, .ref 0)] [.int (h.1 17 4), .int (Int32.ofInt 1)] h from ⟨ex_17 hP, ?_⟩)
  rw [show h.1 17 4 = nI (dE C) from hT.2.1.1]
  refine am_goX 3 (show pz_S 4 (some .int) am_r166 2 Q 11 [(0, .ref 0)] [.int (((Int32.ofInt 1) <<< ((nI (dE C)) &&& 31)) - (Int32.ofInt 1))] h from ?_)
  rw [show ((Int32.ofInt 1) <<< ((nI (dE C)) &&& 31)) - (Int32.ofInt 1) = nI (dV C) from (dV_31 h5).2.2]
  refine am_goX 5 (show 1 < 4 ∧ 2 < 4 ∧ 3 < 4 ∧ pz_S 4 (some .int) am_r166 2 Q 16 [(3, .int (Int32.ofInt 0)), (2, .int (nI (dV C))), (1, .int (nI (dV C))), (0, .ref 0)] [] h from ⟨by decide, by decide, by decide, ?_⟩)
  refine sv_S2 sv2_166 (by intro q hq; simp only [List.mem_cons, List.not_mem_nil, or_false] at hq; rcases hq with rfl | rfl | rfl | rfl <;> rfl) (d_166_16_t17 hP hT hR (dV C) 0 (nI (dV C)) (by omega) ?_)
  exact am_goX 2 (show (∃ ty, (some .int) = some ty ∧ narrow ty (.int (d_166_16 C (dV C) 0 (nI (dV C)))) = .int (d_166_16 C (dV C) 0 (nI (dV C)))) ∧ h.2.2.2.2 = 175 ∧ _ from ⟨⟨.int, rfl, rfl⟩, ex_175 hP, hQ⟩)
def d_186 (C : sp_C) : Int32 := nI (dP C)
theorem d_186_r (hP : ex_P h) (hT : tR C h)  (hQ : Q (some (.int (d_186 C))) h) : am_call am_cod 1 186 [.ref 154] h Q := by
  have h6 := hT.1.2.1
  have h5 := hT.2.1.2.1
  refine pz_call (n := 186) (nL := 1) (rt := (some .int)) (rows := am_r186) (d := 0) (by decide +kernel) (by decide +kernel) rfl (by funext pc; rfl) (ex_175 hP) (by exact Nat.le_of_ble_eq_true rfl) ?_
  refine am_goX 2 (show am_sh h 154 = some (11, 0) ∧ pz_S 1 (some .int) am_r186 0 Q 4 [(0, .ref 154)] [am_rf (h.2.2.1 154 10)] h from ⟨ex_154 hP, ?_⟩)
  rw [show am_rf (h.2.2.1 154 10) = .ref 160 from congrArg am_rf (ex_r154_10 hP)]
  refine am_goX 2 (show ∃ jj nn : Nat, am_sh h 160 = some (13, nn) ∧ jj < nn ∧ Int32.ofInt 0 = nI jj ∧ pz_S 1 (some .int) am_r186 0 Q 6 [(0, .ref 154)] [.int (h.1 160 jj)] h from ⟨0, 80, ex_160 hP, (by omega), rfl, ?_⟩)
  rw [show h.1 160 0 = nI (dP C) from hT.1.1]
  exact am_goX 1 (show (∃ ty, (some .int) = some ty ∧ narrow ty (.int (nI (dP C))) = .int (nI (dP C))) ∧ h.2.2.2.2 = 175 ∧ _ from ⟨⟨.int, rfl, rfl⟩, ex_175 hP, hQ⟩)
def d_183 (C : sp_C) : Int32 := nI (dE C)
theorem d_183_r (hP : ex_P h) (hT : tR C h)  (hQ : Q (some (.int (d_183 C))) h) : am_call am_cod 1 183 [.ref 154] h Q := by
  have h6 := hT.1.2.1
  have h5 := hT.2.1.2.1
  refine pz_call (n := 183) (nL := 1) (rt := (some .int)) (rows := am_r183) (d := 0) (by decide +kernel) (by decide +kernel) rfl (by funext pc; rfl) (ex_175 hP) (by exact Nat.le_of_ble_eq_true rfl) ?_
  refine am_goX 2 (show am_sh h 154 = some (11, 0) ∧ pz_S 1 (some .int) am_r183 0 Q 4 [(0, .ref 154)] [am_rf (h.2.2.1 154 10)] h from ⟨ex_154 hP, ?_⟩)
  rw [show am_rf (h.2.2.1 154 10) = .ref 160 from congrArg am_rf (ex_r154_10 hP)]
  refine am_goX 2 (show ∃ jj nn : Nat, am_sh h 160 = some (13, nn) ∧ jj < nn ∧ Int32.ofInt 1 = nI jj ∧ pz_S 1 (some .int) am_r183 0 Q 6 [(0, .ref 154)] [.int (h.1 160 jj)] h from ⟨1, 80, ex_160 hP, (by omega), rfl, ?_⟩)
  rw [show h.1 160 1 = nI (dE C) from hT.2.1.1]
  exact am_goX 1 (show (∃ ty, (some .int) = some ty ∧ narrow ty (.int (nI (dE C))) = .int (nI (dE C))) ∧ h.2.2.2.2 = 175 ∧ _ from ⟨⟨.int, rfl, rfl⟩, ex_175 hP, hQ⟩)
theorem d_187_r0 (hP : ex_P h) (hT : tR C h) (hp : p < dP C) (hQ : Q (some (.int (dK C p))) h) : am_call am_cod 1 187 [.ref 154, .int (nI p), .int (Int32.ofInt 0)] h Q := by
  have h6 := hT.1.2.1
  have h5 := hT.2.1.2.1
  refine pz_call (n := 187) (nL := 3) (rt := (some .int)) (rows := am_r187) (d := 0) (by decide +kernel) (by decide +kernel) rfl (by funext pc; rfl) (ex_175 hP) (by exact Nat.le_of_ble_eq_true rfl) ?_
  refine am_goX 2 (show am_sh h 154 = some (11, 0) ∧ pz_S 3 (some .int) am_r187 0 Q 4 [(0, .ref 154), (1, .int (nI p)), (2, .int (Int32.ofInt 0))] [am_rf (h.2.2.1 154 10)] h from ⟨ex_154 hP, ?_⟩)
  rw [show am_rf (h.2.2.1 154 10) = .ref 160 from congrArg am_rf (ex_r154_10 hP)]
  refine am_goX 8 (show ∃ jj nn : Nat, am_sh h 160 = some (13, nn) ∧ jj < nn ∧ ((Int32.ofInt 4) + ((Int32.ofInt 3) * (nI p))) + (Int32.ofInt 0) = nI jj ∧ pz_S 3 (some .int) am_r187 0 Q 12 [(0, .ref 154), (1, .int (nI p)), (2, .int (Int32.ofInt 0))] [.int (h.1 160 jj)] h from ⟨((4 + (3 * p)) + 0), 80, ex_160 hP, (by omega), (dn_a (dn_a rfl (dn_m rfl rfl)) rfl), ?_⟩)
  rw [show h.1 160 ((4 + (3 * p)) + 0) = dK C p from (by rw [show ((4 + (3 * p)) + 0) = 4 + 3 * p by omega]; exact (hT.1.2.2 p (by omega)).1)]
  exact am_goX 1 (show (∃ ty, (some .int) = some ty ∧ narrow ty (.int (dK C p)) = .int (dK C p)) ∧ h.2.2.2.2 = 175 ∧ _ from ⟨⟨.int, rfl, rfl⟩, ex_175 hP, hQ⟩)
theorem d_187_r1 (hP : ex_P h) (hT : tR C h) (hp : p < dP C) (hQ : Q (some (.int (dL C p))) h) : am_call am_cod 1 187 [.ref 154, .int (nI p), .int (Int32.ofInt 1)] h Q := by
  have h6 := hT.1.2.1
  have h5 := hT.2.1.2.1
  refine pz_call (n := 187) (nL := 3) (rt := (some .int)) (rows := am_r187) (d := 0) (by decide +kernel) (by decide +kernel) rfl (by funext pc; rfl) (ex_175 hP) (by exact Nat.le_of_ble_eq_true rfl) ?_
  refine am_goX 2 (show am_sh h 154 = some (11, 0) ∧ pz_S 3 (some .int) am_r187 0 Q 4 [(0, .ref 154), (1, .int (nI p)), (2, .int (Int32.ofInt 1))] [am_rf (h.2.2.1 154 10)] h from ⟨ex_154 hP, ?_⟩)
  rw [show am_rf (h.2.2.1 154 10) = .ref 160 from congrArg am_rf (ex_r154_10 hP)]
  refine am_goX 8 (show ∃ jj nn : Nat, am_sh h 160 = some (13, nn) ∧ jj < nn ∧ ((Int32.ofInt 4) + ((Int32.ofInt 3) * (nI p))) + (Int32.ofInt 1) = nI jj ∧ pz_S 3 (some .int) am_r187 0 Q 12 [(0, .ref 154), (1, .int (nI p)), (2, .int (Int32.ofInt 1))] [.int (h.1 160 jj)] h from ⟨((4 + (3 * p)) + 1), 80, ex_160 hP, (by omega), (dn_a (dn_a rfl (dn_m rfl rfl)) rfl), ?_⟩)
  rw [show h.1 160 ((4 + (3 * p)) + 1) = dL C p from (by rw [show ((4 + (3 * p)) + 1) = 5 + 3 * p by omega]; exact (hT.1.2.2 p (by omega)).2)]
  exact am_goX 1 (show (∃ ty, (some .int) = some ty ∧ narrow ty (.int (dL C p)) = .int (dL C p)) ∧ h.2.2.2.2 = 175 ∧ _ from ⟨⟨.int, rfl, rfl⟩, ex_175 hP, hQ⟩)
theorem d_187_r2 (hP : ex_P h) (hT : tR C h) (hp : p < dP C) (hQ : Q (some (.int (dB C p))) h) : am_call am_cod 1 187 [.ref 154, .int (nI p), .int (Int32.ofInt 2)] h Q := by
  have h6 := hT.1.2.1
  have h5 := hT.2.1.2.1
  refine pz_call (n := 187) (nL := 3) (rt := (some .int)) (rows := am_r187) (d := 0) (by decide +kernel) (by decide +kernel) rfl (by funext pc; rfl) (ex_175 hP) (by exact Nat.le_of_ble_eq_true rfl) ?_
  refine am_goX 2 (show am_sh h 154 = some (11, 0) ∧ pz_S 3 (some .int) am_r187 0 Q 4 [(0, .ref 154), (1, .int (nI p)), (2, .int (Int32.ofInt 2))] [am_rf (h.2.2.1 154 10)] h from ⟨ex_154 hP, ?_⟩)
  rw [show am_rf (h.2.2.1 154 10) = .ref 160 from congrArg am_rf (ex_r154_10 hP)]
  refine am_goX 8 (show ∃ jj nn : Nat, am_sh h 160 = some (13, nn) ∧ jj < nn ∧ ((Int32.ofInt 4) + ((Int32.ofInt 3) * (nI p))) + (Int32.ofInt 2) = nI jj ∧ pz_S 3 (some .int) am_r187 0 Q 12 [(0, .ref 154), (1, .int (nI p)), (2, .int (Int32.ofInt 2))] [.int (h.1 160 jj)] h from ⟨((4 + (3 * p)) + 2), 80, ex_160 hP, (by omega), (dn_a (dn_a rfl (dn_m rfl rfl)) rfl), ?_⟩)
  rw [show h.1 160 ((4 + (3 * p)) + 2) = dB C p from (by rw [show ((4 + (3 * p)) + 2) = 6 + 3 * p by omega]; exact tR_B hT (by omega))]
  exact am_goX 1 (show (∃ ty, (some .int) = some ty ∧ narrow ty (.int (dB C p)) = .int (dB C p)) ∧ h.2.2.2.2 = 175 ∧ _ from ⟨⟨.int, rfl, rfl⟩, ex_175 hP, hQ⟩)
theorem d_184_r0 (hP : ex_P h) (hT : tR C h) (he : e < dE C) (hQ : Q (some (.int (dW C e))) h) : am_call am_cod 1 184 [.ref 154, .int (nI e), .int (Int32.ofInt 0)] h Q := by
  have h6 := hT.1.2.1
  have h5 := hT.2.1.2.1
  refine pz_call (n := 184) (nL := 3) (rt := (some .int)) (rows := am_r184) (d := 0) (by decide +kernel) (by decide +kernel) rfl (by funext pc; rfl) (ex_175 hP) (by exact Nat.le_of_ble_eq_true rfl) ?_
  refine am_goX 2 (show am_sh h 154 = some (11, 0) ∧ pz_S 3 (some .int) am_r184 0 Q 4 [(0, .ref 154), (1, .int (nI e)), (2, .int (Int32.ofInt 0))] [am_rf (h.2.2.1 154 10)] h from ⟨ex_154 hP, ?_⟩)
  rw [show am_rf (h.2.2.1 154 10) = .ref 160 from congrArg am_rf (ex_r154_10 hP)]
  refine am_goX 8 (show ∃ jj nn : Nat, am_sh h 160 = some (13, nn) ∧ jj < nn ∧ (((Int8.ofInt 22).toInt32) + ((Int32.ofInt 2) * (nI e))) + (Int32.ofInt 0) = nI jj ∧ pz_S 3 (some .int) am_r184 0 Q 13 [(0, .ref 154), (1, .int (nI e)), (2, .int (Int32.ofInt 0))] [.int (h.1 160 jj)] h from ⟨((22 + (2 * e)) + 0), 80, ex_160 hP, (by omega), (dn_a (dn_a (show (Int8.ofInt 22).toInt32 = nI 22 by decide) (dn_m rfl rfl)) rfl), ?_⟩)
  rw [show h.1 160 ((22 + (2 * e)) + 0) = dW C e from (by rw [show ((22 + (2 * e)) + 0) = 22 + 2 * e by omega]; exact (hT.2.1.2.2 e (by omega)).1)]
  exact am_goX 1 (show (∃ ty, (some .int) = some ty ∧ narrow ty (.int (dW C e)) = .int (dW C e)) ∧ h.2.2.2.2 = 175 ∧ _ from ⟨⟨.int, rfl, rfl⟩, ex_175 hP, hQ⟩)
theorem d_184_r1 (hP : ex_P h) (hT : tR C h) (he : e < dE C) (hQ : Q (some (.int (dN C e))) h) : am_call am_cod 1 184 [.ref 154, .int (nI e), .int (Int32.ofInt 1)] h Q := by
  have h6 := hT.1.2.1
  have h5 := hT.2.1.2.1
  refine pz_call (n := 184) (nL := 3) (rt := (some .int)) (rows := am_r184) (d := 0) (by decide +kernel) (by decide +kernel) rfl (by funext pc; rfl) (ex_175 hP) (by exact Nat.le_of_ble_eq_true rfl) ?_
  refine am_goX 2 (show am_sh h 154 = some (11, 0) ∧ pz_S 3 (some .int) am_r184 0 Q 4 [(0, .ref 154), (1, .int (nI e)), (2, .int (Int32.ofInt 1))] [am_rf (h.2.2.1 154 10)] h from ⟨ex_154 hP, ?_⟩)
  rw [show am_rf (h.2.2.1 154 10) = .ref 160 from congrArg am_rf (ex_r154_10 hP)]
  refine am_goX 8 (show ∃ jj nn : Nat, am_sh h 160 = some (13, nn) ∧ jj < nn ∧ (((Int8.ofInt 22).toInt32) + ((Int32.ofInt 2) * (nI e))) + (Int32.ofInt 1) = nI jj ∧ pz_S 3 (some .int) am_r184 0 Q 13 [(0, .ref 154), (1, .int (nI e)), (2, .int (Int32.ofInt 1))] [.int (h.1 160 jj)] h from ⟨((22 + (2 * e)) + 1), 80, ex_160 hP, (by omega), (dn_a (dn_a (show (Int8.ofInt 22).toInt32 = nI 22 by decide) (dn_m rfl rfl)) rfl), ?_⟩)
  rw [show h.1 160 ((22 + (2 * e)) + 1) = dN C e from (by rw [show ((22 + (2 * e)) + 1) = 23 + 2 * e by omega]; exact (hT.2.1.2.2 e (by omega)).2)]
  exact am_goX 1 (show (∃ ty, (some .int) = some ty ∧ narrow ty (.int (dN C e)) = .int (dN C e)) ∧ h.2.2.2.2 = 175 ∧ _ from ⟨⟨.int, rfl, rfl⟩, ex_175 hP, hQ⟩)
def d_221 (C : sp_C) (x : Int32) : Int32 := (if x < 0 then Int32.ofInt 0 else (if (nI (dP C)) ≤ x then Int32.ofInt 0 else Int32.ofInt 1))
theorem d_221_r (hP : ex_P h) (hT : tR C h)  (hQ : Q (some (.int (d_221 C x))) h) : am_call am_cod 2 221 [.ref 154, .int x] h Q := by
  have h6 := hT.1.2.1
  have h5 := hT.2.1.2.1
  refine pz_call (n := 221) (nL := 2) (rt := (some .boolean)) (rows := am_r221) (d := 1) (by decide +kernel) (by decide +kernel) rfl (by funext pc; rfl) (ex_175 hP) (by exact Nat.le_of_ble_eq_true rfl) ?_
  suffices key : ∀ (v41 : Int32), v41 = (if x < 0 then Int32.ofInt 0 else (if (nI (dP C)) ≤ x then Int32.ofInt 0 else Int32.ofInt 1)) → pz_S 2 (some .boolean) am_r221 1 Q 17 [] [.int v41] h by
    refine am_goX 2 (show (x < 0 → pz_S 2 (some .boolean) am_r221 1 Q 16 [(0, .ref 154), (1, .int x)] [] h) ∧ (¬ (x < 0) → pz_S 2 (some .boolean) am_r221 1 Q 4 [(0, .ref 154), (1, .int x)] [] h) from ⟨fun c40 => ?_, fun c40 => ?_⟩)
    · refine am_goX 1 (show pz_S 2 (some .boolean) am_r221 1 Q 17 [(0, .ref 154), (1, .int x)] [.int (Int32.ofInt 0)] h from ?_)
      exact sv_S2 sv2_221 (fun q hq => absurd hq List.not_mem_nil) (key _ (if_pos c40).symm)
    · refine am_goX 3 (show am_rc h 154 11 ∧ 1 ≤ 8 ∧ h.2.2.2.2 + am_al 186 ≤ 175 ∧ am_call am_cod 1 186 [.ref 154] h (fun vv h' => pz_S 2 (some .boolean) am_r221 1 Q 9 [(0, .ref 154), (1, .int x)] (vv.toList ++ [.int x]) h') from ⟨Or.inl ⟨by decide, ex_154 hP⟩, by decide, ex_lim hP rfl, am_call.up (d_186_r hP hT ?_) (by decide)⟩)
      suffices key : ∀ (v43 : Int32), v43 = (if (nI (dP C)) ≤ x then Int32.ofInt 0 else Int32.ofInt 1) → pz_S 2 (some .boolean) am_r221 1 Q 17 [] [.int v43] h by
        refine am_goX 1 (show ((nI (dP C)) ≤ x → pz_S 2 (some .boolean) am_r221 1 Q 16 [(0, .ref 154), (1, .int x)] [] h) ∧ (¬ ((nI (dP C)) ≤ x) → pz_S 2 (some .boolean) am_r221 1 Q 12 [(0, .ref 154), (1, .int x)] [] h) from ⟨fun c42 => ?_, fun c42 => ?_⟩)
        · refine am_goX 1 (show pz_S 2 (some .boolean) am_r221 1 Q 17 [(0, .ref 154), (1, .int x)] [.int (Int32.ofInt 0)] h from ?_)
          exact sv_S2 sv2_221 (fun q hq => absurd hq List.not_mem_nil) (key _ (if_pos c42).symm)
        · refine am_goX 2 (show pz_S 2 (some .boolean) am_r221 1 Q 17 [(0, .ref 154), (1, .int x)] [.int (Int32.ofInt 1)] h from ?_)
          exact sv_S2 sv2_221 (fun q hq => absurd hq List.not_mem_nil) (key _ (if_neg c42).symm)
      intro v43 e44
      subst e44
      exact sv_S2 sv2_221 (fun q hq => absurd hq List.not_mem_nil) (key _ (if_neg c40).symm)
  intro v41 e45
  subst e45
  exact am_goX 1 (show (∃ ty, (some .boolean) = some ty ∧ narrow ty (.int (if x < 0 then Int32.ofInt 0 else (if (nI (dP C)) ≤ x then Int32.ofInt 0 else Int32.ofInt 1))) = .int (if x < 0 then Int32.ofInt 0 else (if (nI (dP C)) ≤ x then Int32.ofInt 0 else Int32.ofInt 1))) ∧ h.2.2.2.2 = 175 ∧ _ from ⟨⟨.boolean, rfl, (by (repeat' split) <;> rfl)⟩, ex_175 hP, hQ⟩)
theorem d_221_e (x : Int32) : d_221 C x = d_87 C x := by
  unfold d_221 d_87
  rfl
def d_284 (C : sp_C) (p q : Nat) : Int32 := (dB C p) &&& (dB C q)
theorem d_284_r (hP : ex_P h) (hT : tR C h) (hp : p < dP C) (hq : q < dP C) (hQ : ∀ g, Q (some (.int (d_284 C p q))) g) : am_call am_cod 3 284 [.ref 154, .int (nI p), .int (nI q)] h Q := by
  have h6 := hT.1.2.1
  have h5 := hT.2.1.2.1
  refine pz_call (n := 284) (nL := 3) (rt := (some .int)) (rows := am_r284) (d := 2) (by decide +kernel) (by decide +kernel) rfl (by funext pc; rfl) (ex_175 hP) (by exact Nat.le_of_ble_eq_true rfl) ?_
  refine am_goX 3 (show am_sh h 154 = some (11, 0) ∧ narrow (am_fty 11 0) (.int (Int32.ofInt 0)) = .int (Int32.ofInt 0) ∧ fits (am_fty 11 0) (.int (Int32.ofInt 0)) = true ∧ pz_S 3 (some .int) am_r284 2 Q 5 [(0, .ref 154), (1, .int (nI p)), (2, .int (nI q))] [] (am_wI h 154 0 (Int32.ofInt 0)) from ⟨ex_154 hP, rfl, rfl, ?_⟩)
  have f47 : ex_P (am_wI h 154 0 (Int32.ofInt 0)) := hP
  have f48 : tR C (am_wI h 154 0 (Int32.ofInt 0)) := tR_w (by omega) hT
  generalize am_wI h 154 0 (Int32.ofInt 0) = h46 at f47 f48 ⊢
  refine am_goX 3 (show am_rc h46 154 11 ∧ 0 ≤ 8 ∧ h46.2.2.2.2 + am_al 221 ≤ 175 ∧ am_call am_cod 2 221 [.ref 154, .int (nI p)] h46 (fun vv h' => pz_S 3 (some .int) am_r284 2 Q 10 [(0, .ref 154), (1, .int (nI p)), (2, .int (nI q))] (vv.toList ++ []) h') from ⟨Or.inl ⟨by decide, ex_154 f47⟩, by decide, ex_lim f47 rfl, am_call.up (d_221_r f47 f48 ?_) (by decide)⟩)
  rw [show d_221 C (nI p) = Int32.ofInt 1 from ((d_221_e _).trans (v_87 hp))]
  refine am_goX 1 (show ((Int32.ofInt 1) = 0 → pz_S 3 (some .int) am_r284 2 Q 37 [(0, .ref 154), (1, .int (nI p)), (2, .int (nI q))] [] h46) ∧ (¬ ((Int32.ofInt 1) = 0) → pz_S 3 (some .int) am_r284 2 Q 13 [(0, .ref 154), (1, .int (nI p)), (2, .int (nI q))] [] h46) from ⟨fun hz => absurd hz (by decide), fun _ => ?_⟩)
  refine am_goX 3 (show am_rc h46 154 11 ∧ 0 ≤ 8 ∧ h46.2.2.2.2 + am_al 221 ≤ 175 ∧ am_call am_cod 2 221 [.ref 154, .int (nI q)] h46 (fun vv h' => pz_S 3 (some .int) am_r284 2 Q 18 [(0, .ref 154), (1, .int (nI p)), (2, .int (nI q))] (vv.toList ++ []) h') from ⟨Or.inl ⟨by decide, ex_154 f47⟩, by decide, ex_lim f47 rfl, am_call.up (d_221_r f47 f48 ?_) (by decide)⟩)
  rw [show d_221 C (nI q) = Int32.ofInt 1 from ((d_221_e _).trans (v_87 hq))]
  refine am_goX 1 (show ((Int32.ofInt 1) = 0 → pz_S 3 (some .int) am_r284 2 Q 37 [(0, .ref 154), (1, .int (nI p)), (2, .int (nI q))] [] h46) ∧ (¬ ((Int32.ofInt 1) = 0) → pz_S 3 (some .int) am_r284 2 Q 21 [(0, .ref 154), (1, .int (nI p)), (2, .int (nI q))] [] h46) from ⟨fun hz => absurd hz (by decide), fun _ => ?_⟩)
  refine am_goX 4 (show am_rc h46 154 11 ∧ 0 ≤ 8 ∧ h46.2.2.2.2 + am_al 187 ≤ 175 ∧ am_call am_cod 2 187 [.ref 154, .int (nI p), .int (Int32.ofInt 2)] h46 (fun vv h' => pz_S 3 (some .int) am_r284 2 Q 27 [(0, .ref 154), (1, .int (nI p)), (2, .int (nI q))] (vv.toList ++ []) h') from ⟨Or.inl ⟨by decide, ex_154 f47⟩, by decide, ex_lim f47 rfl, am_call.up (d_187_r2 f47 f48 (by omega) ?_) (by decide)⟩)
  refine am_goX 4 (show am_rc h46 154 11 ∧ 1 ≤ 8 ∧ h46.2.2.2.2 + am_al 187 ≤ 175 ∧ am_call am_cod 2 187 [.ref 154, .int (nI q), .int (Int32.ofInt 2)] h46 (fun vv h' => pz_S 3 (some .int) am_r284 2 Q 33 [(0, .ref 154), (1, .int (nI p)), (2, .int (nI q))] (vv.toList ++ [.int (dB C p)]) h') from ⟨Or.inl ⟨by decide, ex_154 f47⟩, by decide, ex_lim f47 rfl, am_call.up (d_187_r2 f47 f48 (by omega) ?_) (by decide)⟩)
  exact am_goX 3 (show (∃ ty, (some .int) = some ty ∧ narrow ty (.int ((dB C p) &&& (dB C q))) = .int ((dB C p) &&& (dB C q))) ∧ h46.2.2.2.2 = 175 ∧ _ from ⟨⟨.int, rfl, rfl⟩, ex_175 f47, hQ _⟩)
def d_284x  : Int32 := Int32.ofInt (-1)
theorem d_284_rx (hP : ex_P h) (hT : tR C h) (ex : d_87 C x = Int32.ofInt 0) (hQ : ∀ g, Q (some (.int d_284x)) g) : am_call am_cod 3 284 [.ref 154, .int x, .int y] h Q := by
  have h6 := hT.1.2.1
  have h5 := hT.2.1.2.1
  refine pz_call (n := 284) (nL := 3) (rt := (some .int)) (rows := am_r284) (d := 2) (by decide +kernel) (by decide +kernel) rfl (by funext pc; rfl) (ex_175 hP) (by exact Nat.le_of_ble_eq_true rfl) ?_
  refine am_goX 3 (show am_sh h 154 = some (11, 0) ∧ narrow (am_fty 11 0) (.int (Int32.ofInt 0)) = .int (Int32.ofInt 0) ∧ fits (am_fty 11 0) (.int (Int32.ofInt 0)) = true ∧ pz_S 3 (some .int) am_r284 2 Q 5 [(0, .ref 154), (1, .int x), (2, .int y)] [] (am_wI h 154 0 (Int32.ofInt 0)) from ⟨ex_154 hP, rfl, rfl, ?_⟩)
  have f50 : ex_P (am_wI h 154 0 (Int32.ofInt 0)) := hP
  have f51 : tR C (am_wI h 154 0 (Int32.ofInt 0)) := tR_w (by omega) hT
  generalize am_wI h 154 0 (Int32.ofInt 0) = h49 at f50 f51 ⊢
  refine am_goX 3 (show am_rc h49 154 11 ∧ 0 ≤ 8 ∧ h49.2.2.2.2 + am_al 221 ≤ 175 ∧ am_call am_cod 2 221 [.ref 154, .int x] h49 (fun vv h' => pz_S 3 (some .int) am_r284 2 Q 10 [(0, .ref 154), (1, .int x), (2, .int y)] (vv.toList ++ []) h') from ⟨Or.inl ⟨by decide, ex_154 f50⟩, by decide, ex_lim f50 rfl, am_call.up (d_221_r f50 f51 ?_) (by decide)⟩)
  rw [show d_221 C x = Int32.ofInt 0 from ((d_221_e _).trans ex)]
  refine am_goX 1 (show ((Int32.ofInt 0) = 0 → pz_S 3 (some .int) am_r284 2 Q 37 [(0, .ref 154), (1, .int x), (2, .int y)] [] h49) ∧ (¬ ((Int32.ofInt 0) = 0) → pz_S 3 (some .int) am_r284 2 Q 13 [(0, .ref 154), (1, .int x), (2, .int y)] [] h49) from ⟨fun _ => ?_, fun hz => absurd (by decide) hz⟩)
  exact am_goX 2 (show (∃ ty, (some .int) = some ty ∧ narrow ty (.int (Int32.ofInt (-1))) = .int (Int32.ofInt (-1))) ∧ h49.2.2.2.2 = 175 ∧ _ from ⟨⟨.int, rfl, rfl⟩, ex_175 f50, hQ _⟩)
theorem d_284_ry (hP : ex_P h) (hT : tR C h) (hp : p < dP C) (ey : d_87 C y = Int32.ofInt 0) (hQ : ∀ g, Q (some (.int d_284x)) g) : am_call am_cod 3 284 [.ref 154, .int (nI p), .int y] h Q := by
  have h6 := hT.1.2.1
  have h5 := hT.2.1.2.1
  refine pz_call (n := 284) (nL := 3) (rt := (some .int)) (rows := am_r284) (d := 2) (by decide +kernel) (by decide +kernel) rfl (by funext pc; rfl) (ex_175 hP) (by exact Nat.le_of_ble_eq_true rfl) ?_
  refine am_goX 3 (show am_sh h 154 = some (11, 0) ∧ narrow (am_fty 11 0) (.int (Int32.ofInt 0)) = .int (Int32.ofInt 0) ∧ fits (am_fty 11 0) (.int (Int32.ofInt 0)) = true ∧ pz_S 3 (some .int) am_r284 2 Q 5 [(0, .ref 154), (1, .int (nI p)), (2, .int y)] [] (am_wI h 154 0 (Int32.ofInt 0)) from ⟨ex_154 hP, rfl, rfl, ?_⟩)
  have f53 : ex_P (am_wI h 154 0 (Int32.ofInt 0)) := hP
  have f54 : tR C (am_wI h 154 0 (Int32.ofInt 0)) := tR_w (by omega) hT
  generalize am_wI h 154 0 (Int32.ofInt 0) = h52 at f53 f54 ⊢
  refine am_goX 3 (show am_rc h52 154 11 ∧ 0 ≤ 8 ∧ h52.2.2.2.2 + am_al 221 ≤ 175 ∧ am_call am_cod 2 221 [.ref 154, .int (nI p)] h52 (fun vv h' => pz_S 3 (some .int) am_r284 2 Q 10 [(0, .ref 154), (1, .int (nI p)), (2, .int y)] (vv.toList ++ []) h') from ⟨Or.inl ⟨by decide, ex_154 f53⟩, by decide, ex_lim f53 rfl, am_call.up (d_221_r f53 f54 ?_) (by decide)⟩)
  rw [show d_221 C (nI p) = Int32.ofInt 1 from ((d_221_e _).trans (v_87 hp))]
  refine am_goX 1 (show ((Int32.ofInt 1) = 0 → pz_S 3 (some .int) am_r284 2 Q 37 [(0, .ref 154), (1, .int (nI p)), (2, .int y)] [] h52) ∧ (¬ ((Int32.ofInt 1) = 0) → pz_S 3 (some .int) am_r284 2 Q 13 [(0, .ref 154), (1, .int (nI p)), (2, .int y)] [] h52) from ⟨fun hz => absurd hz (by decide), fun _ => ?_⟩)
  refine am_goX 3 (show am_rc h52 154 11 ∧ 0 ≤ 8 ∧ h52.2.2.2.2 + am_al 221 ≤ 175 ∧ am_call am_cod 2 221 [.ref 154, .int y] h52 (fun vv h' => pz_S 3 (some .int) am_r284 2 Q 18 [(0, .ref 154), (1, .int (nI p)), (2, .int y)] (vv.toList ++ []) h') from ⟨Or.inl ⟨by decide, ex_154 f53⟩, by decide, ex_lim f53 rfl, am_call.up (d_221_r f53 f54 ?_) (by decide)⟩)
  rw [show d_221 C y = Int32.ofInt 0 from ((d_221_e _).trans ey)]
  refine am_goX 1 (show ((Int32.ofInt 0) = 0 → pz_S 3 (some .int) am_r284 2 Q 37 [(0, .ref 154), (1, .int (nI p)), (2, .int y)] [] h52) ∧ (¬ ((Int32.ofInt 0) = 0) → pz_S 3 (some .int) am_r284 2 Q 21 [(0, .ref 154), (1, .int (nI p)), (2, .int y)] [] h52) from ⟨fun _ => ?_, fun hz => absurd (by decide) hz⟩)
  exact am_goX 2 (show (∃ ty, (some .int) = some ty ∧ narrow ty (.int (Int32.ofInt (-1))) = .int (Int32.ofInt (-1))) ∧ h52.2.2.2.2 = 175 ∧ _ from ⟨⟨.int, rfl, rfl⟩, ex_175 f53, hQ _⟩)
def d_235_4 (x : Int32) : Nat → Nat → Int32 → Int32
  | 0, _, a1 => a1
  | m + 1, k, a1 => d_235_4 x m (k + 1) (a1 + ((x >>> ((nI k) &&& 31)) &&& (Int32.ofInt 1)))
theorem d_235_4_w (hP : ex_P h) : ∀ (m k : Nat) (a1 : Int32), k + m = 30 → (pz_S 3 (some .int) am_r235 0 Q 24 [(1, .int (d_235_4 x m k a1))] [] h) → pz_S 3 (some .int) am_r235 0 Q 4 [(0, .int x), (1, .int a1), (2, .int (nI k))] [] h := by
  intro m
  induction m with
  | zero =>
    intro k a1 hk hZ
    refine am_goX 3 (show (((Int8.ofInt 30).toInt32) ≤ (nI k) → pz_S 3 (some .int) am_r235 0 Q 24 [(0, .int x), (1, .int a1), (2, .int (nI k))] [] h) ∧ (¬ (((Int8.ofInt 30).toInt32) ≤ (nI k)) → pz_S 3 (some .int) am_r235 0 Q 10 [(0, .int x), (1, .int a1), (2, .int (nI k))] [] h) from ⟨fun _ => ?_, fun hz => absurd (show nI 30 ≤ nI k from nI_le (by omega) (by omega)) hz⟩)
    exact sv_S2 sv2_235 (by intro q hq; simp only [List.mem_cons, List.not_mem_nil, or_false] at hq; rcases hq with rfl <;> rfl) (hZ)
  | succ m ih =>
    intro k a1 hk hZ
    refine am_goX 3 (show (((Int8.ofInt 30).toInt32) ≤ (nI k) → pz_S 3 (some .int) am_r235 0 Q 24 [(0, .int x), (1, .int a1), (2, .int (nI k))] [] h) ∧ (¬ (((Int8.ofInt 30).toInt32) ≤ (nI k)) → pz_S 3 (some .int) am_r235 0 Q 10 [(0, .int x), (1, .int a1), (2, .int (nI k))] [] h) from ⟨fun hz => absurd hz (show ¬ (nI 30 ≤ nI k) by rw [nI_leI (by omega) (by omega)]; omega), fun _ => ?_⟩)
    refine am_goX 10 (show 1 < 3 ∧ 2 < 3 ∧ pz_S 3 (some .int) am_r235 0 Q 4 [(2, .int ((nI k) + (Int32.ofInt 1))), (1, .int (a1 + ((x >>> ((nI k) &&& 31)) &&& (Int32.ofInt 1)))), (0, .int x)] [] h from ⟨by decide, by decide, ?_⟩)
    rw [show (nI k) + (Int32.ofInt 1) = nI (k + 1) from (dn_a rfl rfl)]
    exact sv_S2 sv2_235 (by intro q hq; simp only [List.mem_cons, List.not_mem_nil, or_false] at hq; rcases hq with rfl | rfl | rfl <;> rfl) (ih (k + 1) (a1 + ((x >>> ((nI k) &&& 31)) &&& (Int32.ofInt 1))) (by omega) hZ)
def d_235 (x : Int32) : Int32 := d_235_4 x 30 0 (Int32.ofInt 0)
theorem d_235_w (hP : ex_P h)  (hQ : Q (some (.int (d_235 x))) h) : am_call am_cod 1 235 [.int x] h Q := by
  refine pz_call (n := 235) (nL := 3) (rt := (some .int)) (rows := am_r235) (d := 0) (by decide +kernel) (by decide +kernel) rfl (by funext pc; rfl) (ex_175 hP) (by exact Nat.le_of_ble_eq_true rfl) ?_
  refine am_goX 4 (show 1 < 3 ∧ 2 < 3 ∧ pz_S 3 (some .int) am_r235 0 Q 4 [(2, .int (Int32.ofInt 0)), (1, .int (Int32.ofInt 0)), (0, .int x)] [] h from ⟨by decide, by decide, ?_⟩)
  refine sv_S2 sv2_235 (by intro q hq; simp only [List.mem_cons, List.not_mem_nil, or_false] at hq; rcases hq with rfl | rfl | rfl <;> rfl) (d_235_4_w hP 30 0 (Int32.ofInt 0) (by omega) ?_)
  exact am_goX 2 (show (∃ ty, (some .int) = some ty ∧ narrow ty (.int (d_235_4 x 30 0 (Int32.ofInt 0))) = .int (d_235_4 x 30 0 (Int32.ofInt 0))) ∧ h.2.2.2.2 = 175 ∧ _ from ⟨⟨.int, rfl, rfl⟩, ex_175 hP, hQ⟩)
def d_283_24 (C : sp_C) (n2 : Nat) : Nat → Nat → Int32 → Int32
  | 0, _, a3 => a3
  | m + 1, k, a3 => d_283_24 C n2 m (k + 1) (if a3 = 0 then Int32.ofInt 0 else (if (dB C k) = 0 then Int32.ofInt 1 else (if ((dB C k) &&& (nI n2)) = 0 then Int32.ofInt 0 else Int32.ofInt 1)))
theorem d_283_24_r (x1 : Int32) (n2 : Nat) (hP : ex_P h) (hT : tR C h) : ∀ (m k : Nat) (a3 : Int32), k + m = dP C → (pz_S 5 (some .int) am_r283 3 Q 71 [(0, .ref 154), (1, .int x1), (2, .int (nI n2)), (3, .int (d_283_24 C n2 m k a3))] [] h) → pz_S 5 (some .int) am_r283 3 Q 24 [(0, .ref 154), (1, .int x1), (2, .int (nI n2)), (3, .int a3), (4, .int (nI k))] [] h := by
  intro m
  induction m with
  | zero =>
    intro k a3 hk hZ
    have h6 := hT.1.2.1
    have h5 := hT.2.1.2.1
    refine am_goX 3 (show am_rc h 154 11 ∧ 1 ≤ 8 ∧ h.2.2.2.2 + am_al 186 ≤ 175 ∧ am_call am_cod 3 186 [.ref 154] h (fun vv h' => pz_S 5 (some .int) am_r283 3 Q 30 [(0, .ref 154), (1, .int x1), (2, .int (nI n2)), (3, .int a3), (4, .int (nI k))] (vv.toList ++ [.int (nI k)]) h') from ⟨Or.inl ⟨by decide, ex_154 hP⟩, by decide, ex_lim hP rfl, am_call.up (d_186_r hP hT ?_) (by decide)⟩)
    refine am_goX 1 (show ((nI (dP C)) ≤ (nI k) → pz_S 5 (some .int) am_r283 3 Q 71 [(0, .ref 154), (1, .int x1), (2, .int (nI n2)), (3, .int a3), (4, .int (nI k))] [] h) ∧ (¬ ((nI (dP C)) ≤ (nI k)) → pz_S 5 (some .int) am_r283 3 Q 33 [(0, .ref 154), (1, .int x1), (2, .int (nI n2)), (3, .int a3), (4, .int (nI k))] [] h) from ⟨fun _ => ?_, fun hz => absurd (show nI (dP C) ≤ nI k from nI_le (by omega) (by omega)) hz⟩)
    exact sv_S2 sv2_283 (by intro q hq; simp only [List.mem_cons, List.not_mem_nil, or_false] at hq; rcases hq with rfl | rfl | rfl | rfl <;> rfl) (hZ)
  | succ m ih =>
    intro k a3 hk hZ
    have h6 := hT.1.2.1
    have h5 := hT.2.1.2.1
    refine am_goX 3 (show am_rc h 154 11 ∧ 1 ≤ 8 ∧ h.2.2.2.2 + am_al 186 ≤ 175 ∧ am_call am_cod 3 186 [.ref 154] h (fun vv h' => pz_S 5 (some .int) am_r283 3 Q 30 [(0, .ref 154), (1, .int x1), (2, .int (nI n2)), (3, .int a3), (4, .int (nI k))] (vv.toList ++ [.int (nI k)]) h') from ⟨Or.inl ⟨by decide, ex_154 hP⟩, by decide, ex_lim hP rfl, am_call.up (d_186_r hP hT ?_) (by decide)⟩)
    refine am_goX 1 (show ((nI (dP C)) ≤ (nI k) → pz_S 5 (some .int) am_r283 3 Q 71 [(0, .ref 154), (1, .int x1), (2, .int (nI n2)), (3, .int a3), (4, .int (nI k))] [] h) ∧ (¬ ((nI (dP C)) ≤ (nI k)) → pz_S 5 (some .int) am_r283 3 Q 33 [(0, .ref 154), (1, .int x1), (2, .int (nI n2)), (3, .int a3), (4, .int (nI k))] [] h) from ⟨fun hz => absurd hz (show ¬ (nI (dP C) ≤ nI k) by rw [nI_leI (by omega) (by omega)]; omega), fun _ => ?_⟩)
    suffices key : ∀ (v59 : Int32), v59 = (if a3 = 0 then Int32.ofInt 0 else (if (dB C k) = 0 then Int32.ofInt 1 else (if ((dB C k) &&& (nI n2)) = 0 then Int32.ofInt 0 else Int32.ofInt 1))) → pz_S 5 (some .int) am_r283 3 Q 64 [(0, .ref 154), (1, .int x1), (2, .int (nI n2)), (4, .int (nI k))] [.int v59] h by
      refine am_goX 2 (show (a3 = 0 → pz_S 5 (some .int) am_r283 3 Q 63 [(0, .ref 154), (1, .int x1), (2, .int (nI n2)), (3, .int a3), (4, .int (nI k))] [] h) ∧ (¬ (a3 = 0) → pz_S 5 (some .int) am_r283 3 Q 37 [(0, .ref 154), (1, .int x1), (2, .int (nI n2)), (3, .int a3), (4, .int (nI k))] [] h) from ⟨fun c58 => ?_, fun c58 => ?_⟩)
      · refine am_goX 1 (show pz_S 5 (some .int) am_r283 3 Q 64 [(0, .ref 154), (1, .int x1), (2, .int (nI n2)), (3, .int a3), (4, .int (nI k))] [.int (Int32.ofInt 0)] h from ?_)
        exact sv_S2 sv2_283 (by intro q hq; simp only [List.mem_cons, List.not_mem_nil, or_false] at hq; rcases hq with rfl | rfl | rfl | rfl <;> rfl) (key _ (if_pos c58).symm)
      · refine am_goX 4 (show am_rc h 154 11 ∧ 0 ≤ 8 ∧ h.2.2.2.2 + am_al 187 ≤ 175 ∧ am_call am_cod 3 187 [.ref 154, .int (nI k), .int (Int32.ofInt 2)] h (fun vv h' => pz_S 5 (some .int) am_r283 3 Q 44 [(0, .ref 154), (1, .int x1), (2, .int (nI n2)), (3, .int a3), (4, .int (nI k))] (vv.toList ++ []) h') from ⟨Or.inl ⟨by decide, ex_154 hP⟩, by decide, ex_lim hP rfl, am_call.up (d_187_r2 hP hT (by omega) ?_) (by decide)⟩)
        suffices key : ∀ (v61 : Int32), v61 = (if (dB C k) = 0 then Int32.ofInt 1 else (if ((dB C k) &&& (nI n2)) = 0 then Int32.ofInt 0 else Int32.ofInt 1)) → pz_S 5 (some .int) am_r283 3 Q 64 [(0, .ref 154), (1, .int x1), (2, .int (nI n2)), (4, .int (nI k))] [.int v61] h by
          refine am_goX 1 (show ((dB C k) = 0 → pz_S 5 (some .int) am_r283 3 Q 59 [(0, .ref 154), (1, .int x1), (2, .int (nI n2)), (3, .int a3), (4, .int (nI k))] [] h) ∧ (¬ ((dB C k) = 0) → pz_S 5 (some .int) am_r283 3 Q 47 [(0, .ref 154), (1, .int x1), (2, .int (nI n2)), (3, .int a3), (4, .int (nI k))] [] h) from ⟨fun c60 => ?_, fun c60 => ?_⟩)
          · refine am_goX 2 (show pz_S 5 (some .int) am_r283 3 Q 64 [(0, .ref 154), (1, .int x1), (2, .int (nI n2)), (3, .int a3), (4, .int (nI k))] [.int (Int32.ofInt 1)] h from ?_)
            exact sv_S2 sv2_283 (by intro q hq; simp only [List.mem_cons, List.not_mem_nil, or_false] at hq; rcases hq with rfl | rfl | rfl | rfl <;> rfl) (key _ (if_pos c60).symm)
          · refine am_goX 4 (show am_rc h 154 11 ∧ 0 ≤ 8 ∧ h.2.2.2.2 + am_al 187 ≤ 175 ∧ am_call am_cod 3 187 [.ref 154, .int (nI k), .int (Int32.ofInt 2)] h (fun vv h' => pz_S 5 (some .int) am_r283 3 Q 54 [(0, .ref 154), (1, .int x1), (2, .int (nI n2)), (3, .int a3), (4, .int (nI k))] (vv.toList ++ []) h') from ⟨Or.inl ⟨by decide, ex_154 hP⟩, by decide, ex_lim hP rfl, am_call.up (d_187_r2 hP hT (by omega) ?_) (by decide)⟩)
            suffices key : ∀ (v63 : Int32), v63 = (if ((dB C k) &&& (nI n2)) = 0 then Int32.ofInt 0 else Int32.ofInt 1) → pz_S 5 (some .int) am_r283 3 Q 64 [(0, .ref 154), (1, .int x1), (2, .int (nI n2)), (4, .int (nI k))] [.int v63] h by
              refine am_goX 3 (show (((dB C k) &&& (nI n2)) = 0 → pz_S 5 (some .int) am_r283 3 Q 63 [(0, .ref 154), (1, .int x1), (2, .int (nI n2)), (3, .int a3), (4, .int (nI k))] [] h) ∧ (¬ (((dB C k) &&& (nI n2)) = 0) → pz_S 5 (some .int) am_r283 3 Q 59 [(0, .ref 154), (1, .int x1), (2, .int (nI n2)), (3, .int a3), (4, .int (nI k))] [] h) from ⟨fun c62 => ?_, fun c62 => ?_⟩)
              · refine am_goX 1 (show pz_S 5 (some .int) am_r283 3 Q 64 [(0, .ref 154), (1, .int x1), (2, .int (nI n2)), (3, .int a3), (4, .int (nI k))] [.int (Int32.ofInt 0)] h from ?_)
                exact sv_S2 sv2_283 (by intro q hq; simp only [List.mem_cons, List.not_mem_nil, or_false] at hq; rcases hq with rfl | rfl | rfl | rfl <;> rfl) (key _ (if_pos c62).symm)
              · refine am_goX 2 (show pz_S 5 (some .int) am_r283 3 Q 64 [(0, .ref 154), (1, .int x1), (2, .int (nI n2)), (3, .int a3), (4, .int (nI k))] [.int (Int32.ofInt 1)] h from ?_)
                exact sv_S2 sv2_283 (by intro q hq; simp only [List.mem_cons, List.not_mem_nil, or_false] at hq; rcases hq with rfl | rfl | rfl | rfl <;> rfl) (key _ (if_neg c62).symm)
            intro v63 e64
            subst e64
            exact sv_S2 sv2_283 (by intro q hq; simp only [List.mem_cons, List.not_mem_nil, or_false] at hq; rcases hq with rfl | rfl | rfl | rfl <;> rfl) (key _ (if_neg c60).symm)
        intro v61 e65
        subst e65
        exact sv_S2 sv2_283 (by intro q hq; simp only [List.mem_cons, List.not_mem_nil, or_false] at hq; rcases hq with rfl | rfl | rfl | rfl <;> rfl) (key _ (if_neg c58).symm)
    intro v59 e66
    subst e66
    refine am_goX 3 (show 3 < 5 ∧ 4 < 5 ∧ pz_S 5 (some .int) am_r283 3 Q 24 [(4, .int ((nI k) + (Int32.ofInt 1))), (3, .int (if a3 = 0 then Int32.ofInt 0 else (if (dB C k) = 0 then Int32.ofInt 1 else (if ((dB C k) &&& (nI n2)) = 0 then Int32.ofInt 0 else Int32.ofInt 1)))), (0, .ref 154), (1, .int x1), (2, .int (nI n2))] [] h from ⟨by decide, by decide, ?_⟩)
    rw [show (nI k) + (Int32.ofInt 1) = nI (k + 1) from (dn_a rfl rfl)]
    exact sv_S2 sv2_283 (by intro q hq; simp only [List.mem_cons, List.not_mem_nil, or_false] at hq; rcases hq with rfl | rfl | rfl | rfl | rfl <;> rfl) (ih (k + 1) (if a3 = 0 then Int32.ofInt 0 else (if (dB C k) = 0 then Int32.ofInt 1 else (if ((dB C k) &&& (nI n2)) = 0 then Int32.ofInt 0 else Int32.ofInt 1))) (by omega) hZ)
def d_283_9 (C : sp_C) : Nat → Nat → Int32 → Int32
  | 0, _, a1 => a1
  | m + 1, k, a1 => d_283_9 C m (k + 1) (if (d_283_24 C k (dP C) 0 (Int32.ofInt 1)) = 0 then a1 else (if a1 < 0 then nI k else (if (d_235 a1) ≤ (d_235 (nI k)) then a1 else nI k)))
theorem d_283_9_r (hP : ex_P h) (hT : tR C h) : ∀ (m k : Nat) (a1 : Int32), k + m = (dV C + 1) → (pz_S 5 (some .int) am_r283 3 Q 102 [(1, .int (d_283_9 C m k a1))] [] h) → pz_S 5 (some .int) am_r283 3 Q 9 [(0, .ref 154), (1, .int a1), (2, .int (nI k))] [] h := by
  intro m
  induction m with
  | zero =>
    intro k a1 hk hZ
    have h6 := hT.1.2.1
    have h5 := hT.2.1.2.1
    have h31 := dV_31 h5
    refine am_goX 4 (show am_rc h 154 11 ∧ 2 ≤ 8 ∧ h.2.2.2.2 + am_al 183 ≤ 175 ∧ am_call am_cod 3 183 [.ref 154] h (fun vv h' => pz_S 5 (some .int) am_r283 3 Q 15 [(0, .ref 154), (1, .int a1), (2, .int (nI k))] (vv.toList ++ [.int (Int32.ofInt 1), .int (nI k)]) h') from ⟨Or.inl ⟨by decide, ex_154 hP⟩, by decide, ex_lim hP rfl, am_call.up (d_183_r hP hT ?_) (by decide)⟩)
    refine am_goX 1 (show pz_S 5 (some .int) am_r283 3 Q 16 [(0, .ref 154), (1, .int a1), (2, .int (nI k))] [.int ((Int32.ofInt 1) <<< ((nI (dE C)) &&& 31)), .int (nI k)] h from ?_)
    rw [show (Int32.ofInt 1) <<< ((nI (dE C)) &&& 31) = nI (dV C + 1) from (dV_31 h5).2.1]
    refine am_goX 1 (show ((nI (dV C + 1)) ≤ (nI k) → pz_S 5 (some .int) am_r283 3 Q 102 [(0, .ref 154), (1, .int a1), (2, .int (nI k))] [] h) ∧ (¬ ((nI (dV C + 1)) ≤ (nI k)) → pz_S 5 (some .int) am_r283 3 Q 19 [(0, .ref 154), (1, .int a1), (2, .int (nI k))] [] h) from ⟨fun _ => ?_, fun hz => absurd (show nI (dV C + 1) ≤ nI k from nI_le (by omega) (by omega)) hz⟩)
    exact sv_S2 sv2_283 (by intro q hq; simp only [List.mem_cons, List.not_mem_nil, or_false] at hq; rcases hq with rfl <;> rfl) (hZ)
  | succ m ih =>
    intro k a1 hk hZ
    have h6 := hT.1.2.1
    have h5 := hT.2.1.2.1
    have h31 := dV_31 h5
    refine am_goX 4 (show am_rc h 154 11 ∧ 2 ≤ 8 ∧ h.2.2.2.2 + am_al 183 ≤ 175 ∧ am_call am_cod 3 183 [.ref 154] h (fun vv h' => pz_S 5 (some .int) am_r283 3 Q 15 [(0, .ref 154), (1, .int a1), (2, .int (nI k))] (vv.toList ++ [.int (Int32.ofInt 1), .int (nI k)]) h') from ⟨Or.inl ⟨by decide, ex_154 hP⟩, by decide, ex_lim hP rfl, am_call.up (d_183_r hP hT ?_) (by decide)⟩)
    refine am_goX 1 (show pz_S 5 (some .int) am_r283 3 Q 16 [(0, .ref 154), (1, .int a1), (2, .int (nI k))] [.int ((Int32.ofInt 1) <<< ((nI (dE C)) &&& 31)), .int (nI k)] h from ?_)
    rw [show (Int32.ofInt 1) <<< ((nI (dE C)) &&& 31) = nI (dV C + 1) from (dV_31 h5).2.1]
    refine am_goX 1 (show ((nI (dV C + 1)) ≤ (nI k) → pz_S 5 (some .int) am_r283 3 Q 102 [(0, .ref 154), (1, .int a1), (2, .int (nI k))] [] h) ∧ (¬ ((nI (dV C + 1)) ≤ (nI k)) → pz_S 5 (some .int) am_r283 3 Q 19 [(0, .ref 154), (1, .int a1), (2, .int (nI k))] [] h) from ⟨fun hz => absurd hz (show ¬ (nI (dV C + 1) ≤ nI k) by rw [nI_leI (by omega) (by omega)]; omega), fun _ => ?_⟩)
    refine am_goX 4 (show 3 < 5 ∧ 4 < 5 ∧ pz_S 5 (some .int) am_r283 3 Q 24 [(4, .int (Int32.ofInt 0)), (3, .int (Int32.ofInt 1)), (0, .ref 154), (1, .int a1), (2, .int (nI k))] [] h from ⟨by decide, by decide, ?_⟩)
    refine sv_S2 sv2_283 (by intro q hq; simp only [List.mem_cons, List.not_mem_nil, or_false] at hq; rcases hq with rfl | rfl | rfl | rfl | rfl <;> rfl) (d_283_24_r a1 k hP hT (dP C) 0 (Int32.ofInt 1) (by omega) ?_)
    suffices key : ∀ (v59 : Int32), v59 = (if (d_283_24 C k (dP C) 0 (Int32.ofInt 1)) = 0 then a1 else (if a1 < 0 then nI k else (if (d_235 a1) ≤ (d_235 (nI k)) then a1 else nI k))) → pz_S 5 (some .int) am_r283 3 Q 95 [(0, .ref 154), (2, .int (nI k))] [.int v59] h by
      refine am_goX 2 (show ((d_283_24 C k (dP C) 0 (Int32.ofInt 1)) = 0 → pz_S 5 (some .int) am_r283 3 Q 94 [(0, .ref 154), (1, .int a1), (2, .int (nI k)), (3, .int (d_283_24 C k (dP C) 0 (Int32.ofInt 1)))] [] h) ∧ (¬ ((d_283_24 C k (dP C) 0 (Int32.ofInt 1)) = 0) → pz_S 5 (some .int) am_r283 3 Q 75 [(0, .ref 154), (1, .int a1), (2, .int (nI k)), (3, .int (d_283_24 C k (dP C) 0 (Int32.ofInt 1)))] [] h) from ⟨fun c58 => ?_, fun c58 => ?_⟩)
      · refine am_goX 1 (show pz_S 5 (some .int) am_r283 3 Q 95 [(0, .ref 154), (1, .int a1), (2, .int (nI k)), (3, .int (d_283_24 C k (dP C) 0 (Int32.ofInt 1)))] [.int a1] h from ?_)
        exact sv_S2 sv2_283 (by intro q hq; simp only [List.mem_cons, List.not_mem_nil, or_false] at hq; rcases hq with rfl | rfl <;> rfl) (key _ (if_pos c58).symm)
      · suffices key : ∀ (v61 : Int32), v61 = (if a1 < 0 then nI k else (if (d_235 a1) ≤ (d_235 (nI k)) then a1 else nI k)) → pz_S 5 (some .int) am_r283 3 Q 95 [(0, .ref 154), (2, .int (nI k))] [.int v61] h by
          refine am_goX 2 (show (a1 < 0 → pz_S 5 (some .int) am_r283 3 Q 90 [(0, .ref 154), (1, .int a1), (2, .int (nI k)), (3, .int (d_283_24 C k (dP C) 0 (Int32.ofInt 1)))] [] h) ∧ (¬ (a1 < 0) → pz_S 5 (some .int) am_r283 3 Q 79 [(0, .ref 154), (1, .int a1), (2, .int (nI k)), (3, .int (d_283_24 C k (dP C) 0 (Int32.ofInt 1)))] [] h) from ⟨fun c60 => ?_, fun c60 => ?_⟩)
          · refine am_goX 2 (show pz_S 5 (some .int) am_r283 3 Q 95 [(0, .ref 154), (1, .int a1), (2, .int (nI k)), (3, .int (d_283_24 C k (dP C) 0 (Int32.ofInt 1)))] [.int (nI k)] h from ?_)
            exact sv_S2 sv2_283 (by intro q hq; simp only [List.mem_cons, List.not_mem_nil, or_false] at hq; rcases hq with rfl | rfl <;> rfl) (key _ (if_pos c60).symm)
          · refine am_goX 2 (show 0 ≤ 8 ∧ h.2.2.2.2 + am_al 235 ≤ 175 ∧ am_call am_cod 3 235 [.int (nI k)] h (fun vv h' => pz_S 5 (some .int) am_r283 3 Q 83 [(0, .ref 154), (1, .int a1), (2, .int (nI k)), (3, .int (d_283_24 C k (dP C) 0 (Int32.ofInt 1)))] (vv.toList ++ []) h') from ⟨by decide, ex_lim hP rfl, am_call.up (d_235_w hP ?_) (by decide)⟩)
            refine am_goX 2 (show 1 ≤ 8 ∧ h.2.2.2.2 + am_al 235 ≤ 175 ∧ am_call am_cod 3 235 [.int a1] h (fun vv h' => pz_S 5 (some .int) am_r283 3 Q 87 [(0, .ref 154), (1, .int a1), (2, .int (nI k)), (3, .int (d_283_24 C k (dP C) 0 (Int32.ofInt 1)))] (vv.toList ++ [.int (d_235 (nI k))]) h') from ⟨by decide, ex_lim hP rfl, am_call.up (d_235_w hP ?_) (by decide)⟩)
            suffices key : ∀ (v63 : Int32), v63 = (if (d_235 a1) ≤ (d_235 (nI k)) then a1 else nI k) → pz_S 5 (some .int) am_r283 3 Q 95 [(0, .ref 154), (2, .int (nI k))] [.int v63] h by
              refine am_goX 1 (show ((d_235 a1) ≤ (d_235 (nI k)) → pz_S 5 (some .int) am_r283 3 Q 94 [(0, .ref 154), (1, .int a1), (2, .int (nI k)), (3, .int (d_283_24 C k (dP C) 0 (Int32.ofInt 1)))] [] h) ∧ (¬ ((d_235 a1) ≤ (d_235 (nI k))) → pz_S 5 (some .int) am_r283 3 Q 90 [(0, .ref 154), (1, .int a1), (2, .int (nI k)), (3, .int (d_283_24 C k (dP C) 0 (Int32.ofInt 1)))] [] h) from ⟨fun c62 => ?_, fun c62 => ?_⟩)
              · refine am_goX 1 (show pz_S 5 (some .int) am_r283 3 Q 95 [(0, .ref 154), (1, .int a1), (2, .int (nI k)), (3, .int (d_283_24 C k (dP C) 0 (Int32.ofInt 1)))] [.int a1] h from ?_)
                exact sv_S2 sv2_283 (by intro q hq; simp only [List.mem_cons, List.not_mem_nil, or_false] at hq; rcases hq with rfl | rfl <;> rfl) (key _ (if_pos c62).symm)
              · refine am_goX 2 (show pz_S 5 (some .int) am_r283 3 Q 95 [(0, .ref 154), (1, .int a1), (2, .int (nI k)), (3, .int (d_283_24 C k (dP C) 0 (Int32.ofInt 1)))] [.int (nI k)] h from ?_)
                exact sv_S2 sv2_283 (by intro q hq; simp only [List.mem_cons, List.not_mem_nil, or_false] at hq; rcases hq with rfl | rfl <;> rfl) (key _ (if_neg c62).symm)
            intro v63 e64
            subst e64
            exact sv_S2 sv2_283 (by intro q hq; simp only [List.mem_cons, List.not_mem_nil, or_false] at hq; rcases hq with rfl | rfl <;> rfl) (key _ (if_neg c60).symm)
        intro v61 e65
        subst e65
        exact sv_S2 sv2_283 (by intro q hq; simp only [List.mem_cons, List.not_mem_nil, or_false] at hq; rcases hq with rfl | rfl <;> rfl) (key _ (if_neg c58).symm)
    intro v59 e66
    subst e66
    refine am_goX 3 (show 1 < 5 ∧ 2 < 5 ∧ pz_S 5 (some .int) am_r283 3 Q 9 [(2, .int ((nI k) + (Int32.ofInt 1))), (1, .int (if (d_283_24 C k (dP C) 0 (Int32.ofInt 1)) = 0 then a1 else (if a1 < 0 then nI k else (if (d_235 a1) ≤ (d_235 (nI k)) then a1 else nI k)))), (0, .ref 154)] [] h from ⟨by decide, by decide, ?_⟩)
    rw [show (nI k) + (Int32.ofInt 1) = nI (k + 1) from (dn_a rfl rfl)]
    exact sv_S2 sv2_283 (by intro q hq; simp only [List.mem_cons, List.not_mem_nil, or_false] at hq; rcases hq with rfl | rfl | rfl <;> rfl) (ih (k + 1) (if (d_283_24 C k (dP C) 0 (Int32.ofInt 1)) = 0 then a1 else (if a1 < 0 then nI k else (if (d_235 a1) ≤ (d_235 (nI k)) then a1 else nI k))) (by omega) hZ)
def d_283 (C : sp_C) : Int32 := d_283_9 C (dV C + 1) 0 (Int32.ofInt (-1))
theorem d_283_r (hP : ex_P h) (hT : tR C h)  (hQ : ∀ g, Q (some (.int (d_283 C))) g) : am_call am_cod 4 283 [.ref 154] h Q := by
  have h6 := hT.1.2.1
  have h5 := hT.2.1.2.1
  have h31 := dV_31 h5
  refine pz_call (n := 283) (nL := 5) (rt := (some .int)) (rows := am_r283) (d := 3) (by decide +kernel) (by decide +kernel) rfl (by funext pc; rfl) (ex_175 hP) (by exact Nat.le_of_ble_eq_true rfl) ?_
  refine am_goX 3 (show am_sh h 154 = some (11, 0) ∧ narrow (am_fty 11 0) (.int (Int32.ofInt 0)) = .int (Int32.ofInt 0) ∧ fits (am_fty 11 0) (.int (Int32.ofInt 0)) = true ∧ pz_S 5 (some .int) am_r283 3 Q 5 [(0, .ref 154)] [] (am_wI h 154 0 (Int32.ofInt 0)) from ⟨ex_154 hP, rfl, rfl, ?_⟩)
  have f56 : ex_P (am_wI h 154 0 (Int32.ofInt 0)) := hP
  have f57 : tR C (am_wI h 154 0 (Int32.ofInt 0)) := tR_w (by omega) hT
  generalize am_wI h 154 0 (Int32.ofInt 0) = h55 at f56 f57 ⊢
  refine am_goX 4 (show 1 < 5 ∧ 2 < 5 ∧ pz_S 5 (some .int) am_r283 3 Q 9 [(2, .int (Int32.ofInt 0)), (1, .int (Int32.ofInt (-1))), (0, .ref 154)] [] h55 from ⟨by decide, by decide, ?_⟩)
  refine sv_S2 sv2_283 (by intro q hq; simp only [List.mem_cons, List.not_mem_nil, or_false] at hq; rcases hq with rfl | rfl | rfl <;> rfl) (d_283_9_r f56 f57 (dV C + 1) 0 (Int32.ofInt (-1)) (by omega) ?_)
  exact am_goX 2 (show (∃ ty, (some .int) = some ty ∧ narrow ty (.int (d_283_9 C (dV C + 1) 0 (Int32.ofInt (-1)))) = .int (d_283_9 C (dV C + 1) 0 (Int32.ofInt (-1)))) ∧ h55.2.2.2.2 = 175 ∧ _ from ⟨⟨.int, rfl, rfl⟩, ex_175 f56, hQ _⟩)
