/-! OPCODE 40: the boxes of the arguments, the answer in each -/
/-- a box: does it throw, the answer, the four intervals -/
abbrev rs_B : Type := Nat × Int × (Int × Int) × (Int × Int) × (Int × Int) × (Int × Int)
def rs_bx : List rs_B := [(1, 0, (-2147483648, -1), (-2147483648, 2147483647), (-2147483648, 2147483647), (-2147483648, 2147483647)), (1, 0, (10, 2147483647), (-2147483648, 2147483647), (-2147483648, 2147483647), (-2147483648, 2147483647)), (1, 0, (0, 9), (-2147483648, -1), (-2147483648, 2147483647), (-2147483648, 2147483647)), (1, 0, (0, 9), (10, 2147483647), (-2147483648, 2147483647), (-2147483648, 2147483647)), (1, 0, (0, 9), (0, 9), (-2147483648, -1), (-2147483648, 2147483647)), (1, 0, (0, 9), (0, 9), (10, 2147483647), (-2147483648, 2147483647)), (1, 0, (0, 9), (0, 9), (0, 9), (-2147483648, -2)), (1, 0, (0, 9), (0, 9), (0, 9), (4, 2147483647)), (0, 4, (0, 0), (0, 0), (0, 0), (-1, -1)), (0, 3, (0, 0), (0, 0), (1, 9), (-1, -1)), (0, 3, (1, 9), (0, 0), (0, 9), (-1, -1)), (0, 3, (0, 0), (1, 9), (0, 0), (-1, -1)), (0, 2, (0, 0), (1, 9), (1, 9), (-1, -1)), (0, 2, (1, 9), (1, 9), (0, 9), (-1, -1)), (0, 0, (0, 9), (0, 0), (0, 9), (0, 0)), (0, 1, (0, 9), (0, 0), (0, 9), (1, 1)), (0, 1, (0, 9), (1, 9), (0, 9), (0, 0)), (0, 2, (0, 9), (1, 9), (0, 9), (1, 1)), (0, 2, (0, 9), (0, 0), (0, 9), (2, 2)), (0, 3, (0, 0), (1, 9), (0, 0), (2, 2)), (1, 0, (0, 0), (1, 9), (1, 9), (2, 2)), (1, 0, (1, 9), (1, 9), (0, 9), (2, 2)), (0, 3, (0, 0), (0, 0), (0, 0), (3, 3)), (1, 0, (0, 9), (1, 9), (0, 9), (3, 3)), (1, 0, (1, 9), (0, 0), (0, 9), (3, 3)), (1, 0, (0, 0), (0, 0), (1, 9), (3, 3))]
def rs_env (q : rs_B) : ae_e := [(-2147483648, 2147483647), q.2.2.1, q.2.2.2.1, q.2.2.2.2.1, q.2.2.2.2.2, (-2147483648, 2147483647), (-2147483648, 2147483647), (40, 40)]
def rs_is (x : Int32) (q : Int × Int) : Prop := q.1 ≤ x.toInt ∧ x.toInt ≤ q.2
def rs_at (xs : Nat → Int32) (q : rs_B) : Prop := rs_is (xs 1) q.2.2.1 ∧ rs_is (xs 2) q.2.2.2.1 ∧ rs_is (xs 3) q.2.2.2.2.1 ∧ rs_is (xs 4) q.2.2.2.2.2
theorem rs_in {xs : Nat → Int32} {v8 v9 : Int32} {q : rs_B} (h : rs_at xs q) (h40 : (xs 0 &&& 63).toInt = 40) : ae_in (lw_rho xs v8 v9) (rs_env q) := by
  refine ⟨fun i w hq => ?_, rfl⟩
  match i, hq with
  | 0, hq => cases hq; exact lw_full _
  | 1, hq => cases hq; exact h.1
  | 2, hq => cases hq; exact h.2.1
  | 3, hq => cases hq; exact h.2.2.1
  | 4, hq => cases hq; exact h.2.2.2
  | 5, hq => cases hq; exact lw_full _
  | 6, hq => cases hq; exact lw_full _
  | 7, hq => cases hq; exact ⟨by show (40 : Int) ≤ (xs 0 &&& 63).toInt; omega, by show (xs 0 &&& 63).toInt ≤ (40 : Int); omega⟩
  | i + 8, hq => simp [rs_env] at hq
theorem rs_cov (xs : Nat → Int32) : ∃ q ∈ rs_bx, rs_at xs q := by
  have a1 := lw_full (xs 1)
  have a2 := lw_full (xs 2)
  have a3 := lw_full (xs 3)
  have a4 := lw_full (xs 4)
  have key : ∀ j (q : rs_B), rs_bx[j]? = some q → rs_at xs q → ∃ q ∈ rs_bx, rs_at xs q := fun j q hj h => ⟨q, List.mem_of_getElem? hj, h⟩
  unfold rs_at rs_is at key
  by_cases c1 : (xs 1).toInt < 0
  · exact key 0 _ rfl (by dsimp only; omega)
  · by_cases c2 : (xs 1).toInt < 1
    · by_cases c3 : (xs 2).toInt < 0
      · exact key 2 _ rfl (by dsimp only; omega)
      · by_cases c4 : (xs 2).toInt < 1
        · by_cases c5 : (xs 3).toInt < 0
          · exact key 4 _ rfl (by dsimp only; omega)
          · by_cases c6 : (xs 3).toInt < 1
            · by_cases c7 : (xs 4).toInt < -1
              · exact key 6 _ rfl (by dsimp only; omega)
              · by_cases c8 : (xs 4).toInt < 0
                · exact key 8 _ rfl (by dsimp only; omega)
                · by_cases c9 : (xs 4).toInt < 1
                  · exact key 14 _ rfl (by dsimp only; omega)
                  · by_cases c10 : (xs 4).toInt < 2
                    · exact key 15 _ rfl (by dsimp only; omega)
                    · by_cases c11 : (xs 4).toInt < 3
                      · exact key 18 _ rfl (by dsimp only; omega)
                      · by_cases c12 : (xs 4).toInt < 4
                        · exact key 22 _ rfl (by dsimp only; omega)
                        · exact key 7 _ rfl (by dsimp only; omega)
            · by_cases c13 : (xs 3).toInt < 10
              · by_cases c14 : (xs 4).toInt < -1
                · exact key 6 _ rfl (by dsimp only; omega)
                · by_cases c15 : (xs 4).toInt < 0
                  · exact key 9 _ rfl (by dsimp only; omega)
                  · by_cases c16 : (xs 4).toInt < 1
                    · exact key 14 _ rfl (by dsimp only; omega)
                    · by_cases c17 : (xs 4).toInt < 2
                      · exact key 15 _ rfl (by dsimp only; omega)
                      · by_cases c18 : (xs 4).toInt < 3
                        · exact key 18 _ rfl (by dsimp only; omega)
                        · by_cases c19 : (xs 4).toInt < 4
                          · exact key 25 _ rfl (by dsimp only; omega)
                          · exact key 7 _ rfl (by dsimp only; omega)
              · exact key 5 _ rfl (by dsimp only; omega)
        · by_cases c20 : (xs 2).toInt < 10
          · by_cases c21 : (xs 3).toInt < 0
            · exact key 4 _ rfl (by dsimp only; omega)
            · by_cases c22 : (xs 3).toInt < 1
              · by_cases c23 : (xs 4).toInt < -1
                · exact key 6 _ rfl (by dsimp only; omega)
                · by_cases c24 : (xs 4).toInt < 0
                  · exact key 11 _ rfl (by dsimp only; omega)
                  · by_cases c25 : (xs 4).toInt < 1
                    · exact key 16 _ rfl (by dsimp only; omega)
                    · by_cases c26 : (xs 4).toInt < 2
                      · exact key 17 _ rfl (by dsimp only; omega)
                      · by_cases c27 : (xs 4).toInt < 3
                        · exact key 19 _ rfl (by dsimp only; omega)
                        · by_cases c28 : (xs 4).toInt < 4
                          · exact key 23 _ rfl (by dsimp only; omega)
                          · exact key 7 _ rfl (by dsimp only; omega)
              · by_cases c29 : (xs 3).toInt < 10
                · by_cases c30 : (xs 4).toInt < -1
                  · exact key 6 _ rfl (by dsimp only; omega)
                  · by_cases c31 : (xs 4).toInt < 0
                    · exact key 12 _ rfl (by dsimp only; omega)
                    · by_cases c32 : (xs 4).toInt < 1
                      · exact key 16 _ rfl (by dsimp only; omega)
                      · by_cases c33 : (xs 4).toInt < 2
                        · exact key 17 _ rfl (by dsimp only; omega)
                        · by_cases c34 : (xs 4).toInt < 3
                          · exact key 20 _ rfl (by dsimp only; omega)
                          · by_cases c35 : (xs 4).toInt < 4
                            · exact key 23 _ rfl (by dsimp only; omega)
                            · exact key 7 _ rfl (by dsimp only; omega)
                · exact key 5 _ rfl (by dsimp only; omega)
          · exact key 3 _ rfl (by dsimp only; omega)
    · by_cases c36 : (xs 1).toInt < 10
      · by_cases c37 : (xs 2).toInt < 0
        · exact key 2 _ rfl (by dsimp only; omega)
        · by_cases c38 : (xs 2).toInt < 1
          · by_cases c39 : (xs 3).toInt < 0
            · exact key 4 _ rfl (by dsimp only; omega)
            · by_cases c40 : (xs 3).toInt < 10
              · by_cases c41 : (xs 4).toInt < -1
                · exact key 6 _ rfl (by dsimp only; omega)
                · by_cases c42 : (xs 4).toInt < 0
                  · exact key 10 _ rfl (by dsimp only; omega)
                  · by_cases c43 : (xs 4).toInt < 1
                    · exact key 14 _ rfl (by dsimp only; omega)
                    · by_cases c44 : (xs 4).toInt < 2
                      · exact key 15 _ rfl (by dsimp only; omega)
                      · by_cases c45 : (xs 4).toInt < 3
                        · exact key 18 _ rfl (by dsimp only; omega)
                        · by_cases c46 : (xs 4).toInt < 4
                          · exact key 24 _ rfl (by dsimp only; omega)
                          · exact key 7 _ rfl (by dsimp only; omega)
              · exact key 5 _ rfl (by dsimp only; omega)
          · by_cases c47 : (xs 2).toInt < 10
            · by_cases c48 : (xs 3).toInt < 0
              · exact key 4 _ rfl (by dsimp only; omega)
              · by_cases c49 : (xs 3).toInt < 10
                · by_cases c50 : (xs 4).toInt < -1
                  · exact key 6 _ rfl (by dsimp only; omega)
                  · by_cases c51 : (xs 4).toInt < 0
                    · exact key 13 _ rfl (by dsimp only; omega)
                    · by_cases c52 : (xs 4).toInt < 1
                      · exact key 16 _ rfl (by dsimp only; omega)
                      · by_cases c53 : (xs 4).toInt < 2
                        · exact key 17 _ rfl (by dsimp only; omega)
                        · by_cases c54 : (xs 4).toInt < 3
                          · exact key 21 _ rfl (by dsimp only; omega)
                          · by_cases c55 : (xs 4).toInt < 4
                            · exact key 23 _ rfl (by dsimp only; omega)
                            · exact key 7 _ rfl (by dsimp only; omega)
                · exact key 5 _ rfl (by dsimp only; omega)
            · exact key 3 _ rfl (by dsimp only; omega)
      · exact key 1 _ rfl (by dsimp only; omega)
def rs_lv : ae_l := ae_args 0 [.inr (.inr (.inl 0)), .inr (.inl 1), .inr (.inl 2), .inr (.inl 3), .inr (.inl 4)]
/-- the class's rests in a box -/
def rs_C (q : rs_B) : Bool := ae_go 7 (fun _ _ _ => none) (fun pc => Nat.beq q.1 1 && (Nat.beq pc 30 || Nat.beq pc 144)) (fun _ _ _ st H => decide (st = []) && decide (H = ae_H0)) (fun _ v H => Nat.beq q.1 0 && (decide (v = some (.inl q.2.1)) && decide (H = ae_H0))) 60000 (rs_env q) 9 ae_H0 (am_r168, 9, some .int, 175, 0, rs_lv, []) []
/-- the law after its own rests in a box -/
def rs_lv1 (q : rs_B) : ae_l := (6, .inl q.2.1) :: (5, .inl 0) :: ae_lv0
/-- the law's rows from its own rests to the comparison of the answers -/
def rs_rL : List (Nat × am_R) := am_rL.filter (fun r => Nat.ble 1351 r.1 && Nat.blt r.1 1401)
def rs_L (q : rs_B) : Bool := ae_go 7 (fun _ _ _ => none) (fun pc => Nat.beq q.1 0 && Nat.beq pc 1401) (fun _ _ lv st H => decide (lv = rs_lv1 q) && (decide (st = [.inl 0, .inr (.inr (.inl 174))]) && Nat.beq H.2.2.1 175)) (fun _ v _ => Nat.beq q.1 1 && decide (v = some (.inl 1))) 60000 (rs_env q) 20 ae_H0 ((bif Nat.beq q.1 1 then am_rL else rs_rL), 7, some .boolean, 175, 1351, ae_lv0, [.inl q.1]) []
theorem rs_CC : rs_bx.all rs_C = true := by decide +kernel
theorem rs_L0 : ((rs_bx.drop 0).take 7).all rs_L = true := by decide +kernel
theorem rs_L1 : ((rs_bx.drop 7).take 7).all rs_L = true := by decide +kernel
theorem rs_L2 : ((rs_bx.drop 14).take 7).all rs_L = true := by decide +kernel
theorem rs_L3 : ((rs_bx.drop 21).take 7).all rs_L = true := by decide +kernel
/-- the law after the comparison -/
def rs_T (q : rs_B) : Bool := ae_go 7 (fun _ _ _ => none) (fun _ => false) (fun _ _ _ _ _ => false) (fun _ v _ => decide (v = some (.inl 1))) 60000 (rs_env q) 20 (ae_H0.1, ae_H0.2.1, 175, 175) (am_rL, 7, some .boolean, 175, 1411, rs_lv1 q, []) []
theorem rs_TT : rs_bx.all rs_T = true := by decide +kernel
theorem rs_K : rs_bx.all (fun q => Nat.beq q.1 0 || Nat.beq q.1 1) = true := by decide +kernel
theorem rs_LL (q : rs_B) (h : q ∈ rs_bx) : rs_L q = true := by
  have e : rs_bx = (rs_bx.drop 0).take 7 ++ ((rs_bx.drop 7).take 7 ++ ((rs_bx.drop 14).take 7 ++ ((rs_bx.drop 21).take 7))) := by rfl
  rw [e] at h
  simp only [List.mem_append] at h
  rcases h with h | h | h | h
  · exact List.all_eq_true.mp rs_L0 q h
  · exact List.all_eq_true.mp rs_L1 q h
  · exact List.all_eq_true.mp rs_L2 q h
  · exact List.all_eq_true.mp rs_L3 q h
