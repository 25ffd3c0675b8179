/-! rests: the boxes of its arguments, the reference's answer in each -/
/-- a box: does it throw, the answer, the four intervals -/
abbrev rs_B : Type := Nat × Int × (Int × Int) × (Int × Int) × (Int × Int) × (Int × Int)
def rs_bx : List rs_B := [(1, 0, (-2147483648, -1), (-2147483648, 2147483647), (-2147483648, 2147483647), (-2147483648, 2147483647)), (1, 0, (10, 2147483647), (-2147483648, 2147483647), (-2147483648, 2147483647), (-2147483648, 2147483647)), (1, 0, (0, 9), (-2147483648, -1), (-2147483648, 2147483647), (-2147483648, 2147483647)), (1, 0, (0, 9), (10, 2147483647), (-2147483648, 2147483647), (-2147483648, 2147483647)), (1, 0, (0, 9), (0, 9), (-2147483648, -1), (-2147483648, 2147483647)), (1, 0, (0, 9), (0, 9), (10, 2147483647), (-2147483648, 2147483647)), (1, 0, (0, 9), (0, 9), (0, 9), (-2147483648, -2)), (1, 0, (0, 9), (0, 9), (0, 9), (4, 2147483647)), (0, 4, (0, 0), (0, 0), (0, 0), (-1, -1)), (0, 3, (0, 0), (0, 0), (1, 9), (-1, -1)), (0, 3, (1, 9), (0, 0), (0, 9), (-1, -1)), (0, 3, (0, 0), (1, 9), (0, 0), (-1, -1)), (0, 2, (0, 0), (1, 9), (1, 9), (-1, -1)), (0, 2, (1, 9), (1, 9), (0, 9), (-1, -1)), (0, 0, (0, 9), (0, 0), (0, 9), (0, 0)), (0, 1, (0, 9), (0, 0), (0, 9), (1, 1)), (0, 1, (0, 9), (1, 9), (0, 9), (0, 0)), (0, 2, (0, 9), (1, 9), (0, 9), (1, 1)), (0, 2, (0, 9), (0, 0), (0, 9), (2, 2)), (0, 3, (0, 0), (1, 9), (0, 0), (2, 2)), (1, 0, (0, 0), (1, 9), (1, 9), (2, 2)), (1, 0, (1, 9), (1, 9), (0, 9), (2, 2)), (0, 3, (0, 0), (0, 0), (0, 0), (3, 3)), (1, 0, (0, 9), (1, 9), (0, 9), (3, 3)), (1, 0, (1, 9), (0, 0), (0, 9), (3, 3)), (1, 0, (0, 0), (0, 0), (1, 9), (3, 3))]
def rs_is (x : Int32) (q : Int × Int) : Prop := q.1 ≤ x.toInt ∧ x.toInt ≤ q.2
def rs_at (xs : Nat → Int32) (q : rs_B) : Prop := rs_is (xs 1) q.2.2.1 ∧ rs_is (xs 2) q.2.2.2.1 ∧ rs_is (xs 3) q.2.2.2.2.1 ∧ rs_is (xs 4) q.2.2.2.2.2
theorem rs_cov (xs : Nat → Int32) : ∃ q ∈ rs_bx, rs_at xs q := by
  have a1 := ag_i32r (xs 1)
  have a2 := ag_i32r (xs 2)
  have a3 := ag_i32r (xs 3)
  have a4 := ag_i32r (xs 4)
  have key : ∀ j (q : rs_B), rs_bx[j]? = some q → rs_at xs q → ∃ q ∈ rs_bx, rs_at xs q := fun j q hj h => ⟨q, List.mem_of_getElem? hj, h⟩
  unfold rs_at rs_is at key
  by_cases c1 : (xs 1).toInt < 0
  · exact key 0 _ rfl (by dsimp only; omega)
  · by_cases c2 : (xs 1).toInt < 1
    · by_cases c3 : (xs 2).toInt < 0
      · exact key 2 _ rfl (by dsimp only; omega)
      · by_cases c4 : (xs 2).toInt < 1
        · by_cases c5 : (xs 3).toInt < 0
          · exact key 4 _ rfl (by dsimp only; omega)
          · by_cases c6 : (xs 3).toInt < 1
            · by_cases c7 : (xs 4).toInt < -1
              · exact key 6 _ rfl (by dsimp only; omega)
              · by_cases c8 : (xs 4).toInt < 0
                · exact key 8 _ rfl (by dsimp only; omega)
                · by_cases c9 : (xs 4).toInt < 1
                  · exact key 14 _ rfl (by dsimp only; omega)
                  · by_cases c10 : (xs 4).toInt < 2
                    · exact key 15 _ rfl (by dsimp only; omega)
                    · by_cases c11 : (xs 4).toInt < 3
                      · exact key 18 _ rfl (by dsimp only; omega)
                      · by_cases c12 : (xs 4).toInt < 4
                        · exact key 22 _ rfl (by dsimp only; omega)
                        · exact key 7 _ rfl (by dsimp only; omega)
            · by_cases c13 : (xs 3).toInt < 10
              · by_cases c14 : (xs 4).toInt < -1
                · exact key 6 _ rfl (by dsimp only; omega)
                · by_cases c15 : (xs 4).toInt < 0
                  · exact key 9 _ rfl (by dsimp only; omega)
                  · by_cases c16 : (xs 4).toInt < 1
                    · exact key 14 _ rfl (by dsimp only; omega)
                    · by_cases c17 : (xs 4).toInt < 2
                      · exact key 15 _ rfl (by dsimp only; omega)
                      · by_cases c18 : (xs 4).toInt < 3
                        · exact key 18 _ rfl (by dsimp only; omega)
                        · by_cases c19 : (xs 4).toInt < 4
                          · exact key 25 _ rfl (by dsimp only; omega)
                          · exact key 7 _ rfl (by dsimp only; omega)
              · exact key 5 _ rfl (by dsimp only; omega)
        · by_cases c20 : (xs 2).toInt < 10
          · by_cases c21 : (xs 3).toInt < 0
            · exact key 4 _ rfl (by dsimp only; omega)
            · by_cases c22 : (xs 3).toInt < 1
              · by_cases c23 : (xs 4).toInt < -1
                · exact key 6 _ rfl (by dsimp only; omega)
                · by_cases c24 : (xs 4).toInt < 0
                  · exact key 11 _ rfl (by dsimp only; omega)
                  · by_cases c25 : (xs 4).toInt < 1
                    · exact key 16 _ rfl (by dsimp only; omega)
                    · by_cases c26 : (xs 4).toInt < 2
                      · exact key 17 _ rfl (by dsimp only; omega)
                      · by_cases c27 : (xs 4).toInt < 3
                        · exact key 19 _ rfl (by dsimp only; omega)
                        · by_cases c28 : (xs 4).toInt < 4
                          · exact key 23 _ rfl (by dsimp only; omega)
                          · exact key 7 _ rfl (by dsimp only; omega)
              · by_cases c29 : (xs 3).toInt < 10
                · by_cases c30 : (xs 4).toInt < -1
                  · exact key 6 _ rfl (by dsimp only; omega)
                  · by_cases c31 : (xs 4).toInt < 0
                    · exact key 12 _ rfl (by dsimp only; omega)
                    · by_cases c32 : (xs 4).toInt < 1
                      · exact key 16 _ rfl (by dsimp only; omega)
                      · by_cases c33 : (xs 4).toInt < 2
                        · exact key 17 _ rfl (by dsimp only; omega)
                        · by_cases c34 : (xs 4).toInt < 3
                          · exact key 20 _ rfl (by dsimp only; omega)
                          · by_cases c35 : (xs 4).toInt < 4
                            · exact key 23 _ rfl (by dsimp only; omega)
                            · exact key 7 _ rfl (by dsimp only; omega)
                · exact key 5 _ rfl (by dsimp only; omega)
          · exact key 3 _ rfl (by dsimp only; omega)
    · by_cases c36 : (xs 1).toInt < 10
      · by_cases c37 : (xs 2).toInt < 0
        · exact key 2 _ rfl (by dsimp only; omega)
        · by_cases c38 : (xs 2).toInt < 1
          · by_cases c39 : (xs 3).toInt < 0
            · exact key 4 _ rfl (by dsimp only; omega)
            · by_cases c40 : (xs 3).toInt < 10
              · by_cases c41 : (xs 4).toInt < -1
                · exact key 6 _ rfl (by dsimp only; omega)
                · by_cases c42 : (xs 4).toInt < 0
                  · exact key 10 _ rfl (by dsimp only; omega)
                  · by_cases c43 : (xs 4).toInt < 1
                    · exact key 14 _ rfl (by dsimp only; omega)
                    · by_cases c44 : (xs 4).toInt < 2
                      · exact key 15 _ rfl (by dsimp only; omega)
                      · by_cases c45 : (xs 4).toInt < 3
                        · exact key 18 _ rfl (by dsimp only; omega)
                        · by_cases c46 : (xs 4).toInt < 4
                          · exact key 24 _ rfl (by dsimp only; omega)
                          · exact key 7 _ rfl (by dsimp only; omega)
              · exact key 5 _ rfl (by dsimp only; omega)
          · by_cases c47 : (xs 2).toInt < 10
            · by_cases c48 : (xs 3).toInt < 0
              · exact key 4 _ rfl (by dsimp only; omega)
              · by_cases c49 : (xs 3).toInt < 10
                · by_cases c50 : (xs 4).toInt < -1
                  · exact key 6 _ rfl (by dsimp only; omega)
                  · by_cases c51 : (xs 4).toInt < 0
                    · exact key 13 _ rfl (by dsimp only; omega)
                    · by_cases c52 : (xs 4).toInt < 1
                      · exact key 16 _ rfl (by dsimp only; omega)
                      · by_cases c53 : (xs 4).toInt < 2
                        · exact key 17 _ rfl (by dsimp only; omega)
                        · by_cases c54 : (xs 4).toInt < 3
                          · exact key 21 _ rfl (by dsimp only; omega)
                          · by_cases c55 : (xs 4).toInt < 4
                            · exact key 23 _ rfl (by dsimp only; omega)
                            · exact key 7 _ rfl (by dsimp only; omega)
                · exact key 5 _ rfl (by dsimp only; omega)
            · exact key 3 _ rfl (by dsimp only; omega)
      · exact key 1 _ rfl (by dsimp only; omega)
def rq_T (q : rs_B) : ag_T := ([(0, 1000), (-1100, 1000), (0, 24), q.2.2.1, q.2.2.2.1, q.2.2.2.2.1, q.2.2.2.2.2], [(0, 1, 0), (0, 2, 0), (0, 3, 0), (0, 4, 0)], [(0, .inr (.inr 154)), (1, .inl (ag_y 3)), (2, .inl (ag_y 4)), (3, .inl (ag_y 5)), (4, .inl (ag_y 6))], ([], [], [], [], []))
def rq_P (q : rs_B) : ag_T := ([(0, 1000), (-1100, 1000), (0, 24), (q.2.1, q.2.1), (q.1, q.1)], [(0, 1000, 0), (1, 154, 0)], [(1000, .inl (ag_y 3))], ([(154, 0, ag_y 4)], [], [], [], []))
def rq_I (q : rs_B) : ag_I := ((286, 2, [rq_T q], [rq_P q], [(154, 0, 0)]), [], [], 3000)
theorem rq_K : rs_bx.all (fun q => ag_chk ag_DD [] (rq_I q)) = true := by decide +kernel
theorem rq_ok {q : rs_B} (hq : q ∈ rs_bx) : ag_ok ag_DD xw_X (rq_I q).1 := ag_chk_ok ag_DD_sh ag_DD_lg xw_Xk (fun _ h => absurd h List.not_mem_nil) (List.all_eq_true.mp rq_K q hq)
theorem rq_TS {N : Int} (hN0 : 0 ≤ N) (hN : N ≤ 1000) {q : rs_B} {xs : Nat → Int32} (hat : rs_at xs q) {h : am_H} : ag_TS (rq_T q) (iv_rho N [(xs 1).toInt, (xs 2).toInt, (xs 3).toInt, (xs 4).toInt]) (lv_args 0 [.ref 154, .int (xs 1), .int (xs 2), .int (xs 3), .int (xs 4)]) h := by
  refine ⟨fun j w hw => ?_, fun j hj => ?_, ?_, fun r hr => absurd hr List.not_mem_nil, fun r hr => absurd hr List.not_mem_nil, fun r hr => absurd hr List.not_mem_nil, fun r hr => absurd hr List.not_mem_nil, fun r hr => absurd hr List.not_mem_nil⟩
  · match j, hw with
    | 0, hw => cases hw; exact ⟨hN0, hN⟩
    | 1, hw => cases hw; exact (show (-1100 : Int) ≤ 0 ∧ (0 : Int) ≤ 1000 by decide)
    | 2, hw => cases hw; exact (show (0 : Int) ≤ 0 ∧ (0 : Int) ≤ 24 by decide)
    | 3, hw => cases hw; exact hat.1
    | 4, hw => cases hw; exact hat.2.1
    | 5, hw => cases hw; exact hat.2.2.1
    | 6, hw => cases hw; exact hat.2.2.2
    | j + 7, hw => cases hw
  · have hj : 7 ≤ j := hj
    unfold iv_rho
    rw [List.getD_eq_getElem?_getD, List.getElem?_eq_none (show 7 ≤ j from hj)]
    rfl
  · have e : ag_cl (iv_rho N [(xs 1).toInt, (xs 2).toInt, (xs 3).toInt, (xs 4).toInt]) (rq_T q).2.2.1 = lv_args 0 [.ref 154, .int (xs 1), .int (xs 2), .int (xs 3), .int (xs 4)] := by
      show [(0, Value.ref 154), (1, Value.int (Int32.ofInt (ag_ev _ (ag_y 3)))), (2, Value.int (Int32.ofInt (ag_ev _ (ag_y 4)))), (3, Value.int (Int32.ofInt (ag_ev _ (ag_y 5)))), (4, Value.int (Int32.ofInt (ag_ev _ (ag_y 6))))] = [(0, Value.ref 154), (1, Value.int (xs 1)), (2, Value.int (xs 2)), (3, Value.int (xs 3)), (4, Value.int (xs 4))]
      rw [ag_ev_y, ag_ev_y, ag_ev_y, ag_ev_y]
      show [(0, Value.ref 154), (1, Value.int (Int32.ofInt (xs 1).toInt)), (2, Value.int (Int32.ofInt (xs 2).toInt)), (3, Value.int (Int32.ofInt (xs 3).toInt)), (4, Value.int (Int32.ofInt (xs 4).toInt))] = _
      rw [Int32.ofInt_toInt, Int32.ofInt_toInt, Int32.ofInt_toInt, Int32.ofInt_toInt]
    rw [e]
    exact fun q hq => (ag_args_lk _ 0 q hq).2
/-- the reference's rests: its answer and whether it throws, by box -/
theorem rq_call {q : rs_B} (hq : q ∈ rs_bx) {xs : Nat → Int32} (hat : rs_at xs q) {h : am_H} (hI : iv_I h) : am_call am_cod 60 286 [.ref 154, .int (xs 1), .int (xs 2), .int (xs 3), .int (xs 4)] h (fun v h' => iv_I h' ∧ ag_fr [(154, 0, 0)] h h' ∧ v = some (.int (Int32.ofInt q.2.1)) ∧ h'.1 154 0 = Int32.ofInt q.1) := by
  obtain ⟨N, hN, hW, hX, ha, hc⟩ := hI
  refine am_call.mono (fun v h' z => ?_) (am_call.up (rq_ok hq (rq_T q) List.mem_cons_self (iv_rho N [(xs 1).toInt, (xs 2).toInt, (xs 3).toInt, (xs 4).toInt]) [.ref 154, .int (xs 1), .int (xs 2), .int (xs 3), .int (xs 4)] h hW hX (rq_TS hW.2.2.1 hN hat) (show 5 ≤ am_nL 286 by decide +kernel) rfl) (show 2 ≤ 60 by decide))
  obtain ⟨q1, q2, P, hP, τ, -, q4, q5⟩ := z
  have hP := List.mem_singleton.mp hP
  subst hP
  have b3 := q4.1 3 (q.2.1, q.2.1) rfl
  have b4 := q4.1 4 ((q.1 : Int), (q.1 : Int)) rfl
  have e3 : τ 3 = q.2.1 := Int.le_antisymm b3.2 b3.1
  have e4 : τ 4 = q.1 := Int.le_antisymm b4.2 b4.1
  refine ⟨iv_keep (M := [(154, 0, 0)]) (by decide +kernel) hN q1 q2 hX ha hc, q2, ?_, ?_⟩
  · have l := ag_lk_of q4.2.2.1 (i := 1000) (v := .inl (ag_y 3)) rfl
    cases v with
    | none => cases l
    | some x =>
      have l : some x = some (Value.int (Int32.ofInt (ag_ev τ (ag_y 3)))) := l
      rw [l, ag_ev_y, e3]
  · have l := q4.2.2.2.1 (154, 0, ag_y 4) List.mem_cons_self
    rw [ag_ev_y, e4] at l
    exact l
