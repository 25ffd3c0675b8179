/-! rests: the class's answer in each box, or the place where it throws -/
def rc_T (q : rs_B) : ag_T := ([(0, 1000), (-1100, 1000), (0, 24), q.2.2.1, q.2.2.2.1, q.2.2.2.2.1, q.2.2.2.2.2], [(0, 1, 0), (0, 2, 0), (0, 3, 0), (0, 4, 0)], [(0, .inr (.inr 0)), (1, .inl (ag_y 3)), (2, .inl (ag_y 4)), (3, .inl (ag_y 5)), (4, .inl (ag_y 6))], ([], [], [], [], []))
def rc_X (q : rs_B) : ag_X := (fun pc => Nat.beq q.1 1 && (Nat.beq pc 30 || Nat.beq pc 144), fun _ _ _ _ => true, [])
def rc_V (q : rs_B) (env : ag_e) (v : Option ag_v) : Bool := match v with
  | some (.inl f) => (match ag_iv env f with
    | some w => decide (w.1 = q.2.1) && decide (w.2 = q.2.1)
    | none => false)
  | _ => false
def rc_go (q : rs_B) : Bool := ag_wfT (rc_T q) && ag_go ag_DD [] [] 3000 true (rc_X q) (rc_T q).1 9 (rc_T q).2.2.2 am_r168 9 (some .int) 0 (rc_T q).2.2.1 [] (fun env _ v => Nat.beq q.1 0 && rc_V q env v)
theorem rc_V_ok {q : rs_B} {env : ag_e} {ρ : Nat → Int} (hin : ag_in ρ env) : ∀ {v : Option ag_v}, rc_V q env v = true → v.map (ag_c ρ) = some (.int (Int32.ofInt q.2.1))
  | some (.inl f), z => by
    have z : (match ag_iv env f with
      | some w => decide (w.1 = q.2.1) && decide (w.2 = q.2.1)
      | none => false) = true := z
    cases hw : ag_iv env f with
    | none => rw [hw] at z; cases z
    | some w =>
      rw [hw] at z
      have z : (decide (w.1 = q.2.1) && decide (w.2 = q.2.1)) = true := z
      rw [Bool.and_eq_true, decide_eq_true_eq, decide_eq_true_eq] at z
      have b := ag_iv_ok hin hw
      have e : ag_ev ρ f = q.2.1 := by omega
      show some (Value.int (Int32.ofInt (ag_ev ρ f))) = _
      rw [e]
  | some (.inr (.inl _)), z => by cases z
  | some (.inr (.inr _)), z => by cases z
  | none, z => by cases z
theorem rc_K : rs_bx.all rc_go = true := by decide +kernel
theorem rc_TS {N : Int} (hN0 : 0 ≤ N) (hN : N ≤ 1000) {q : rs_B} {xs : Nat → Int32} (hat : rs_at xs q) {h : am_H} : ag_TS (rc_T q) (iv_rho N [(xs 1).toInt, (xs 2).toInt, (xs 3).toInt, (xs 4).toInt]) (lv_args 0 [.ref 0, .int (xs 1), .int (xs 2), .int (xs 3), .int (xs 4)]) h := by
  refine ⟨fun j w hw => (rq_TS (h := h) hN0 hN hat).1 j w hw, fun j hj => (rq_TS (h := h) hN0 hN hat).2.1 j hj, ?_, fun r hr => absurd hr List.not_mem_nil, fun r hr => absurd hr List.not_mem_nil, fun r hr => absurd hr List.not_mem_nil, fun r hr => absurd hr List.not_mem_nil, fun r hr => absurd hr List.not_mem_nil⟩
  have e : ag_cl (iv_rho N [(xs 1).toInt, (xs 2).toInt, (xs 3).toInt, (xs 4).toInt]) (rc_T q).2.2.1 = lv_args 0 [.ref 0, .int (xs 1), .int (xs 2), .int (xs 3), .int (xs 4)] := by
    show [(0, Value.ref 0), (1, Value.int (Int32.ofInt (ag_ev _ (ag_y 3)))), (2, Value.int (Int32.ofInt (ag_ev _ (ag_y 4)))), (3, Value.int (Int32.ofInt (ag_ev _ (ag_y 5)))), (4, Value.int (Int32.ofInt (ag_ev _ (ag_y 6))))] = [(0, Value.ref 0), (1, Value.int (xs 1)), (2, Value.int (xs 2)), (3, Value.int (xs 3)), (4, Value.int (xs 4))]
    rw [ag_ev_y, ag_ev_y, ag_ev_y, ag_ev_y]
    show [(0, Value.ref 0), (1, Value.int (Int32.ofInt (xs 1).toInt)), (2, Value.int (Int32.ofInt (xs 2).toInt)), (3, Value.int (Int32.ofInt (xs 3).toInt)), (4, Value.int (Int32.ofInt (xs 4).toInt))] = _
    rw [Int32.ofInt_toInt, Int32.ofInt_toInt, Int32.ofInt_toInt, Int32.ofInt_toInt]
  rw [e]
  exact fun q hq => (ag_args_lk _ 0 q hq).2
theorem rc_run {q : rs_B} (hq : q ∈ rs_bx) {xs : Nat → Int32} (hat : rs_at xs q) {h : am_H} (hI : iv_I h) : am_X (am_call am_cod 9) 9 175 (some .int) (am_find am_r168) (fun pc _ st h' => q.1 = 1 ∧ (pc = 30 ∨ pc = 144) ∧ st = [] ∧ h' = h) (fun v h' => q.1 = 0 ∧ v = some (.int (Int32.ofInt q.2.1)) ∧ h' = h) 0 (lv_args 0 [.ref 0, .int (xs 1), .int (xs 2), .int (xs 3), .int (xs 4)]) [] h := by
  obtain ⟨N, hN, hW, hX, ha, hc⟩ := hI
  have hk := List.all_eq_true.mp rc_K q hq
  unfold rc_go at hk
  rw [Bool.and_eq_true] at hk
  refine ag_go_ok (M := []) (h0 := h) (Xp := xw_X) (tab := []) (by decide) ag_DD_sh ag_DD_lg xw_Xk hX (fun _ h => absurd h List.not_mem_nil) _ _ _ _ _ _ _ _ _ _ _ _ _ (iv_rho N [(xs 1).toInt, (xs 2).toInt, (xs 3).toInt, (xs 4).toInt]) _ _ _ _ _ hk.2 (ag_start hk.1 hW (rc_TS hW.2.2.1 hN hat) ⟨rfl, fun _ _ _ => ⟨rfl, rfl, rfl⟩⟩) (fun env' pc' lv' H' lvc' ρ' h' z1 _ _ hS => ?_) (fun env' H' v ρ' h' z hx hwv hp => ?_)
  · have z1 : (Nat.beq q.1 1 && (Nat.beq pc' 30 || Nat.beq pc' 144)) = true := z1
    rw [Bool.and_eq_true, Bool.or_eq_true] at z1
    exact ⟨Nat.eq_of_beq_eq_true z1.1, z1.2.imp Nat.eq_of_beq_eq_true Nat.eq_of_beq_eq_true, rfl, ag_fr_nil hS.2.2.2.2.2.2.2.2.2.2⟩
  · have z : (Nat.beq q.1 0 && rc_V q env' v) = true := z
    rw [Bool.and_eq_true] at z
    exact ⟨Nat.eq_of_beq_eq_true z.1, rc_V_ok hx.2.2 z.2, ag_fr_nil hp.2.2.2.2.2.2.2⟩
