/-! CALLS FROM OUTSIDE WHOSE START NAMES AN INT OF THE HEAP -/
theorem iv_lv1 (N : Int) (suf : List Int) : ∀ (ks : List Nat) (vs : List Int) (pre : List Int) (i j : Nat), iv_in ks vs → j = 3 + pre.length → ag_cl (iv_rho N (pre ++ (vs ++ suf))) (iv_lvs i j ks) = lv_args i (iv_args 0 ks vs)
  | [], [], _, _, _, _, _ => rfl
  | k :: ks, v :: vs, pre, i, j, h, hj => by
    have e : iv_rho N (pre ++ (v :: vs ++ suf)) j = v := by
      unfold iv_rho
      rw [List.getD_eq_getElem?_getD, List.getElem?_append_right (by show 3 ≤ j; omega)]
      have : j - ([N, 0, 0] : List Int).length = pre.length := by show j - 3 = _; omega
      rw [this, List.getElem?_append_right (Nat.le_refl _), Nat.sub_self]
      rfl
    have ih := iv_lv1 N suf ks vs (pre ++ [v]) (i + iv_w k) (j + 1) h.2 (by rw [List.length_append]; show j + 1 = 3 + (pre.length + 1); omega)
    rw [List.append_assoc] at ih
    have ec : ag_c (iv_rho N (pre ++ (v :: vs ++ suf))) (iv_pv k (ag_y j)) = iv_av k v := by
      rcases ag_kd3 k with e1 | e1 | ⟨m, e1⟩
      · subst e1; show Value.int (Int32.ofInt (ag_ev _ (ag_y j))) = Value.int (Int32.ofInt v); rw [ag_ev_y, e]
      · subst e1; show Value.int (Int32.ofInt (ag_ev _ (ag_y j))) = Value.int (Int32.ofInt v); rw [ag_ev_y, e]
      · subst e1; show Value.long (Int64.ofInt (ag_ev _ (ag_y j))) = Value.long (Int64.ofInt v); rw [ag_ev_y, e]
    have ew : (if (iv_av k v).category = 2 then i + 2 else i + 1) = i + iv_w k := by
      rcases ag_kd3 k with e1 | e1 | ⟨m, e1⟩
      · subst e1; rfl
      · subst e1; rfl
      · subst e1; rfl
    show (i, ag_c _ (iv_pv k (ag_y j))) :: ag_cl _ (iv_lvs (i + iv_w k) (j + 1) ks) = (i, iv_av k v) :: lv_args (if (iv_av k v).category = 2 then i + 2 else i + 1) (iv_args 0 ks vs)
    rw [ec, ew]
    congr 1
  | [], _ :: _, _, _, _, h, _ => h.elim
  | _ :: _, [], _, _, _, h, _ => h.elim
def iv_std1 (o : Nat) (ks : List Nat) (p q : Nat) (lo hi : Int) : ag_T := ([(0, 1000), (-1100, 1000), (0, 24)] ++ (ks.map iv_iv ++ [(lo, hi)]), iv_dfs 1 ks ++ [(1, p, q)], (0, .inr (.inr o)) :: iv_lvs 1 3 ks, ([(p, q, ag_y (3 + ks.length))], [], [], [], []))
theorem iv_TS1 {N : Int} (hN0 : 0 ≤ N) (hN : N ≤ 1000) {o : Nat} {ks : List Nat} {vs : List Int} (hv : iv_in ks vs) {p q : Nat} {lo hi : Int} {h : am_H} (hx : lo ≤ (h.1 p q).toInt ∧ (h.1 p q).toInt ≤ hi) : ag_TS (iv_std1 o ks p q lo hi) (iv_rho N (vs ++ [(h.1 p q).toInt])) (lv_args 0 (.ref o :: iv_args 0 ks vs)) h := by
  have hl := iv_len hv
  have hz : iv_rho N (vs ++ [(h.1 p q).toInt]) (3 + ks.length) = (h.1 p q).toInt := by
    unfold iv_rho
    rw [List.getD_eq_getElem?_getD, List.getElem?_append_right (by show 3 ≤ _; omega)]
    have : 3 + ks.length - ([N, 0, 0] : List Int).length = vs.length := by show 3 + ks.length - 3 = _; omega
    rw [this, List.getElem?_append_right (Nat.le_refl _), Nat.sub_self]
    rfl
  refine ⟨fun j w hw => ?_, fun j hj => ?_, ?_, fun r hr => ?_, fun q hq => absurd hq List.not_mem_nil, fun q hq => absurd hq List.not_mem_nil, fun q hq => absurd hq List.not_mem_nil, fun q hq => absurd hq List.not_mem_nil⟩
  · have hw : (([(0, 1000), (-1100, 1000), (0, 24)] : List (Int × Int)) ++ (ks.map iv_iv ++ [(lo, hi)]))[j]? = some w := hw
    match j, hw with
    | 0, hw => cases hw; exact ⟨hN0, hN⟩
    | 1, hw => cases hw; exact (show (-1100 : Int) ≤ 0 ∧ (0 : Int) ≤ 1000 by decide)
    | 2, hw => cases hw; exact (show (0 : Int) ≤ 0 ∧ (0 : Int) ≤ 24 by decide)
    | j + 3, hw =>
      have hw : (ks.map iv_iv ++ [(lo, hi)])[j]? = some w := hw
      rcases Nat.lt_or_ge j ks.length with hj | hj
      · rw [List.getElem?_append_left (by rw [List.length_map]; exact hj), List.getElem?_map, List.getElem?_eq_getElem hj] at hw
        have hw := Option.some.inj hw
        have hj' : j < vs.length := by rw [← hl]; exact hj
        have e1 : vs[j]? = some vs[j] := List.getElem?_eq_getElem hj'
        have e2 : iv_rho N (vs ++ [(h.1 p q).toInt]) (j + 3) = vs[j] := by
          show (vs ++ [(h.1 p q).toInt]).getD j 0 = vs[j]
          rw [List.getD_eq_getElem?_getD, List.getElem?_append_left hj', e1]
          rfl
        rw [e2, ← hw]
        exact iv_at hv j _ _ (List.getElem?_eq_getElem hj) e1
      · have ej : j = ks.length := by
          have z := (List.getElem?_eq_some_iff.mp hw).1
          rw [List.length_append, List.length_map] at z
          have z : j < ks.length + 1 := z
          omega
        subst ej
        rw [List.getElem?_append_right (by rw [List.length_map]; exact Nat.le_refl _), List.length_map, Nat.sub_self] at hw
        have hw := Option.some.inj hw
        rw [Nat.add_comm, hz, ← hw]
        exact hx
  · have hj : 3 + (ks.length + 1) ≤ j := by
      have : (([(0, 1000), (-1100, 1000), (0, 24)] : List (Int × Int)) ++ (ks.map iv_iv ++ [(lo, hi)])).length ≤ j := hj
      rw [List.length_append, List.length_append, List.length_map] at this
      exact this
    unfold iv_rho
    rw [List.getD_eq_getElem?_getD, List.getElem?_eq_none (by rw [List.length_append, List.length_append, ← hl]; exact hj)]
    rfl
  · have e := iv_lv1 N [(h.1 p q).toInt] ks vs [] 1 3 hv rfl
    have e2 : ag_cl (iv_rho N (vs ++ [(h.1 p q).toInt])) ((0, .inr (.inr o)) :: iv_lvs 1 3 ks) = lv_args 0 (.ref o :: iv_args 0 ks vs) := by
      show (0, Value.ref o) :: ag_cl (iv_rho N (vs ++ [(h.1 p q).toInt])) (iv_lvs 1 3 ks) = (0, Value.ref o) :: lv_args 1 (iv_args 0 ks vs)
      congr 1
    show ag_lR (ag_cl (iv_rho N (vs ++ [(h.1 p q).toInt])) ((0, .inr (.inr o)) :: iv_lvs 1 3 ks)) _
    rw [e2]
    exact fun q hq => (ag_args_lk _ 0 q hq).2
  · have hr := List.mem_singleton.mp hr
    subst hr
    show h.1 p q = Int32.ofInt (ag_ev _ (ag_y (3 + ks.length)))
    rw [ag_ev_y, hz, Int32.ofInt_toInt]
theorem iv_call1 {C : ag_C} {o : Nat} {ks : List Nat} {p q : Nat} {lo hi : Int} (s1 : C.2.2.1 = [iv_std1 o ks p q lo hi]) (hs : iv_chk C ks = true) (hok : ag_ok ag_DD xw_X C) {vs : List Int} (hv : iv_in ks vs) {N : Int} {h : am_H} (hN : N ≤ 1000) (hW : ag_WH ag_DD N h) (hX : xw_X h) (ha : (h.1 154 7).toInt ≤ N) (hc : (iv_cfg 6 28 h ∨ iv_cfg 6 32 h) ∨ (iv_cfg 17 28 h ∨ iv_cfg 17 32 h)) (hx : lo ≤ (h.1 p q).toInt ∧ (h.1 p q).toInt ≤ hi) :
    am_call am_cod 60 C.1 (.ref o :: iv_args 0 ks vs) h (fun v h' => iv_I h' ∧ (∃ x, v = some (.int x)) ∧ ag_fr C.2.2.2.2 h h') := by
  unfold iv_chk at hs
  rw [Bool.and_eq_true, Bool.and_eq_true, Bool.and_eq_true] at hs
  obtain ⟨s2, s3, s4, s5⟩ := hs
  have hT : iv_std1 o ks p q lo hi ∈ C.2.2.1 := by rw [s1]; exact List.mem_cons_self
  have hlen : (lg_sl (.ref o :: iv_args 0 ks vs)).length ≤ am_nL C.1 := by
    have e : (lg_sl (.ref o :: iv_args 0 ks vs)).length = 1 + (ks.map iv_w).sum := by
      rw [← iv_sl hv]
      unfold lg_sl
      rw [List.flatMap_cons, List.length_append]
      rfl
    rw [e]
    exact Nat.le_of_ble_eq_true s5
  refine am_call.mono (fun v h' q => ?_) (am_call.up (hok _ hT (iv_rho N (vs ++ [(h.1 p q).toInt])) (.ref o :: iv_args 0 ks vs) h hW hX (iv_TS1 hW.2.2.1 hN hv hx) hlen (congrArg (· + 1) (iv_al hv))) (Nat.le_of_ble_eq_true s4))
  obtain ⟨q1, q2, P, hP, τ, -, q4, q5⟩ := q
  refine ⟨iv_keep s2 hN q1 q2 hX ha hc, ?_, q2⟩
  have z := List.all_eq_true.mp s3 P hP
  split at z
  · rename_i f hf
    have l := ag_lk_of q4.2.2.1 hf
    cases v with
    | none => cases l
    | some x => exact ⟨Int32.ofInt (ag_ev τ f), l⟩
  · cases z
theorem iv_sgm {o : Nat} {s : ag_S} (h : (ag_sg o).any (fun t => decide (t.1 = s.1) && (decide (t.2.1 = s.2.1) && (decide (t.2.2.1 = s.2.2.1) && (decide (t.2.2.2.1 = s.2.2.2.1) && (decide (t.2.2.2.2.1 = s.2.2.2.2.1) && decide (t.2.2.2.2.2 = s.2.2.2.2.2)))))) = true) : s ∈ ag_sg o := by
  obtain ⟨t, ht, e⟩ := List.any_eq_true.mp h
  rw [Bool.and_eq_true, Bool.and_eq_true, Bool.and_eq_true, Bool.and_eq_true, Bool.and_eq_true, decide_eq_true_eq, decide_eq_true_eq, decide_eq_true_eq, decide_eq_true_eq, decide_eq_true_eq, decide_eq_true_eq] at e
  obtain ⟨a1, a2, a3, a4, a5, a6⟩ := t
  obtain ⟨b1, b2, b3, b4, b5, b6⟩ := s
  obtain ⟨e1, e2, e3, e4, e5, e6⟩ := e
  have e1 : a1 = b1 := e1
  have e2 : a2 = b2 := e2
  have e3 : a3 = b3 := e3
  have e4 : a4 = b4 := e4
  have e5 : a5 = b5 := e5
  have e6 : a6 = b6 := e6
  subst e1 e2 e3 e4 e5 e6
  exact ht
/- MistCantonModel.undo -/
theorem iv_m242 {vs : List Int} (hv : iv_in [] vs) {h : am_H} (hI : iv_I h) : am_call am_cod 60 242 (.ref 154 :: iv_args 0 [] vs) h (fun v h' => iv_I h' ∧ (∃ x, v = some (.int x)) ∧ tq kr_242 h h') := by
  obtain ⟨N, hN, hW, hX, ha, hc⟩ := hI
  exact am_call.mono (fun _ _ q => ⟨q.1, q.2.1, (q.2.2.2 1 1 (by decide +kernel)).1, (q.2.2.2 154 2 (by decide +kernel)).1, ks_of (by decide +kernel) q.2.2, kr_of (by decide +kernel) q.2.2⟩) (iv_call1 (C := ag_I456.1) rfl (by decide +kernel) (ag_O456 xw_Xk xw_ok) hv hN hW hX ha hc (hW.2.1.1 154 (25, 25, 1, 0, 0, 16) (iv_sgm (o := 154) (s := (25, 25, 1, 0, 0, 16)) (by decide +kernel)) 25 (by decide) (by decide) (by decide)))
/- MistCantonModel.see -/
theorem iv_m266 {vs : List Int} (hv : iv_in [0, 0, 1] vs) {h : am_H} (hI : iv_I h) : am_call am_cod 60 266 (.ref 154 :: iv_args 0 [0, 0, 1] vs) h (fun v h' => iv_I h' ∧ (∃ x, v = some (.int x)) ∧ tq kr_266 h h') := by
  obtain ⟨N, hN, hW, hX, ha, hc⟩ := hI
  exact am_call.mono (fun _ _ q => ⟨q.1, q.2.1, (q.2.2.2 1 1 (by decide +kernel)).1, (q.2.2.2 154 2 (by decide +kernel)).1, ks_of (by decide +kernel) q.2.2, kr_of (by decide +kernel) q.2.2⟩) (iv_call1 (C := ag_I474.1) rfl (by decide +kernel) (ag_O474 xw_Xk xw_ok) hv hN hW hX ha hc (hW.2.1.1 170 (24, 24, 1, 0, 0, 8) (iv_sgm (o := 170) (s := (24, 24, 1, 0, 0, 8)) (by decide +kernel)) 24 (by decide) (by decide) (by decide)))
