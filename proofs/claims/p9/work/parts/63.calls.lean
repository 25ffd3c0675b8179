/-! CALLS FROM OUTSIDE: what holds between two calls is kept -/
/-- kinds of parameters: 0 an int, 1 a boolean, 2 a long -/
def iv_iv (k : Nat) : Int × Int := match k with
  | 0 => (-2147483648, 2147483647)
  | 1 => (0, 1)
  | _ => (-9223372036854775808, 9223372036854775807)
def iv_pv (k : Nat) (f : ag_f) : ag_v := match k with
  | 0 => .inl f
  | 1 => .inl f
  | _ => .inr (.inl f)
def iv_av (k : Nat) (v : Int) : Value := match k with
  | 0 => .int (Int32.ofInt v)
  | 1 => .int (Int32.ofInt v)
  | _ => .long (Int64.ofInt v)
def iv_w (k : Nat) : Nat := match k with
  | 0 => 1
  | 1 => 1
  | _ => 2
def iv_lvs : Nat → Nat → List Nat → ag_l
  | _, _, [] => []
  | i, j, k :: ks => (i, iv_pv k (ag_y j)) :: iv_lvs (i + iv_w k) (j + 1) ks
def iv_dfs : Nat → List Nat → List (Nat × Nat × Nat)
  | _, [] => []
  | i, k :: ks => (0, i, 0) :: iv_dfs (i + iv_w k) ks
/-- the start that the checker's search makes of a call from outside -/
def iv_std (o : Nat) (ks : List Nat) (R : List (Nat × Nat × Nat)) : ag_T := ([(0, 1000), (-1100, 1000), (0, 24)] ++ ks.map iv_iv, iv_dfs 1 ks, (0, .inr (.inr o)) :: iv_lvs 1 3 ks, ([], [], R, [], []))
def iv_args (o : Nat) : List Nat → List Int → List Value
  | k :: ks, v :: vs => iv_av k v :: iv_args o ks vs
  | _, _ => []
def iv_in : List Nat → List Int → Prop
  | [], [] => True
  | k :: ks, v :: vs => ((iv_iv k).1 ≤ v ∧ v ≤ (iv_iv k).2) ∧ iv_in ks vs
  | _, _ => False
def iv_rho (N : Int) (vs : List Int) (j : Nat) : Int := ([N, 0, 0] ++ vs).getD j 0
theorem iv_len : ∀ {ks : List Nat} {vs : List Int}, iv_in ks vs → ks.length = vs.length
  | [], [], _ => rfl
  | k :: ks, v :: vs, h => congrArg (· + 1) (iv_len h.2)
  | [], _ :: _, h => h.elim
  | _ :: _, [], h => h.elim
theorem iv_at : ∀ {ks : List Nat} {vs : List Int}, iv_in ks vs → ∀ (j : Nat) (k : Nat) (v : Int), ks[j]? = some k → vs[j]? = some v → (iv_iv k).1 ≤ v ∧ v ≤ (iv_iv k).2
  | [], [], _, j, k, v, h1, _ => by cases h1
  | k0 :: ks, v0 :: vs, h, 0, k, v, h1, h2 => by
    cases h1
    cases h2
    exact h.1
  | k0 :: ks, v0 :: vs, h, j + 1, k, v, h1, h2 => iv_at h.2 j k v h1 h2
  | [], _ :: _, h, _, _, _, _, _ => h.elim
  | _ :: _, [], h, _, _, _, _, _ => h.elim
theorem iv_lv (N : Int) : ∀ (ks : List Nat) (vs : List Int) (pre : List Int) (i j : Nat), iv_in ks vs → j = 3 + pre.length → ag_cl (iv_rho N (pre ++ vs)) (iv_lvs i j ks) = lv_args i (iv_args 0 ks vs)
  | [], [], _, _, _, _, _ => rfl
  | k :: ks, v :: vs, pre, i, j, h, hj => by
    have e : iv_rho N (pre ++ v :: vs) j = v := by
      unfold iv_rho
      rw [List.getD_eq_getElem?_getD, List.getElem?_append_right (by show 3 ≤ j; omega)]
      have : j - ([N, 0, 0] : List Int).length = pre.length := by show j - 3 = _; omega
      rw [this, List.getElem?_append_right (Nat.le_refl _), Nat.sub_self]
      rfl
    have ih := iv_lv N ks vs (pre ++ [v]) (i + iv_w k) (j + 1) h.2 (by rw [List.length_append]; show j + 1 = 3 + (pre.length + 1); omega)
    rw [List.append_assoc] at ih
    have ec : ag_c (iv_rho N (pre ++ v :: vs)) (iv_pv k (ag_y j)) = iv_av k v := by
      rcases ag_kd3 k with e1 | e1 | ⟨m, e1⟩
      · subst e1; show Value.int (Int32.ofInt (ag_ev _ (ag_y j))) = Value.int (Int32.ofInt v); rw [ag_ev_y, e]
      · subst e1; show Value.int (Int32.ofInt (ag_ev _ (ag_y j))) = Value.int (Int32.ofInt v); rw [ag_ev_y, e]
      · subst e1; show Value.long (Int64.ofInt (ag_ev _ (ag_y j))) = Value.long (Int64.ofInt v); rw [ag_ev_y, e]
    have ew : (if (iv_av k v).category = 2 then i + 2 else i + 1) = i + iv_w k := by
      rcases ag_kd3 k with e1 | e1 | ⟨m, e1⟩
      · subst e1; rfl
      · subst e1; rfl
      · subst e1; rfl
    show (i, ag_c _ (iv_pv k (ag_y j))) :: ag_cl _ (iv_lvs (i + iv_w k) (j + 1) ks) = (i, iv_av k v) :: lv_args (if (iv_av k v).category = 2 then i + 2 else i + 1) (iv_args 0 ks vs)
    rw [ec, ew]
    congr 1
  | [], _ :: _, _, _, _, h, _ => h.elim
  | _ :: _, [], _, _, _, h, _ => h.elim
theorem iv_TS {N : Int} (hN0 : 0 ≤ N) (hN : N ≤ 1000) {o : Nat} {ks : List Nat} {vs : List Int} (hv : iv_in ks vs) {R : List (Nat × Nat × Nat)} {h : am_H} (hR : ∀ q ∈ R, h.2.2.1 q.1 q.2.1 = some q.2.2) : ag_TS (iv_std o ks R) (iv_rho N vs) (lv_args 0 (.ref o :: iv_args 0 ks vs)) h := by
  have hl := iv_len hv
  refine ⟨fun j w hw => ?_, fun j hj => ?_, ?_, fun q hq => absurd hq List.not_mem_nil, fun q hq => absurd hq List.not_mem_nil, hR, fun q hq => absurd hq List.not_mem_nil, fun q hq => absurd hq List.not_mem_nil⟩
  · have hw : (([(0, 1000), (-1100, 1000), (0, 24)] : List (Int × Int)) ++ ks.map iv_iv)[j]? = some w := hw
    match j, hw with
    | 0, hw => cases hw; exact ⟨hN0, hN⟩
    | 1, hw => cases hw; exact (show (-1100 : Int) ≤ 0 ∧ (0 : Int) ≤ 1000 by decide)
    | 2, hw => cases hw; exact (show (0 : Int) ≤ 0 ∧ (0 : Int) ≤ 24 by decide)
    | j + 3, hw =>
      have hw : (ks.map iv_iv)[j]? = some w := hw
      rw [List.getElem?_map] at hw
      cases hk : ks[j]? with
      | none => rw [hk] at hw; cases hw
      | some k =>
        rw [hk] at hw
        have hw := Option.some.inj hw
        have hj : j < vs.length := by rw [← hl]; exact (List.getElem?_eq_some_iff.mp hk).1
        have e1 : vs[j]? = some vs[j] := List.getElem?_eq_getElem hj
        have e2 : iv_rho N vs (j + 3) = vs[j] := by
          show vs.getD j 0 = vs[j]
          rw [List.getD_eq_getElem?_getD, e1]
          rfl
        rw [e2, ← hw]
        exact iv_at hv j k _ hk e1
  · have hj : 3 + ks.length ≤ j := by
      have : (([(0, 1000), (-1100, 1000), (0, 24)] : List (Int × Int)) ++ ks.map iv_iv).length ≤ j := hj
      rw [List.length_append, List.length_map] at this
      exact this
    unfold iv_rho
    rw [List.getD_eq_getElem?_getD, List.getElem?_eq_none (by rw [List.length_append, ← hl]; exact hj)]
    rfl
  · have e := iv_lv N ks vs [] 1 3 hv rfl
    have e2 : ag_cl (iv_rho N vs) ((0, .inr (.inr o)) :: iv_lvs 1 3 ks) = lv_args 0 (.ref o :: iv_args 0 ks vs) := by
      show (0, Value.ref o) :: ag_cl (iv_rho N vs) (iv_lvs 1 3 ks) = (0, Value.ref o) :: lv_args 1 (iv_args 0 ks vs)
      congr 1
    show ag_lR (ag_cl (iv_rho N vs) ((0, .inr (.inr o)) :: iv_lvs 1 3 ks)) _
    rw [e2]
    exact fun q hq => (ag_args_lk _ 0 q hq).2
/-- what may be written leaves alone which canton and week are told, and the place in the tokens -/
def iv_Mk (M : ag_M) : Bool := ag_Mok M && (!(ag_atM M 0 3) && (!(ag_atM M 0 4) && (!(ag_atM M 0 5) && (!(ag_atM M 0 6) && !(ag_atM M 154 7)))))
theorem iv_not {b : Bool} (h : (!b) = true) : b = false := by
  cases b
  · rfl
  · cases h
theorem iv_keep {M : ag_M} (hM : iv_Mk M = true) {N : Int} {h h' : am_H} (hN : N ≤ 1000) (hW : ag_WH ag_DD N h') (hf : ag_fr M h h') (hX : xw_X h) (ha : (h.1 154 7).toInt ≤ N) (hc : (iv_cfg 6 28 h ∨ iv_cfg 6 32 h) ∨ (iv_cfg 17 28 h ∨ iv_cfg 17 32 h)) : iv_I h' := by
  unfold iv_Mk at hM
  rw [Bool.and_eq_true, Bool.and_eq_true, Bool.and_eq_true, Bool.and_eq_true, Bool.and_eq_true] at hM
  obtain ⟨m0, m3, m4, m5, m6, m7⟩ := hM
  have r := fun k hk => (hf.2 0 k hk).2.2
  have c : ∀ a b, iv_cfg a b h → iv_cfg a b h' := fun a b q => ⟨(r 3 (iv_not m3)).trans q.1, (r 4 (iv_not m4)).trans q.2.1, (r 5 (iv_not m5)).trans q.2.2.1, (r 6 (iv_not m6)).trans q.2.2.2⟩
  refine ⟨N, hN, hW, xw_Xk h h' (fun o k hk => (hf.2 o k (ag_Mok_at m0 hk)).1) hX, ?_, ?_⟩
  · rw [(hf.2 154 7 (iv_not m7)).1]
    exact ha
  · rcases hc with (q | q) | (q | q)
    · exact Or.inl (Or.inl (c _ _ q))
    · exact Or.inl (Or.inr (c _ _ q))
    · exact Or.inr (Or.inl (c _ _ q))
    · exact Or.inr (Or.inr (c _ _ q))
/-- an answer that is an int -/
def iv_int1 (C : ag_C) : Bool := C.2.2.2.1.all (fun P => match ag_lv P.2.2.1 1000 with
  | some (.inl _) => true
  | _ => false)
def iv_chk (C : ag_C) (ks : List Nat) : Bool := iv_Mk C.2.2.2.2 && (iv_int1 C && (Nat.ble C.2.1 60 && Nat.ble (1 + (ks.map iv_w).sum) (am_nL C.1)))
theorem iv_sl : ∀ {ks : List Nat} {vs : List Int}, iv_in ks vs → (lg_sl (iv_args 0 ks vs)).length = (ks.map iv_w).sum
  | [], [], _ => rfl
  | k :: ks, v :: vs, h => by
    have ih := iv_sl h.2
    unfold lg_sl at ih ⊢
    show ((iv_av k v :: iv_args 0 ks vs).flatMap _).length = iv_w k + (ks.map iv_w).sum
    rw [List.flatMap_cons, List.length_append, ih]
    congr 1
    rcases ag_kd3 k with e1 | e1 | ⟨m, e1⟩
    · subst e1; rfl
    · subst e1; rfl
    · subst e1; rfl
  | [], _ :: _, h => h.elim
  | _ :: _, [], h => h.elim
theorem iv_al : ∀ {ks : List Nat} {vs : List Int} {i j : Nat}, iv_in ks vs → (iv_args 0 ks vs).length = (iv_lvs i j ks).length
  | [], [], _, _, _ => rfl
  | k :: ks, v :: vs, i, j, h => congrArg (· + 1) (iv_al h.2)
  | [], _ :: _, _, _, h => h.elim
  | _ :: _, [], _, _, h => h.elim
theorem iv_call {C : ag_C} {o : Nat} {ks : List Nat} {R : List (Nat × Nat × Nat)} (s1 : C.2.2.1 = [iv_std o ks R]) (hs : iv_chk C ks = true) (hok : ag_ok ag_DD xw_X C) {vs : List Int} (hv : iv_in ks vs) {N : Int} {h : am_H} (hN : N ≤ 1000) (hW : ag_WH ag_DD N h) (hX : xw_X h) (ha : (h.1 154 7).toInt ≤ N) (hc : (iv_cfg 6 28 h ∨ iv_cfg 6 32 h) ∨ (iv_cfg 17 28 h ∨ iv_cfg 17 32 h)) (hR : ∀ q ∈ R, h.2.2.1 q.1 q.2.1 = some q.2.2) :
    am_call am_cod 60 C.1 (.ref o :: iv_args 0 ks vs) h (fun v h' => iv_I h' ∧ ag_fr C.2.2.2.2 h h' ∧ ∃ x, v = some (.int x)) := by
  unfold iv_chk at hs
  rw [Bool.and_eq_true, Bool.and_eq_true, Bool.and_eq_true] at hs
  obtain ⟨s2, s3, s4, s5⟩ := hs
  have hT : iv_std o ks R ∈ C.2.2.1 := by rw [s1]; exact List.mem_cons_self
  have hlen : (lg_sl (.ref o :: iv_args 0 ks vs)).length ≤ am_nL C.1 := by
    have e : (lg_sl (.ref o :: iv_args 0 ks vs)).length = 1 + (ks.map iv_w).sum := by
      rw [← iv_sl hv]
      unfold lg_sl
      rw [List.flatMap_cons, List.length_append]
      rfl
    rw [e]
    exact Nat.le_of_ble_eq_true s5
  refine am_call.mono (fun v h' q => ?_) (am_call.up (hok _ hT (iv_rho N vs) (.ref o :: iv_args 0 ks vs) h hW hX (iv_TS hW.2.2.1 hN hv hR) hlen (congrArg (· + 1) (iv_al hv))) (Nat.le_of_ble_eq_true s4))
  obtain ⟨q1, q2, P, hP, τ, -, q4, q5⟩ := q
  refine ⟨iv_keep s2 hN q1 q2 hX ha hc, q2, ?_⟩
  have z := List.all_eq_true.mp s3 P hP
  split at z
  · rename_i f hf
    have l := ag_lk_of q4.2.2.1 hf
    cases v with
    | none => cases l
    | some x => exact ⟨Int32.ofInt (ag_ev τ f), l⟩
  · cases z
