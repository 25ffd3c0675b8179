/-! EVERY CALL THAT IS CHECKED KEEPS WHAT HOLDS BETWEEN CALLS -/
/-- the tapes' signs, the reference's words, the script's length stay; tq, tz: the tapes' lengths -/
def ks (h h' : am_H) : Prop := (∀ q, h'.1 2 q = h.1 2 q) ∧ (∀ q, h'.1 155 q = h.1 155 q) ∧ (∀ q, h'.2.1 159 q = h.2.1 159 q) ∧ h'.2.2.2 = h.2.2.2
def kM (M : ag_M) : Bool := M.all (fun e => !(Nat.beq e.1 2) && (!(Nat.beq e.1 155) && !(Nat.beq e.1 159)))
theorem kM_at {M : ag_M} {o : Nat} (hM : M.all (fun e => !(Nat.beq e.1 o)) = true) (q : Nat) : ag_atM M o q = false := by
  unfold ag_atM
  rw [List.any_eq_false]
  intro e he
  have w := List.all_eq_true.mp hM e he
  cases hb : Nat.beq e.1 o with
  | true => rw [hb] at w; cases w
  | false => simp [hb]
theorem ks_of {M : ag_M} {h h' : am_H} (hM : kM M = true) (f : ag_fr M h h') : ks h h' := by
  have w := List.all_eq_true.mp hM
  have m2 : M.all (fun e => !(Nat.beq e.1 2)) = true := List.all_eq_true.mpr (fun e he => (Bool.and_eq_true_iff.mp (w e he)).1)
  have m3 : M.all (fun e => !(Nat.beq e.1 155)) = true := List.all_eq_true.mpr (fun e he => (Bool.and_eq_true_iff.mp (Bool.and_eq_true_iff.mp (w e he)).2).1)
  have m4 : M.all (fun e => !(Nat.beq e.1 159)) = true := List.all_eq_true.mpr (fun e he => (Bool.and_eq_true_iff.mp (Bool.and_eq_true_iff.mp (w e he)).2).2)
  exact ⟨fun q => (f.2 2 q (kM_at m2 q)).1, fun q => (f.2 155 q (kM_at m3 q)).1, fun q => (f.2 159 q (kM_at m4 q)).2.1, f.1⟩
/-- the marks stay -/
def km (h h' : am_H) : Prop := (h'.1 130 0 = h.1 130 0 ∧ h'.1 136 0 = h.1 136 0 ∧ h'.1 142 0 = h.1 142 0 ∧ h'.1 148 0 = h.1 148 0) ∧ (h'.1 171 0 = h.1 171 0 ∧ h'.1 171 1 = h.1 171 1 ∧ h'.1 171 2 = h.1 171 2 ∧ h'.1 171 3 = h.1 171 3)
def kmM (M : ag_M) : Bool := [(130, 0), (136, 0), (142, 0), (148, 0), (171, 0), (171, 1), (171, 2), (171, 3)].all (fun q => !(ag_atM M q.1 q.2))
theorem km_of {M : ag_M} {h h' : am_H} (hM : kmM M = true) (f : ag_fr M h h') : km h h' := by
  have w : ∀ q : Nat × Nat, q ∈ ([(130, 0), (136, 0), (142, 0), (148, 0), (171, 0), (171, 1), (171, 2), (171, 3)] : List (Nat × Nat)) → h'.1 q.1 q.2 = h.1 q.1 q.2 := fun q hq => (f.2 q.1 q.2 (by
    have := List.all_eq_true.mp hM q hq
    cases hb : ag_atM M q.1 q.2 with
    | true => rw [hb] at this; cases this
    | false => rfl)).1
  exact ⟨⟨w (130, 0) (by decide), w (136, 0) (by decide), w (142, 0) (by decide), w (148, 0) (by decide)⟩, w (171, 0) (by decide), w (171, 1) (by decide), w (171, 2) (by decide), w (171, 3) (by decide)⟩
def tqm (h h' : am_H) : Prop := h'.1 1 1 = h.1 1 1 ∧ h'.1 154 2 = h.1 154 2 ∧ ks h h'
def tq (h h' : am_H) : Prop := h'.1 1 1 = h.1 1 1 ∧ h'.1 154 2 = h.1 154 2 ∧ ks h h' ∧ km h h'
def tz (h h' : am_H) : Prop := h'.1 1 1 = 0 ∧ h'.1 154 2 = h.1 154 2 ∧ ks h h'
def tzw (h h' : am_H) : Prop := h'.1 1 1 = 0 ∧ h'.1 154 2 = h.1 154 2 ∧ ks h h' ∧ km h h'
def iv_p3 (h : am_H) : Prop := (h.2.2.1 0 3 = some 6 ∧ h.2.2.1 0 4 = some 17) ∨ (h.2.2.1 0 3 = some 17 ∧ h.2.2.1 0 4 = some 6)
def iv_p5 (h : am_H) : Prop := (h.2.2.1 0 5 = some 28 ∧ h.2.2.1 0 6 = some 32) ∨ (h.2.2.1 0 5 = some 32 ∧ h.2.2.1 0 6 = some 28)
theorem iv_p_of {h : am_H} (hc : (iv_cfg 6 28 h ∨ iv_cfg 6 32 h) ∨ (iv_cfg 17 28 h ∨ iv_cfg 17 32 h)) : iv_p3 h ∧ iv_p5 h := by
  rcases hc with (q | q) | (q | q)
  · exact ⟨Or.inl ⟨q.1, q.2.1⟩, Or.inl ⟨q.2.2.1, q.2.2.2⟩⟩
  · exact ⟨Or.inl ⟨q.1, q.2.1⟩, Or.inr ⟨q.2.2.1, q.2.2.2⟩⟩
  · exact ⟨Or.inr ⟨q.1, q.2.1⟩, Or.inl ⟨q.2.2.1, q.2.2.2⟩⟩
  · exact ⟨Or.inr ⟨q.1, q.2.1⟩, Or.inr ⟨q.2.2.1, q.2.2.2⟩⟩
theorem iv_of_p {h : am_H} (h3 : iv_p3 h) (h5 : iv_p5 h) : (iv_cfg 6 28 h ∨ iv_cfg 6 32 h) ∨ (iv_cfg 17 28 h ∨ iv_cfg 17 32 h) := by
  rcases h3 with a | a
  · rcases h5 with b | b
    · exact Or.inl (Or.inl ⟨a.1, a.2, b.1, b.2⟩)
    · exact Or.inl (Or.inr ⟨a.1, a.2, b.1, b.2⟩)
  · rcases h5 with b | b
    · exact Or.inr (Or.inl ⟨a.1, a.2, b.1, b.2⟩)
    · exact Or.inr (Or.inr ⟨a.1, a.2, b.1, b.2⟩)
def iv_pr (P : ag_T) (k a b : Nat) : Bool := decide ((0, k, a) ∈ P.2.2.2.2.2.1) && decide ((0, k + 1, b) ∈ P.2.2.2.2.2.1)
def iv_Mt (M : ag_M) (k : Nat) : Bool := ag_Mok M && (!(ag_atM M 0 k) && (!(ag_atM M 0 (k + 1)) && !(ag_atM M 154 7)))
def iv_chkt (C : ag_C) (ks : List Nat) (j k a b : Nat) : Bool := (!(ag_atM C.2.2.2.2 154 2) && (kM C.2.2.2.2 && C.2.2.2.1.all (fun P => decide ((1, 1, (([], 0) : ag_f)) ∈ P.2.2.2.1)))) && (iv_Mt C.2.2.2.2 k && (C.2.2.2.1.all (fun P => iv_pr P j a b || iv_pr P j b a) && (iv_int1 C && (Nat.ble C.2.1 60 && Nat.ble (1 + (ks.map iv_w).sum) (am_nL C.1)))))
theorem iv_turn {C : ag_C} {o : Nat} {ks : List Nat} {R : List (Nat × Nat × Nat)} {j k a b : Nat} (s1 : C.2.2.1 = [iv_std o ks R]) (hs : iv_chkt C ks j k a b = true) (hok : ag_ok ag_DD xw_X C) {vs : List Int} (hv : iv_in ks vs) {N : Int} {h : am_H} (hN : N ≤ 1000) (hW : ag_WH ag_DD N h) (hX : xw_X h) (ha : (h.1 154 7).toInt ≤ N) (hR : ∀ q ∈ R, h.2.2.1 q.1 q.2.1 = some q.2.2) :
    am_call am_cod 60 C.1 (.ref o :: iv_args 0 ks vs) h (fun v h' => (∃ N : Int, N ≤ 1000 ∧ ag_WH ag_DD N h' ∧ xw_X h' ∧ (h'.1 154 7).toInt ≤ N) ∧ (h'.2.2.1 0 k = h.2.2.1 0 k ∧ h'.2.2.1 0 (k + 1) = h.2.2.1 0 (k + 1)) ∧ ((h'.2.2.1 0 j = some a ∧ h'.2.2.1 0 (j + 1) = some b) ∨ (h'.2.2.1 0 j = some b ∧ h'.2.2.1 0 (j + 1) = some a)) ∧ (∃ x, v = some (.int x)) ∧ tz h h' ∧ ag_fr C.2.2.2.2 h h') := by
  unfold iv_chkt at hs
  rw [Bool.and_eq_true, Bool.and_eq_true, Bool.and_eq_true, Bool.and_eq_true, Bool.and_eq_true, Bool.and_eq_true, Bool.and_eq_true] at hs
  obtain ⟨⟨s8, s7, s9⟩, s2, s6, s3, s4, s5⟩ := hs
  unfold iv_Mt at s2
  rw [Bool.and_eq_true, Bool.and_eq_true, Bool.and_eq_true] at s2
  obtain ⟨m0, m1, m2, m7⟩ := s2
  have hT : iv_std o ks R ∈ C.2.2.1 := by rw [s1]; exact List.mem_cons_self
  have hlen : (lg_sl (.ref o :: iv_args 0 ks vs)).length ≤ am_nL C.1 := by
    have e : (lg_sl (.ref o :: iv_args 0 ks vs)).length = 1 + (ks.map iv_w).sum := by
      rw [← iv_sl hv]
      unfold lg_sl
      rw [List.flatMap_cons, List.length_append]
      rfl
    rw [e]
    exact Nat.le_of_ble_eq_true s5
  refine am_call.mono (fun v h' q => ?_) (am_call.up (hok _ hT (iv_rho N vs) (.ref o :: iv_args 0 ks vs) h hW hX (iv_TS hW.2.2.1 hN hv hR) hlen (congrArg (· + 1) (iv_al hv))) (Nat.le_of_ble_eq_true s4))
  obtain ⟨q1, q2, P, hP, τ, -, q4, q5⟩ := q
  have r := fun k hk => (q2.2 0 k hk).2.2
  refine ⟨⟨N, hN, q1, xw_Xk h h' (fun o k hk => (q2.2 o k (ag_Mok_at m0 hk)).1) hX, by rw [(q2.2 154 7 (iv_not m7)).1]; exact ha⟩, ⟨r k (iv_not m1), r (k + 1) (iv_not m2)⟩, ?_, ?_, ⟨?_, (q2.2 154 2 (iv_not s8)).1, ks_of s7 q2⟩, q2⟩
  · have z := List.all_eq_true.mp s6 P hP
    have g := q4.2.2.2.2.2.1
    rcases Bool.or_eq_true_iff.mp z with z | z
    · unfold iv_pr at z
      rw [Bool.and_eq_true, decide_eq_true_eq, decide_eq_true_eq] at z
      exact Or.inl ⟨g _ z.1, g _ z.2⟩
    · unfold iv_pr at z
      rw [Bool.and_eq_true, decide_eq_true_eq, decide_eq_true_eq] at z
      exact Or.inr ⟨g _ z.1, g _ z.2⟩
  · have z := List.all_eq_true.mp s3 P hP
    split at z
    · rename_i f hf
      have l := ag_lk_of q4.2.2.1 hf
      cases v with
      | none => cases l
      | some x => exact ⟨Int32.ofInt (ag_ev τ f), l⟩
    · cases z
  · have z := of_decide_eq_true (List.all_eq_true.mp s9 P hP)
    exact q4.2.2.2.1 _ z
theorem iv_turn3 {C : ag_C} {o : Nat} {ks : List Nat} {R : List (Nat × Nat × Nat)} (s1 : C.2.2.1 = [iv_std o ks R]) (hs : iv_chkt C ks 3 5 6 17 = true) (hok : ag_ok ag_DD xw_X C) {vs : List Int} (hv : iv_in ks vs) {N : Int} {h : am_H} (hN : N ≤ 1000) (hW : ag_WH ag_DD N h) (hX : xw_X h) (ha : (h.1 154 7).toInt ≤ N) (hc : (iv_cfg 6 28 h ∨ iv_cfg 6 32 h) ∨ (iv_cfg 17 28 h ∨ iv_cfg 17 32 h)) (hR : ∀ q ∈ R, h.2.2.1 q.1 q.2.1 = some q.2.2) :
    am_call am_cod 60 C.1 (.ref o :: iv_args 0 ks vs) h (fun v h' => iv_I h' ∧ (∃ x, v = some (.int x)) ∧ tz h h' ∧ ag_fr C.2.2.2.2 h h') := by
  refine am_call.mono (fun v h' q => ?_) (iv_turn s1 hs hok hv hN hW hX ha hR)
  obtain ⟨⟨N', n1, n2, n3, n4⟩, ⟨e5, e6⟩, e3, ex⟩ := q
  refine ⟨⟨N', n1, n2, n3, n4, iv_of_p e3 ?_⟩, ex⟩
  unfold iv_p5
  rw [e5, e6]
  exact (iv_p_of hc).2
theorem iv_turn5 {C : ag_C} {o : Nat} {ks : List Nat} {R : List (Nat × Nat × Nat)} (s1 : C.2.2.1 = [iv_std o ks R]) (hs : iv_chkt C ks 5 3 28 32 = true) (hok : ag_ok ag_DD xw_X C) {vs : List Int} (hv : iv_in ks vs) {N : Int} {h : am_H} (hN : N ≤ 1000) (hW : ag_WH ag_DD N h) (hX : xw_X h) (ha : (h.1 154 7).toInt ≤ N) (hc : (iv_cfg 6 28 h ∨ iv_cfg 6 32 h) ∨ (iv_cfg 17 28 h ∨ iv_cfg 17 32 h)) (hR : ∀ q ∈ R, h.2.2.1 q.1 q.2.1 = some q.2.2) :
    am_call am_cod 60 C.1 (.ref o :: iv_args 0 ks vs) h (fun v h' => iv_I h' ∧ (∃ x, v = some (.int x)) ∧ tz h h' ∧ ag_fr C.2.2.2.2 h h') := by
  refine am_call.mono (fun v h' q => ?_) (iv_turn s1 hs hok hv hN hW hX ha hR)
  obtain ⟨⟨N', n1, n2, n3, n4⟩, ⟨e3, e4⟩, e5, ex⟩ := q
  refine ⟨⟨N', n1, n2, n3, n4, iv_of_p ?_ e5⟩, ex⟩
  unfold iv_p3
  rw [e3, e4]
  exact (iv_p_of hc).1
/- MistCanton.canton -/
theorem iv_m14 {vs : List Int} (hv : iv_in [] vs) {h : am_H} (hI : iv_I h) : am_call am_cod 60 14 (.ref 0 :: iv_args 0 [] vs) h (fun v h' => iv_I h' ∧ (∃ x, v = some (.int x)) ∧ tz h h') := by
  obtain ⟨N, hN, hW, hX, ha, hc⟩ := hI
  rcases id hc with (c | c) | (c | c)
  · exact am_call.mono (fun _ _ q => ⟨q.1, q.2.1, q.2.2.1⟩) (iv_turn3 (C := ag_I121.1) rfl (by decide +kernel) (ag_O121 xw_Xk xw_ok) hv hN hW hX ha hc (List.forall_mem_cons.mpr ⟨c.1, List.forall_mem_cons.mpr ⟨c.2.1, List.forall_mem_cons.mpr ⟨c.2.2.1, List.forall_mem_cons.mpr ⟨c.2.2.2, fun _ h => absurd h List.not_mem_nil⟩⟩⟩⟩))
  · exact am_call.mono (fun _ _ q => ⟨q.1, q.2.1, q.2.2.1⟩) (iv_turn3 (C := ag_I123.1) rfl (by decide +kernel) (ag_O123 xw_Xk xw_ok) hv hN hW hX ha hc (List.forall_mem_cons.mpr ⟨c.1, List.forall_mem_cons.mpr ⟨c.2.1, List.forall_mem_cons.mpr ⟨c.2.2.1, List.forall_mem_cons.mpr ⟨c.2.2.2, fun _ h => absurd h List.not_mem_nil⟩⟩⟩⟩))
  · exact am_call.mono (fun _ _ q => ⟨q.1, q.2.1, q.2.2.1⟩) (iv_turn3 (C := ag_I199.1) rfl (by decide +kernel) (ag_O199 xw_Xk xw_ok) hv hN hW hX ha hc (List.forall_mem_cons.mpr ⟨c.1, List.forall_mem_cons.mpr ⟨c.2.1, List.forall_mem_cons.mpr ⟨c.2.2.1, List.forall_mem_cons.mpr ⟨c.2.2.2, fun _ h => absurd h List.not_mem_nil⟩⟩⟩⟩))
  · exact am_call.mono (fun _ _ q => ⟨q.1, q.2.1, q.2.2.1⟩) (iv_turn3 (C := ag_I201.1) rfl (by decide +kernel) (ag_O201 xw_Xk xw_ok) hv hN hW hX ha hc (List.forall_mem_cons.mpr ⟨c.1, List.forall_mem_cons.mpr ⟨c.2.1, List.forall_mem_cons.mpr ⟨c.2.2.1, List.forall_mem_cons.mpr ⟨c.2.2.2, fun _ h => absurd h List.not_mem_nil⟩⟩⟩⟩))
/- MistCanton.week -/
theorem iv_m80 {vs : List Int} (hv : iv_in [] vs) {h : am_H} (hI : iv_I h) : am_call am_cod 60 80 (.ref 0 :: iv_args 0 [] vs) h (fun v h' => iv_I h' ∧ (∃ x, v = some (.int x)) ∧ tzw h h') := by
  obtain ⟨N, hN, hW, hX, ha, hc⟩ := hI
  rcases id hc with (c | c) | (c | c)
  · exact am_call.mono (fun _ _ q => ⟨q.1, q.2.1, q.2.2.1.1, q.2.2.1.2.1, q.2.2.1.2.2, km_of (by decide +kernel) q.2.2.2⟩) (iv_turn5 (C := ag_I212.1) rfl (by decide +kernel) (ag_O212 xw_Xk xw_ok) hv hN hW hX ha hc (List.forall_mem_cons.mpr ⟨c.1, List.forall_mem_cons.mpr ⟨c.2.1, List.forall_mem_cons.mpr ⟨c.2.2.1, List.forall_mem_cons.mpr ⟨c.2.2.2, fun _ h => absurd h List.not_mem_nil⟩⟩⟩⟩))
  · exact am_call.mono (fun _ _ q => ⟨q.1, q.2.1, q.2.2.1.1, q.2.2.1.2.1, q.2.2.1.2.2, km_of (by decide +kernel) q.2.2.2⟩) (iv_turn5 (C := ag_I219.1) rfl (by decide +kernel) (ag_O219 xw_Xk xw_ok) hv hN hW hX ha hc (List.forall_mem_cons.mpr ⟨c.1, List.forall_mem_cons.mpr ⟨c.2.1, List.forall_mem_cons.mpr ⟨c.2.2.1, List.forall_mem_cons.mpr ⟨c.2.2.2, fun _ h => absurd h List.not_mem_nil⟩⟩⟩⟩))
  · exact am_call.mono (fun _ _ q => ⟨q.1, q.2.1, q.2.2.1.1, q.2.2.1.2.1, q.2.2.1.2.2, km_of (by decide +kernel) q.2.2.2⟩) (iv_turn5 (C := ag_I224.1) rfl (by decide +kernel) (ag_O224 xw_Xk xw_ok) hv hN hW hX ha hc (List.forall_mem_cons.mpr ⟨c.1, List.forall_mem_cons.mpr ⟨c.2.1, List.forall_mem_cons.mpr ⟨c.2.2.1, List.forall_mem_cons.mpr ⟨c.2.2.2, fun _ h => absurd h List.not_mem_nil⟩⟩⟩⟩))
  · exact am_call.mono (fun _ _ q => ⟨q.1, q.2.1, q.2.2.1.1, q.2.2.1.2.1, q.2.2.1.2.2, km_of (by decide +kernel) q.2.2.2⟩) (iv_turn5 (C := ag_I229.1) rfl (by decide +kernel) (ag_O229 xw_Xk xw_ok) hv hN hW hX ha hc (List.forall_mem_cons.mpr ⟨c.1, List.forall_mem_cons.mpr ⟨c.2.1, List.forall_mem_cons.mpr ⟨c.2.2.1, List.forall_mem_cons.mpr ⟨c.2.2.2, fun _ h => absurd h List.not_mem_nil⟩⟩⟩⟩))
/- MistCanton.person -/
theorem iv_m86 {vs : List Int} (hv : iv_in [0, 0] vs) {h : am_H} (hI : iv_I h) : am_call am_cod 60 86 (.ref 0 :: iv_args 0 [0, 0] vs) h (fun v h' => iv_I h' ∧ (∃ x, v = some (.int x)) ∧ tq h h') := by
  obtain ⟨N, hN, hW, hX, ha, hc⟩ := hI
  rcases id hc with (c | c) | (c | c)
  · exact am_call.mono (fun _ _ q => ⟨q.1, q.2.2, (q.2.1.2 1 1 (by decide +kernel)).1, (q.2.1.2 154 2 (by decide +kernel)).1, ks_of (by decide +kernel) q.2.1, km_of (by decide +kernel) q.2.1⟩) (iv_call (C := ag_I231.1) rfl (by decide +kernel) (ag_O231 xw_Xk xw_ok) hv hN hW hX ha hc (List.forall_mem_cons.mpr ⟨c.1, fun _ h => absurd h List.not_mem_nil⟩))
  · exact am_call.mono (fun _ _ q => ⟨q.1, q.2.2, (q.2.1.2 1 1 (by decide +kernel)).1, (q.2.1.2 154 2 (by decide +kernel)).1, ks_of (by decide +kernel) q.2.1, km_of (by decide +kernel) q.2.1⟩) (iv_call (C := ag_I231.1) rfl (by decide +kernel) (ag_O231 xw_Xk xw_ok) hv hN hW hX ha hc (List.forall_mem_cons.mpr ⟨c.1, fun _ h => absurd h List.not_mem_nil⟩))
  · exact am_call.mono (fun _ _ q => ⟨q.1, q.2.2, (q.2.1.2 1 1 (by decide +kernel)).1, (q.2.1.2 154 2 (by decide +kernel)).1, ks_of (by decide +kernel) q.2.1, km_of (by decide +kernel) q.2.1⟩) (iv_call (C := ag_I233.1) rfl (by decide +kernel) (ag_O233 xw_Xk xw_ok) hv hN hW hX ha hc (List.forall_mem_cons.mpr ⟨c.1, fun _ h => absurd h List.not_mem_nil⟩))
  · exact am_call.mono (fun _ _ q => ⟨q.1, q.2.2, (q.2.1.2 1 1 (by decide +kernel)).1, (q.2.1.2 154 2 (by decide +kernel)).1, ks_of (by decide +kernel) q.2.1, km_of (by decide +kernel) q.2.1⟩) (iv_call (C := ag_I233.1) rfl (by decide +kernel) (ag_O233 xw_Xk xw_ok) hv hN hW hX ha hc (List.forall_mem_cons.mpr ⟨c.1, fun _ h => absurd h List.not_mem_nil⟩))
/- MistCanton.event -/
theorem iv_m92 {vs : List Int} (hv : iv_in [0, 0] vs) {h : am_H} (hI : iv_I h) : am_call am_cod 60 92 (.ref 0 :: iv_args 0 [0, 0] vs) h (fun v h' => iv_I h' ∧ (∃ x, v = some (.int x)) ∧ tq h h') := by
  obtain ⟨N, hN, hW, hX, ha, hc⟩ := hI
  rcases id hc with (c | c) | (c | c)
  · exact am_call.mono (fun _ _ q => ⟨q.1, q.2.2, (q.2.1.2 1 1 (by decide +kernel)).1, (q.2.1.2 154 2 (by decide +kernel)).1, ks_of (by decide +kernel) q.2.1, km_of (by decide +kernel) q.2.1⟩) (iv_call (C := ag_I234.1) rfl (by decide +kernel) (ag_O234 xw_Xk xw_ok) hv hN hW hX ha hc (List.forall_mem_cons.mpr ⟨c.1, fun _ h => absurd h List.not_mem_nil⟩))
  · exact am_call.mono (fun _ _ q => ⟨q.1, q.2.2, (q.2.1.2 1 1 (by decide +kernel)).1, (q.2.1.2 154 2 (by decide +kernel)).1, ks_of (by decide +kernel) q.2.1, km_of (by decide +kernel) q.2.1⟩) (iv_call (C := ag_I234.1) rfl (by decide +kernel) (ag_O234 xw_Xk xw_ok) hv hN hW hX ha hc (List.forall_mem_cons.mpr ⟨c.1, fun _ h => absurd h List.not_mem_nil⟩))
  · exact am_call.mono (fun _ _ q => ⟨q.1, q.2.2, (q.2.1.2 1 1 (by decide +kernel)).1, (q.2.1.2 154 2 (by decide +kernel)).1, ks_of (by decide +kernel) q.2.1, km_of (by decide +kernel) q.2.1⟩) (iv_call (C := ag_I235.1) rfl (by decide +kernel) (ag_O235 xw_Xk xw_ok) hv hN hW hX ha hc (List.forall_mem_cons.mpr ⟨c.1, fun _ h => absurd h List.not_mem_nil⟩))
  · exact am_call.mono (fun _ _ q => ⟨q.1, q.2.2, (q.2.1.2 1 1 (by decide +kernel)).1, (q.2.1.2 154 2 (by decide +kernel)).1, ks_of (by decide +kernel) q.2.1, km_of (by decide +kernel) q.2.1⟩) (iv_call (C := ag_I235.1) rfl (by decide +kernel) (ag_O235 xw_Xk xw_ok) hv hN hW hX ha hc (List.forall_mem_cons.mpr ⟨c.1, fun _ h => absurd h List.not_mem_nil⟩))
/- MistCanton.count -/
theorem iv_m94 {vs : List Int} (hv : iv_in [0] vs) {h : am_H} (hI : iv_I h) : am_call am_cod 60 94 (.ref 0 :: iv_args 0 [0] vs) h (fun v h' => iv_I h' ∧ (∃ x, v = some (.int x)) ∧ tq h h') := by
  obtain ⟨N, hN, hW, hX, ha, hc⟩ := hI
  rcases id hc with (c | c) | (c | c)
  · exact am_call.mono (fun _ _ q => ⟨q.1, q.2.2, (q.2.1.2 1 1 (by decide +kernel)).1, (q.2.1.2 154 2 (by decide +kernel)).1, ks_of (by decide +kernel) q.2.1, km_of (by decide +kernel) q.2.1⟩) (iv_call (C := ag_I392.1) rfl (by decide +kernel) (ag_O392 xw_Xk xw_ok) hv hN hW hX ha hc (List.forall_mem_cons.mpr ⟨c.1, List.forall_mem_cons.mpr ⟨c.2.1, List.forall_mem_cons.mpr ⟨c.2.2.1, List.forall_mem_cons.mpr ⟨c.2.2.2, fun _ h => absurd h List.not_mem_nil⟩⟩⟩⟩))
  · exact am_call.mono (fun _ _ q => ⟨q.1, q.2.2, (q.2.1.2 1 1 (by decide +kernel)).1, (q.2.1.2 154 2 (by decide +kernel)).1, ks_of (by decide +kernel) q.2.1, km_of (by decide +kernel) q.2.1⟩) (iv_call (C := ag_I393.1) rfl (by decide +kernel) (ag_O393 xw_Xk xw_ok) hv hN hW hX ha hc (List.forall_mem_cons.mpr ⟨c.1, List.forall_mem_cons.mpr ⟨c.2.1, List.forall_mem_cons.mpr ⟨c.2.2.1, List.forall_mem_cons.mpr ⟨c.2.2.2, fun _ h => absurd h List.not_mem_nil⟩⟩⟩⟩))
  · exact am_call.mono (fun _ _ q => ⟨q.1, q.2.2, (q.2.1.2 1 1 (by decide +kernel)).1, (q.2.1.2 154 2 (by decide +kernel)).1, ks_of (by decide +kernel) q.2.1, km_of (by decide +kernel) q.2.1⟩) (iv_call (C := ag_I394.1) rfl (by decide +kernel) (ag_O394 xw_Xk xw_ok) hv hN hW hX ha hc (List.forall_mem_cons.mpr ⟨c.1, List.forall_mem_cons.mpr ⟨c.2.1, List.forall_mem_cons.mpr ⟨c.2.2.1, List.forall_mem_cons.mpr ⟨c.2.2.2, fun _ h => absurd h List.not_mem_nil⟩⟩⟩⟩))
  · exact am_call.mono (fun _ _ q => ⟨q.1, q.2.2, (q.2.1.2 1 1 (by decide +kernel)).1, (q.2.1.2 154 2 (by decide +kernel)).1, ks_of (by decide +kernel) q.2.1, km_of (by decide +kernel) q.2.1⟩) (iv_call (C := ag_I395.1) rfl (by decide +kernel) (ag_O395 xw_Xk xw_ok) hv hN hW hX ha hc (List.forall_mem_cons.mpr ⟨c.1, List.forall_mem_cons.mpr ⟨c.2.1, List.forall_mem_cons.mpr ⟨c.2.2.1, List.forall_mem_cons.mpr ⟨c.2.2.2, fun _ h => absurd h List.not_mem_nil⟩⟩⟩⟩))
/- MistCanton.day -/
theorem iv_m97 {vs : List Int} (hv : iv_in [] vs) {h : am_H} (hI : iv_I h) : am_call am_cod 60 97 (.ref 0 :: iv_args 0 [] vs) h (fun v h' => iv_I h' ∧ (∃ x, v = some (.int x)) ∧ tq h h') := by
  obtain ⟨N, hN, hW, hX, ha, hc⟩ := hI
  rcases id hc with (c | c) | (c | c)
  · exact am_call.mono (fun _ _ q => ⟨q.1, q.2.2, (q.2.1.2 1 1 (by decide +kernel)).1, (q.2.1.2 154 2 (by decide +kernel)).1, ks_of (by decide +kernel) q.2.1, km_of (by decide +kernel) q.2.1⟩) (iv_call (C := ag_I257.1) rfl (by decide +kernel) (ag_O257 xw_Xk xw_ok) hv hN hW hX ha hc (List.forall_mem_cons.mpr ⟨c.1, fun _ h => absurd h List.not_mem_nil⟩))
  · exact am_call.mono (fun _ _ q => ⟨q.1, q.2.2, (q.2.1.2 1 1 (by decide +kernel)).1, (q.2.1.2 154 2 (by decide +kernel)).1, ks_of (by decide +kernel) q.2.1, km_of (by decide +kernel) q.2.1⟩) (iv_call (C := ag_I257.1) rfl (by decide +kernel) (ag_O257 xw_Xk xw_ok) hv hN hW hX ha hc (List.forall_mem_cons.mpr ⟨c.1, fun _ h => absurd h List.not_mem_nil⟩))
  · exact am_call.mono (fun _ _ q => ⟨q.1, q.2.2, (q.2.1.2 1 1 (by decide +kernel)).1, (q.2.1.2 154 2 (by decide +kernel)).1, ks_of (by decide +kernel) q.2.1, km_of (by decide +kernel) q.2.1⟩) (iv_call (C := ag_I262.1) rfl (by decide +kernel) (ag_O262 xw_Xk xw_ok) hv hN hW hX ha hc (List.forall_mem_cons.mpr ⟨c.1, fun _ h => absurd h List.not_mem_nil⟩))
  · exact am_call.mono (fun _ _ q => ⟨q.1, q.2.2, (q.2.1.2 1 1 (by decide +kernel)).1, (q.2.1.2 154 2 (by decide +kernel)).1, ks_of (by decide +kernel) q.2.1, km_of (by decide +kernel) q.2.1⟩) (iv_call (C := ag_I262.1) rfl (by decide +kernel) (ag_O262 xw_Xk xw_ok) hv hN hW hX ha hc (List.forall_mem_cons.mpr ⟨c.1, fun _ h => absurd h List.not_mem_nil⟩))
/- MistCanton.lot -/
theorem iv_m109 {vs : List Int} (hv : iv_in [0, 0] vs) {h : am_H} (hI : iv_I h) : am_call am_cod 60 109 (.ref 0 :: iv_args 0 [0, 0] vs) h (fun v h' => iv_I h' ∧ (∃ x, v = some (.int x)) ∧ tq h h') := by
  obtain ⟨N, hN, hW, hX, ha, hc⟩ := hI
  rcases id hc with (c | c) | (c | c)
  · exact am_call.mono (fun _ _ q => ⟨q.1, q.2.2, (q.2.1.2 1 1 (by decide +kernel)).1, (q.2.1.2 154 2 (by decide +kernel)).1, ks_of (by decide +kernel) q.2.1, km_of (by decide +kernel) q.2.1⟩) (iv_call (C := ag_I263.1) rfl (by decide +kernel) (ag_O263 xw_Xk xw_ok) hv hN hW hX ha hc (List.forall_mem_cons.mpr ⟨c.1, fun _ h => absurd h List.not_mem_nil⟩))
  · exact am_call.mono (fun _ _ q => ⟨q.1, q.2.2, (q.2.1.2 1 1 (by decide +kernel)).1, (q.2.1.2 154 2 (by decide +kernel)).1, ks_of (by decide +kernel) q.2.1, km_of (by decide +kernel) q.2.1⟩) (iv_call (C := ag_I263.1) rfl (by decide +kernel) (ag_O263 xw_Xk xw_ok) hv hN hW hX ha hc (List.forall_mem_cons.mpr ⟨c.1, fun _ h => absurd h List.not_mem_nil⟩))
  · exact am_call.mono (fun _ _ q => ⟨q.1, q.2.2, (q.2.1.2 1 1 (by decide +kernel)).1, (q.2.1.2 154 2 (by decide +kernel)).1, ks_of (by decide +kernel) q.2.1, km_of (by decide +kernel) q.2.1⟩) (iv_call (C := ag_I264.1) rfl (by decide +kernel) (ag_O264 xw_Xk xw_ok) hv hN hW hX ha hc (List.forall_mem_cons.mpr ⟨c.1, fun _ h => absurd h List.not_mem_nil⟩))
  · exact am_call.mono (fun _ _ q => ⟨q.1, q.2.2, (q.2.1.2 1 1 (by decide +kernel)).1, (q.2.1.2 154 2 (by decide +kernel)).1, ks_of (by decide +kernel) q.2.1, km_of (by decide +kernel) q.2.1⟩) (iv_call (C := ag_I264.1) rfl (by decide +kernel) (ag_O264 xw_Xk xw_ok) hv hN hW hX ha hc (List.forall_mem_cons.mpr ⟨c.1, fun _ h => absurd h List.not_mem_nil⟩))
/- MistCanton.ask -/
theorem iv_m110 {vs : List Int} (hv : iv_in [0] vs) {h : am_H} (hI : iv_I h) : am_call am_cod 60 110 (.ref 0 :: iv_args 0 [0] vs) h (fun v h' => iv_I h' ∧ (∃ x, v = some (.int x)) ∧ tq h h') := by
  obtain ⟨N, hN, hW, hX, ha, hc⟩ := hI
  rcases id hc with (c | c) | (c | c)
  · exact am_call.mono (fun _ _ q => ⟨q.1, q.2.2, (q.2.1.2 1 1 (by decide +kernel)).1, (q.2.1.2 154 2 (by decide +kernel)).1, ks_of (by decide +kernel) q.2.1, km_of (by decide +kernel) q.2.1⟩) (iv_call (C := ag_I265.1) rfl (by decide +kernel) (ag_O265 xw_Xk xw_ok) hv hN hW hX ha hc (List.forall_mem_cons.mpr ⟨c.1, fun _ h => absurd h List.not_mem_nil⟩))
  · exact am_call.mono (fun _ _ q => ⟨q.1, q.2.2, (q.2.1.2 1 1 (by decide +kernel)).1, (q.2.1.2 154 2 (by decide +kernel)).1, ks_of (by decide +kernel) q.2.1, km_of (by decide +kernel) q.2.1⟩) (iv_call (C := ag_I265.1) rfl (by decide +kernel) (ag_O265 xw_Xk xw_ok) hv hN hW hX ha hc (List.forall_mem_cons.mpr ⟨c.1, fun _ h => absurd h List.not_mem_nil⟩))
  · exact am_call.mono (fun _ _ q => ⟨q.1, q.2.2, (q.2.1.2 1 1 (by decide +kernel)).1, (q.2.1.2 154 2 (by decide +kernel)).1, ks_of (by decide +kernel) q.2.1, km_of (by decide +kernel) q.2.1⟩) (iv_call (C := ag_I266.1) rfl (by decide +kernel) (ag_O266 xw_Xk xw_ok) hv hN hW hX ha hc (List.forall_mem_cons.mpr ⟨c.1, fun _ h => absurd h List.not_mem_nil⟩))
  · exact am_call.mono (fun _ _ q => ⟨q.1, q.2.2, (q.2.1.2 1 1 (by decide +kernel)).1, (q.2.1.2 154 2 (by decide +kernel)).1, ks_of (by decide +kernel) q.2.1, km_of (by decide +kernel) q.2.1⟩) (iv_call (C := ag_I266.1) rfl (by decide +kernel) (ag_O266 xw_Xk xw_ok) hv hN hW hX ha hc (List.forall_mem_cons.mpr ⟨c.1, fun _ h => absurd h List.not_mem_nil⟩))
/- MistCanton.undo -/
theorem iv_m112 {vs : List Int} (hv : iv_in [] vs) {h : am_H} (hI : iv_I h) : am_call am_cod 60 112 (.ref 0 :: iv_args 0 [] vs) h (fun v h' => iv_I h' ∧ (∃ x, v = some (.int x)) ∧ tq h h') := by
  obtain ⟨N, hN, hW, hX, ha, hc⟩ := hI
  rcases id hc with (c | c) | (c | c)
  · exact am_call.mono (fun _ _ q => ⟨q.1, q.2.2, (q.2.1.2 1 1 (by decide +kernel)).1, (q.2.1.2 154 2 (by decide +kernel)).1, ks_of (by decide +kernel) q.2.1, km_of (by decide +kernel) q.2.1⟩) (iv_call (C := ag_I283.1) rfl (by decide +kernel) (ag_O283 xw_Xk xw_ok) hv hN hW hX ha hc (List.forall_mem_cons.mpr ⟨c.1, fun _ h => absurd h List.not_mem_nil⟩))
  · exact am_call.mono (fun _ _ q => ⟨q.1, q.2.2, (q.2.1.2 1 1 (by decide +kernel)).1, (q.2.1.2 154 2 (by decide +kernel)).1, ks_of (by decide +kernel) q.2.1, km_of (by decide +kernel) q.2.1⟩) (iv_call (C := ag_I283.1) rfl (by decide +kernel) (ag_O283 xw_Xk xw_ok) hv hN hW hX ha hc (List.forall_mem_cons.mpr ⟨c.1, fun _ h => absurd h List.not_mem_nil⟩))
  · exact am_call.mono (fun _ _ q => ⟨q.1, q.2.2, (q.2.1.2 1 1 (by decide +kernel)).1, (q.2.1.2 154 2 (by decide +kernel)).1, ks_of (by decide +kernel) q.2.1, km_of (by decide +kernel) q.2.1⟩) (iv_call (C := ag_I284.1) rfl (by decide +kernel) (ag_O284 xw_Xk xw_ok) hv hN hW hX ha hc (List.forall_mem_cons.mpr ⟨c.1, fun _ h => absurd h List.not_mem_nil⟩))
  · exact am_call.mono (fun _ _ q => ⟨q.1, q.2.2, (q.2.1.2 1 1 (by decide +kernel)).1, (q.2.1.2 154 2 (by decide +kernel)).1, ks_of (by decide +kernel) q.2.1, km_of (by decide +kernel) q.2.1⟩) (iv_call (C := ag_I284.1) rfl (by decide +kernel) (ag_O284 xw_Xk xw_ok) hv hN hW hX ha hc (List.forall_mem_cons.mpr ⟨c.1, fun _ h => absurd h List.not_mem_nil⟩))
/- MistCanton.mark -/
theorem iv_m114 {vs : List Int} (hv : iv_in [0, 1] vs) {h : am_H} (hI : iv_I h) : am_call am_cod 60 114 (.ref 0 :: iv_args 0 [0, 1] vs) h (fun v h' => iv_I h' ∧ (∃ x, v = some (.int x)) ∧ tqm h h') := by
  obtain ⟨N, hN, hW, hX, ha, hc⟩ := hI
  rcases id hc with (c | c) | (c | c)
  · exact am_call.mono (fun _ _ q => ⟨q.1, q.2.2, (q.2.1.2 1 1 (by decide +kernel)).1, (q.2.1.2 154 2 (by decide +kernel)).1, ks_of (by decide +kernel) q.2.1⟩) (iv_call (C := ag_I389.1) rfl (by decide +kernel) (ag_O389 xw_Xk xw_ok) hv hN hW hX ha hc (List.forall_mem_cons.mpr ⟨c.1, fun _ h => absurd h List.not_mem_nil⟩))
  · exact am_call.mono (fun _ _ q => ⟨q.1, q.2.2, (q.2.1.2 1 1 (by decide +kernel)).1, (q.2.1.2 154 2 (by decide +kernel)).1, ks_of (by decide +kernel) q.2.1⟩) (iv_call (C := ag_I389.1) rfl (by decide +kernel) (ag_O389 xw_Xk xw_ok) hv hN hW hX ha hc (List.forall_mem_cons.mpr ⟨c.1, fun _ h => absurd h List.not_mem_nil⟩))
  · exact am_call.mono (fun _ _ q => ⟨q.1, q.2.2, (q.2.1.2 1 1 (by decide +kernel)).1, (q.2.1.2 154 2 (by decide +kernel)).1, ks_of (by decide +kernel) q.2.1⟩) (iv_call (C := ag_I390.1) rfl (by decide +kernel) (ag_O390 xw_Xk xw_ok) hv hN hW hX ha hc (List.forall_mem_cons.mpr ⟨c.1, fun _ h => absurd h List.not_mem_nil⟩))
  · exact am_call.mono (fun _ _ q => ⟨q.1, q.2.2, (q.2.1.2 1 1 (by decide +kernel)).1, (q.2.1.2 154 2 (by decide +kernel)).1, ks_of (by decide +kernel) q.2.1⟩) (iv_call (C := ag_I390.1) rfl (by decide +kernel) (ag_O390 xw_Xk xw_ok) hv hN hW hX ha hc (List.forall_mem_cons.mpr ⟨c.1, fun _ h => absurd h List.not_mem_nil⟩))
/- MistCanton.judged -/
theorem iv_m116 {vs : List Int} (hv : iv_in [0] vs) {h : am_H} (hI : iv_I h) : am_call am_cod 60 116 (.ref 0 :: iv_args 0 [0] vs) h (fun v h' => iv_I h' ∧ (∃ x, v = some (.int x)) ∧ tq h h') := by
  obtain ⟨N, hN, hW, hX, ha, hc⟩ := hI
  rcases id hc with (c | c) | (c | c)
  · exact am_call.mono (fun _ _ q => ⟨q.1, q.2.2, (q.2.1.2 1 1 (by decide +kernel)).1, (q.2.1.2 154 2 (by decide +kernel)).1, ks_of (by decide +kernel) q.2.1, km_of (by decide +kernel) q.2.1⟩) (iv_call (C := ag_I291.1) rfl (by decide +kernel) (ag_O291 xw_Xk xw_ok) hv hN hW hX ha hc (List.forall_mem_cons.mpr ⟨c.1, List.forall_mem_cons.mpr ⟨c.2.1, List.forall_mem_cons.mpr ⟨c.2.2.1, List.forall_mem_cons.mpr ⟨c.2.2.2, fun _ h => absurd h List.not_mem_nil⟩⟩⟩⟩))
  · exact am_call.mono (fun _ _ q => ⟨q.1, q.2.2, (q.2.1.2 1 1 (by decide +kernel)).1, (q.2.1.2 154 2 (by decide +kernel)).1, ks_of (by decide +kernel) q.2.1, km_of (by decide +kernel) q.2.1⟩) (iv_call (C := ag_I292.1) rfl (by decide +kernel) (ag_O292 xw_Xk xw_ok) hv hN hW hX ha hc (List.forall_mem_cons.mpr ⟨c.1, List.forall_mem_cons.mpr ⟨c.2.1, List.forall_mem_cons.mpr ⟨c.2.2.1, List.forall_mem_cons.mpr ⟨c.2.2.2, fun _ h => absurd h List.not_mem_nil⟩⟩⟩⟩))
  · exact am_call.mono (fun _ _ q => ⟨q.1, q.2.2, (q.2.1.2 1 1 (by decide +kernel)).1, (q.2.1.2 154 2 (by decide +kernel)).1, ks_of (by decide +kernel) q.2.1, km_of (by decide +kernel) q.2.1⟩) (iv_call (C := ag_I296.1) rfl (by decide +kernel) (ag_O296 xw_Xk xw_ok) hv hN hW hX ha hc (List.forall_mem_cons.mpr ⟨c.1, List.forall_mem_cons.mpr ⟨c.2.1, List.forall_mem_cons.mpr ⟨c.2.2.1, List.forall_mem_cons.mpr ⟨c.2.2.2, fun _ h => absurd h List.not_mem_nil⟩⟩⟩⟩))
  · exact am_call.mono (fun _ _ q => ⟨q.1, q.2.2, (q.2.1.2 1 1 (by decide +kernel)).1, (q.2.1.2 154 2 (by decide +kernel)).1, ks_of (by decide +kernel) q.2.1, km_of (by decide +kernel) q.2.1⟩) (iv_call (C := ag_I297.1) rfl (by decide +kernel) (ag_O297 xw_Xk xw_ok) hv hN hW hX ha hc (List.forall_mem_cons.mpr ⟨c.1, List.forall_mem_cons.mpr ⟨c.2.1, List.forall_mem_cons.mpr ⟨c.2.2.1, List.forall_mem_cons.mpr ⟨c.2.2.2, fun _ h => absurd h List.not_mem_nil⟩⟩⟩⟩))
/- MistCanton.attends -/
theorem iv_m119 {vs : List Int} (hv : iv_in [0, 0] vs) {h : am_H} (hI : iv_I h) : am_call am_cod 60 119 (.ref 0 :: iv_args 0 [0, 0] vs) h (fun v h' => iv_I h' ∧ (∃ x, v = some (.int x)) ∧ tq h h') := by
  obtain ⟨N, hN, hW, hX, ha, hc⟩ := hI
  rcases id hc with (c | c) | (c | c)
  · exact am_call.mono (fun _ _ q => ⟨q.1, q.2.2, (q.2.1.2 1 1 (by decide +kernel)).1, (q.2.1.2 154 2 (by decide +kernel)).1, ks_of (by decide +kernel) q.2.1, km_of (by decide +kernel) q.2.1⟩) (iv_call (C := ag_I299.1) rfl (by decide +kernel) (ag_O299 xw_Xk xw_ok) hv hN hW hX ha hc (List.forall_mem_cons.mpr ⟨c.1, fun _ h => absurd h List.not_mem_nil⟩))
  · exact am_call.mono (fun _ _ q => ⟨q.1, q.2.2, (q.2.1.2 1 1 (by decide +kernel)).1, (q.2.1.2 154 2 (by decide +kernel)).1, ks_of (by decide +kernel) q.2.1, km_of (by decide +kernel) q.2.1⟩) (iv_call (C := ag_I299.1) rfl (by decide +kernel) (ag_O299 xw_Xk xw_ok) hv hN hW hX ha hc (List.forall_mem_cons.mpr ⟨c.1, fun _ h => absurd h List.not_mem_nil⟩))
  · exact am_call.mono (fun _ _ q => ⟨q.1, q.2.2, (q.2.1.2 1 1 (by decide +kernel)).1, (q.2.1.2 154 2 (by decide +kernel)).1, ks_of (by decide +kernel) q.2.1, km_of (by decide +kernel) q.2.1⟩) (iv_call (C := ag_I300.1) rfl (by decide +kernel) (ag_O300 xw_Xk xw_ok) hv hN hW hX ha hc (List.forall_mem_cons.mpr ⟨c.1, fun _ h => absurd h List.not_mem_nil⟩))
  · exact am_call.mono (fun _ _ q => ⟨q.1, q.2.2, (q.2.1.2 1 1 (by decide +kernel)).1, (q.2.1.2 154 2 (by decide +kernel)).1, ks_of (by decide +kernel) q.2.1, km_of (by decide +kernel) q.2.1⟩) (iv_call (C := ag_I300.1) rfl (by decide +kernel) (ag_O300 xw_Xk xw_ok) hv hN hW hX ha hc (List.forall_mem_cons.mpr ⟨c.1, fun _ h => absurd h List.not_mem_nil⟩))
/- MistCanton.next -/
theorem iv_m120 {vs : List Int} (hv : iv_in [0, 0] vs) {h : am_H} (hI : iv_I h) : am_call am_cod 60 120 (.ref 0 :: iv_args 0 [0, 0] vs) h (fun v h' => iv_I h' ∧ (∃ x, v = some (.int x)) ∧ tq h h') := by
  obtain ⟨N, hN, hW, hX, ha, hc⟩ := hI
  rcases id hc with (c | c) | (c | c)
  · exact am_call.mono (fun _ _ q => ⟨q.1, q.2.2, (q.2.1.2 1 1 (by decide +kernel)).1, (q.2.1.2 154 2 (by decide +kernel)).1, ks_of (by decide +kernel) q.2.1, km_of (by decide +kernel) q.2.1⟩) (iv_call (C := ag_I301.1) rfl (by decide +kernel) (ag_O301 xw_Xk xw_ok) hv hN hW hX ha hc (List.forall_mem_cons.mpr ⟨c.1, fun _ h => absurd h List.not_mem_nil⟩))
  · exact am_call.mono (fun _ _ q => ⟨q.1, q.2.2, (q.2.1.2 1 1 (by decide +kernel)).1, (q.2.1.2 154 2 (by decide +kernel)).1, ks_of (by decide +kernel) q.2.1, km_of (by decide +kernel) q.2.1⟩) (iv_call (C := ag_I301.1) rfl (by decide +kernel) (ag_O301 xw_Xk xw_ok) hv hN hW hX ha hc (List.forall_mem_cons.mpr ⟨c.1, fun _ h => absurd h List.not_mem_nil⟩))
  · exact am_call.mono (fun _ _ q => ⟨q.1, q.2.2, (q.2.1.2 1 1 (by decide +kernel)).1, (q.2.1.2 154 2 (by decide +kernel)).1, ks_of (by decide +kernel) q.2.1, km_of (by decide +kernel) q.2.1⟩) (iv_call (C := ag_I302.1) rfl (by decide +kernel) (ag_O302 xw_Xk xw_ok) hv hN hW hX ha hc (List.forall_mem_cons.mpr ⟨c.1, fun _ h => absurd h List.not_mem_nil⟩))
  · exact am_call.mono (fun _ _ q => ⟨q.1, q.2.2, (q.2.1.2 1 1 (by decide +kernel)).1, (q.2.1.2 154 2 (by decide +kernel)).1, ks_of (by decide +kernel) q.2.1, km_of (by decide +kernel) q.2.1⟩) (iv_call (C := ag_I302.1) rfl (by decide +kernel) (ag_O302 xw_Xk xw_ok) hv hN hW hX ha hc (List.forall_mem_cons.mpr ⟨c.1, fun _ h => absurd h List.not_mem_nil⟩))
/- MistCanton.quorum -/
theorem iv_m121 {vs : List Int} (hv : iv_in [0] vs) {h : am_H} (hI : iv_I h) : am_call am_cod 60 121 (.ref 0 :: iv_args 0 [0] vs) h (fun v h' => iv_I h' ∧ (∃ x, v = some (.int x)) ∧ tq h h') := by
  obtain ⟨N, hN, hW, hX, ha, hc⟩ := hI
  rcases id hc with (c | c) | (c | c)
  · exact am_call.mono (fun _ _ q => ⟨q.1, q.2.2, (q.2.1.2 1 1 (by decide +kernel)).1, (q.2.1.2 154 2 (by decide +kernel)).1, ks_of (by decide +kernel) q.2.1, km_of (by decide +kernel) q.2.1⟩) (iv_call (C := ag_I303.1) rfl (by decide +kernel) (ag_O303 xw_Xk xw_ok) hv hN hW hX ha hc (List.forall_mem_cons.mpr ⟨c.1, fun _ h => absurd h List.not_mem_nil⟩))
  · exact am_call.mono (fun _ _ q => ⟨q.1, q.2.2, (q.2.1.2 1 1 (by decide +kernel)).1, (q.2.1.2 154 2 (by decide +kernel)).1, ks_of (by decide +kernel) q.2.1, km_of (by decide +kernel) q.2.1⟩) (iv_call (C := ag_I303.1) rfl (by decide +kernel) (ag_O303 xw_Xk xw_ok) hv hN hW hX ha hc (List.forall_mem_cons.mpr ⟨c.1, fun _ h => absurd h List.not_mem_nil⟩))
  · exact am_call.mono (fun _ _ q => ⟨q.1, q.2.2, (q.2.1.2 1 1 (by decide +kernel)).1, (q.2.1.2 154 2 (by decide +kernel)).1, ks_of (by decide +kernel) q.2.1, km_of (by decide +kernel) q.2.1⟩) (iv_call (C := ag_I304.1) rfl (by decide +kernel) (ag_O304 xw_Xk xw_ok) hv hN hW hX ha hc (List.forall_mem_cons.mpr ⟨c.1, fun _ h => absurd h List.not_mem_nil⟩))
  · exact am_call.mono (fun _ _ q => ⟨q.1, q.2.2, (q.2.1.2 1 1 (by decide +kernel)).1, (q.2.1.2 154 2 (by decide +kernel)).1, ks_of (by decide +kernel) q.2.1, km_of (by decide +kernel) q.2.1⟩) (iv_call (C := ag_I304.1) rfl (by decide +kernel) (ag_O304 xw_Xk xw_ok) hv hN hW hX ha hc (List.forall_mem_cons.mpr ⟨c.1, fun _ h => absurd h List.not_mem_nil⟩))
/- MistCanton.held -/
theorem iv_m122 {vs : List Int} (hv : iv_in [0, 0] vs) {h : am_H} (hI : iv_I h) : am_call am_cod 60 122 (.ref 0 :: iv_args 0 [0, 0] vs) h (fun v h' => iv_I h' ∧ (∃ x, v = some (.int x)) ∧ tq h h') := by
  obtain ⟨N, hN, hW, hX, ha, hc⟩ := hI
  rcases id hc with (c | c) | (c | c)
  · exact am_call.mono (fun _ _ q => ⟨q.1, q.2.2, (q.2.1.2 1 1 (by decide +kernel)).1, (q.2.1.2 154 2 (by decide +kernel)).1, ks_of (by decide +kernel) q.2.1, km_of (by decide +kernel) q.2.1⟩) (iv_call (C := ag_I306.1) rfl (by decide +kernel) (ag_O306 xw_Xk xw_ok) hv hN hW hX ha hc (List.forall_mem_cons.mpr ⟨c.1, fun _ h => absurd h List.not_mem_nil⟩))
  · exact am_call.mono (fun _ _ q => ⟨q.1, q.2.2, (q.2.1.2 1 1 (by decide +kernel)).1, (q.2.1.2 154 2 (by decide +kernel)).1, ks_of (by decide +kernel) q.2.1, km_of (by decide +kernel) q.2.1⟩) (iv_call (C := ag_I306.1) rfl (by decide +kernel) (ag_O306 xw_Xk xw_ok) hv hN hW hX ha hc (List.forall_mem_cons.mpr ⟨c.1, fun _ h => absurd h List.not_mem_nil⟩))
  · exact am_call.mono (fun _ _ q => ⟨q.1, q.2.2, (q.2.1.2 1 1 (by decide +kernel)).1, (q.2.1.2 154 2 (by decide +kernel)).1, ks_of (by decide +kernel) q.2.1, km_of (by decide +kernel) q.2.1⟩) (iv_call (C := ag_I308.1) rfl (by decide +kernel) (ag_O308 xw_Xk xw_ok) hv hN hW hX ha hc (List.forall_mem_cons.mpr ⟨c.1, fun _ h => absurd h List.not_mem_nil⟩))
  · exact am_call.mono (fun _ _ q => ⟨q.1, q.2.2, (q.2.1.2 1 1 (by decide +kernel)).1, (q.2.1.2 154 2 (by decide +kernel)).1, ks_of (by decide +kernel) q.2.1, km_of (by decide +kernel) q.2.1⟩) (iv_call (C := ag_I308.1) rfl (by decide +kernel) (ag_O308 xw_Xk xw_ok) hv hN hW hX ha hc (List.forall_mem_cons.mpr ⟨c.1, fun _ h => absurd h List.not_mem_nil⟩))
/- MistCanton.last -/
theorem iv_m124 {vs : List Int} (hv : iv_in [0] vs) {h : am_H} (hI : iv_I h) : am_call am_cod 60 124 (.ref 0 :: iv_args 0 [0] vs) h (fun v h' => iv_I h' ∧ (∃ x, v = some (.int x)) ∧ tq h h') := by
  obtain ⟨N, hN, hW, hX, ha, hc⟩ := hI
  rcases id hc with (c | c) | (c | c)
  · exact am_call.mono (fun _ _ q => ⟨q.1, q.2.2, (q.2.1.2 1 1 (by decide +kernel)).1, (q.2.1.2 154 2 (by decide +kernel)).1, ks_of (by decide +kernel) q.2.1, km_of (by decide +kernel) q.2.1⟩) (iv_call (C := ag_I367.1) rfl (by decide +kernel) (ag_O367 xw_Xk xw_ok) hv hN hW hX ha hc (List.forall_mem_cons.mpr ⟨c.1, fun _ h => absurd h List.not_mem_nil⟩))
  · exact am_call.mono (fun _ _ q => ⟨q.1, q.2.2, (q.2.1.2 1 1 (by decide +kernel)).1, (q.2.1.2 154 2 (by decide +kernel)).1, ks_of (by decide +kernel) q.2.1, km_of (by decide +kernel) q.2.1⟩) (iv_call (C := ag_I367.1) rfl (by decide +kernel) (ag_O367 xw_Xk xw_ok) hv hN hW hX ha hc (List.forall_mem_cons.mpr ⟨c.1, fun _ h => absurd h List.not_mem_nil⟩))
  · exact am_call.mono (fun _ _ q => ⟨q.1, q.2.2, (q.2.1.2 1 1 (by decide +kernel)).1, (q.2.1.2 154 2 (by decide +kernel)).1, ks_of (by decide +kernel) q.2.1, km_of (by decide +kernel) q.2.1⟩) (iv_call (C := ag_I368.1) rfl (by decide +kernel) (ag_O368 xw_Xk xw_ok) hv hN hW hX ha hc (List.forall_mem_cons.mpr ⟨c.1, fun _ h => absurd h List.not_mem_nil⟩))
  · exact am_call.mono (fun _ _ q => ⟨q.1, q.2.2, (q.2.1.2 1 1 (by decide +kernel)).1, (q.2.1.2 154 2 (by decide +kernel)).1, ks_of (by decide +kernel) q.2.1, km_of (by decide +kernel) q.2.1⟩) (iv_call (C := ag_I368.1) rfl (by decide +kernel) (ag_O368 xw_Xk xw_ok) hv hN hW hX ha hc (List.forall_mem_cons.mpr ⟨c.1, fun _ h => absurd h List.not_mem_nil⟩))
/- MistCanton.meet -/
theorem iv_m125 {vs : List Int} (hv : iv_in [0, 0] vs) {h : am_H} (hI : iv_I h) : am_call am_cod 60 125 (.ref 0 :: iv_args 0 [0, 0] vs) h (fun v h' => iv_I h' ∧ (∃ x, v = some (.int x)) ∧ tq h h') := by
  obtain ⟨N, hN, hW, hX, ha, hc⟩ := hI
  rcases id hc with (c | c) | (c | c)
  · exact am_call.mono (fun _ _ q => ⟨q.1, q.2.2, (q.2.1.2 1 1 (by decide +kernel)).1, (q.2.1.2 154 2 (by decide +kernel)).1, ks_of (by decide +kernel) q.2.1, km_of (by decide +kernel) q.2.1⟩) (iv_call (C := ag_I309.1) rfl (by decide +kernel) (ag_O309 xw_Xk xw_ok) hv hN hW hX ha hc (List.forall_mem_cons.mpr ⟨c.1, fun _ h => absurd h List.not_mem_nil⟩))
  · exact am_call.mono (fun _ _ q => ⟨q.1, q.2.2, (q.2.1.2 1 1 (by decide +kernel)).1, (q.2.1.2 154 2 (by decide +kernel)).1, ks_of (by decide +kernel) q.2.1, km_of (by decide +kernel) q.2.1⟩) (iv_call (C := ag_I309.1) rfl (by decide +kernel) (ag_O309 xw_Xk xw_ok) hv hN hW hX ha hc (List.forall_mem_cons.mpr ⟨c.1, fun _ h => absurd h List.not_mem_nil⟩))
  · exact am_call.mono (fun _ _ q => ⟨q.1, q.2.2, (q.2.1.2 1 1 (by decide +kernel)).1, (q.2.1.2 154 2 (by decide +kernel)).1, ks_of (by decide +kernel) q.2.1, km_of (by decide +kernel) q.2.1⟩) (iv_call (C := ag_I310.1) rfl (by decide +kernel) (ag_O310 xw_Xk xw_ok) hv hN hW hX ha hc (List.forall_mem_cons.mpr ⟨c.1, fun _ h => absurd h List.not_mem_nil⟩))
  · exact am_call.mono (fun _ _ q => ⟨q.1, q.2.2, (q.2.1.2 1 1 (by decide +kernel)).1, (q.2.1.2 154 2 (by decide +kernel)).1, ks_of (by decide +kernel) q.2.1, km_of (by decide +kernel) q.2.1⟩) (iv_call (C := ag_I310.1) rfl (by decide +kernel) (ag_O310 xw_Xk xw_ok) hv hN hW hX ha hc (List.forall_mem_cons.mpr ⟨c.1, fun _ h => absurd h List.not_mem_nil⟩))
/- MistCanton.idle -/
theorem iv_m126 {vs : List Int} (hv : iv_in [0] vs) {h : am_H} (hI : iv_I h) : am_call am_cod 60 126 (.ref 0 :: iv_args 0 [0] vs) h (fun v h' => iv_I h' ∧ (∃ x, v = some (.int x)) ∧ tq h h') := by
  obtain ⟨N, hN, hW, hX, ha, hc⟩ := hI
  rcases id hc with (c | c) | (c | c)
  · exact am_call.mono (fun _ _ q => ⟨q.1, q.2.2, (q.2.1.2 1 1 (by decide +kernel)).1, (q.2.1.2 154 2 (by decide +kernel)).1, ks_of (by decide +kernel) q.2.1, km_of (by decide +kernel) q.2.1⟩) (iv_call (C := ag_I312.1) rfl (by decide +kernel) (ag_O312 xw_Xk xw_ok) hv hN hW hX ha hc (List.forall_mem_cons.mpr ⟨c.1, fun _ h => absurd h List.not_mem_nil⟩))
  · exact am_call.mono (fun _ _ q => ⟨q.1, q.2.2, (q.2.1.2 1 1 (by decide +kernel)).1, (q.2.1.2 154 2 (by decide +kernel)).1, ks_of (by decide +kernel) q.2.1, km_of (by decide +kernel) q.2.1⟩) (iv_call (C := ag_I312.1) rfl (by decide +kernel) (ag_O312 xw_Xk xw_ok) hv hN hW hX ha hc (List.forall_mem_cons.mpr ⟨c.1, fun _ h => absurd h List.not_mem_nil⟩))
  · exact am_call.mono (fun _ _ q => ⟨q.1, q.2.2, (q.2.1.2 1 1 (by decide +kernel)).1, (q.2.1.2 154 2 (by decide +kernel)).1, ks_of (by decide +kernel) q.2.1, km_of (by decide +kernel) q.2.1⟩) (iv_call (C := ag_I313.1) rfl (by decide +kernel) (ag_O313 xw_Xk xw_ok) hv hN hW hX ha hc (List.forall_mem_cons.mpr ⟨c.1, fun _ h => absurd h List.not_mem_nil⟩))
  · exact am_call.mono (fun _ _ q => ⟨q.1, q.2.2, (q.2.1.2 1 1 (by decide +kernel)).1, (q.2.1.2 154 2 (by decide +kernel)).1, ks_of (by decide +kernel) q.2.1, km_of (by decide +kernel) q.2.1⟩) (iv_call (C := ag_I313.1) rfl (by decide +kernel) (ag_O313 xw_Xk xw_ok) hv hN hW hX ha hc (List.forall_mem_cons.mpr ⟨c.1, fun _ h => absurd h List.not_mem_nil⟩))
/- MistCanton.busy -/
theorem iv_m128 {vs : List Int} (hv : iv_in [] vs) {h : am_H} (hI : iv_I h) : am_call am_cod 60 128 (.ref 0 :: iv_args 0 [] vs) h (fun v h' => iv_I h' ∧ (∃ x, v = some (.int x)) ∧ tq h h') := by
  obtain ⟨N, hN, hW, hX, ha, hc⟩ := hI
  rcases id hc with (c | c) | (c | c)
  · exact am_call.mono (fun _ _ q => ⟨q.1, q.2.2, (q.2.1.2 1 1 (by decide +kernel)).1, (q.2.1.2 154 2 (by decide +kernel)).1, ks_of (by decide +kernel) q.2.1, km_of (by decide +kernel) q.2.1⟩) (iv_call (C := ag_I314.1) rfl (by decide +kernel) (ag_O314 xw_Xk xw_ok) hv hN hW hX ha hc (List.forall_mem_cons.mpr ⟨c.1, fun _ h => absurd h List.not_mem_nil⟩))
  · exact am_call.mono (fun _ _ q => ⟨q.1, q.2.2, (q.2.1.2 1 1 (by decide +kernel)).1, (q.2.1.2 154 2 (by decide +kernel)).1, ks_of (by decide +kernel) q.2.1, km_of (by decide +kernel) q.2.1⟩) (iv_call (C := ag_I314.1) rfl (by decide +kernel) (ag_O314 xw_Xk xw_ok) hv hN hW hX ha hc (List.forall_mem_cons.mpr ⟨c.1, fun _ h => absurd h List.not_mem_nil⟩))
  · exact am_call.mono (fun _ _ q => ⟨q.1, q.2.2, (q.2.1.2 1 1 (by decide +kernel)).1, (q.2.1.2 154 2 (by decide +kernel)).1, ks_of (by decide +kernel) q.2.1, km_of (by decide +kernel) q.2.1⟩) (iv_call (C := ag_I315.1) rfl (by decide +kernel) (ag_O315 xw_Xk xw_ok) hv hN hW hX ha hc (List.forall_mem_cons.mpr ⟨c.1, fun _ h => absurd h List.not_mem_nil⟩))
  · exact am_call.mono (fun _ _ q => ⟨q.1, q.2.2, (q.2.1.2 1 1 (by decide +kernel)).1, (q.2.1.2 154 2 (by decide +kernel)).1, ks_of (by decide +kernel) q.2.1, km_of (by decide +kernel) q.2.1⟩) (iv_call (C := ag_I315.1) rfl (by decide +kernel) (ag_O315 xw_Xk xw_ok) hv hN hW hX ha hc (List.forall_mem_cons.mpr ⟨c.1, fun _ h => absurd h List.not_mem_nil⟩))
/- MistCanton.family -/
theorem iv_m129 {vs : List Int} (hv : iv_in [0] vs) {h : am_H} (hI : iv_I h) : am_call am_cod 60 129 (.ref 0 :: iv_args 0 [0] vs) h (fun v h' => iv_I h' ∧ (∃ x, v = some (.int x)) ∧ tq h h') := by
  obtain ⟨N, hN, hW, hX, ha, hc⟩ := hI
  rcases id hc with (c | c) | (c | c)
  · exact am_call.mono (fun _ _ q => ⟨q.1, q.2.2, (q.2.1.2 1 1 (by decide +kernel)).1, (q.2.1.2 154 2 (by decide +kernel)).1, ks_of (by decide +kernel) q.2.1, km_of (by decide +kernel) q.2.1⟩) (iv_call (C := ag_I340.1) rfl (by decide +kernel) (ag_O340 xw_Xk xw_ok) hv hN hW hX ha hc (List.forall_mem_cons.mpr ⟨c.1, fun _ h => absurd h List.not_mem_nil⟩))
  · exact am_call.mono (fun _ _ q => ⟨q.1, q.2.2, (q.2.1.2 1 1 (by decide +kernel)).1, (q.2.1.2 154 2 (by decide +kernel)).1, ks_of (by decide +kernel) q.2.1, km_of (by decide +kernel) q.2.1⟩) (iv_call (C := ag_I340.1) rfl (by decide +kernel) (ag_O340 xw_Xk xw_ok) hv hN hW hX ha hc (List.forall_mem_cons.mpr ⟨c.1, fun _ h => absurd h List.not_mem_nil⟩))
  · exact am_call.mono (fun _ _ q => ⟨q.1, q.2.2, (q.2.1.2 1 1 (by decide +kernel)).1, (q.2.1.2 154 2 (by decide +kernel)).1, ks_of (by decide +kernel) q.2.1, km_of (by decide +kernel) q.2.1⟩) (iv_call (C := ag_I341.1) rfl (by decide +kernel) (ag_O341 xw_Xk xw_ok) hv hN hW hX ha hc (List.forall_mem_cons.mpr ⟨c.1, fun _ h => absurd h List.not_mem_nil⟩))
  · exact am_call.mono (fun _ _ q => ⟨q.1, q.2.2, (q.2.1.2 1 1 (by decide +kernel)).1, (q.2.1.2 154 2 (by decide +kernel)).1, ks_of (by decide +kernel) q.2.1, km_of (by decide +kernel) q.2.1⟩) (iv_call (C := ag_I341.1) rfl (by decide +kernel) (ag_O341 xw_Xk xw_ok) hv hN hW hX ha hc (List.forall_mem_cons.mpr ⟨c.1, fun _ h => absurd h List.not_mem_nil⟩))
/- MistCanton.lonely -/
theorem iv_m130 {vs : List Int} (hv : iv_in [] vs) {h : am_H} (hI : iv_I h) : am_call am_cod 60 130 (.ref 0 :: iv_args 0 [] vs) h (fun v h' => iv_I h' ∧ (∃ x, v = some (.int x)) ∧ tq h h') := by
  obtain ⟨N, hN, hW, hX, ha, hc⟩ := hI
  rcases id hc with (c | c) | (c | c)
  · exact am_call.mono (fun _ _ q => ⟨q.1, q.2.2, (q.2.1.2 1 1 (by decide +kernel)).1, (q.2.1.2 154 2 (by decide +kernel)).1, ks_of (by decide +kernel) q.2.1, km_of (by decide +kernel) q.2.1⟩) (iv_call (C := ag_I358.1) rfl (by decide +kernel) (ag_O358 xw_Xk xw_ok) hv hN hW hX ha hc (List.forall_mem_cons.mpr ⟨c.1, fun _ h => absurd h List.not_mem_nil⟩))
  · exact am_call.mono (fun _ _ q => ⟨q.1, q.2.2, (q.2.1.2 1 1 (by decide +kernel)).1, (q.2.1.2 154 2 (by decide +kernel)).1, ks_of (by decide +kernel) q.2.1, km_of (by decide +kernel) q.2.1⟩) (iv_call (C := ag_I358.1) rfl (by decide +kernel) (ag_O358 xw_Xk xw_ok) hv hN hW hX ha hc (List.forall_mem_cons.mpr ⟨c.1, fun _ h => absurd h List.not_mem_nil⟩))
  · exact am_call.mono (fun _ _ q => ⟨q.1, q.2.2, (q.2.1.2 1 1 (by decide +kernel)).1, (q.2.1.2 154 2 (by decide +kernel)).1, ks_of (by decide +kernel) q.2.1, km_of (by decide +kernel) q.2.1⟩) (iv_call (C := ag_I359.1) rfl (by decide +kernel) (ag_O359 xw_Xk xw_ok) hv hN hW hX ha hc (List.forall_mem_cons.mpr ⟨c.1, fun _ h => absurd h List.not_mem_nil⟩))
  · exact am_call.mono (fun _ _ q => ⟨q.1, q.2.2, (q.2.1.2 1 1 (by decide +kernel)).1, (q.2.1.2 154 2 (by decide +kernel)).1, ks_of (by decide +kernel) q.2.1, km_of (by decide +kernel) q.2.1⟩) (iv_call (C := ag_I359.1) rfl (by decide +kernel) (ag_O359 xw_Xk xw_ok) hv hN hW hX ha hc (List.forall_mem_cons.mpr ⟨c.1, fun _ h => absurd h List.not_mem_nil⟩))
/- MistCanton.move -/
theorem iv_m131 {vs : List Int} (hv : iv_in [0] vs) {h : am_H} (hI : iv_I h) : am_call am_cod 60 131 (.ref 0 :: iv_args 0 [0] vs) h (fun v h' => iv_I h' ∧ (∃ x, v = some (.int x)) ∧ tq h h') := by
  obtain ⟨N, hN, hW, hX, ha, hc⟩ := hI
  rcases id hc with (c | c) | (c | c)
  · exact am_call.mono (fun _ _ q => ⟨q.1, q.2.2, (q.2.1.2 1 1 (by decide +kernel)).1, (q.2.1.2 154 2 (by decide +kernel)).1, ks_of (by decide +kernel) q.2.1, km_of (by decide +kernel) q.2.1⟩) (iv_call (C := ag_I362.1) rfl (by decide +kernel) (ag_O362 xw_Xk xw_ok) hv hN hW hX ha hc (List.forall_mem_cons.mpr ⟨c.1, fun _ h => absurd h List.not_mem_nil⟩))
  · exact am_call.mono (fun _ _ q => ⟨q.1, q.2.2, (q.2.1.2 1 1 (by decide +kernel)).1, (q.2.1.2 154 2 (by decide +kernel)).1, ks_of (by decide +kernel) q.2.1, km_of (by decide +kernel) q.2.1⟩) (iv_call (C := ag_I362.1) rfl (by decide +kernel) (ag_O362 xw_Xk xw_ok) hv hN hW hX ha hc (List.forall_mem_cons.mpr ⟨c.1, fun _ h => absurd h List.not_mem_nil⟩))
  · exact am_call.mono (fun _ _ q => ⟨q.1, q.2.2, (q.2.1.2 1 1 (by decide +kernel)).1, (q.2.1.2 154 2 (by decide +kernel)).1, ks_of (by decide +kernel) q.2.1, km_of (by decide +kernel) q.2.1⟩) (iv_call (C := ag_I363.1) rfl (by decide +kernel) (ag_O363 xw_Xk xw_ok) hv hN hW hX ha hc (List.forall_mem_cons.mpr ⟨c.1, fun _ h => absurd h List.not_mem_nil⟩))
  · exact am_call.mono (fun _ _ q => ⟨q.1, q.2.2, (q.2.1.2 1 1 (by decide +kernel)).1, (q.2.1.2 154 2 (by decide +kernel)).1, ks_of (by decide +kernel) q.2.1, km_of (by decide +kernel) q.2.1⟩) (iv_call (C := ag_I363.1) rfl (by decide +kernel) (ag_O363 xw_Xk xw_ok) hv hN hW hX ha hc (List.forall_mem_cons.mpr ⟨c.1, fun _ h => absurd h List.not_mem_nil⟩))
/- MistCanton.twins -/
theorem iv_m132 {vs : List Int} (hv : iv_in [] vs) {h : am_H} (hI : iv_I h) : am_call am_cod 60 132 (.ref 0 :: iv_args 0 [] vs) h (fun v h' => iv_I h' ∧ (∃ x, v = some (.int x)) ∧ tq h h') := by
  obtain ⟨N, hN, hW, hX, ha, hc⟩ := hI
  rcases id hc with (c | c) | (c | c)
  · exact am_call.mono (fun _ _ q => ⟨q.1, q.2.2, (q.2.1.2 1 1 (by decide +kernel)).1, (q.2.1.2 154 2 (by decide +kernel)).1, ks_of (by decide +kernel) q.2.1, km_of (by decide +kernel) q.2.1⟩) (iv_call (C := ag_I365.1) rfl (by decide +kernel) (ag_O365 xw_Xk xw_ok) hv hN hW hX ha hc (List.forall_mem_cons.mpr ⟨c.1, fun _ h => absurd h List.not_mem_nil⟩))
  · exact am_call.mono (fun _ _ q => ⟨q.1, q.2.2, (q.2.1.2 1 1 (by decide +kernel)).1, (q.2.1.2 154 2 (by decide +kernel)).1, ks_of (by decide +kernel) q.2.1, km_of (by decide +kernel) q.2.1⟩) (iv_call (C := ag_I365.1) rfl (by decide +kernel) (ag_O365 xw_Xk xw_ok) hv hN hW hX ha hc (List.forall_mem_cons.mpr ⟨c.1, fun _ h => absurd h List.not_mem_nil⟩))
  · exact am_call.mono (fun _ _ q => ⟨q.1, q.2.2, (q.2.1.2 1 1 (by decide +kernel)).1, (q.2.1.2 154 2 (by decide +kernel)).1, ks_of (by decide +kernel) q.2.1, km_of (by decide +kernel) q.2.1⟩) (iv_call (C := ag_I366.1) rfl (by decide +kernel) (ag_O366 xw_Xk xw_ok) hv hN hW hX ha hc (List.forall_mem_cons.mpr ⟨c.1, fun _ h => absurd h List.not_mem_nil⟩))
  · exact am_call.mono (fun _ _ q => ⟨q.1, q.2.2, (q.2.1.2 1 1 (by decide +kernel)).1, (q.2.1.2 154 2 (by decide +kernel)).1, ks_of (by decide +kernel) q.2.1, km_of (by decide +kernel) q.2.1⟩) (iv_call (C := ag_I366.1) rfl (by decide +kernel) (ag_O366 xw_Xk xw_ok) hv hN hW hX ha hc (List.forall_mem_cons.mpr ⟨c.1, fun _ h => absurd h List.not_mem_nil⟩))
/- MistCanton.chance -/
theorem iv_m134 {vs : List Int} (hv : iv_in [0, 0, 0] vs) {h : am_H} (hI : iv_I h) : am_call am_cod 60 134 (.ref 0 :: iv_args 0 [0, 0, 0] vs) h (fun v h' => iv_I h' ∧ (∃ x, v = some (.int x)) ∧ tq h h') := by
  obtain ⟨N, hN, hW, hX, ha, hc⟩ := hI
  rcases id hc with (c | c) | (c | c)
  · exact am_call.mono (fun _ _ q => ⟨q.1, q.2.2, (q.2.1.2 1 1 (by decide +kernel)).1, (q.2.1.2 154 2 (by decide +kernel)).1, ks_of (by decide +kernel) q.2.1, km_of (by decide +kernel) q.2.1⟩) (iv_call (C := ag_I375.1) rfl (by decide +kernel) (ag_O375 xw_Xk xw_ok) hv hN hW hX ha hc (List.forall_mem_cons.mpr ⟨c.1, fun _ h => absurd h List.not_mem_nil⟩))
  · exact am_call.mono (fun _ _ q => ⟨q.1, q.2.2, (q.2.1.2 1 1 (by decide +kernel)).1, (q.2.1.2 154 2 (by decide +kernel)).1, ks_of (by decide +kernel) q.2.1, km_of (by decide +kernel) q.2.1⟩) (iv_call (C := ag_I375.1) rfl (by decide +kernel) (ag_O375 xw_Xk xw_ok) hv hN hW hX ha hc (List.forall_mem_cons.mpr ⟨c.1, fun _ h => absurd h List.not_mem_nil⟩))
  · exact am_call.mono (fun _ _ q => ⟨q.1, q.2.2, (q.2.1.2 1 1 (by decide +kernel)).1, (q.2.1.2 154 2 (by decide +kernel)).1, ks_of (by decide +kernel) q.2.1, km_of (by decide +kernel) q.2.1⟩) (iv_call (C := ag_I377.1) rfl (by decide +kernel) (ag_O377 xw_Xk xw_ok) hv hN hW hX ha hc (List.forall_mem_cons.mpr ⟨c.1, fun _ h => absurd h List.not_mem_nil⟩))
  · exact am_call.mono (fun _ _ q => ⟨q.1, q.2.2, (q.2.1.2 1 1 (by decide +kernel)).1, (q.2.1.2 154 2 (by decide +kernel)).1, ks_of (by decide +kernel) q.2.1, km_of (by decide +kernel) q.2.1⟩) (iv_call (C := ag_I377.1) rfl (by decide +kernel) (ag_O377 xw_Xk xw_ok) hv hN hW hX ha hc (List.forall_mem_cons.mpr ⟨c.1, fun _ h => absurd h List.not_mem_nil⟩))
/- MistCanton.years -/
theorem iv_m137 {vs : List Int} (hv : iv_in [0, 0, 0] vs) {h : am_H} (hI : iv_I h) : am_call am_cod 60 137 (.ref 0 :: iv_args 0 [0, 0, 0] vs) h (fun v h' => iv_I h' ∧ (∃ x, v = some (.int x)) ∧ tq h h') := by
  obtain ⟨N, hN, hW, hX, ha, hc⟩ := hI
  rcases id hc with (c | c) | (c | c)
  · exact am_call.mono (fun _ _ q => ⟨q.1, q.2.2, (q.2.1.2 1 1 (by decide +kernel)).1, (q.2.1.2 154 2 (by decide +kernel)).1, ks_of (by decide +kernel) q.2.1, km_of (by decide +kernel) q.2.1⟩) (iv_call (C := ag_I379.1) rfl (by decide +kernel) (ag_O379 xw_Xk xw_ok) hv hN hW hX ha hc (List.forall_mem_cons.mpr ⟨c.1, fun _ h => absurd h List.not_mem_nil⟩))
  · exact am_call.mono (fun _ _ q => ⟨q.1, q.2.2, (q.2.1.2 1 1 (by decide +kernel)).1, (q.2.1.2 154 2 (by decide +kernel)).1, ks_of (by decide +kernel) q.2.1, km_of (by decide +kernel) q.2.1⟩) (iv_call (C := ag_I379.1) rfl (by decide +kernel) (ag_O379 xw_Xk xw_ok) hv hN hW hX ha hc (List.forall_mem_cons.mpr ⟨c.1, fun _ h => absurd h List.not_mem_nil⟩))
  · exact am_call.mono (fun _ _ q => ⟨q.1, q.2.2, (q.2.1.2 1 1 (by decide +kernel)).1, (q.2.1.2 154 2 (by decide +kernel)).1, ks_of (by decide +kernel) q.2.1, km_of (by decide +kernel) q.2.1⟩) (iv_call (C := ag_I380.1) rfl (by decide +kernel) (ag_O380 xw_Xk xw_ok) hv hN hW hX ha hc (List.forall_mem_cons.mpr ⟨c.1, fun _ h => absurd h List.not_mem_nil⟩))
  · exact am_call.mono (fun _ _ q => ⟨q.1, q.2.2, (q.2.1.2 1 1 (by decide +kernel)).1, (q.2.1.2 154 2 (by decide +kernel)).1, ks_of (by decide +kernel) q.2.1, km_of (by decide +kernel) q.2.1⟩) (iv_call (C := ag_I380.1) rfl (by decide +kernel) (ag_O380 xw_Xk xw_ok) hv hN hW hX ha hc (List.forall_mem_cons.mpr ⟨c.1, fun _ h => absurd h List.not_mem_nil⟩))
/- MistCanton.group -/
theorem iv_m141 {vs : List Int} (hv : iv_in [0] vs) {h : am_H} (hI : iv_I h) : am_call am_cod 60 141 (.ref 0 :: iv_args 0 [0] vs) h (fun v h' => iv_I h' ∧ (∃ x, v = some (.int x)) ∧ tq h h') := by
  obtain ⟨N, hN, hW, hX, ha, hc⟩ := hI
  rcases id hc with (c | c) | (c | c)
  · exact am_call.mono (fun _ _ q => ⟨q.1, q.2.2, (q.2.1.2 1 1 (by decide +kernel)).1, (q.2.1.2 154 2 (by decide +kernel)).1, ks_of (by decide +kernel) q.2.1, km_of (by decide +kernel) q.2.1⟩) (iv_call (C := ag_I517.1) rfl (by decide +kernel) (ag_O517 xw_Xk xw_ok) hv hN hW hX ha hc (List.forall_mem_cons.mpr ⟨c.1, fun _ h => absurd h List.not_mem_nil⟩))
  · exact am_call.mono (fun _ _ q => ⟨q.1, q.2.2, (q.2.1.2 1 1 (by decide +kernel)).1, (q.2.1.2 154 2 (by decide +kernel)).1, ks_of (by decide +kernel) q.2.1, km_of (by decide +kernel) q.2.1⟩) (iv_call (C := ag_I517.1) rfl (by decide +kernel) (ag_O517 xw_Xk xw_ok) hv hN hW hX ha hc (List.forall_mem_cons.mpr ⟨c.1, fun _ h => absurd h List.not_mem_nil⟩))
  · exact am_call.mono (fun _ _ q => ⟨q.1, q.2.2, (q.2.1.2 1 1 (by decide +kernel)).1, (q.2.1.2 154 2 (by decide +kernel)).1, ks_of (by decide +kernel) q.2.1, km_of (by decide +kernel) q.2.1⟩) (iv_call (C := ag_I518.1) rfl (by decide +kernel) (ag_O518 xw_Xk xw_ok) hv hN hW hX ha hc (List.forall_mem_cons.mpr ⟨c.1, fun _ h => absurd h List.not_mem_nil⟩))
  · exact am_call.mono (fun _ _ q => ⟨q.1, q.2.2, (q.2.1.2 1 1 (by decide +kernel)).1, (q.2.1.2 154 2 (by decide +kernel)).1, ks_of (by decide +kernel) q.2.1, km_of (by decide +kernel) q.2.1⟩) (iv_call (C := ag_I518.1) rfl (by decide +kernel) (ag_O518 xw_Xk xw_ok) hv hN hW hX ha hc (List.forall_mem_cons.mpr ⟨c.1, fun _ h => absurd h List.not_mem_nil⟩))
/- MistCanton.least -/
theorem iv_m143 {vs : List Int} (hv : iv_in [0, 0] vs) {h : am_H} (hI : iv_I h) : am_call am_cod 60 143 (.ref 0 :: iv_args 0 [0, 0] vs) h (fun v h' => iv_I h' ∧ (∃ x, v = some (.int x)) ∧ tq h h') := by
  obtain ⟨N, hN, hW, hX, ha, hc⟩ := hI
  rcases id hc with (c | c) | (c | c)
  · exact am_call.mono (fun _ _ q => ⟨q.1, q.2.2, (q.2.1.2 1 1 (by decide +kernel)).1, (q.2.1.2 154 2 (by decide +kernel)).1, ks_of (by decide +kernel) q.2.1, km_of (by decide +kernel) q.2.1⟩) (iv_call (C := ag_I318.1) rfl (by decide +kernel) (ag_O318 xw_Xk xw_ok) hv hN hW hX ha hc (List.forall_mem_cons.mpr ⟨c.1, fun _ h => absurd h List.not_mem_nil⟩))
  · exact am_call.mono (fun _ _ q => ⟨q.1, q.2.2, (q.2.1.2 1 1 (by decide +kernel)).1, (q.2.1.2 154 2 (by decide +kernel)).1, ks_of (by decide +kernel) q.2.1, km_of (by decide +kernel) q.2.1⟩) (iv_call (C := ag_I318.1) rfl (by decide +kernel) (ag_O318 xw_Xk xw_ok) hv hN hW hX ha hc (List.forall_mem_cons.mpr ⟨c.1, fun _ h => absurd h List.not_mem_nil⟩))
  · exact am_call.mono (fun _ _ q => ⟨q.1, q.2.2, (q.2.1.2 1 1 (by decide +kernel)).1, (q.2.1.2 154 2 (by decide +kernel)).1, ks_of (by decide +kernel) q.2.1, km_of (by decide +kernel) q.2.1⟩) (iv_call (C := ag_I321.1) rfl (by decide +kernel) (ag_O321 xw_Xk xw_ok) hv hN hW hX ha hc (List.forall_mem_cons.mpr ⟨c.1, fun _ h => absurd h List.not_mem_nil⟩))
  · exact am_call.mono (fun _ _ q => ⟨q.1, q.2.2, (q.2.1.2 1 1 (by decide +kernel)).1, (q.2.1.2 154 2 (by decide +kernel)).1, ks_of (by decide +kernel) q.2.1, km_of (by decide +kernel) q.2.1⟩) (iv_call (C := ag_I321.1) rfl (by decide +kernel) (ag_O321 xw_Xk xw_ok) hv hN hW hX ha hc (List.forall_mem_cons.mpr ⟨c.1, fun _ h => absurd h List.not_mem_nil⟩))
/- MistCanton.leads -/
theorem iv_m147 {vs : List Int} (hv : iv_in [0] vs) {h : am_H} (hI : iv_I h) : am_call am_cod 60 147 (.ref 0 :: iv_args 0 [0] vs) h (fun v h' => iv_I h' ∧ (∃ x, v = some (.int x)) ∧ tq h h') := by
  obtain ⟨N, hN, hW, hX, ha, hc⟩ := hI
  rcases id hc with (c | c) | (c | c)
  · exact am_call.mono (fun _ _ q => ⟨q.1, q.2.2, (q.2.1.2 1 1 (by decide +kernel)).1, (q.2.1.2 154 2 (by decide +kernel)).1, ks_of (by decide +kernel) q.2.1, km_of (by decide +kernel) q.2.1⟩) (iv_call (C := ag_I337.1) rfl (by decide +kernel) (ag_O337 xw_Xk xw_ok) hv hN hW hX ha hc (List.forall_mem_cons.mpr ⟨c.1, fun _ h => absurd h List.not_mem_nil⟩))
  · exact am_call.mono (fun _ _ q => ⟨q.1, q.2.2, (q.2.1.2 1 1 (by decide +kernel)).1, (q.2.1.2 154 2 (by decide +kernel)).1, ks_of (by decide +kernel) q.2.1, km_of (by decide +kernel) q.2.1⟩) (iv_call (C := ag_I337.1) rfl (by decide +kernel) (ag_O337 xw_Xk xw_ok) hv hN hW hX ha hc (List.forall_mem_cons.mpr ⟨c.1, fun _ h => absurd h List.not_mem_nil⟩))
  · exact am_call.mono (fun _ _ q => ⟨q.1, q.2.2, (q.2.1.2 1 1 (by decide +kernel)).1, (q.2.1.2 154 2 (by decide +kernel)).1, ks_of (by decide +kernel) q.2.1, km_of (by decide +kernel) q.2.1⟩) (iv_call (C := ag_I339.1) rfl (by decide +kernel) (ag_O339 xw_Xk xw_ok) hv hN hW hX ha hc (List.forall_mem_cons.mpr ⟨c.1, fun _ h => absurd h List.not_mem_nil⟩))
  · exact am_call.mono (fun _ _ q => ⟨q.1, q.2.2, (q.2.1.2 1 1 (by decide +kernel)).1, (q.2.1.2 154 2 (by decide +kernel)).1, ks_of (by decide +kernel) q.2.1, km_of (by decide +kernel) q.2.1⟩) (iv_call (C := ag_I339.1) rfl (by decide +kernel) (ag_O339 xw_Xk xw_ok) hv hN hW hX ha hc (List.forall_mem_cons.mpr ⟨c.1, fun _ h => absurd h List.not_mem_nil⟩))
/- MistCanton.see -/
theorem iv_m148 {vs : List Int} (hv : iv_in [0, 0, 1] vs) {h : am_H} (hI : iv_I h) : am_call am_cod 60 148 (.ref 0 :: iv_args 0 [0, 0, 1] vs) h (fun v h' => iv_I h' ∧ (∃ x, v = some (.int x)) ∧ tq h h') := by
  obtain ⟨N, hN, hW, hX, ha, hc⟩ := hI
  rcases id hc with (c | c) | (c | c)
  · exact am_call.mono (fun _ _ q => ⟨q.1, q.2.2, (q.2.1.2 1 1 (by decide +kernel)).1, (q.2.1.2 154 2 (by decide +kernel)).1, ks_of (by decide +kernel) q.2.1, km_of (by decide +kernel) q.2.1⟩) (iv_call (C := ag_I323.1) rfl (by decide +kernel) (ag_O323 xw_Xk xw_ok) hv hN hW hX ha hc (List.forall_mem_cons.mpr ⟨c.1, fun _ h => absurd h List.not_mem_nil⟩))
  · exact am_call.mono (fun _ _ q => ⟨q.1, q.2.2, (q.2.1.2 1 1 (by decide +kernel)).1, (q.2.1.2 154 2 (by decide +kernel)).1, ks_of (by decide +kernel) q.2.1, km_of (by decide +kernel) q.2.1⟩) (iv_call (C := ag_I323.1) rfl (by decide +kernel) (ag_O323 xw_Xk xw_ok) hv hN hW hX ha hc (List.forall_mem_cons.mpr ⟨c.1, fun _ h => absurd h List.not_mem_nil⟩))
  · exact am_call.mono (fun _ _ q => ⟨q.1, q.2.2, (q.2.1.2 1 1 (by decide +kernel)).1, (q.2.1.2 154 2 (by decide +kernel)).1, ks_of (by decide +kernel) q.2.1, km_of (by decide +kernel) q.2.1⟩) (iv_call (C := ag_I325.1) rfl (by decide +kernel) (ag_O325 xw_Xk xw_ok) hv hN hW hX ha hc (List.forall_mem_cons.mpr ⟨c.1, fun _ h => absurd h List.not_mem_nil⟩))
  · exact am_call.mono (fun _ _ q => ⟨q.1, q.2.2, (q.2.1.2 1 1 (by decide +kernel)).1, (q.2.1.2 154 2 (by decide +kernel)).1, ks_of (by decide +kernel) q.2.1, km_of (by decide +kernel) q.2.1⟩) (iv_call (C := ag_I325.1) rfl (by decide +kernel) (ag_O325 xw_Xk xw_ok) hv hN hW hX ha hc (List.forall_mem_cons.mpr ⟨c.1, fun _ h => absurd h List.not_mem_nil⟩))
/- MistCanton.lots -/
theorem iv_m150 {vs : List Int} (hv : iv_in [] vs) {h : am_H} (hI : iv_I h) : am_call am_cod 60 150 (.ref 0 :: iv_args 0 [] vs) h (fun v h' => iv_I h' ∧ (∃ x, v = some (.int x)) ∧ tq h h') := by
  obtain ⟨N, hN, hW, hX, ha, hc⟩ := hI
  rcases id hc with (c | c) | (c | c)
  · exact am_call.mono (fun _ _ q => ⟨q.1, q.2.2, (q.2.1.2 1 1 (by decide +kernel)).1, (q.2.1.2 154 2 (by decide +kernel)).1, ks_of (by decide +kernel) q.2.1, km_of (by decide +kernel) q.2.1⟩) (iv_call (C := ag_I326.1) rfl (by decide +kernel) (ag_O326 xw_Xk xw_ok) hv hN hW hX ha hc (List.forall_mem_cons.mpr ⟨c.1, fun _ h => absurd h List.not_mem_nil⟩))
  · exact am_call.mono (fun _ _ q => ⟨q.1, q.2.2, (q.2.1.2 1 1 (by decide +kernel)).1, (q.2.1.2 154 2 (by decide +kernel)).1, ks_of (by decide +kernel) q.2.1, km_of (by decide +kernel) q.2.1⟩) (iv_call (C := ag_I326.1) rfl (by decide +kernel) (ag_O326 xw_Xk xw_ok) hv hN hW hX ha hc (List.forall_mem_cons.mpr ⟨c.1, fun _ h => absurd h List.not_mem_nil⟩))
  · exact am_call.mono (fun _ _ q => ⟨q.1, q.2.2, (q.2.1.2 1 1 (by decide +kernel)).1, (q.2.1.2 154 2 (by decide +kernel)).1, ks_of (by decide +kernel) q.2.1, km_of (by decide +kernel) q.2.1⟩) (iv_call (C := ag_I327.1) rfl (by decide +kernel) (ag_O327 xw_Xk xw_ok) hv hN hW hX ha hc (List.forall_mem_cons.mpr ⟨c.1, fun _ h => absurd h List.not_mem_nil⟩))
  · exact am_call.mono (fun _ _ q => ⟨q.1, q.2.2, (q.2.1.2 1 1 (by decide +kernel)).1, (q.2.1.2 154 2 (by decide +kernel)).1, ks_of (by decide +kernel) q.2.1, km_of (by decide +kernel) q.2.1⟩) (iv_call (C := ag_I327.1) rfl (by decide +kernel) (ag_O327 xw_Xk xw_ok) hv hN hW hX ha hc (List.forall_mem_cons.mpr ⟨c.1, fun _ h => absurd h List.not_mem_nil⟩))
/- MistCanton.look -/
theorem iv_m151 {vs : List Int} (hv : iv_in [] vs) {h : am_H} (hI : iv_I h) : am_call am_cod 60 151 (.ref 0 :: iv_args 0 [] vs) h (fun v h' => iv_I h' ∧ (∃ x, v = some (.int x)) ∧ tq h h') := by
  obtain ⟨N, hN, hW, hX, ha, hc⟩ := hI
  rcases id hc with (c | c) | (c | c)
  · exact am_call.mono (fun _ _ q => ⟨q.1, q.2.2, (q.2.1.2 1 1 (by decide +kernel)).1, (q.2.1.2 154 2 (by decide +kernel)).1, ks_of (by decide +kernel) q.2.1, km_of (by decide +kernel) q.2.1⟩) (iv_call (C := ag_I328.1) rfl (by decide +kernel) (ag_O328 xw_Xk xw_ok) hv hN hW hX ha hc (List.forall_mem_cons.mpr ⟨c.1, fun _ h => absurd h List.not_mem_nil⟩))
  · exact am_call.mono (fun _ _ q => ⟨q.1, q.2.2, (q.2.1.2 1 1 (by decide +kernel)).1, (q.2.1.2 154 2 (by decide +kernel)).1, ks_of (by decide +kernel) q.2.1, km_of (by decide +kernel) q.2.1⟩) (iv_call (C := ag_I328.1) rfl (by decide +kernel) (ag_O328 xw_Xk xw_ok) hv hN hW hX ha hc (List.forall_mem_cons.mpr ⟨c.1, fun _ h => absurd h List.not_mem_nil⟩))
  · exact am_call.mono (fun _ _ q => ⟨q.1, q.2.2, (q.2.1.2 1 1 (by decide +kernel)).1, (q.2.1.2 154 2 (by decide +kernel)).1, ks_of (by decide +kernel) q.2.1, km_of (by decide +kernel) q.2.1⟩) (iv_call (C := ag_I329.1) rfl (by decide +kernel) (ag_O329 xw_Xk xw_ok) hv hN hW hX ha hc (List.forall_mem_cons.mpr ⟨c.1, fun _ h => absurd h List.not_mem_nil⟩))
  · exact am_call.mono (fun _ _ q => ⟨q.1, q.2.2, (q.2.1.2 1 1 (by decide +kernel)).1, (q.2.1.2 154 2 (by decide +kernel)).1, ks_of (by decide +kernel) q.2.1, km_of (by decide +kernel) q.2.1⟩) (iv_call (C := ag_I329.1) rfl (by decide +kernel) (ag_O329 xw_Xk xw_ok) hv hN hW hX ha hc (List.forall_mem_cons.mpr ⟨c.1, fun _ h => absurd h List.not_mem_nil⟩))
/- MistCanton.guess -/
theorem iv_m152 {vs : List Int} (hv : iv_in [] vs) {h : am_H} (hI : iv_I h) : am_call am_cod 60 152 (.ref 0 :: iv_args 0 [] vs) h (fun v h' => iv_I h' ∧ (∃ x, v = some (.int x)) ∧ tq h h') := by
  obtain ⟨N, hN, hW, hX, ha, hc⟩ := hI
  rcases id hc with (c | c) | (c | c)
  · exact am_call.mono (fun _ _ q => ⟨q.1, q.2.2, (q.2.1.2 1 1 (by decide +kernel)).1, (q.2.1.2 154 2 (by decide +kernel)).1, ks_of (by decide +kernel) q.2.1, km_of (by decide +kernel) q.2.1⟩) (iv_call (C := ag_I331.1) rfl (by decide +kernel) (ag_O331 xw_Xk xw_ok) hv hN hW hX ha hc (List.forall_mem_cons.mpr ⟨c.1, fun _ h => absurd h List.not_mem_nil⟩))
  · exact am_call.mono (fun _ _ q => ⟨q.1, q.2.2, (q.2.1.2 1 1 (by decide +kernel)).1, (q.2.1.2 154 2 (by decide +kernel)).1, ks_of (by decide +kernel) q.2.1, km_of (by decide +kernel) q.2.1⟩) (iv_call (C := ag_I331.1) rfl (by decide +kernel) (ag_O331 xw_Xk xw_ok) hv hN hW hX ha hc (List.forall_mem_cons.mpr ⟨c.1, fun _ h => absurd h List.not_mem_nil⟩))
  · exact am_call.mono (fun _ _ q => ⟨q.1, q.2.2, (q.2.1.2 1 1 (by decide +kernel)).1, (q.2.1.2 154 2 (by decide +kernel)).1, ks_of (by decide +kernel) q.2.1, km_of (by decide +kernel) q.2.1⟩) (iv_call (C := ag_I334.1) rfl (by decide +kernel) (ag_O334 xw_Xk xw_ok) hv hN hW hX ha hc (List.forall_mem_cons.mpr ⟨c.1, fun _ h => absurd h List.not_mem_nil⟩))
  · exact am_call.mono (fun _ _ q => ⟨q.1, q.2.2, (q.2.1.2 1 1 (by decide +kernel)).1, (q.2.1.2 154 2 (by decide +kernel)).1, ks_of (by decide +kernel) q.2.1, km_of (by decide +kernel) q.2.1⟩) (iv_call (C := ag_I334.1) rfl (by decide +kernel) (ag_O334 xw_Xk xw_ok) hv hN hW hX ha hc (List.forall_mem_cons.mpr ⟨c.1, fun _ h => absurd h List.not_mem_nil⟩))
/- MistCanton.wrong -/
theorem iv_m154 {vs : List Int} (hv : iv_in [] vs) {h : am_H} (hI : iv_I h) : am_call am_cod 60 154 (.ref 0 :: iv_args 0 [] vs) h (fun v h' => iv_I h' ∧ (∃ x, v = some (.int x)) ∧ tq h h') := by
  obtain ⟨N, hN, hW, hX, ha, hc⟩ := hI
  rcases id hc with (c | c) | (c | c)
  · exact am_call.mono (fun _ _ q => ⟨q.1, q.2.2, (q.2.1.2 1 1 (by decide +kernel)).1, (q.2.1.2 154 2 (by decide +kernel)).1, ks_of (by decide +kernel) q.2.1, km_of (by decide +kernel) q.2.1⟩) (iv_call (C := ag_I332.1) rfl (by decide +kernel) (ag_O332 xw_Xk xw_ok) hv hN hW hX ha hc (List.forall_mem_cons.mpr ⟨c.1, fun _ h => absurd h List.not_mem_nil⟩))
  · exact am_call.mono (fun _ _ q => ⟨q.1, q.2.2, (q.2.1.2 1 1 (by decide +kernel)).1, (q.2.1.2 154 2 (by decide +kernel)).1, ks_of (by decide +kernel) q.2.1, km_of (by decide +kernel) q.2.1⟩) (iv_call (C := ag_I332.1) rfl (by decide +kernel) (ag_O332 xw_Xk xw_ok) hv hN hW hX ha hc (List.forall_mem_cons.mpr ⟨c.1, fun _ h => absurd h List.not_mem_nil⟩))
  · exact am_call.mono (fun _ _ q => ⟨q.1, q.2.2, (q.2.1.2 1 1 (by decide +kernel)).1, (q.2.1.2 154 2 (by decide +kernel)).1, ks_of (by decide +kernel) q.2.1, km_of (by decide +kernel) q.2.1⟩) (iv_call (C := ag_I335.1) rfl (by decide +kernel) (ag_O335 xw_Xk xw_ok) hv hN hW hX ha hc (List.forall_mem_cons.mpr ⟨c.1, fun _ h => absurd h List.not_mem_nil⟩))
  · exact am_call.mono (fun _ _ q => ⟨q.1, q.2.2, (q.2.1.2 1 1 (by decide +kernel)).1, (q.2.1.2 154 2 (by decide +kernel)).1, ks_of (by decide +kernel) q.2.1, km_of (by decide +kernel) q.2.1⟩) (iv_call (C := ag_I335.1) rfl (by decide +kernel) (ag_O335 xw_Xk xw_ok) hv hN hW hX ha hc (List.forall_mem_cons.mpr ⟨c.1, fun _ h => absurd h List.not_mem_nil⟩))
/- MistCanton.spread -/
theorem iv_m155 {vs : List Int} (hv : iv_in [] vs) {h : am_H} (hI : iv_I h) : am_call am_cod 60 155 (.ref 0 :: iv_args 0 [] vs) h (fun v h' => iv_I h' ∧ (∃ x, v = some (.int x)) ∧ tq h h') := by
  obtain ⟨N, hN, hW, hX, ha, hc⟩ := hI
  rcases id hc with (c | c) | (c | c)
  · exact am_call.mono (fun _ _ q => ⟨q.1, q.2.2, (q.2.1.2 1 1 (by decide +kernel)).1, (q.2.1.2 154 2 (by decide +kernel)).1, ks_of (by decide +kernel) q.2.1, km_of (by decide +kernel) q.2.1⟩) (iv_call (C := ag_I519.1) rfl (by decide +kernel) (ag_O519 xw_Xk xw_ok) hv hN hW hX ha hc (List.forall_mem_cons.mpr ⟨c.1, fun _ h => absurd h List.not_mem_nil⟩))
  · exact am_call.mono (fun _ _ q => ⟨q.1, q.2.2, (q.2.1.2 1 1 (by decide +kernel)).1, (q.2.1.2 154 2 (by decide +kernel)).1, ks_of (by decide +kernel) q.2.1, km_of (by decide +kernel) q.2.1⟩) (iv_call (C := ag_I519.1) rfl (by decide +kernel) (ag_O519 xw_Xk xw_ok) hv hN hW hX ha hc (List.forall_mem_cons.mpr ⟨c.1, fun _ h => absurd h List.not_mem_nil⟩))
  · exact am_call.mono (fun _ _ q => ⟨q.1, q.2.2, (q.2.1.2 1 1 (by decide +kernel)).1, (q.2.1.2 154 2 (by decide +kernel)).1, ks_of (by decide +kernel) q.2.1, km_of (by decide +kernel) q.2.1⟩) (iv_call (C := ag_I520.1) rfl (by decide +kernel) (ag_O520 xw_Xk xw_ok) hv hN hW hX ha hc (List.forall_mem_cons.mpr ⟨c.1, fun _ h => absurd h List.not_mem_nil⟩))
  · exact am_call.mono (fun _ _ q => ⟨q.1, q.2.2, (q.2.1.2 1 1 (by decide +kernel)).1, (q.2.1.2 154 2 (by decide +kernel)).1, ks_of (by decide +kernel) q.2.1, km_of (by decide +kernel) q.2.1⟩) (iv_call (C := ag_I520.1) rfl (by decide +kernel) (ag_O520 xw_Xk xw_ok) hv hN hW hX ha hc (List.forall_mem_cons.mpr ⟨c.1, fun _ h => absurd h List.not_mem_nil⟩))
/- MistCanton.pairs -/
theorem iv_m156 {vs : List Int} (hv : iv_in [] vs) {h : am_H} (hI : iv_I h) : am_call am_cod 60 156 (.ref 0 :: iv_args 0 [] vs) h (fun v h' => iv_I h' ∧ (∃ x, v = some (.int x)) ∧ tq h h') := by
  obtain ⟨N, hN, hW, hX, ha, hc⟩ := hI
  rcases id hc with (c | c) | (c | c)
  · exact am_call.mono (fun _ _ q => ⟨q.1, q.2.2, (q.2.1.2 1 1 (by decide +kernel)).1, (q.2.1.2 154 2 (by decide +kernel)).1, ks_of (by decide +kernel) q.2.1, km_of (by decide +kernel) q.2.1⟩) (iv_call (C := ag_I521.1) rfl (by decide +kernel) (ag_O521 xw_Xk xw_ok) hv hN hW hX ha hc (List.forall_mem_cons.mpr ⟨c.1, fun _ h => absurd h List.not_mem_nil⟩))
  · exact am_call.mono (fun _ _ q => ⟨q.1, q.2.2, (q.2.1.2 1 1 (by decide +kernel)).1, (q.2.1.2 154 2 (by decide +kernel)).1, ks_of (by decide +kernel) q.2.1, km_of (by decide +kernel) q.2.1⟩) (iv_call (C := ag_I521.1) rfl (by decide +kernel) (ag_O521 xw_Xk xw_ok) hv hN hW hX ha hc (List.forall_mem_cons.mpr ⟨c.1, fun _ h => absurd h List.not_mem_nil⟩))
  · exact am_call.mono (fun _ _ q => ⟨q.1, q.2.2, (q.2.1.2 1 1 (by decide +kernel)).1, (q.2.1.2 154 2 (by decide +kernel)).1, ks_of (by decide +kernel) q.2.1, km_of (by decide +kernel) q.2.1⟩) (iv_call (C := ag_I522.1) rfl (by decide +kernel) (ag_O522 xw_Xk xw_ok) hv hN hW hX ha hc (List.forall_mem_cons.mpr ⟨c.1, fun _ h => absurd h List.not_mem_nil⟩))
  · exact am_call.mono (fun _ _ q => ⟨q.1, q.2.2, (q.2.1.2 1 1 (by decide +kernel)).1, (q.2.1.2 154 2 (by decide +kernel)).1, ks_of (by decide +kernel) q.2.1, km_of (by decide +kernel) q.2.1⟩) (iv_call (C := ag_I522.1) rfl (by decide +kernel) (ag_O522 xw_Xk xw_ok) hv hN hW hX ha hc (List.forall_mem_cons.mpr ⟨c.1, fun _ h => absurd h List.not_mem_nil⟩))
/- MistCanton.right -/
theorem iv_m157 {vs : List Int} (hv : iv_in [] vs) {h : am_H} (hI : iv_I h) : am_call am_cod 60 157 (.ref 0 :: iv_args 0 [] vs) h (fun v h' => iv_I h' ∧ (∃ x, v = some (.int x)) ∧ tq h h') := by
  obtain ⟨N, hN, hW, hX, ha, hc⟩ := hI
  rcases id hc with (c | c) | (c | c)
  · exact am_call.mono (fun _ _ q => ⟨q.1, q.2.2, (q.2.1.2 1 1 (by decide +kernel)).1, (q.2.1.2 154 2 (by decide +kernel)).1, ks_of (by decide +kernel) q.2.1, km_of (by decide +kernel) q.2.1⟩) (iv_call (C := ag_I360.1) rfl (by decide +kernel) (ag_O360 xw_Xk xw_ok) hv hN hW hX ha hc (List.forall_mem_cons.mpr ⟨c.1, fun _ h => absurd h List.not_mem_nil⟩))
  · exact am_call.mono (fun _ _ q => ⟨q.1, q.2.2, (q.2.1.2 1 1 (by decide +kernel)).1, (q.2.1.2 154 2 (by decide +kernel)).1, ks_of (by decide +kernel) q.2.1, km_of (by decide +kernel) q.2.1⟩) (iv_call (C := ag_I360.1) rfl (by decide +kernel) (ag_O360 xw_Xk xw_ok) hv hN hW hX ha hc (List.forall_mem_cons.mpr ⟨c.1, fun _ h => absurd h List.not_mem_nil⟩))
  · exact am_call.mono (fun _ _ q => ⟨q.1, q.2.2, (q.2.1.2 1 1 (by decide +kernel)).1, (q.2.1.2 154 2 (by decide +kernel)).1, ks_of (by decide +kernel) q.2.1, km_of (by decide +kernel) q.2.1⟩) (iv_call (C := ag_I361.1) rfl (by decide +kernel) (ag_O361 xw_Xk xw_ok) hv hN hW hX ha hc (List.forall_mem_cons.mpr ⟨c.1, fun _ h => absurd h List.not_mem_nil⟩))
  · exact am_call.mono (fun _ _ q => ⟨q.1, q.2.2, (q.2.1.2 1 1 (by decide +kernel)).1, (q.2.1.2 154 2 (by decide +kernel)).1, ks_of (by decide +kernel) q.2.1, km_of (by decide +kernel) q.2.1⟩) (iv_call (C := ag_I361.1) rfl (by decide +kernel) (ag_O361 xw_Xk xw_ok) hv hN hW hX ha hc (List.forall_mem_cons.mpr ⟨c.1, fun _ h => absurd h List.not_mem_nil⟩))
/- MistCanton.steady -/
theorem iv_m158 {vs : List Int} (hv : iv_in [] vs) {h : am_H} (hI : iv_I h) : am_call am_cod 60 158 (.ref 0 :: iv_args 0 [] vs) h (fun v h' => iv_I h' ∧ (∃ x, v = some (.int x)) ∧ tq h h') := by
  obtain ⟨N, hN, hW, hX, ha, hc⟩ := hI
  rcases id hc with (c | c) | (c | c)
  · exact am_call.mono (fun _ _ q => ⟨q.1, q.2.2, (q.2.1.2 1 1 (by decide +kernel)).1, (q.2.1.2 154 2 (by decide +kernel)).1, ks_of (by decide +kernel) q.2.1, km_of (by decide +kernel) q.2.1⟩) (iv_call (C := ag_I370.1) rfl (by decide +kernel) (ag_O370 xw_Xk xw_ok) hv hN hW hX ha hc (List.forall_mem_cons.mpr ⟨c.1, fun _ h => absurd h List.not_mem_nil⟩))
  · exact am_call.mono (fun _ _ q => ⟨q.1, q.2.2, (q.2.1.2 1 1 (by decide +kernel)).1, (q.2.1.2 154 2 (by decide +kernel)).1, ks_of (by decide +kernel) q.2.1, km_of (by decide +kernel) q.2.1⟩) (iv_call (C := ag_I370.1) rfl (by decide +kernel) (ag_O370 xw_Xk xw_ok) hv hN hW hX ha hc (List.forall_mem_cons.mpr ⟨c.1, fun _ h => absurd h List.not_mem_nil⟩))
  · exact am_call.mono (fun _ _ q => ⟨q.1, q.2.2, (q.2.1.2 1 1 (by decide +kernel)).1, (q.2.1.2 154 2 (by decide +kernel)).1, ks_of (by decide +kernel) q.2.1, km_of (by decide +kernel) q.2.1⟩) (iv_call (C := ag_I372.1) rfl (by decide +kernel) (ag_O372 xw_Xk xw_ok) hv hN hW hX ha hc (List.forall_mem_cons.mpr ⟨c.1, fun _ h => absurd h List.not_mem_nil⟩))
  · exact am_call.mono (fun _ _ q => ⟨q.1, q.2.2, (q.2.1.2 1 1 (by decide +kernel)).1, (q.2.1.2 154 2 (by decide +kernel)).1, ks_of (by decide +kernel) q.2.1, km_of (by decide +kernel) q.2.1⟩) (iv_call (C := ag_I372.1) rfl (by decide +kernel) (ag_O372 xw_Xk xw_ok) hv hN hW hX ha hc (List.forall_mem_cons.mpr ⟨c.1, fun _ h => absurd h List.not_mem_nil⟩))
/- MistCanton.through -/
theorem iv_m160 {vs : List Int} (hv : iv_in [0, 0] vs) {h : am_H} (hI : iv_I h) : am_call am_cod 60 160 (.ref 0 :: iv_args 0 [0, 0] vs) h (fun v h' => iv_I h' ∧ (∃ x, v = some (.int x)) ∧ tq h h') := by
  obtain ⟨N, hN, hW, hX, ha, hc⟩ := hI
  rcases id hc with (c | c) | (c | c)
  · exact am_call.mono (fun _ _ q => ⟨q.1, q.2.2, (q.2.1.2 1 1 (by decide +kernel)).1, (q.2.1.2 154 2 (by decide +kernel)).1, ks_of (by decide +kernel) q.2.1, km_of (by decide +kernel) q.2.1⟩) (iv_call (C := ag_I343.1) rfl (by decide +kernel) (ag_O343 xw_Xk xw_ok) hv hN hW hX ha hc (List.forall_mem_cons.mpr ⟨c.1, fun _ h => absurd h List.not_mem_nil⟩))
  · exact am_call.mono (fun _ _ q => ⟨q.1, q.2.2, (q.2.1.2 1 1 (by decide +kernel)).1, (q.2.1.2 154 2 (by decide +kernel)).1, ks_of (by decide +kernel) q.2.1, km_of (by decide +kernel) q.2.1⟩) (iv_call (C := ag_I343.1) rfl (by decide +kernel) (ag_O343 xw_Xk xw_ok) hv hN hW hX ha hc (List.forall_mem_cons.mpr ⟨c.1, fun _ h => absurd h List.not_mem_nil⟩))
  · exact am_call.mono (fun _ _ q => ⟨q.1, q.2.2, (q.2.1.2 1 1 (by decide +kernel)).1, (q.2.1.2 154 2 (by decide +kernel)).1, ks_of (by decide +kernel) q.2.1, km_of (by decide +kernel) q.2.1⟩) (iv_call (C := ag_I345.1) rfl (by decide +kernel) (ag_O345 xw_Xk xw_ok) hv hN hW hX ha hc (List.forall_mem_cons.mpr ⟨c.1, fun _ h => absurd h List.not_mem_nil⟩))
  · exact am_call.mono (fun _ _ q => ⟨q.1, q.2.2, (q.2.1.2 1 1 (by decide +kernel)).1, (q.2.1.2 154 2 (by decide +kernel)).1, ks_of (by decide +kernel) q.2.1, km_of (by decide +kernel) q.2.1⟩) (iv_call (C := ag_I345.1) rfl (by decide +kernel) (ag_O345 xw_Xk xw_ok) hv hN hW hX ha hc (List.forall_mem_cons.mpr ⟨c.1, fun _ h => absurd h List.not_mem_nil⟩))
/- MistCanton.wedded -/
theorem iv_m162 {vs : List Int} (hv : iv_in [] vs) {h : am_H} (hI : iv_I h) : am_call am_cod 60 162 (.ref 0 :: iv_args 0 [] vs) h (fun v h' => iv_I h' ∧ (∃ x, v = some (.int x)) ∧ tq h h') := by
  obtain ⟨N, hN, hW, hX, ha, hc⟩ := hI
  rcases id hc with (c | c) | (c | c)
  · exact am_call.mono (fun _ _ q => ⟨q.1, q.2.2, (q.2.1.2 1 1 (by decide +kernel)).1, (q.2.1.2 154 2 (by decide +kernel)).1, ks_of (by decide +kernel) q.2.1, km_of (by decide +kernel) q.2.1⟩) (iv_call (C := ag_I346.1) rfl (by decide +kernel) (ag_O346 xw_Xk xw_ok) hv hN hW hX ha hc (List.forall_mem_cons.mpr ⟨c.1, fun _ h => absurd h List.not_mem_nil⟩))
  · exact am_call.mono (fun _ _ q => ⟨q.1, q.2.2, (q.2.1.2 1 1 (by decide +kernel)).1, (q.2.1.2 154 2 (by decide +kernel)).1, ks_of (by decide +kernel) q.2.1, km_of (by decide +kernel) q.2.1⟩) (iv_call (C := ag_I346.1) rfl (by decide +kernel) (ag_O346 xw_Xk xw_ok) hv hN hW hX ha hc (List.forall_mem_cons.mpr ⟨c.1, fun _ h => absurd h List.not_mem_nil⟩))
  · exact am_call.mono (fun _ _ q => ⟨q.1, q.2.2, (q.2.1.2 1 1 (by decide +kernel)).1, (q.2.1.2 154 2 (by decide +kernel)).1, ks_of (by decide +kernel) q.2.1, km_of (by decide +kernel) q.2.1⟩) (iv_call (C := ag_I347.1) rfl (by decide +kernel) (ag_O347 xw_Xk xw_ok) hv hN hW hX ha hc (List.forall_mem_cons.mpr ⟨c.1, fun _ h => absurd h List.not_mem_nil⟩))
  · exact am_call.mono (fun _ _ q => ⟨q.1, q.2.2, (q.2.1.2 1 1 (by decide +kernel)).1, (q.2.1.2 154 2 (by decide +kernel)).1, ks_of (by decide +kernel) q.2.1, km_of (by decide +kernel) q.2.1⟩) (iv_call (C := ag_I347.1) rfl (by decide +kernel) (ag_O347 xw_Xk xw_ok) hv hN hW hX ha hc (List.forall_mem_cons.mpr ⟨c.1, fun _ h => absurd h List.not_mem_nil⟩))
/- MistCanton.circles -/
theorem iv_m163 {vs : List Int} (hv : iv_in [] vs) {h : am_H} (hI : iv_I h) : am_call am_cod 60 163 (.ref 0 :: iv_args 0 [] vs) h (fun v h' => iv_I h' ∧ (∃ x, v = some (.int x)) ∧ tq h h') := by
  obtain ⟨N, hN, hW, hX, ha, hc⟩ := hI
  rcases id hc with (c | c) | (c | c)
  · exact am_call.mono (fun _ _ q => ⟨q.1, q.2.2, (q.2.1.2 1 1 (by decide +kernel)).1, (q.2.1.2 154 2 (by decide +kernel)).1, ks_of (by decide +kernel) q.2.1, km_of (by decide +kernel) q.2.1⟩) (iv_call (C := ag_I349.1) rfl (by decide +kernel) (ag_O349 xw_Xk xw_ok) hv hN hW hX ha hc (List.forall_mem_cons.mpr ⟨c.1, fun _ h => absurd h List.not_mem_nil⟩))
  · exact am_call.mono (fun _ _ q => ⟨q.1, q.2.2, (q.2.1.2 1 1 (by decide +kernel)).1, (q.2.1.2 154 2 (by decide +kernel)).1, ks_of (by decide +kernel) q.2.1, km_of (by decide +kernel) q.2.1⟩) (iv_call (C := ag_I349.1) rfl (by decide +kernel) (ag_O349 xw_Xk xw_ok) hv hN hW hX ha hc (List.forall_mem_cons.mpr ⟨c.1, fun _ h => absurd h List.not_mem_nil⟩))
  · exact am_call.mono (fun _ _ q => ⟨q.1, q.2.2, (q.2.1.2 1 1 (by decide +kernel)).1, (q.2.1.2 154 2 (by decide +kernel)).1, ks_of (by decide +kernel) q.2.1, km_of (by decide +kernel) q.2.1⟩) (iv_call (C := ag_I351.1) rfl (by decide +kernel) (ag_O351 xw_Xk xw_ok) hv hN hW hX ha hc (List.forall_mem_cons.mpr ⟨c.1, fun _ h => absurd h List.not_mem_nil⟩))
  · exact am_call.mono (fun _ _ q => ⟨q.1, q.2.2, (q.2.1.2 1 1 (by decide +kernel)).1, (q.2.1.2 154 2 (by decide +kernel)).1, ks_of (by decide +kernel) q.2.1, km_of (by decide +kernel) q.2.1⟩) (iv_call (C := ag_I351.1) rfl (by decide +kernel) (ag_O351 xw_Xk xw_ok) hv hN hW hX ha hc (List.forall_mem_cons.mpr ⟨c.1, fun _ h => absurd h List.not_mem_nil⟩))
/- MistCanton.shared -/
theorem iv_m165 {vs : List Int} (hv : iv_in [0, 0] vs) {h : am_H} (hI : iv_I h) : am_call am_cod 60 165 (.ref 0 :: iv_args 0 [0, 0] vs) h (fun v h' => iv_I h' ∧ (∃ x, v = some (.int x)) ∧ tq h h') := by
  obtain ⟨N, hN, hW, hX, ha, hc⟩ := hI
  rcases id hc with (c | c) | (c | c)
  · exact am_call.mono (fun _ _ q => ⟨q.1, q.2.2, (q.2.1.2 1 1 (by decide +kernel)).1, (q.2.1.2 154 2 (by decide +kernel)).1, ks_of (by decide +kernel) q.2.1, km_of (by decide +kernel) q.2.1⟩) (iv_call (C := ag_I356.1) rfl (by decide +kernel) (ag_O356 xw_Xk xw_ok) hv hN hW hX ha hc (List.forall_mem_cons.mpr ⟨c.1, fun _ h => absurd h List.not_mem_nil⟩))
  · exact am_call.mono (fun _ _ q => ⟨q.1, q.2.2, (q.2.1.2 1 1 (by decide +kernel)).1, (q.2.1.2 154 2 (by decide +kernel)).1, ks_of (by decide +kernel) q.2.1, km_of (by decide +kernel) q.2.1⟩) (iv_call (C := ag_I356.1) rfl (by decide +kernel) (ag_O356 xw_Xk xw_ok) hv hN hW hX ha hc (List.forall_mem_cons.mpr ⟨c.1, fun _ h => absurd h List.not_mem_nil⟩))
  · exact am_call.mono (fun _ _ q => ⟨q.1, q.2.2, (q.2.1.2 1 1 (by decide +kernel)).1, (q.2.1.2 154 2 (by decide +kernel)).1, ks_of (by decide +kernel) q.2.1, km_of (by decide +kernel) q.2.1⟩) (iv_call (C := ag_I357.1) rfl (by decide +kernel) (ag_O357 xw_Xk xw_ok) hv hN hW hX ha hc (List.forall_mem_cons.mpr ⟨c.1, fun _ h => absurd h List.not_mem_nil⟩))
  · exact am_call.mono (fun _ _ q => ⟨q.1, q.2.2, (q.2.1.2 1 1 (by decide +kernel)).1, (q.2.1.2 154 2 (by decide +kernel)).1, ks_of (by decide +kernel) q.2.1, km_of (by decide +kernel) q.2.1⟩) (iv_call (C := ag_I357.1) rfl (by decide +kernel) (ag_O357 xw_Xk xw_ok) hv hN hW hX ha hc (List.forall_mem_cons.mpr ⟨c.1, fun _ h => absurd h List.not_mem_nil⟩))
/- MistCanton.cover -/
theorem iv_m166 {vs : List Int} (hv : iv_in [] vs) {h : am_H} (hI : iv_I h) : am_call am_cod 60 166 (.ref 0 :: iv_args 0 [] vs) h (fun v h' => iv_I h' ∧ (∃ x, v = some (.int x)) ∧ tq h h') := by
  obtain ⟨N, hN, hW, hX, ha, hc⟩ := hI
  rcases id hc with (c | c) | (c | c)
  · exact am_call.mono (fun _ _ q => ⟨q.1, q.2.2, (q.2.1.2 1 1 (by decide +kernel)).1, (q.2.1.2 154 2 (by decide +kernel)).1, ks_of (by decide +kernel) q.2.1, km_of (by decide +kernel) q.2.1⟩) (iv_call (C := ag_I353.1) rfl (by decide +kernel) (ag_O353 xw_Xk xw_ok) hv hN hW hX ha hc (List.forall_mem_cons.mpr ⟨c.1, fun _ h => absurd h List.not_mem_nil⟩))
  · exact am_call.mono (fun _ _ q => ⟨q.1, q.2.2, (q.2.1.2 1 1 (by decide +kernel)).1, (q.2.1.2 154 2 (by decide +kernel)).1, ks_of (by decide +kernel) q.2.1, km_of (by decide +kernel) q.2.1⟩) (iv_call (C := ag_I353.1) rfl (by decide +kernel) (ag_O353 xw_Xk xw_ok) hv hN hW hX ha hc (List.forall_mem_cons.mpr ⟨c.1, fun _ h => absurd h List.not_mem_nil⟩))
  · exact am_call.mono (fun _ _ q => ⟨q.1, q.2.2, (q.2.1.2 1 1 (by decide +kernel)).1, (q.2.1.2 154 2 (by decide +kernel)).1, ks_of (by decide +kernel) q.2.1, km_of (by decide +kernel) q.2.1⟩) (iv_call (C := ag_I355.1) rfl (by decide +kernel) (ag_O355 xw_Xk xw_ok) hv hN hW hX ha hc (List.forall_mem_cons.mpr ⟨c.1, fun _ h => absurd h List.not_mem_nil⟩))
  · exact am_call.mono (fun _ _ q => ⟨q.1, q.2.2, (q.2.1.2 1 1 (by decide +kernel)).1, (q.2.1.2 154 2 (by decide +kernel)).1, ks_of (by decide +kernel) q.2.1, km_of (by decide +kernel) q.2.1⟩) (iv_call (C := ag_I355.1) rfl (by decide +kernel) (ag_O355 xw_Xk xw_ok) hv hN hW hX ha hc (List.forall_mem_cons.mpr ⟨c.1, fun _ h => absurd h List.not_mem_nil⟩))
/- MistCantonModel.person -/
theorem iv_m220 {vs : List Int} (hv : iv_in [0, 0] vs) {h : am_H} (hI : iv_I h) : am_call am_cod 60 220 (.ref 154 :: iv_args 0 [0, 0] vs) h (fun v h' => iv_I h' ∧ (∃ x, v = some (.int x)) ∧ tq h h') := by
  obtain ⟨N, hN, hW, hX, ha, hc⟩ := hI
  exact am_call.mono (fun _ _ q => ⟨q.1, q.2.2, (q.2.1.2 1 1 (by decide +kernel)).1, (q.2.1.2 154 2 (by decide +kernel)).1, ks_of (by decide +kernel) q.2.1, km_of (by decide +kernel) q.2.1⟩) (iv_call (C := ag_I398.1) rfl (by decide +kernel) (ag_O398 xw_Xk xw_ok) hv hN hW hX ha hc (fun _ h => absurd h List.not_mem_nil))
/- MistCantonModel.event -/
theorem iv_m226 {vs : List Int} (hv : iv_in [0, 0] vs) {h : am_H} (hI : iv_I h) : am_call am_cod 60 226 (.ref 154 :: iv_args 0 [0, 0] vs) h (fun v h' => iv_I h' ∧ (∃ x, v = some (.int x)) ∧ tq h h') := by
  obtain ⟨N, hN, hW, hX, ha, hc⟩ := hI
  exact am_call.mono (fun _ _ q => ⟨q.1, q.2.2, (q.2.1.2 1 1 (by decide +kernel)).1, (q.2.1.2 154 2 (by decide +kernel)).1, ks_of (by decide +kernel) q.2.1, km_of (by decide +kernel) q.2.1⟩) (iv_call (C := ag_I400.1) rfl (by decide +kernel) (ag_O400 xw_Xk xw_ok) hv hN hW hX ha hc (fun _ h => absurd h List.not_mem_nil))
/- MistCantonModel.day -/
theorem iv_m230 {vs : List Int} (hv : iv_in [] vs) {h : am_H} (hI : iv_I h) : am_call am_cod 60 230 (.ref 154 :: iv_args 0 [] vs) h (fun v h' => iv_I h' ∧ (∃ x, v = some (.int x)) ∧ tq h h') := by
  obtain ⟨N, hN, hW, hX, ha, hc⟩ := hI
  exact am_call.mono (fun _ _ q => ⟨q.1, q.2.2, (q.2.1.2 1 1 (by decide +kernel)).1, (q.2.1.2 154 2 (by decide +kernel)).1, ks_of (by decide +kernel) q.2.1, km_of (by decide +kernel) q.2.1⟩) (iv_call (C := ag_I437.1) rfl (by decide +kernel) (ag_O437 xw_Xk xw_ok) hv hN hW hX ha hc (fun _ h => absurd h List.not_mem_nil))
/- MistCantonModel.lot -/
theorem iv_m239 {vs : List Int} (hv : iv_in [0, 0] vs) {h : am_H} (hI : iv_I h) : am_call am_cod 60 239 (.ref 154 :: iv_args 0 [0, 0] vs) h (fun v h' => iv_I h' ∧ (∃ x, v = some (.int x)) ∧ tq h h') := by
  obtain ⟨N, hN, hW, hX, ha, hc⟩ := hI
  exact am_call.mono (fun _ _ q => ⟨q.1, q.2.2, (q.2.1.2 1 1 (by decide +kernel)).1, (q.2.1.2 154 2 (by decide +kernel)).1, ks_of (by decide +kernel) q.2.1, km_of (by decide +kernel) q.2.1⟩) (iv_call (C := ag_I438.1) rfl (by decide +kernel) (ag_O438 xw_Xk xw_ok) hv hN hW hX ha hc (fun _ h => absurd h List.not_mem_nil))
/- MistCantonModel.ask -/
theorem iv_m240 {vs : List Int} (hv : iv_in [0] vs) {h : am_H} (hI : iv_I h) : am_call am_cod 60 240 (.ref 154 :: iv_args 0 [0] vs) h (fun v h' => iv_I h' ∧ (∃ x, v = some (.int x)) ∧ tq h h') := by
  obtain ⟨N, hN, hW, hX, ha, hc⟩ := hI
  exact am_call.mono (fun _ _ q => ⟨q.1, q.2.2, (q.2.1.2 1 1 (by decide +kernel)).1, (q.2.1.2 154 2 (by decide +kernel)).1, ks_of (by decide +kernel) q.2.1, km_of (by decide +kernel) q.2.1⟩) (iv_call (C := ag_I439.1) rfl (by decide +kernel) (ag_O439 xw_Xk xw_ok) hv hN hW hX ha hc (fun _ h => absurd h List.not_mem_nil))
/- MistCantonModel.judged -/
theorem iv_m243 {vs : List Int} (hv : iv_in [0] vs) {h : am_H} (hI : iv_I h) : am_call am_cod 60 243 (.ref 154 :: iv_args 0 [0] vs) h (fun v h' => iv_I h' ∧ (∃ x, v = some (.int x)) ∧ tq h h') := by
  obtain ⟨N, hN, hW, hX, ha, hc⟩ := hI
  exact am_call.mono (fun _ _ q => ⟨q.1, q.2.2, (q.2.1.2 1 1 (by decide +kernel)).1, (q.2.1.2 154 2 (by decide +kernel)).1, ks_of (by decide +kernel) q.2.1, km_of (by decide +kernel) q.2.1⟩) (iv_call (C := ag_I462.1) rfl (by decide +kernel) (ag_O462 xw_Xk xw_ok) hv hN hW hX ha hc (fun _ h => absurd h List.not_mem_nil))
/- MistCantonModel.attends -/
theorem iv_m246 {vs : List Int} (hv : iv_in [0, 0] vs) {h : am_H} (hI : iv_I h) : am_call am_cod 60 246 (.ref 154 :: iv_args 0 [0, 0] vs) h (fun v h' => iv_I h' ∧ (∃ x, v = some (.int x)) ∧ tq h h') := by
  obtain ⟨N, hN, hW, hX, ha, hc⟩ := hI
  exact am_call.mono (fun _ _ q => ⟨q.1, q.2.2, (q.2.1.2 1 1 (by decide +kernel)).1, (q.2.1.2 154 2 (by decide +kernel)).1, ks_of (by decide +kernel) q.2.1, km_of (by decide +kernel) q.2.1⟩) (iv_call (C := ag_I464.1) rfl (by decide +kernel) (ag_O464 xw_Xk xw_ok) hv hN hW hX ha hc (fun _ h => absurd h List.not_mem_nil))
/- MistCantonModel.next -/
theorem iv_m248 {vs : List Int} (hv : iv_in [0, 0] vs) {h : am_H} (hI : iv_I h) : am_call am_cod 60 248 (.ref 154 :: iv_args 0 [0, 0] vs) h (fun v h' => iv_I h' ∧ (∃ x, v = some (.int x)) ∧ tq h h') := by
  obtain ⟨N, hN, hW, hX, ha, hc⟩ := hI
  exact am_call.mono (fun _ _ q => ⟨q.1, q.2.2, (q.2.1.2 1 1 (by decide +kernel)).1, (q.2.1.2 154 2 (by decide +kernel)).1, ks_of (by decide +kernel) q.2.1, km_of (by decide +kernel) q.2.1⟩) (iv_call (C := ag_I465.1) rfl (by decide +kernel) (ag_O465 xw_Xk xw_ok) hv hN hW hX ha hc (fun _ h => absurd h List.not_mem_nil))
/- MistCantonModel.quorum -/
theorem iv_m249 {vs : List Int} (hv : iv_in [0] vs) {h : am_H} (hI : iv_I h) : am_call am_cod 60 249 (.ref 154 :: iv_args 0 [0] vs) h (fun v h' => iv_I h' ∧ (∃ x, v = some (.int x)) ∧ tq h h') := by
  obtain ⟨N, hN, hW, hX, ha, hc⟩ := hI
  exact am_call.mono (fun _ _ q => ⟨q.1, q.2.2, (q.2.1.2 1 1 (by decide +kernel)).1, (q.2.1.2 154 2 (by decide +kernel)).1, ks_of (by decide +kernel) q.2.1, km_of (by decide +kernel) q.2.1⟩) (iv_call (C := ag_I466.1) rfl (by decide +kernel) (ag_O466 xw_Xk xw_ok) hv hN hW hX ha hc (fun _ h => absurd h List.not_mem_nil))
/- MistCantonModel.held -/
theorem iv_m250 {vs : List Int} (hv : iv_in [0, 0] vs) {h : am_H} (hI : iv_I h) : am_call am_cod 60 250 (.ref 154 :: iv_args 0 [0, 0] vs) h (fun v h' => iv_I h' ∧ (∃ x, v = some (.int x)) ∧ tq h h') := by
  obtain ⟨N, hN, hW, hX, ha, hc⟩ := hI
  exact am_call.mono (fun _ _ q => ⟨q.1, q.2.2, (q.2.1.2 1 1 (by decide +kernel)).1, (q.2.1.2 154 2 (by decide +kernel)).1, ks_of (by decide +kernel) q.2.1, km_of (by decide +kernel) q.2.1⟩) (iv_call (C := ag_I467.1) rfl (by decide +kernel) (ag_O467 xw_Xk xw_ok) hv hN hW hX ha hc (fun _ h => absurd h List.not_mem_nil))
/- MistCantonModel.meet -/
theorem iv_m251 {vs : List Int} (hv : iv_in [0, 0] vs) {h : am_H} (hI : iv_I h) : am_call am_cod 60 251 (.ref 154 :: iv_args 0 [0, 0] vs) h (fun v h' => iv_I h' ∧ (∃ x, v = some (.int x)) ∧ tq h h') := by
  obtain ⟨N, hN, hW, hX, ha, hc⟩ := hI
  exact am_call.mono (fun _ _ q => ⟨q.1, q.2.2, (q.2.1.2 1 1 (by decide +kernel)).1, (q.2.1.2 154 2 (by decide +kernel)).1, ks_of (by decide +kernel) q.2.1, km_of (by decide +kernel) q.2.1⟩) (iv_call (C := ag_I468.1) rfl (by decide +kernel) (ag_O468 xw_Xk xw_ok) hv hN hW hX ha hc (fun _ h => absurd h List.not_mem_nil))
/- MistCantonModel.idle -/
theorem iv_m252 {vs : List Int} (hv : iv_in [0] vs) {h : am_H} (hI : iv_I h) : am_call am_cod 60 252 (.ref 154 :: iv_args 0 [0] vs) h (fun v h' => iv_I h' ∧ (∃ x, v = some (.int x)) ∧ tq h h') := by
  obtain ⟨N, hN, hW, hX, ha, hc⟩ := hI
  exact am_call.mono (fun _ _ q => ⟨q.1, q.2.2, (q.2.1.2 1 1 (by decide +kernel)).1, (q.2.1.2 154 2 (by decide +kernel)).1, ks_of (by decide +kernel) q.2.1, km_of (by decide +kernel) q.2.1⟩) (iv_call (C := ag_I470.1) rfl (by decide +kernel) (ag_O470 xw_Xk xw_ok) hv hN hW hX ha hc (fun _ h => absurd h List.not_mem_nil))
/- MistCantonModel.busy -/
theorem iv_m254 {vs : List Int} (hv : iv_in [] vs) {h : am_H} (hI : iv_I h) : am_call am_cod 60 254 (.ref 154 :: iv_args 0 [] vs) h (fun v h' => iv_I h' ∧ (∃ x, v = some (.int x)) ∧ tq h h') := by
  obtain ⟨N, hN, hW, hX, ha, hc⟩ := hI
  exact am_call.mono (fun _ _ q => ⟨q.1, q.2.2, (q.2.1.2 1 1 (by decide +kernel)).1, (q.2.1.2 154 2 (by decide +kernel)).1, ks_of (by decide +kernel) q.2.1, km_of (by decide +kernel) q.2.1⟩) (iv_call (C := ag_I471.1) rfl (by decide +kernel) (ag_O471 xw_Xk xw_ok) hv hN hW hX ha hc (fun _ h => absurd h List.not_mem_nil))
/- MistCantonModel.family -/
theorem iv_m255 {vs : List Int} (hv : iv_in [0] vs) {h : am_H} (hI : iv_I h) : am_call am_cod 60 255 (.ref 154 :: iv_args 0 [0] vs) h (fun v h' => iv_I h' ∧ (∃ x, v = some (.int x)) ∧ tq h h') := by
  obtain ⟨N, hN, hW, hX, ha, hc⟩ := hI
  exact am_call.mono (fun _ _ q => ⟨q.1, q.2.2, (q.2.1.2 1 1 (by decide +kernel)).1, (q.2.1.2 154 2 (by decide +kernel)).1, ks_of (by decide +kernel) q.2.1, km_of (by decide +kernel) q.2.1⟩) (iv_call (C := ag_I485.1) rfl (by decide +kernel) (ag_O485 xw_Xk xw_ok) hv hN hW hX ha hc (fun _ h => absurd h List.not_mem_nil))
/- MistCantonModel.lonely -/
theorem iv_m256 {vs : List Int} (hv : iv_in [] vs) {h : am_H} (hI : iv_I h) : am_call am_cod 60 256 (.ref 154 :: iv_args 0 [] vs) h (fun v h' => iv_I h' ∧ (∃ x, v = some (.int x)) ∧ tq h h') := by
  obtain ⟨N, hN, hW, hX, ha, hc⟩ := hI
  exact am_call.mono (fun _ _ q => ⟨q.1, q.2.2, (q.2.1.2 1 1 (by decide +kernel)).1, (q.2.1.2 154 2 (by decide +kernel)).1, ks_of (by decide +kernel) q.2.1, km_of (by decide +kernel) q.2.1⟩) (iv_call (C := ag_I491.1) rfl (by decide +kernel) (ag_O491 xw_Xk xw_ok) hv hN hW hX ha hc (fun _ h => absurd h List.not_mem_nil))
/- MistCantonModel.move -/
theorem iv_m257 {vs : List Int} (hv : iv_in [0] vs) {h : am_H} (hI : iv_I h) : am_call am_cod 60 257 (.ref 154 :: iv_args 0 [0] vs) h (fun v h' => iv_I h' ∧ (∃ x, v = some (.int x)) ∧ tq h h') := by
  obtain ⟨N, hN, hW, hX, ha, hc⟩ := hI
  exact am_call.mono (fun _ _ q => ⟨q.1, q.2.2, (q.2.1.2 1 1 (by decide +kernel)).1, (q.2.1.2 154 2 (by decide +kernel)).1, ks_of (by decide +kernel) q.2.1, km_of (by decide +kernel) q.2.1⟩) (iv_call (C := ag_I494.1) rfl (by decide +kernel) (ag_O494 xw_Xk xw_ok) hv hN hW hX ha hc (fun _ h => absurd h List.not_mem_nil))
/- MistCantonModel.last -/
theorem iv_m258 {vs : List Int} (hv : iv_in [0] vs) {h : am_H} (hI : iv_I h) : am_call am_cod 60 258 (.ref 154 :: iv_args 0 [0] vs) h (fun v h' => iv_I h' ∧ (∃ x, v = some (.int x)) ∧ tq h h') := by
  obtain ⟨N, hN, hW, hX, ha, hc⟩ := hI
  exact am_call.mono (fun _ _ q => ⟨q.1, q.2.2, (q.2.1.2 1 1 (by decide +kernel)).1, (q.2.1.2 154 2 (by decide +kernel)).1, ks_of (by decide +kernel) q.2.1, km_of (by decide +kernel) q.2.1⟩) (iv_call (C := ag_I496.1) rfl (by decide +kernel) (ag_O496 xw_Xk xw_ok) hv hN hW hX ha hc (fun _ h => absurd h List.not_mem_nil))
/- MistCantonModel.twins -/
theorem iv_m259 {vs : List Int} (hv : iv_in [] vs) {h : am_H} (hI : iv_I h) : am_call am_cod 60 259 (.ref 154 :: iv_args 0 [] vs) h (fun v h' => iv_I h' ∧ (∃ x, v = some (.int x)) ∧ tq h h') := by
  obtain ⟨N, hN, hW, hX, ha, hc⟩ := hI
  exact am_call.mono (fun _ _ q => ⟨q.1, q.2.2, (q.2.1.2 1 1 (by decide +kernel)).1, (q.2.1.2 154 2 (by decide +kernel)).1, ks_of (by decide +kernel) q.2.1, km_of (by decide +kernel) q.2.1⟩) (iv_call (C := ag_I495.1) rfl (by decide +kernel) (ag_O495 xw_Xk xw_ok) hv hN hW hX ha hc (fun _ h => absurd h List.not_mem_nil))
/- MistCantonModel.steady -/
theorem iv_m260 {vs : List Int} (hv : iv_in [] vs) {h : am_H} (hI : iv_I h) : am_call am_cod 60 260 (.ref 154 :: iv_args 0 [] vs) h (fun v h' => iv_I h' ∧ (∃ x, v = some (.int x)) ∧ tq h h') := by
  obtain ⟨N, hN, hW, hX, ha, hc⟩ := hI
  exact am_call.mono (fun _ _ q => ⟨q.1, q.2.2, (q.2.1.2 1 1 (by decide +kernel)).1, (q.2.1.2 154 2 (by decide +kernel)).1, ks_of (by decide +kernel) q.2.1, km_of (by decide +kernel) q.2.1⟩) (iv_call (C := ag_I497.1) rfl (by decide +kernel) (ag_O497 xw_Xk xw_ok) hv hN hW hX ha hc (fun _ h => absurd h List.not_mem_nil))
/- MistCantonModel.group -/
theorem iv_m261 {vs : List Int} (hv : iv_in [0] vs) {h : am_H} (hI : iv_I h) : am_call am_cod 60 261 (.ref 154 :: iv_args 0 [0] vs) h (fun v h' => iv_I h' ∧ (∃ x, v = some (.int x)) ∧ tq h h') := by
  obtain ⟨N, hN, hW, hX, ha, hc⟩ := hI
  exact am_call.mono (fun _ _ q => ⟨q.1, q.2.2, (q.2.1.2 1 1 (by decide +kernel)).1, (q.2.1.2 154 2 (by decide +kernel)).1, ks_of (by decide +kernel) q.2.1, km_of (by decide +kernel) q.2.1⟩) (iv_call (C := ag_I523.1) rfl (by decide +kernel) (ag_O523 xw_Xk xw_ok) hv hN hW hX ha hc (fun _ h => absurd h List.not_mem_nil))
/- MistCantonModel.least -/
theorem iv_m263 {vs : List Int} (hv : iv_in [0, 0] vs) {h : am_H} (hI : iv_I h) : am_call am_cod 60 263 (.ref 154 :: iv_args 0 [0, 0] vs) h (fun v h' => iv_I h' ∧ (∃ x, v = some (.int x)) ∧ tq h h') := by
  obtain ⟨N, hN, hW, hX, ha, hc⟩ := hI
  exact am_call.mono (fun _ _ q => ⟨q.1, q.2.2, (q.2.1.2 1 1 (by decide +kernel)).1, (q.2.1.2 154 2 (by decide +kernel)).1, ks_of (by decide +kernel) q.2.1, km_of (by decide +kernel) q.2.1⟩) (iv_call (C := ag_I473.1) rfl (by decide +kernel) (ag_O473 xw_Xk xw_ok) hv hN hW hX ha hc (fun _ h => absurd h List.not_mem_nil))
/- MistCantonModel.lots -/
theorem iv_m267 {vs : List Int} (hv : iv_in [] vs) {h : am_H} (hI : iv_I h) : am_call am_cod 60 267 (.ref 154 :: iv_args 0 [] vs) h (fun v h' => iv_I h' ∧ (∃ x, v = some (.int x)) ∧ tq h h') := by
  obtain ⟨N, hN, hW, hX, ha, hc⟩ := hI
  exact am_call.mono (fun _ _ q => ⟨q.1, q.2.2, (q.2.1.2 1 1 (by decide +kernel)).1, (q.2.1.2 154 2 (by decide +kernel)).1, ks_of (by decide +kernel) q.2.1, km_of (by decide +kernel) q.2.1⟩) (iv_call (C := ag_I476.1) rfl (by decide +kernel) (ag_O476 xw_Xk xw_ok) hv hN hW hX ha hc (fun _ h => absurd h List.not_mem_nil))
/- MistCantonModel.look -/
theorem iv_m270 {vs : List Int} (hv : iv_in [] vs) {h : am_H} (hI : iv_I h) : am_call am_cod 60 270 (.ref 154 :: iv_args 0 [] vs) h (fun v h' => iv_I h' ∧ (∃ x, v = some (.int x)) ∧ tq h h') := by
  obtain ⟨N, hN, hW, hX, ha, hc⟩ := hI
  exact am_call.mono (fun _ _ q => ⟨q.1, q.2.2, (q.2.1.2 1 1 (by decide +kernel)).1, (q.2.1.2 154 2 (by decide +kernel)).1, ks_of (by decide +kernel) q.2.1, km_of (by decide +kernel) q.2.1⟩) (iv_call (C := ag_I477.1) rfl (by decide +kernel) (ag_O477 xw_Xk xw_ok) hv hN hW hX ha hc (fun _ h => absurd h List.not_mem_nil))
/- MistCantonModel.guess -/
theorem iv_m271 {vs : List Int} (hv : iv_in [] vs) {h : am_H} (hI : iv_I h) : am_call am_cod 60 271 (.ref 154 :: iv_args 0 [] vs) h (fun v h' => iv_I h' ∧ (∃ x, v = some (.int x)) ∧ tq h h') := by
  obtain ⟨N, hN, hW, hX, ha, hc⟩ := hI
  exact am_call.mono (fun _ _ q => ⟨q.1, q.2.2, (q.2.1.2 1 1 (by decide +kernel)).1, (q.2.1.2 154 2 (by decide +kernel)).1, ks_of (by decide +kernel) q.2.1, km_of (by decide +kernel) q.2.1⟩) (iv_call (C := ag_I480.1) rfl (by decide +kernel) (ag_O480 xw_Xk xw_ok) hv hN hW hX ha hc (fun _ h => absurd h List.not_mem_nil))
/- MistCantonModel.wrong -/
theorem iv_m274 {vs : List Int} (hv : iv_in [] vs) {h : am_H} (hI : iv_I h) : am_call am_cod 60 274 (.ref 154 :: iv_args 0 [] vs) h (fun v h' => iv_I h' ∧ (∃ x, v = some (.int x)) ∧ tq h h') := by
  obtain ⟨N, hN, hW, hX, ha, hc⟩ := hI
  exact am_call.mono (fun _ _ q => ⟨q.1, q.2.2, (q.2.1.2 1 1 (by decide +kernel)).1, (q.2.1.2 154 2 (by decide +kernel)).1, ks_of (by decide +kernel) q.2.1, km_of (by decide +kernel) q.2.1⟩) (iv_call (C := ag_I525.1) rfl (by decide +kernel) (ag_O525 xw_Xk xw_ok) hv hN hW hX ha hc (fun _ h => absurd h List.not_mem_nil))
/- MistCantonModel.leads -/
theorem iv_m275 {vs : List Int} (hv : iv_in [0] vs) {h : am_H} (hI : iv_I h) : am_call am_cod 60 275 (.ref 154 :: iv_args 0 [0] vs) h (fun v h' => iv_I h' ∧ (∃ x, v = some (.int x)) ∧ tq h h') := by
  obtain ⟨N, hN, hW, hX, ha, hc⟩ := hI
  exact am_call.mono (fun _ _ q => ⟨q.1, q.2.2, (q.2.1.2 1 1 (by decide +kernel)).1, (q.2.1.2 154 2 (by decide +kernel)).1, ks_of (by decide +kernel) q.2.1, km_of (by decide +kernel) q.2.1⟩) (iv_call (C := ag_I482.1) rfl (by decide +kernel) (ag_O482 xw_Xk xw_ok) hv hN hW hX ha hc (fun _ h => absurd h List.not_mem_nil))
/- MistCantonModel.spread -/
theorem iv_m276 {vs : List Int} (hv : iv_in [] vs) {h : am_H} (hI : iv_I h) : am_call am_cod 60 276 (.ref 154 :: iv_args 0 [] vs) h (fun v h' => iv_I h' ∧ (∃ x, v = some (.int x)) ∧ tq h h') := by
  obtain ⟨N, hN, hW, hX, ha, hc⟩ := hI
  exact am_call.mono (fun _ _ q => ⟨q.1, q.2.2, (q.2.1.2 1 1 (by decide +kernel)).1, (q.2.1.2 154 2 (by decide +kernel)).1, ks_of (by decide +kernel) q.2.1, km_of (by decide +kernel) q.2.1⟩) (iv_call (C := ag_I483.1) rfl (by decide +kernel) (ag_O483 xw_Xk xw_ok) hv hN hW hX ha hc (fun _ h => absurd h List.not_mem_nil))
/- MistCantonModel.pairs -/
theorem iv_m277 {vs : List Int} (hv : iv_in [] vs) {h : am_H} (hI : iv_I h) : am_call am_cod 60 277 (.ref 154 :: iv_args 0 [] vs) h (fun v h' => iv_I h' ∧ (∃ x, v = some (.int x)) ∧ tq h h') := by
  obtain ⟨N, hN, hW, hX, ha, hc⟩ := hI
  exact am_call.mono (fun _ _ q => ⟨q.1, q.2.2, (q.2.1.2 1 1 (by decide +kernel)).1, (q.2.1.2 154 2 (by decide +kernel)).1, ks_of (by decide +kernel) q.2.1, km_of (by decide +kernel) q.2.1⟩) (iv_call (C := ag_I484.1) rfl (by decide +kernel) (ag_O484 xw_Xk xw_ok) hv hN hW hX ha hc (fun _ h => absurd h List.not_mem_nil))
/- MistCantonModel.right -/
theorem iv_m278 {vs : List Int} (hv : iv_in [] vs) {h : am_H} (hI : iv_I h) : am_call am_cod 60 278 (.ref 154 :: iv_args 0 [] vs) h (fun v h' => iv_I h' ∧ (∃ x, v = some (.int x)) ∧ tq h h') := by
  obtain ⟨N, hN, hW, hX, ha, hc⟩ := hI
  exact am_call.mono (fun _ _ q => ⟨q.1, q.2.2, (q.2.1.2 1 1 (by decide +kernel)).1, (q.2.1.2 154 2 (by decide +kernel)).1, ks_of (by decide +kernel) q.2.1, km_of (by decide +kernel) q.2.1⟩) (iv_call (C := ag_I492.1) rfl (by decide +kernel) (ag_O492 xw_Xk xw_ok) hv hN hW hX ha hc (fun _ h => absurd h List.not_mem_nil))
/- MistCantonModel.through -/
theorem iv_m279 {vs : List Int} (hv : iv_in [0, 0] vs) {h : am_H} (hI : iv_I h) : am_call am_cod 60 279 (.ref 154 :: iv_args 0 [0, 0] vs) h (fun v h' => iv_I h' ∧ (∃ x, v = some (.int x)) ∧ tq h h') := by
  obtain ⟨N, hN, hW, hX, ha, hc⟩ := hI
  exact am_call.mono (fun _ _ q => ⟨q.1, q.2.2, (q.2.1.2 1 1 (by decide +kernel)).1, (q.2.1.2 154 2 (by decide +kernel)).1, ks_of (by decide +kernel) q.2.1, km_of (by decide +kernel) q.2.1⟩) (iv_call (C := ag_I524.1) rfl (by decide +kernel) (ag_O524 xw_Xk xw_ok) hv hN hW hX ha hc (fun _ h => absurd h List.not_mem_nil))
/- MistCantonModel.wedded -/
theorem iv_m281 {vs : List Int} (hv : iv_in [] vs) {h : am_H} (hI : iv_I h) : am_call am_cod 60 281 (.ref 154 :: iv_args 0 [] vs) h (fun v h' => iv_I h' ∧ (∃ x, v = some (.int x)) ∧ tq h h') := by
  obtain ⟨N, hN, hW, hX, ha, hc⟩ := hI
  exact am_call.mono (fun _ _ q => ⟨q.1, q.2.2, (q.2.1.2 1 1 (by decide +kernel)).1, (q.2.1.2 154 2 (by decide +kernel)).1, ks_of (by decide +kernel) q.2.1, km_of (by decide +kernel) q.2.1⟩) (iv_call (C := ag_I486.1) rfl (by decide +kernel) (ag_O486 xw_Xk xw_ok) hv hN hW hX ha hc (fun _ h => absurd h List.not_mem_nil))
/- MistCantonModel.circles -/
theorem iv_m282 {vs : List Int} (hv : iv_in [] vs) {h : am_H} (hI : iv_I h) : am_call am_cod 60 282 (.ref 154 :: iv_args 0 [] vs) h (fun v h' => iv_I h' ∧ (∃ x, v = some (.int x)) ∧ tq h h') := by
  obtain ⟨N, hN, hW, hX, ha, hc⟩ := hI
  exact am_call.mono (fun _ _ q => ⟨q.1, q.2.2, (q.2.1.2 1 1 (by decide +kernel)).1, (q.2.1.2 154 2 (by decide +kernel)).1, ks_of (by decide +kernel) q.2.1, km_of (by decide +kernel) q.2.1⟩) (iv_call (C := ag_I488.1) rfl (by decide +kernel) (ag_O488 xw_Xk xw_ok) hv hN hW hX ha hc (fun _ h => absurd h List.not_mem_nil))
/- MistCantonModel.cover -/
theorem iv_m283 {vs : List Int} (hv : iv_in [] vs) {h : am_H} (hI : iv_I h) : am_call am_cod 60 283 (.ref 154 :: iv_args 0 [] vs) h (fun v h' => iv_I h' ∧ (∃ x, v = some (.int x)) ∧ tq h h') := by
  obtain ⟨N, hN, hW, hX, ha, hc⟩ := hI
  exact am_call.mono (fun _ _ q => ⟨q.1, q.2.2, (q.2.1.2 1 1 (by decide +kernel)).1, (q.2.1.2 154 2 (by decide +kernel)).1, ks_of (by decide +kernel) q.2.1, km_of (by decide +kernel) q.2.1⟩) (iv_call (C := ag_I489.1) rfl (by decide +kernel) (ag_O489 xw_Xk xw_ok) hv hN hW hX ha hc (fun _ h => absurd h List.not_mem_nil))
/- MistCantonModel.shared -/
theorem iv_m284 {vs : List Int} (hv : iv_in [0, 0] vs) {h : am_H} (hI : iv_I h) : am_call am_cod 60 284 (.ref 154 :: iv_args 0 [0, 0] vs) h (fun v h' => iv_I h' ∧ (∃ x, v = some (.int x)) ∧ tq h h') := by
  obtain ⟨N, hN, hW, hX, ha, hc⟩ := hI
  exact am_call.mono (fun _ _ q => ⟨q.1, q.2.2, (q.2.1.2 1 1 (by decide +kernel)).1, (q.2.1.2 154 2 (by decide +kernel)).1, ks_of (by decide +kernel) q.2.1, km_of (by decide +kernel) q.2.1⟩) (iv_call (C := ag_I490.1) rfl (by decide +kernel) (ag_O490 xw_Xk xw_ok) hv hN hW hX ha hc (fun _ h => absurd h List.not_mem_nil))
/- MistCantonModel.chance -/
theorem iv_m285 {vs : List Int} (hv : iv_in [0, 0, 0] vs) {h : am_H} (hI : iv_I h) : am_call am_cod 60 285 (.ref 154 :: iv_args 0 [0, 0, 0] vs) h (fun v h' => iv_I h' ∧ (∃ x, v = some (.int x)) ∧ tq h h') := by
  obtain ⟨N, hN, hW, hX, ha, hc⟩ := hI
  exact am_call.mono (fun _ _ q => ⟨q.1, q.2.2, (q.2.1.2 1 1 (by decide +kernel)).1, (q.2.1.2 154 2 (by decide +kernel)).1, ks_of (by decide +kernel) q.2.1, km_of (by decide +kernel) q.2.1⟩) (iv_call (C := ag_I498.1) rfl (by decide +kernel) (ag_O498 xw_Xk xw_ok) hv hN hW hX ha hc (fun _ h => absurd h List.not_mem_nil))
/- MistCantonModel.years -/
theorem iv_m288 {vs : List Int} (hv : iv_in [0, 0, 0] vs) {h : am_H} (hI : iv_I h) : am_call am_cod 60 288 (.ref 154 :: iv_args 0 [0, 0, 0] vs) h (fun v h' => iv_I h' ∧ (∃ x, v = some (.int x)) ∧ tq h h') := by
  obtain ⟨N, hN, hW, hX, ha, hc⟩ := hI
  exact am_call.mono (fun _ _ q => ⟨q.1, q.2.2, (q.2.1.2 1 1 (by decide +kernel)).1, (q.2.1.2 154 2 (by decide +kernel)).1, ks_of (by decide +kernel) q.2.1, km_of (by decide +kernel) q.2.1⟩) (iv_call (C := ag_I505.1) rfl (by decide +kernel) (ag_O505 xw_Xk xw_ok) hv hN hW hX ha hc (fun _ h => absurd h List.not_mem_nil))
/- MistCantonModel.mark -/
theorem iv_m291 {vs : List Int} (hv : iv_in [0, 1] vs) {h : am_H} (hI : iv_I h) : am_call am_cod 60 291 (.ref 154 :: iv_args 0 [0, 1] vs) h (fun v h' => iv_I h' ∧ (∃ x, v = some (.int x)) ∧ tqm h h') := by
  obtain ⟨N, hN, hW, hX, ha, hc⟩ := hI
  exact am_call.mono (fun _ _ q => ⟨q.1, q.2.2, (q.2.1.2 1 1 (by decide +kernel)).1, (q.2.1.2 154 2 (by decide +kernel)).1, ks_of (by decide +kernel) q.2.1⟩) (iv_call (C := ag_I514.1) rfl (by decide +kernel) (ag_O514 xw_Xk xw_ok) hv hN hW hX ha hc (fun _ h => absurd h List.not_mem_nil))
/- MistCantonModel.count -/
theorem iv_m292 {vs : List Int} (hv : iv_in [0] vs) {h : am_H} (hI : iv_I h) : am_call am_cod 60 292 (.ref 154 :: iv_args 0 [0] vs) h (fun v h' => iv_I h' ∧ (∃ x, v = some (.int x)) ∧ tq h h') := by
  obtain ⟨N, hN, hW, hX, ha, hc⟩ := hI
  exact am_call.mono (fun _ _ q => ⟨q.1, q.2.2, (q.2.1.2 1 1 (by decide +kernel)).1, (q.2.1.2 154 2 (by decide +kernel)).1, ks_of (by decide +kernel) q.2.1, km_of (by decide +kernel) q.2.1⟩) (iv_call (C := ag_I516.1) rfl (by decide +kernel) (ag_O516 xw_Xk xw_ok) hv hN hW hX ha hc (fun _ h => absurd h List.not_mem_nil))
