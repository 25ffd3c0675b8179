section
/-! THE CLASS'S LAW, EXACTLY: the other canton -/
variable {h h0 : am_H} {sz a d : Nat} {T : Nat → Int32} {Q : am_Q} {s : sp_S} {p : sp_S → sp_R} {dep : Int32}
theorem ex_25 {h : am_H} (hP : ex_P h) : am_sh h 25 = some (3, 0) := (ex_so hP (by decide +kernel)).2
theorem ex_26 {h : am_H} (hP : ex_P h) : am_sh h 26 = some (13, 1000) := (ex_so hP (by decide +kernel)).2
theorem ex_w26 {h : am_H} (hP : ex_P h) : am_so h 26 = some (13, 1000) := (ex_so hP (by decide +kernel)).1
theorem ex_r25_0 {h : am_H} (hP : ex_P h) : h.2.2.1 25 0 = some 26 := hP.2 25 0 26 (by decide +kernel)
theorem c_add_17 {x : Int32} {C : sp_C} (l : cr h0 17 T sz (a, C) h) (hn : C.2.2.2.2.1 < a) (hQ : ∀ h1, cr h0 17 T sz (a, sp_em C x) h1 → Q none h1) : am_call am_cod 1 77 [.ref 25, .int x] h Q := by
  have hP := c_P l.1
  have ha := cr_a l
  have e2 : h.1 25 2 = nI C.2.2.2.2.1 := l.2.1.2.2.2.2.1
  have hk : C.2.2.2.2.1 < 1000 := by
    have h1 : a ≤ sz := ha.1
    omega
  refine pz_call (n := 77) (nL := 2) (rt := none) (rows := am_r77) (d := 0) (by decide +kernel) (by decide +kernel) rfl (by funext pc; rfl) (ex_175 hP) (by exact Nat.le_of_ble_eq_true rfl) ?_
  refine am_goX 3 (show am_sh h 25 = some (3, 0) ∧ pz_S 2 none am_r77 0 Q 7 [(0, .ref 25), (1, .int x)] [.int (Int16.ofInt 1000).toInt32, .int (h.1 25 2)] h from ⟨ex_25 hP, ?_⟩)
  rw [e2]
  refine am_goX 1 (show ((Int16.ofInt 1000).toInt32 ≤ (nI C.2.2.2.2.1) → pz_S 2 none am_r77 0 Q 30 [(0, .ref 25), (1, .int x)] [] h) ∧ (¬ ((Int16.ofInt 1000).toInt32 ≤ (nI C.2.2.2.2.1)) → pz_S 2 none am_r77 0 Q 10 [(0, .ref 25), (1, .int x)] [] h) from ⟨fun hz => absurd hz (i1000 hk), fun _ => ?_⟩)
  refine am_goX 2 (show am_sh h 25 = some (3, 0) ∧ pz_S 2 none am_r77 0 Q 14 [(0, .ref 25), (1, .int x)] [am_rf (h.2.2.1 25 0)] h from ⟨ex_25 hP, ?_⟩)
  rw [ex_r25_0 hP]
  refine am_goX 4 (show am_sh h 25 = some (3, 0) ∧ ∃ jj nn : Nat, am_so h 26 = some (13, nn) ∧ jj < nn ∧ (h.1 25 2) = nI jj ∧ pz_S 2 none am_r77 0 Q 20 [(0, .ref 25), (1, .int x)] [] (am_wI h 26 jj (x)) from ⟨ex_25 hP, C.2.2.2.2.1, 1000, ex_w26 hP, hk, e2, ?_⟩)
  refine am_goX 6 (show (Value.ref 25).category = 1 ∧ am_sh (am_wI h 26 (C.2.2.2.2.1) (x)) 25 = some (3, 0) ∧ am_sh (am_wI h 26 (C.2.2.2.2.1) (x)) 25 = some (3, 0) ∧ narrow (am_fty 3 2) (.int ((((am_wI h 26 (C.2.2.2.2.1) (x)).1 25 2) + (Int32.ofInt 1)))) = .int ((((am_wI h 26 (C.2.2.2.2.1) (x)).1 25 2) + (Int32.ofInt 1))) ∧ fits (am_fty 3 2) (.int ((((am_wI h 26 (C.2.2.2.2.1) (x)).1 25 2) + (Int32.ofInt 1)))) = true ∧ pz_S 2 none am_r77 0 Q 30 [(0, .ref 25), (1, .int x)] [] (am_wI (am_wI h 26 (C.2.2.2.2.1) (x)) 25 2 ((((am_wI h 26 (C.2.2.2.2.1) (x)).1 25 2) + (Int32.ofInt 1)))) from ⟨rfl, ex_25 hP, ex_25 hP, rfl, rfl, ?_⟩)
  rw [em_wn h _ (by omega), e2, xw_i1]
  exact am_goX 1 (show (none : Option FieldType) = none ∧ (am_wI (am_wI h 26 C.2.2.2.2.1 x) 25 2 (nI (C.2.2.2.2.1 + 1))).2.2.2.2 = 175 ∧ _ from ⟨rfl, ex_175 hP, hQ _ (cr_em (c := 17) (by decide) l hn)⟩)
theorem c_addx_17 {x F : Int32} (l : cx h0 17 F h) (hQ : ∀ h1, cx h0 17 F h1 → Q none h1) : am_call am_cod 1 77 [.ref 25, .int x] h Q := by
  have hP := l.1
  obtain ⟨k, hk0, e2⟩ := l.2.2.2
  have e2 : h.1 25 2 = nI k := e2
  refine pz_call (n := 77) (nL := 2) (rt := none) (rows := am_r77) (d := 0) (by decide +kernel) (by decide +kernel) rfl (by funext pc; rfl) (ex_175 hP) (by exact Nat.le_of_ble_eq_true rfl) ?_
  refine am_goX 3 (show am_sh h 25 = some (3, 0) ∧ pz_S 2 none am_r77 0 Q 7 [(0, .ref 25), (1, .int x)] [.int (Int16.ofInt 1000).toInt32, .int (h.1 25 2)] h from ⟨ex_25 hP, ?_⟩)
  rw [e2]
  refine am_goX 1 (show ((Int16.ofInt 1000).toInt32 ≤ (nI k) → pz_S 2 none am_r77 0 Q 30 [(0, .ref 25), (1, .int x)] [] h) ∧ (¬ ((Int16.ofInt 1000).toInt32 ≤ (nI k)) → pz_S 2 none am_r77 0 Q 10 [(0, .ref 25), (1, .int x)] [] h) from ⟨fun hc => ?_, fun hc => ?_⟩)
  · exact am_goX 1 (show (none : Option FieldType) = none ∧ h.2.2.2.2 = 175 ∧ _ from ⟨rfl, ex_175 hP, hQ _ l⟩)
  have hk : k < 1000 := by
    have hc1 : ¬ nI 1000 ≤ nI k := hc
    rw [nI_leI (by omega) (by omega)] at hc1
    omega
  clear hc
  refine am_goX 2 (show am_sh h 25 = some (3, 0) ∧ pz_S 2 none am_r77 0 Q 14 [(0, .ref 25), (1, .int x)] [am_rf (h.2.2.1 25 0)] h from ⟨ex_25 hP, ?_⟩)
  rw [ex_r25_0 hP]
  refine am_goX 4 (show am_sh h 25 = some (3, 0) ∧ ∃ jj nn : Nat, am_so h 26 = some (13, nn) ∧ jj < nn ∧ (h.1 25 2) = nI jj ∧ pz_S 2 none am_r77 0 Q 20 [(0, .ref 25), (1, .int x)] [] (am_wI h 26 jj (x)) from ⟨ex_25 hP, k, 1000, ex_w26 hP, hk, e2, ?_⟩)
  refine am_goX 6 (show (Value.ref 25).category = 1 ∧ am_sh (am_wI h 26 (k) (x)) 25 = some (3, 0) ∧ am_sh (am_wI h 26 (k) (x)) 25 = some (3, 0) ∧ narrow (am_fty 3 2) (.int ((((am_wI h 26 (k) (x)).1 25 2) + (Int32.ofInt 1)))) = .int ((((am_wI h 26 (k) (x)).1 25 2) + (Int32.ofInt 1))) ∧ fits (am_fty 3 2) (.int ((((am_wI h 26 (k) (x)).1 25 2) + (Int32.ofInt 1)))) = true ∧ pz_S 2 none am_r77 0 Q 30 [(0, .ref 25), (1, .int x)] [] (am_wI (am_wI h 26 (k) (x)) 25 2 ((((am_wI h 26 (k) (x)).1 25 2) + (Int32.ofInt 1)))) from ⟨rfl, ex_25 hP, ex_25 hP, rfl, rfl, ?_⟩)
  rw [em_wn h _ (by omega), e2, xw_i1]
  exact am_goX 1 (show (none : Option FieldType) = none ∧ (am_wI (am_wI h 26 k x) 25 2 (nI (k + 1))).2.2.2.2 = 175 ∧ _ from ⟨rfl, ex_175 hP, hQ _ (cx_w (c := 17) (by decide) l hk)⟩)
theorem c_fact_17 (l : cr h0 17 T sz s h) (hQ : Q (some (.int (sp_fa (tt T sz) s.1))) h) : am_call am_cod 6 76 [.ref 4] h Q := by
  have hP := c_P l.1
  unfold sp_fa at hQ
  refine pz_call (n := 76) (nL := 1) (rt := (some .int)) (rows := am_r76) (d := 5) (by decide +kernel) (by decide +kernel) rfl (by funext pc; rfl) (ex_175 hP) (by exact Nat.le_of_ble_eq_true rfl) ?_
  refine am_goX 2 (show am_sh h 4 = some (4, 0) ∧ pz_S 1 (some .int) am_r76 5 Q 4 [(0, .ref 4)] [am_rf (h.2.2.1 4 0)] h from ⟨ex_4 (c_P l.1), ?_⟩)
  rw [ex_r4_0 (c_P l.1)]
  refine am_goX 2 (show am_rc h 1 7 ∧ 0 ≤ 8 ∧ h.2.2.2.2 + am_al 44 ≤ 175 ∧ am_call am_cod 5 44 [.ref 1, .ref (4000000 + 14)] h (fun vv h' => pz_S 1 (some .int) am_r76 5 Q 9 [(0, .ref 4)] (vv.toList ++ []) h') from ⟨Or.inl ⟨by decide, ex_1 (c_P l.1)⟩, by decide, ex_lim (c_P l.1) rfl, am_call.up (c_isw (by decide) wq_14 l.1 ?_) (by omega)⟩)
  cases e1 : sp_w (tt T sz) s.1 20763 with
  | true =>
    refine am_goX 1 (show ((pz_b (true)) = 0 → pz_S 1 (some .int) am_r76 5 Q 14 [(0, .ref 4)] [] h) ∧ (¬ ((pz_b (true)) = 0) → pz_S 1 (some .int) am_r76 5 Q 12 [(0, .ref 4)] [] h) from ⟨fun hz => absurd hz (by decide), fun _ => ?_⟩)
    refine am_goX 1 (show pz_S 1 (some .int) am_r76 5 Q 13 [(0, .ref 4)] [.int (Int32.ofInt (-1))] h from ?_)
    simp only [e1, cond_true, cond_false] at hQ
    exact am_goX 1 (show (∃ ty, (some .int) = some ty ∧ narrow ty (.int ((Int32.ofInt (-1)))) = .int ((Int32.ofInt (-1)))) ∧ h.2.2.2.2 = 175 ∧ _ from ⟨⟨.int, rfl, rfl⟩, ex_175 (c_P l.1), hQ⟩)
  | false =>
    refine am_goX 1 (show ((pz_b (false)) = 0 → pz_S 1 (some .int) am_r76 5 Q 14 [(0, .ref 4)] [] h) ∧ (¬ ((pz_b (false)) = 0) → pz_S 1 (some .int) am_r76 5 Q 12 [(0, .ref 4)] [] h) from ⟨fun _ => ?_, fun hz => absurd (by decide) hz⟩)
    refine am_goX 2 (show am_sh h 4 = some (4, 0) ∧ pz_S 1 (some .int) am_r76 5 Q 18 [(0, .ref 4)] [am_rf (h.2.2.1 4 0)] h from ⟨ex_4 (c_P l.1), ?_⟩)
    rw [ex_r4_0 (c_P l.1)]
    refine am_goX 2 (show am_rc h 1 7 ∧ 0 ≤ 8 ∧ h.2.2.2.2 + am_al 44 ≤ 175 ∧ am_call am_cod 5 44 [.ref 1, .ref (4000000 + 15)] h (fun vv h' => pz_S 1 (some .int) am_r76 5 Q 23 [(0, .ref 4)] (vv.toList ++ []) h') from ⟨Or.inl ⟨by decide, ex_1 (c_P l.1)⟩, by decide, ex_lim (c_P l.1) rfl, am_call.up (c_isw (by decide) wq_15 l.1 ?_) (by omega)⟩)
    cases e2 : sp_w (tt T sz) s.1 1172060 with
    | true =>
      refine am_goX 1 (show ((pz_b (true)) = 0 → pz_S 1 (some .int) am_r76 5 Q 29 [(0, .ref 4)] [] h) ∧ (¬ ((pz_b (true)) = 0) → pz_S 1 (some .int) am_r76 5 Q 26 [(0, .ref 4)] [] h) from ⟨fun hz => absurd hz (by decide), fun _ => ?_⟩)
      refine am_goX 1 (show pz_S 1 (some .int) am_r76 5 Q 28 [(0, .ref 4)] [.int (Int8.ofInt (-2)).toInt32] h from ?_)
      simp only [e1, e2, cond_true, cond_false] at hQ
      exact am_goX 1 (show (∃ ty, (some .int) = some ty ∧ narrow ty (.int ((Int8.ofInt (-2)).toInt32)) = .int ((Int8.ofInt (-2)).toInt32)) ∧ h.2.2.2.2 = 175 ∧ _ from ⟨⟨.int, rfl, rfl⟩, ex_175 (c_P l.1), hQ⟩)
    | false =>
      refine am_goX 1 (show ((pz_b (false)) = 0 → pz_S 1 (some .int) am_r76 5 Q 29 [(0, .ref 4)] [] h) ∧ (¬ ((pz_b (false)) = 0) → pz_S 1 (some .int) am_r76 5 Q 26 [(0, .ref 4)] [] h) from ⟨fun _ => ?_, fun hz => absurd (by decide) hz⟩)
      refine am_goX 2 (show am_sh h 4 = some (4, 0) ∧ pz_S 1 (some .int) am_r76 5 Q 33 [(0, .ref 4)] [am_rf (h.2.2.1 4 0)] h from ⟨ex_4 (c_P l.1), ?_⟩)
      rw [ex_r4_0 (c_P l.1)]
      refine am_goX 2 (show am_rc h 1 7 ∧ 0 ≤ 8 ∧ h.2.2.2.2 + am_al 44 ≤ 175 ∧ am_call am_cod 5 44 [.ref 1, .ref (4000000 + 16)] h (fun vv h' => pz_S 1 (some .int) am_r76 5 Q 38 [(0, .ref 4)] (vv.toList ++ []) h') from ⟨Or.inl ⟨by decide, ex_1 (c_P l.1)⟩, by decide, ex_lim (c_P l.1) rfl, am_call.up (c_isw (by decide) wq_16 l.1 ?_) (by omega)⟩)
      cases e3 : sp_w (tt T sz) s.1 18002 with
      | true =>
        refine am_goX 1 (show ((pz_b (true)) = 0 → pz_S 1 (some .int) am_r76 5 Q 44 [(0, .ref 4)] [] h) ∧ (¬ ((pz_b (true)) = 0) → pz_S 1 (some .int) am_r76 5 Q 41 [(0, .ref 4)] [] h) from ⟨fun hz => absurd hz (by decide), fun _ => ?_⟩)
        refine am_goX 1 (show pz_S 1 (some .int) am_r76 5 Q 43 [(0, .ref 4)] [.int (Int8.ofInt (-3)).toInt32] h from ?_)
        simp only [e1, e2, e3, cond_true, cond_false] at hQ
        exact am_goX 1 (show (∃ ty, (some .int) = some ty ∧ narrow ty (.int ((Int8.ofInt (-3)).toInt32)) = .int ((Int8.ofInt (-3)).toInt32)) ∧ h.2.2.2.2 = 175 ∧ _ from ⟨⟨.int, rfl, rfl⟩, ex_175 (c_P l.1), hQ⟩)
      | false =>
        refine am_goX 1 (show ((pz_b (false)) = 0 → pz_S 1 (some .int) am_r76 5 Q 44 [(0, .ref 4)] [] h) ∧ (¬ ((pz_b (false)) = 0) → pz_S 1 (some .int) am_r76 5 Q 41 [(0, .ref 4)] [] h) from ⟨fun _ => ?_, fun hz => absurd (by decide) hz⟩)
        refine am_goX 2 (show am_sh h 4 = some (4, 0) ∧ pz_S 1 (some .int) am_r76 5 Q 48 [(0, .ref 4)] [am_rf (h.2.2.1 4 0)] h from ⟨ex_4 (c_P l.1), ?_⟩)
        rw [ex_r4_0 (c_P l.1)]
        refine am_goX 2 (show am_rc h 1 7 ∧ 0 ≤ 8 ∧ h.2.2.2.2 + am_al 44 ≤ 175 ∧ am_call am_cod 5 44 [.ref 1, .ref (4000000 + 17)] h (fun vv h' => pz_S 1 (some .int) am_r76 5 Q 53 [(0, .ref 4)] (vv.toList ++ []) h') from ⟨Or.inl ⟨by decide, ex_1 (c_P l.1)⟩, by decide, ex_lim (c_P l.1) rfl, am_call.up (c_isw (by decide) wq_17 l.1 ?_) (by omega)⟩)
        cases e4 : sp_w (tt T sz) s.1 43523993 with
        | true =>
          refine am_goX 1 (show ((pz_b (true)) = 0 → pz_S 1 (some .int) am_r76 5 Q 61 [(0, .ref 4)] [] h) ∧ (¬ ((pz_b (true)) = 0) → pz_S 1 (some .int) am_r76 5 Q 56 [(0, .ref 4)] [] h) from ⟨fun hz => absurd hz (by decide), fun _ => ?_⟩)
          refine am_goX 2 (show pz_S 1 (some .int) am_r76 5 Q 62 [(0, .ref 4)] [.int (Int8.ofInt (-4)).toInt32] h from ?_)
          simp only [e1, e2, e3, e4, cond_true, cond_false] at hQ
          exact am_goX 1 (show (∃ ty, (some .int) = some ty ∧ narrow ty (.int ((Int8.ofInt (-4)).toInt32)) = .int ((Int8.ofInt (-4)).toInt32)) ∧ h.2.2.2.2 = 175 ∧ _ from ⟨⟨.int, rfl, rfl⟩, ex_175 (c_P l.1), hQ⟩)
        | false =>
          refine am_goX 1 (show ((pz_b (false)) = 0 → pz_S 1 (some .int) am_r76 5 Q 61 [(0, .ref 4)] [] h) ∧ (¬ ((pz_b (false)) = 0) → pz_S 1 (some .int) am_r76 5 Q 56 [(0, .ref 4)] [] h) from ⟨fun _ => ?_, fun hz => absurd (by decide) hz⟩)
          refine am_goX 1 (show pz_S 1 (some .int) am_r76 5 Q 62 [(0, .ref 4)] [.int (Int32.ofInt 0)] h from ?_)
          simp only [e1, e2, e3, e4, cond_true, cond_false] at hQ
          exact am_goX 1 (show (∃ ty, (some .int) = some ty ∧ narrow ty (.int ((Int32.ofInt 0))) = .int ((Int32.ofInt 0))) ∧ h.2.2.2.2 = 175 ∧ _ from ⟨⟨.int, rfl, rfl⟩, ex_175 (c_P l.1), hQ⟩)
theorem c_74l_17 (hd : 6 ≤ d) (ks : lw_c h0 17 T sz d 75 dep (p)) (hok : sp_ok (p)) : ∀ (m i : Nat) (s : sp_S) (h : am_H) (Q : am_Q), sz < s.1 + m → i + 1 ≤ s.1 → cr h0 17 T sz s h → (∀ v h1, cres h0 17 T sz (sp_pL (tt T sz) p m s) v h1 → Q v h1) → pz_S 5 (some .boolean) am_r74 d Q 10 [(4, .int (nI i)), (3, .int 1), (0, .ref 4), (1, .ref 25), (2, .int dep)] [] h := by
  intro m
  induction m with
  | zero =>
    intro i s h Q hm hi l hQ
    have := (cr_a l).1
    omega
  | succ m ih =>
    intro i s h Q hm hi l hQ
    have ha := cr_a l
    refine am_goX 2 (show (1 = 0 → pz_S 5 (some .boolean) am_r74 d Q 62 [(4, .int (nI i)), (3, .int 1), (0, .ref 4), (1, .ref 25), (2, .int dep)] [] h) ∧ (¬ (1 = 0) → pz_S 5 (some .boolean) am_r74 d Q 14 [(4, .int (nI i)), (3, .int 1), (0, .ref 4), (1, .ref 25), (2, .int dep)] [] h) from ⟨fun hz => absurd hz (by decide), fun _ => ?_⟩)
    refine am_goX 3 (show ((Int16.ofInt 1000).toInt32 ≤ (nI i) → pz_S 5 (some .boolean) am_r74 d Q 62 [(4, .int (nI i)), (3, .int 1), (0, .ref 4), (1, .ref 25), (2, .int dep)] [] h) ∧ (¬ ((Int16.ofInt 1000).toInt32 ≤ (nI i)) → pz_S 5 (some .boolean) am_r74 d Q 22 [(4, .int (nI i)), (3, .int 1), (0, .ref 4), (1, .ref 25), (2, .int dep)] [] h) from ⟨fun hz => absurd hz (i1000 (by omega)), fun _ => ?_⟩)
    refine am_goX 2 (show am_sh h 4 = some (4, 0) ∧ pz_S 5 (some .boolean) am_r74 d Q 26 [(4, .int (nI i)), (3, .int 1), (0, .ref 4), (1, .ref 25), (2, .int dep)] [am_rf (h.2.2.1 4 0)] h from ⟨ex_4 (c_P l.1), ?_⟩)
    rw [ex_r4_0 (c_P l.1)]
    refine am_goX 2 (show am_rc h 1 7 ∧ 0 ≤ 8 ∧ h.2.2.2.2 + am_al 62 ≤ 175 ∧ am_call am_cod d 62 [.ref 1, .int (Int8.ofInt 42).toInt32] h (fun vv h' => pz_S 5 (some .boolean) am_r74 d Q 31 [(4, .int (nI i)), (3, .int 1), (0, .ref 4), (1, .ref 25), (2, .int dep)] (vv.toList ++ []) h') from ⟨Or.inl ⟨by decide, ex_1 (c_P l.1)⟩, by decide, ex_lim (c_P l.1) rfl, am_call.up (c_iss l.1 ?_) (by omega)⟩)
    cases e5 : sp_s (tt T sz) s.1 (Int8.ofInt 42).toInt32 with
    | true =>
      refine am_goX 1 (show (¬ (pz_b (true)) = 0 → pz_S 5 (some .boolean) am_r74 d Q 36 [(4, .int (nI i)), (3, .int 1), (0, .ref 4), (1, .ref 25), (2, .int dep)] [] h) ∧ (¬ ¬ (pz_b (true)) = 0 → pz_S 5 (some .boolean) am_r74 d Q 34 [(4, .int (nI i)), (3, .int 1), (0, .ref 4), (1, .ref 25), (2, .int dep)] [] h) from ⟨fun _ => ?_, fun hz => absurd (by decide) hz⟩)
      refine am_goX 2 (show am_sh h 4 = some (4, 0) ∧ pz_S 5 (some .boolean) am_r74 d Q 40 [(4, .int (nI i)), (3, .int 1), (0, .ref 4), (1, .ref 25), (2, .int dep)] [am_rf (h.2.2.1 4 0)] h from ⟨ex_4 (c_P l.1), ?_⟩)
      rw [ex_r4_0 (c_P l.1)]
      refine am_goX 1 (show am_rc h 1 7 ∧ 0 ≤ 8 ∧ h.2.2.2.2 + am_al 18 ≤ 175 ∧ am_call am_cod d 18 [.ref 1] h (fun vv h' => pz_S 5 (some .boolean) am_r74 d Q 43 [(4, .int (nI i)), (3, .int 1), (0, .ref 4), (1, .ref 25), (2, .int dep)] (vv.toList ++ []) h') from ⟨Or.inl ⟨by decide, ex_1 (c_P l.1)⟩, by decide, ex_lim (c_P l.1) rfl, am_call.up (c_step l.1 (sp_sn e5) (fun h6 m7 f8 => ?_)) (by omega)⟩)
      have l9 : cr h0 17 T sz ((s.1 + 1), s.2) h6 := cr_fr (a := s.1) (C := s.2) (by decide) l m7 (Nat.le_succ _) f8
      refine am_goX 4 (show am_rc h6 4 4 ∧ 0 ≤ 8 ∧ h6.2.2.2.2 + am_al 75 ≤ 175 ∧ am_call am_cod d 75 [.ref 4, .ref 25, .int dep] h6 (fun vv h' => pz_S 5 (some .boolean) am_r74 d Q 49 [(4, .int (nI i)), (3, .int 1), (0, .ref 4), (1, .ref 25), (2, .int dep)] (vv.toList ++ []) h') from ⟨Or.inl ⟨by decide, ex_4 (c_P l9.1)⟩, by decide, ex_lim (c_P l9.1) rfl, ks _ _ _ l9 (fun v10 h11 x12 => ?_)⟩)
      rcases cres_cs x12 with ⟨F14, e16, rfl, y17⟩ | ⟨t15, e16, rfl, y17⟩
      ·
        refine am_goX 4 (show 3 < 5 ∧ am_rc h11 25 3 ∧ 0 ≤ 8 ∧ h11.2.2.2.2 + am_al 77 ≤ 175 ∧ am_call am_cod d 77 [.ref 25, .int (Int8.ofInt (-12)).toInt32] h11 (fun vv h' => pz_S 5 (some .boolean) am_r74 d Q 56 [(3, .int 0), (4, .int (nI i)), (0, .ref 4), (1, .ref 25), (2, .int dep)] (vv.toList ++ []) h') from ⟨by decide, Or.inl ⟨by decide, ex_25 y17.1⟩, by decide, ex_lim y17.1 rfl, am_call.up (c_addx_17 y17 (fun h18 y19 => ?_)) (by omega)⟩)
        refine am_goX 4 (show 4 < 5 ∧ (0 = 0 → pz_S 5 (some .boolean) am_r74 d Q 62 [(4, .int ((nI i) + Int32.ofInt 1)), (3, .int 0), (0, .ref 4), (1, .ref 25), (2, .int dep)] [] h18) ∧ (¬ (0 = 0) → pz_S 5 (some .boolean) am_r74 d Q 14 [(4, .int ((nI i) + Int32.ofInt 1)), (3, .int 0), (0, .ref 4), (1, .ref 25), (2, .int dep)] [] h18) from ⟨by decide, fun _ => ?_, fun hz => absurd (by decide) hz⟩)
        exact am_goX 2 (show (∃ ty, (some .boolean) = some ty ∧ narrow ty (.int (0)) = .int (0)) ∧ h18.2.2.2.2 = 175 ∧ _ from ⟨⟨.boolean, rfl, rfl⟩, ex_175 y19.1, hQ _ _ (cres_inl (F := F14) (by simp only [sp_pL, sp_b, sp_f, cond_true, cond_false, e5, e16]) rfl y19)⟩)
      ·
        refine am_goX 4 (show 3 < 5 ∧ am_rc h11 25 3 ∧ 0 ≤ 8 ∧ h11.2.2.2.2 + am_al 77 ≤ 175 ∧ am_call am_cod d 77 [.ref 25, .int (Int8.ofInt (-12)).toInt32] h11 (fun vv h' => pz_S 5 (some .boolean) am_r74 d Q 56 [(3, .int 1), (4, .int (nI i)), (0, .ref 4), (1, .ref 25), (2, .int dep)] (vv.toList ++ []) h') from ⟨by decide, Or.inl ⟨by decide, ex_25 (c_P y17.1)⟩, by decide, ex_lim (c_P y17.1) rfl, am_call.up (c_add_17 (a := t15.1) (C := t15.2) y17 (by
            have h7 := hok _ _ e16
            have h8 := l.2.2.2
            unfold sp_le at h7
            dsimp only at h7
            omega) (fun h20 l21 => ?_)) (by omega)⟩)
        refine am_goX 2 (show 4 < 5 ∧ pz_S 5 (some .boolean) am_r74 d Q 10 [(4, .int ((nI i) + Int32.ofInt 1)), (3, .int 1), (0, .ref 4), (1, .ref 25), (2, .int dep)] [] h20 from ⟨by decide, ?_⟩)
        rw [xw_i1]
        have hx : sp_pL (tt T sz) p (m + 1) s = sp_pL (tt T sz) p m (t15.1, sp_em t15.2 ((Int8.ofInt (-12)).toInt32)) := by simp only [sp_pL, sp_b, cond_true, cond_false, e5, e16]
        have h7 := hok _ _ e16
        unfold sp_le at h7
        dsimp only at h7
        exact ih (i + 1) (t15.1, sp_em t15.2 ((Int8.ofInt (-12)).toInt32)) h20 Q (by dsimp only; omega) (by dsimp only; omega) l21 (fun v h1 q => hQ v h1 (by rw [hx]; exact q))
    | false =>
      refine am_goX 1 (show (¬ (pz_b (false)) = 0 → pz_S 5 (some .boolean) am_r74 d Q 36 [(4, .int (nI i)), (3, .int 1), (0, .ref 4), (1, .ref 25), (2, .int dep)] [] h) ∧ (¬ ¬ (pz_b (false)) = 0 → pz_S 5 (some .boolean) am_r74 d Q 34 [(4, .int (nI i)), (3, .int 1), (0, .ref 4), (1, .ref 25), (2, .int dep)] [] h) from ⟨fun hz => absurd hz (by decide), fun _ => ?_⟩)
      exact am_goX 2 (show (∃ ty, (some .boolean) = some ty ∧ narrow ty (.int ((Int32.ofInt 1))) = .int ((Int32.ofInt 1))) ∧ h.2.2.2.2 = 175 ∧ _ from ⟨⟨.boolean, rfl, rfl⟩, ex_175 (c_P l.1), hQ _ _ (cres_inr (s' := s) (by simp only [sp_pL, sp_b, sp_f, cond_true, cond_false, e5]) rfl l)⟩)
theorem c_74_17 (hd : 6 ≤ d) (ks : lw_c h0 17 T sz d 75 dep (p)) (hok : sp_ok (p)) : lw_c h0 17 T sz (d + 1) 74 dep (sp_p (tt T sz) p) := by
  intro s h Q l hQ
  have hP := c_P l.1
  have ha := cr_a l
  refine pz_call (n := 74) (nL := 5) (rt := (some .boolean)) (rows := am_r74) (d := d) (by decide +kernel) (by decide +kernel) rfl (by funext pc; rfl) (ex_175 hP) (by exact Nat.le_of_ble_eq_true rfl) ?_
  refine am_goX 4 (show am_rc h 4 4 ∧ 0 ≤ 8 ∧ h.2.2.2.2 + am_al 75 ≤ 175 ∧ am_call am_cod d 75 [.ref 4, .ref 25, .int dep] h (fun vv h' => pz_S 5 (some .boolean) am_r74 d Q 6 [(0, .ref 4), (1, .ref 25), (2, .int dep)] (vv.toList ++ []) h') from ⟨Or.inl ⟨by decide, ex_4 (c_P l.1)⟩, by decide, ex_lim (c_P l.1) rfl, ks _ _ _ l (fun v22 h23 x24 => ?_)⟩)
  rcases cres_cs x24 with ⟨F26, e28, rfl, y29⟩ | ⟨t27, e28, rfl, y29⟩
  ·
    refine am_goX 5 (show 3 < 5 ∧ 4 < 5 ∧ (0 = 0 → pz_S 5 (some .boolean) am_r74 d Q 62 [(4, .int (Int32.ofInt 0)), (3, .int 0), (0, .ref 4), (1, .ref 25), (2, .int dep)] [] h23) ∧ (¬ (0 = 0) → pz_S 5 (some .boolean) am_r74 d Q 14 [(4, .int (Int32.ofInt 0)), (3, .int 0), (0, .ref 4), (1, .ref 25), (2, .int dep)] [] h23) from ⟨by decide, by decide, fun _ => ?_, fun hz => absurd (by decide) hz⟩)
    exact am_goX 2 (show (∃ ty, (some .boolean) = some ty ∧ narrow ty (.int (0)) = .int (0)) ∧ h23.2.2.2.2 = 175 ∧ _ from ⟨⟨.boolean, rfl, rfl⟩, ex_175 y29.1, hQ _ _ (cres_inl (F := F26) (by simp only [sp_p, sp_b, sp_f, cond_true, cond_false, e28]) rfl y29)⟩)
  ·
    refine am_goX 3 (show 3 < 5 ∧ 4 < 5 ∧ pz_S 5 (some .boolean) am_r74 d Q 10 [(4, .int (Int32.ofInt 0)), (3, .int 1), (0, .ref 4), (1, .ref 25), (2, .int dep)] [] h23 from ⟨by decide, by decide, ?_⟩)
    have h7 := hok _ _ e28
    unfold sp_le at h7
    exact c_74l_17 hd ks hok 1001 0 t27 h23 Q (by omega) (by omega) y29 (fun v h1 q => hQ v h1 (by unfold sp_p; rw [e28]; exact q))
theorem c_73l_17 (hd : 6 ≤ d) (ks : lw_c h0 17 T sz d 74 dep (sp_p (tt T sz) p)) (hok : sp_ok (sp_p (tt T sz) p)) : ∀ (m i : Nat) (s : sp_S) (h : am_H) (Q : am_Q) (y5 : Int32), sz < s.1 + m → i + 1 ≤ s.1 → cr h0 17 T sz s h → (∀ v h1, cres h0 17 T sz (sp_sL (tt T sz) p m s) v h1 → Q v h1) → pz_S 6 (some .boolean) am_r73 d Q 10 [(4, .int (nI i)), (3, .int 1), (5, .int y5), (0, .ref 4), (1, .ref 25), (2, .int dep)] [] h := by
  intro m
  induction m with
  | zero =>
    intro i s h Q y5 hm hi l hQ
    have := (cr_a l).1
    omega
  | succ m ih =>
    intro i s h Q y5 hm hi l hQ
    have ha := cr_a l
    refine am_goX 2 (show (1 = 0 → pz_S 6 (some .boolean) am_r73 d Q 92 [(4, .int (nI i)), (3, .int 1), (5, .int y5), (0, .ref 4), (1, .ref 25), (2, .int dep)] [] h) ∧ (¬ (1 = 0) → pz_S 6 (some .boolean) am_r73 d Q 14 [(4, .int (nI i)), (3, .int 1), (5, .int y5), (0, .ref 4), (1, .ref 25), (2, .int dep)] [] h) from ⟨fun hz => absurd hz (by decide), fun _ => ?_⟩)
    refine am_goX 3 (show ((Int16.ofInt 1000).toInt32 ≤ (nI i) → pz_S 6 (some .boolean) am_r73 d Q 92 [(4, .int (nI i)), (3, .int 1), (5, .int y5), (0, .ref 4), (1, .ref 25), (2, .int dep)] [] h) ∧ (¬ ((Int16.ofInt 1000).toInt32 ≤ (nI i)) → pz_S 6 (some .boolean) am_r73 d Q 22 [(4, .int (nI i)), (3, .int 1), (5, .int y5), (0, .ref 4), (1, .ref 25), (2, .int dep)] [] h) from ⟨fun hz => absurd hz (i1000 (by omega)), fun _ => ?_⟩)
    refine am_goX 2 (show am_sh h 4 = some (4, 0) ∧ pz_S 6 (some .boolean) am_r73 d Q 26 [(4, .int (nI i)), (3, .int 1), (5, .int y5), (0, .ref 4), (1, .ref 25), (2, .int dep)] [am_rf (h.2.2.1 4 0)] h from ⟨ex_4 (c_P l.1), ?_⟩)
    rw [ex_r4_0 (c_P l.1)]
    refine am_goX 2 (show am_rc h 1 7 ∧ 0 ≤ 8 ∧ h.2.2.2.2 + am_al 62 ≤ 175 ∧ am_call am_cod d 62 [.ref 1, .int (Int8.ofInt 43).toInt32] h (fun vv h' => pz_S 6 (some .boolean) am_r73 d Q 31 [(4, .int (nI i)), (3, .int 1), (5, .int y5), (0, .ref 4), (1, .ref 25), (2, .int dep)] (vv.toList ++ []) h') from ⟨Or.inl ⟨by decide, ex_1 (c_P l.1)⟩, by decide, ex_lim (c_P l.1) rfl, am_call.up (c_iss l.1 ?_) (by omega)⟩)
    cases e30 : sp_s (tt T sz) s.1 (Int8.ofInt 43).toInt32 with
    | true =>
      refine am_goX 1 (show ((pz_b (true)) = 0 → pz_S 6 (some .boolean) am_r73 d Q 39 [(4, .int (nI i)), (3, .int 1), (5, .int y5), (0, .ref 4), (1, .ref 25), (2, .int dep)] [] h) ∧ (¬ ((pz_b (true)) = 0) → pz_S 6 (some .boolean) am_r73 d Q 34 [(4, .int (nI i)), (3, .int 1), (5, .int y5), (0, .ref 4), (1, .ref 25), (2, .int dep)] [] h) from ⟨fun hz => absurd hz (by decide), fun _ => ?_⟩)
      refine am_goX 5 (show 5 < 6 ∧ (¬ (Int8.ofInt (-10)).toInt32 = 0 → pz_S 6 (some .boolean) am_r73 d Q 66 [(5, .int (Int8.ofInt (-10)).toInt32), (4, .int (nI i)), (3, .int 1), (0, .ref 4), (1, .ref 25), (2, .int dep)] [] h) ∧ (¬ ¬ (Int8.ofInt (-10)).toInt32 = 0 → pz_S 6 (some .boolean) am_r73 d Q 64 [(5, .int (Int8.ofInt (-10)).toInt32), (4, .int (nI i)), (3, .int 1), (0, .ref 4), (1, .ref 25), (2, .int dep)] [] h) from ⟨by decide, fun _ => ?_, fun hz => absurd (by decide) hz⟩)
      refine am_goX 2 (show am_sh h 4 = some (4, 0) ∧ pz_S 6 (some .boolean) am_r73 d Q 70 [(5, .int (Int8.ofInt (-10)).toInt32), (4, .int (nI i)), (3, .int 1), (0, .ref 4), (1, .ref 25), (2, .int dep)] [am_rf (h.2.2.1 4 0)] h from ⟨ex_4 (c_P l.1), ?_⟩)
      rw [ex_r4_0 (c_P l.1)]
      refine am_goX 1 (show am_rc h 1 7 ∧ 0 ≤ 8 ∧ h.2.2.2.2 + am_al 18 ≤ 175 ∧ am_call am_cod d 18 [.ref 1] h (fun vv h' => pz_S 6 (some .boolean) am_r73 d Q 73 [(5, .int (Int8.ofInt (-10)).toInt32), (4, .int (nI i)), (3, .int 1), (0, .ref 4), (1, .ref 25), (2, .int dep)] (vv.toList ++ []) h') from ⟨Or.inl ⟨by decide, ex_1 (c_P l.1)⟩, by decide, ex_lim (c_P l.1) rfl, am_call.up (c_step l.1 (sp_sn e30) (fun h31 m32 f33 => ?_)) (by omega)⟩)
      have l34 : cr h0 17 T sz ((s.1 + 1), s.2) h31 := cr_fr (a := s.1) (C := s.2) (by decide) l m32 (Nat.le_succ _) f33
      refine am_goX 4 (show am_rc h31 4 4 ∧ 0 ≤ 8 ∧ h31.2.2.2.2 + am_al 74 ≤ 175 ∧ am_call am_cod d 74 [.ref 4, .ref 25, .int dep] h31 (fun vv h' => pz_S 6 (some .boolean) am_r73 d Q 79 [(5, .int (Int8.ofInt (-10)).toInt32), (4, .int (nI i)), (3, .int 1), (0, .ref 4), (1, .ref 25), (2, .int dep)] (vv.toList ++ []) h') from ⟨Or.inl ⟨by decide, ex_4 (c_P l34.1)⟩, by decide, ex_lim (c_P l34.1) rfl, ks _ _ _ l34 (fun v35 h36 x37 => ?_)⟩)
      rcases cres_cs x37 with ⟨F39, e41, rfl, y42⟩ | ⟨t40, e41, rfl, y42⟩
      ·
        refine am_goX 4 (show 3 < 6 ∧ am_rc h36 25 3 ∧ 0 ≤ 8 ∧ h36.2.2.2.2 + am_al 77 ≤ 175 ∧ am_call am_cod d 77 [.ref 25, .int (Int8.ofInt (-10)).toInt32] h36 (fun vv h' => pz_S 6 (some .boolean) am_r73 d Q 86 [(3, .int 0), (5, .int (Int8.ofInt (-10)).toInt32), (4, .int (nI i)), (0, .ref 4), (1, .ref 25), (2, .int dep)] (vv.toList ++ []) h') from ⟨by decide, Or.inl ⟨by decide, ex_25 y42.1⟩, by decide, ex_lim y42.1 rfl, am_call.up (c_addx_17 y42 (fun h43 y44 => ?_)) (by omega)⟩)
        refine am_goX 4 (show 4 < 6 ∧ (0 = 0 → pz_S 6 (some .boolean) am_r73 d Q 92 [(4, .int ((nI i) + Int32.ofInt 1)), (3, .int 0), (5, .int (Int8.ofInt (-10)).toInt32), (0, .ref 4), (1, .ref 25), (2, .int dep)] [] h43) ∧ (¬ (0 = 0) → pz_S 6 (some .boolean) am_r73 d Q 14 [(4, .int ((nI i) + Int32.ofInt 1)), (3, .int 0), (5, .int (Int8.ofInt (-10)).toInt32), (0, .ref 4), (1, .ref 25), (2, .int dep)] [] h43) from ⟨by decide, fun _ => ?_, fun hz => absurd (by decide) hz⟩)
        exact am_goX 2 (show (∃ ty, (some .boolean) = some ty ∧ narrow ty (.int (0)) = .int (0)) ∧ h43.2.2.2.2 = 175 ∧ _ from ⟨⟨.boolean, rfl, rfl⟩, ex_175 y44.1, hQ _ _ (cres_inl (F := F39) (by simp only [sp_sL, sp_b, sp_f, cond_true, cond_false, e30, e41]) rfl y44)⟩)
      ·
        refine am_goX 4 (show 3 < 6 ∧ am_rc h36 25 3 ∧ 0 ≤ 8 ∧ h36.2.2.2.2 + am_al 77 ≤ 175 ∧ am_call am_cod d 77 [.ref 25, .int (Int8.ofInt (-10)).toInt32] h36 (fun vv h' => pz_S 6 (some .boolean) am_r73 d Q 86 [(3, .int 1), (5, .int (Int8.ofInt (-10)).toInt32), (4, .int (nI i)), (0, .ref 4), (1, .ref 25), (2, .int dep)] (vv.toList ++ []) h') from ⟨by decide, Or.inl ⟨by decide, ex_25 (c_P y42.1)⟩, by decide, ex_lim (c_P y42.1) rfl, am_call.up (c_add_17 (a := t40.1) (C := t40.2) y42 (by
            have h7 := hok _ _ e41
            have h8 := l.2.2.2
            unfold sp_le at h7
            dsimp only at h7
            omega) (fun h45 l46 => ?_)) (by omega)⟩)
        refine am_goX 2 (show 4 < 6 ∧ pz_S 6 (some .boolean) am_r73 d Q 10 [(4, .int ((nI i) + Int32.ofInt 1)), (3, .int 1), (5, .int (Int8.ofInt (-10)).toInt32), (0, .ref 4), (1, .ref 25), (2, .int dep)] [] h45 from ⟨by decide, ?_⟩)
        rw [xw_i1]
        have hx : sp_sL (tt T sz) p (m + 1) s = sp_sL (tt T sz) p m (t40.1, sp_em t40.2 ((Int8.ofInt (-10)).toInt32)) := by simp only [sp_sL, sp_b, cond_true, cond_false, e30, e41]
        have h7 := hok _ _ e41
        unfold sp_le at h7
        dsimp only at h7
        exact ih (i + 1) (t40.1, sp_em t40.2 ((Int8.ofInt (-10)).toInt32)) h45 Q ((Int8.ofInt (-10)).toInt32) (by dsimp only; omega) (by dsimp only; omega) l46 (fun v h1 q => hQ v h1 (by rw [hx]; exact q))
    | false =>
      refine am_goX 1 (show ((pz_b (false)) = 0 → pz_S 6 (some .boolean) am_r73 d Q 39 [(4, .int (nI i)), (3, .int 1), (5, .int y5), (0, .ref 4), (1, .ref 25), (2, .int dep)] [] h) ∧ (¬ ((pz_b (false)) = 0) → pz_S 6 (some .boolean) am_r73 d Q 34 [(4, .int (nI i)), (3, .int 1), (5, .int y5), (0, .ref 4), (1, .ref 25), (2, .int dep)] [] h) from ⟨fun _ => ?_, fun hz => absurd (by decide) hz⟩)
      refine am_goX 2 (show am_sh h 4 = some (4, 0) ∧ pz_S 6 (some .boolean) am_r73 d Q 43 [(4, .int (nI i)), (3, .int 1), (5, .int y5), (0, .ref 4), (1, .ref 25), (2, .int dep)] [am_rf (h.2.2.1 4 0)] h from ⟨ex_4 (c_P l.1), ?_⟩)
      rw [ex_r4_0 (c_P l.1)]
      refine am_goX 2 (show am_rc h 1 7 ∧ 0 ≤ 8 ∧ h.2.2.2.2 + am_al 62 ≤ 175 ∧ am_call am_cod d 62 [.ref 1, .int (Int8.ofInt 45).toInt32] h (fun vv h' => pz_S 6 (some .boolean) am_r73 d Q 48 [(4, .int (nI i)), (3, .int 1), (5, .int y5), (0, .ref 4), (1, .ref 25), (2, .int dep)] (vv.toList ++ []) h') from ⟨Or.inl ⟨by decide, ex_1 (c_P l.1)⟩, by decide, ex_lim (c_P l.1) rfl, am_call.up (c_iss l.1 ?_) (by omega)⟩)
      cases e47 : sp_s (tt T sz) s.1 (Int8.ofInt 45).toInt32 with
      | true =>
        refine am_goX 1 (show ((pz_b (true)) = 0 → pz_S 6 (some .boolean) am_r73 d Q 56 [(4, .int (nI i)), (3, .int 1), (5, .int y5), (0, .ref 4), (1, .ref 25), (2, .int dep)] [] h) ∧ (¬ ((pz_b (true)) = 0) → pz_S 6 (some .boolean) am_r73 d Q 51 [(4, .int (nI i)), (3, .int 1), (5, .int y5), (0, .ref 4), (1, .ref 25), (2, .int dep)] [] h) from ⟨fun hz => absurd hz (by decide), fun _ => ?_⟩)
        refine am_goX 5 (show 5 < 6 ∧ (¬ (Int8.ofInt (-11)).toInt32 = 0 → pz_S 6 (some .boolean) am_r73 d Q 66 [(5, .int (Int8.ofInt (-11)).toInt32), (4, .int (nI i)), (3, .int 1), (0, .ref 4), (1, .ref 25), (2, .int dep)] [] h) ∧ (¬ ¬ (Int8.ofInt (-11)).toInt32 = 0 → pz_S 6 (some .boolean) am_r73 d Q 64 [(5, .int (Int8.ofInt (-11)).toInt32), (4, .int (nI i)), (3, .int 1), (0, .ref 4), (1, .ref 25), (2, .int dep)] [] h) from ⟨by decide, fun _ => ?_, fun hz => absurd (by decide) hz⟩)
        refine am_goX 2 (show am_sh h 4 = some (4, 0) ∧ pz_S 6 (some .boolean) am_r73 d Q 70 [(5, .int (Int8.ofInt (-11)).toInt32), (4, .int (nI i)), (3, .int 1), (0, .ref 4), (1, .ref 25), (2, .int dep)] [am_rf (h.2.2.1 4 0)] h from ⟨ex_4 (c_P l.1), ?_⟩)
        rw [ex_r4_0 (c_P l.1)]
        refine am_goX 1 (show am_rc h 1 7 ∧ 0 ≤ 8 ∧ h.2.2.2.2 + am_al 18 ≤ 175 ∧ am_call am_cod d 18 [.ref 1] h (fun vv h' => pz_S 6 (some .boolean) am_r73 d Q 73 [(5, .int (Int8.ofInt (-11)).toInt32), (4, .int (nI i)), (3, .int 1), (0, .ref 4), (1, .ref 25), (2, .int dep)] (vv.toList ++ []) h') from ⟨Or.inl ⟨by decide, ex_1 (c_P l.1)⟩, by decide, ex_lim (c_P l.1) rfl, am_call.up (c_step l.1 (sp_sn e47) (fun h48 m49 f50 => ?_)) (by omega)⟩)
        have l51 : cr h0 17 T sz ((s.1 + 1), s.2) h48 := cr_fr (a := s.1) (C := s.2) (by decide) l m49 (Nat.le_succ _) f50
        refine am_goX 4 (show am_rc h48 4 4 ∧ 0 ≤ 8 ∧ h48.2.2.2.2 + am_al 74 ≤ 175 ∧ am_call am_cod d 74 [.ref 4, .ref 25, .int dep] h48 (fun vv h' => pz_S 6 (some .boolean) am_r73 d Q 79 [(5, .int (Int8.ofInt (-11)).toInt32), (4, .int (nI i)), (3, .int 1), (0, .ref 4), (1, .ref 25), (2, .int dep)] (vv.toList ++ []) h') from ⟨Or.inl ⟨by decide, ex_4 (c_P l51.1)⟩, by decide, ex_lim (c_P l51.1) rfl, ks _ _ _ l51 (fun v52 h53 x54 => ?_)⟩)
        rcases cres_cs x54 with ⟨F56, e58, rfl, y59⟩ | ⟨t57, e58, rfl, y59⟩
        ·
          refine am_goX 4 (show 3 < 6 ∧ am_rc h53 25 3 ∧ 0 ≤ 8 ∧ h53.2.2.2.2 + am_al 77 ≤ 175 ∧ am_call am_cod d 77 [.ref 25, .int (Int8.ofInt (-11)).toInt32] h53 (fun vv h' => pz_S 6 (some .boolean) am_r73 d Q 86 [(3, .int 0), (5, .int (Int8.ofInt (-11)).toInt32), (4, .int (nI i)), (0, .ref 4), (1, .ref 25), (2, .int dep)] (vv.toList ++ []) h') from ⟨by decide, Or.inl ⟨by decide, ex_25 y59.1⟩, by decide, ex_lim y59.1 rfl, am_call.up (c_addx_17 y59 (fun h60 y61 => ?_)) (by omega)⟩)
          refine am_goX 4 (show 4 < 6 ∧ (0 = 0 → pz_S 6 (some .boolean) am_r73 d Q 92 [(4, .int ((nI i) + Int32.ofInt 1)), (3, .int 0), (5, .int (Int8.ofInt (-11)).toInt32), (0, .ref 4), (1, .ref 25), (2, .int dep)] [] h60) ∧ (¬ (0 = 0) → pz_S 6 (some .boolean) am_r73 d Q 14 [(4, .int ((nI i) + Int32.ofInt 1)), (3, .int 0), (5, .int (Int8.ofInt (-11)).toInt32), (0, .ref 4), (1, .ref 25), (2, .int dep)] [] h60) from ⟨by decide, fun _ => ?_, fun hz => absurd (by decide) hz⟩)
          exact am_goX 2 (show (∃ ty, (some .boolean) = some ty ∧ narrow ty (.int (0)) = .int (0)) ∧ h60.2.2.2.2 = 175 ∧ _ from ⟨⟨.boolean, rfl, rfl⟩, ex_175 y61.1, hQ _ _ (cres_inl (F := F56) (by simp only [sp_sL, sp_b, sp_f, cond_true, cond_false, e30, e47, e58]) rfl y61)⟩)
        ·
          refine am_goX 4 (show 3 < 6 ∧ am_rc h53 25 3 ∧ 0 ≤ 8 ∧ h53.2.2.2.2 + am_al 77 ≤ 175 ∧ am_call am_cod d 77 [.ref 25, .int (Int8.ofInt (-11)).toInt32] h53 (fun vv h' => pz_S 6 (some .boolean) am_r73 d Q 86 [(3, .int 1), (5, .int (Int8.ofInt (-11)).toInt32), (4, .int (nI i)), (0, .ref 4), (1, .ref 25), (2, .int dep)] (vv.toList ++ []) h') from ⟨by decide, Or.inl ⟨by decide, ex_25 (c_P y59.1)⟩, by decide, ex_lim (c_P y59.1) rfl, am_call.up (c_add_17 (a := t57.1) (C := t57.2) y59 (by
              have h7 := hok _ _ e58
              have h8 := l.2.2.2
              unfold sp_le at h7
              dsimp only at h7
              omega) (fun h62 l63 => ?_)) (by omega)⟩)
          refine am_goX 2 (show 4 < 6 ∧ pz_S 6 (some .boolean) am_r73 d Q 10 [(4, .int ((nI i) + Int32.ofInt 1)), (3, .int 1), (5, .int (Int8.ofInt (-11)).toInt32), (0, .ref 4), (1, .ref 25), (2, .int dep)] [] h62 from ⟨by decide, ?_⟩)
          rw [xw_i1]
          have hx : sp_sL (tt T sz) p (m + 1) s = sp_sL (tt T sz) p m (t57.1, sp_em t57.2 ((Int8.ofInt (-11)).toInt32)) := by simp only [sp_sL, sp_b, cond_true, cond_false, e30, e47, e58]
          have h7 := hok _ _ e58
          unfold sp_le at h7
          dsimp only at h7
          exact ih (i + 1) (t57.1, sp_em t57.2 ((Int8.ofInt (-11)).toInt32)) h62 Q ((Int8.ofInt (-11)).toInt32) (by dsimp only; omega) (by dsimp only; omega) l63 (fun v h1 q => hQ v h1 (by rw [hx]; exact q))
      | false =>
        refine am_goX 1 (show ((pz_b (false)) = 0 → pz_S 6 (some .boolean) am_r73 d Q 56 [(4, .int (nI i)), (3, .int 1), (5, .int y5), (0, .ref 4), (1, .ref 25), (2, .int dep)] [] h) ∧ (¬ ((pz_b (false)) = 0) → pz_S 6 (some .boolean) am_r73 d Q 51 [(4, .int (nI i)), (3, .int 1), (5, .int y5), (0, .ref 4), (1, .ref 25), (2, .int dep)] [] h) from ⟨fun _ => ?_, fun hz => absurd (by decide) hz⟩)
        refine am_goX 4 (show 5 < 6 ∧ (¬ (Int32.ofInt 0) = 0 → pz_S 6 (some .boolean) am_r73 d Q 66 [(5, .int (Int32.ofInt 0)), (4, .int (nI i)), (3, .int 1), (0, .ref 4), (1, .ref 25), (2, .int dep)] [] h) ∧ (¬ ¬ (Int32.ofInt 0) = 0 → pz_S 6 (some .boolean) am_r73 d Q 64 [(5, .int (Int32.ofInt 0)), (4, .int (nI i)), (3, .int 1), (0, .ref 4), (1, .ref 25), (2, .int dep)] [] h) from ⟨by decide, fun hz => absurd hz (by decide), fun _ => ?_⟩)
        exact am_goX 2 (show (∃ ty, (some .boolean) = some ty ∧ narrow ty (.int ((Int32.ofInt 1))) = .int ((Int32.ofInt 1))) ∧ h.2.2.2.2 = 175 ∧ _ from ⟨⟨.boolean, rfl, rfl⟩, ex_175 (c_P l.1), hQ _ _ (cres_inr (s' := s) (by simp only [sp_sL, sp_b, sp_f, cond_true, cond_false, e30, e47]) rfl l)⟩)
theorem c_73_17 (hd : 6 ≤ d) (ks : lw_c h0 17 T sz d 74 dep (sp_p (tt T sz) p)) (hok : sp_ok (sp_p (tt T sz) p)) : lw_c h0 17 T sz (d + 1) 73 dep (sp_su (tt T sz) p) := by
  intro s h Q l hQ
  have hP := c_P l.1
  have ha := cr_a l
  refine pz_call (n := 73) (nL := 6) (rt := (some .boolean)) (rows := am_r73) (d := d) (by decide +kernel) (by decide +kernel) rfl (by funext pc; rfl) (ex_175 hP) (by exact Nat.le_of_ble_eq_true rfl) ?_
  refine am_goX 4 (show am_rc h 4 4 ∧ 0 ≤ 8 ∧ h.2.2.2.2 + am_al 74 ≤ 175 ∧ am_call am_cod d 74 [.ref 4, .ref 25, .int dep] h (fun vv h' => pz_S 6 (some .boolean) am_r73 d Q 6 [(0, .ref 4), (1, .ref 25), (2, .int dep)] (vv.toList ++ []) h') from ⟨Or.inl ⟨by decide, ex_4 (c_P l.1)⟩, by decide, ex_lim (c_P l.1) rfl, ks _ _ _ l (fun v64 h65 x66 => ?_)⟩)
  rcases cres_cs x66 with ⟨F68, e70, rfl, y71⟩ | ⟨t69, e70, rfl, y71⟩
  ·
    refine am_goX 5 (show 3 < 6 ∧ 4 < 6 ∧ (0 = 0 → pz_S 6 (some .boolean) am_r73 d Q 92 [(4, .int (Int32.ofInt 0)), (3, .int 0), (0, .ref 4), (1, .ref 25), (2, .int dep)] [] h65) ∧ (¬ (0 = 0) → pz_S 6 (some .boolean) am_r73 d Q 14 [(4, .int (Int32.ofInt 0)), (3, .int 0), (0, .ref 4), (1, .ref 25), (2, .int dep)] [] h65) from ⟨by decide, by decide, fun _ => ?_, fun hz => absurd (by decide) hz⟩)
    exact am_goX 2 (show (∃ ty, (some .boolean) = some ty ∧ narrow ty (.int (0)) = .int (0)) ∧ h65.2.2.2.2 = 175 ∧ _ from ⟨⟨.boolean, rfl, rfl⟩, ex_175 y71.1, hQ _ _ (cres_inl (F := F68) (by simp only [sp_su, sp_b, sp_f, cond_true, cond_false, e70]) rfl y71)⟩)
  ·
    refine am_goX 3 (show 3 < 6 ∧ 4 < 6 ∧ pz_S 6 (some .boolean) am_r73 d Q 10 [(4, .int (Int32.ofInt 0)), (3, .int 1), (0, .ref 4), (1, .ref 25), (2, .int dep)] [] h65 from ⟨by decide, by decide, ?_⟩)
    have h7 := hok _ _ e70
    unfold sp_le at h7
    have ha := cr_a y71
    have h8 := l.2.2.2
    refine am_goX 2 (show (1 = 0 → pz_S 6 (some .boolean) am_r73 d Q 92 [(4, .int (nI 0)), (3, .int 1), (0, .ref 4), (1, .ref 25), (2, .int dep)] [] h65) ∧ (¬ (1 = 0) → pz_S 6 (some .boolean) am_r73 d Q 14 [(4, .int (nI 0)), (3, .int 1), (0, .ref 4), (1, .ref 25), (2, .int dep)] [] h65) from ⟨fun hz => absurd hz (by decide), fun _ => ?_⟩)
    refine am_goX 3 (show ((Int16.ofInt 1000).toInt32 ≤ (nI 0) → pz_S 6 (some .boolean) am_r73 d Q 92 [(4, .int (nI 0)), (3, .int 1), (0, .ref 4), (1, .ref 25), (2, .int dep)] [] h65) ∧ (¬ ((Int16.ofInt 1000).toInt32 ≤ (nI 0)) → pz_S 6 (some .boolean) am_r73 d Q 22 [(4, .int (nI 0)), (3, .int 1), (0, .ref 4), (1, .ref 25), (2, .int dep)] [] h65) from ⟨fun hz => absurd hz (i1000 (by omega)), fun _ => ?_⟩)
    refine am_goX 2 (show am_sh h65 4 = some (4, 0) ∧ pz_S 6 (some .boolean) am_r73 d Q 26 [(4, .int (nI 0)), (3, .int 1), (0, .ref 4), (1, .ref 25), (2, .int dep)] [am_rf (h65.2.2.1 4 0)] h65 from ⟨ex_4 (c_P y71.1), ?_⟩)
    rw [ex_r4_0 (c_P y71.1)]
    refine am_goX 2 (show am_rc h65 1 7 ∧ 0 ≤ 8 ∧ h65.2.2.2.2 + am_al 62 ≤ 175 ∧ am_call am_cod d 62 [.ref 1, .int (Int8.ofInt 43).toInt32] h65 (fun vv h' => pz_S 6 (some .boolean) am_r73 d Q 31 [(4, .int (nI 0)), (3, .int 1), (0, .ref 4), (1, .ref 25), (2, .int dep)] (vv.toList ++ []) h') from ⟨Or.inl ⟨by decide, ex_1 (c_P y71.1)⟩, by decide, ex_lim (c_P y71.1) rfl, am_call.up (c_iss y71.1 ?_) (by omega)⟩)
    cases e72 : sp_s (tt T sz) t69.1 (Int8.ofInt 43).toInt32 with
    | true =>
      refine am_goX 1 (show ((pz_b (true)) = 0 → pz_S 6 (some .boolean) am_r73 d Q 39 [(4, .int (nI 0)), (3, .int 1), (0, .ref 4), (1, .ref 25), (2, .int dep)] [] h65) ∧ (¬ ((pz_b (true)) = 0) → pz_S 6 (some .boolean) am_r73 d Q 34 [(4, .int (nI 0)), (3, .int 1), (0, .ref 4), (1, .ref 25), (2, .int dep)] [] h65) from ⟨fun hz => absurd hz (by decide), fun _ => ?_⟩)
      refine am_goX 5 (show 5 < 6 ∧ (¬ (Int8.ofInt (-10)).toInt32 = 0 → pz_S 6 (some .boolean) am_r73 d Q 66 [(5, .int (Int8.ofInt (-10)).toInt32), (4, .int (nI 0)), (3, .int 1), (0, .ref 4), (1, .ref 25), (2, .int dep)] [] h65) ∧ (¬ ¬ (Int8.ofInt (-10)).toInt32 = 0 → pz_S 6 (some .boolean) am_r73 d Q 64 [(5, .int (Int8.ofInt (-10)).toInt32), (4, .int (nI 0)), (3, .int 1), (0, .ref 4), (1, .ref 25), (2, .int dep)] [] h65) from ⟨by decide, fun _ => ?_, fun hz => absurd (by decide) hz⟩)
      refine am_goX 2 (show am_sh h65 4 = some (4, 0) ∧ pz_S 6 (some .boolean) am_r73 d Q 70 [(5, .int (Int8.ofInt (-10)).toInt32), (4, .int (nI 0)), (3, .int 1), (0, .ref 4), (1, .ref 25), (2, .int dep)] [am_rf (h65.2.2.1 4 0)] h65 from ⟨ex_4 (c_P y71.1), ?_⟩)
      rw [ex_r4_0 (c_P y71.1)]
      refine am_goX 1 (show am_rc h65 1 7 ∧ 0 ≤ 8 ∧ h65.2.2.2.2 + am_al 18 ≤ 175 ∧ am_call am_cod d 18 [.ref 1] h65 (fun vv h' => pz_S 6 (some .boolean) am_r73 d Q 73 [(5, .int (Int8.ofInt (-10)).toInt32), (4, .int (nI 0)), (3, .int 1), (0, .ref 4), (1, .ref 25), (2, .int dep)] (vv.toList ++ []) h') from ⟨Or.inl ⟨by decide, ex_1 (c_P y71.1)⟩, by decide, ex_lim (c_P y71.1) rfl, am_call.up (c_step y71.1 (sp_sn e72) (fun h73 m74 f75 => ?_)) (by omega)⟩)
      have l76 : cr h0 17 T sz ((t69.1 + 1), t69.2) h73 := cr_fr (a := t69.1) (C := t69.2) (by decide) y71 m74 (Nat.le_succ _) f75
      refine am_goX 4 (show am_rc h73 4 4 ∧ 0 ≤ 8 ∧ h73.2.2.2.2 + am_al 74 ≤ 175 ∧ am_call am_cod d 74 [.ref 4, .ref 25, .int dep] h73 (fun vv h' => pz_S 6 (some .boolean) am_r73 d Q 79 [(5, .int (Int8.ofInt (-10)).toInt32), (4, .int (nI 0)), (3, .int 1), (0, .ref 4), (1, .ref 25), (2, .int dep)] (vv.toList ++ []) h') from ⟨Or.inl ⟨by decide, ex_4 (c_P l76.1)⟩, by decide, ex_lim (c_P l76.1) rfl, ks _ _ _ l76 (fun v77 h78 x79 => ?_)⟩)
      rcases cres_cs x79 with ⟨F81, e83, rfl, y84⟩ | ⟨t82, e83, rfl, y84⟩
      ·
        refine am_goX 4 (show 3 < 6 ∧ am_rc h78 25 3 ∧ 0 ≤ 8 ∧ h78.2.2.2.2 + am_al 77 ≤ 175 ∧ am_call am_cod d 77 [.ref 25, .int (Int8.ofInt (-10)).toInt32] h78 (fun vv h' => pz_S 6 (some .boolean) am_r73 d Q 86 [(3, .int 0), (5, .int (Int8.ofInt (-10)).toInt32), (4, .int (nI 0)), (0, .ref 4), (1, .ref 25), (2, .int dep)] (vv.toList ++ []) h') from ⟨by decide, Or.inl ⟨by decide, ex_25 y84.1⟩, by decide, ex_lim y84.1 rfl, am_call.up (c_addx_17 y84 (fun h85 y86 => ?_)) (by omega)⟩)
        refine am_goX 4 (show 4 < 6 ∧ (0 = 0 → pz_S 6 (some .boolean) am_r73 d Q 92 [(4, .int ((nI 0) + Int32.ofInt 1)), (3, .int 0), (5, .int (Int8.ofInt (-10)).toInt32), (0, .ref 4), (1, .ref 25), (2, .int dep)] [] h85) ∧ (¬ (0 = 0) → pz_S 6 (some .boolean) am_r73 d Q 14 [(4, .int ((nI 0) + Int32.ofInt 1)), (3, .int 0), (5, .int (Int8.ofInt (-10)).toInt32), (0, .ref 4), (1, .ref 25), (2, .int dep)] [] h85) from ⟨by decide, fun _ => ?_, fun hz => absurd (by decide) hz⟩)
        exact am_goX 2 (show (∃ ty, (some .boolean) = some ty ∧ narrow ty (.int (0)) = .int (0)) ∧ h85.2.2.2.2 = 175 ∧ _ from ⟨⟨.boolean, rfl, rfl⟩, ex_175 y86.1, hQ _ _ (cres_inl (F := F81) (by simp only [sp_su, sp_sL_1, sp_b, sp_f, cond_true, cond_false, e70, e72, e83]) rfl y86)⟩)
      ·
        refine am_goX 4 (show 3 < 6 ∧ am_rc h78 25 3 ∧ 0 ≤ 8 ∧ h78.2.2.2.2 + am_al 77 ≤ 175 ∧ am_call am_cod d 77 [.ref 25, .int (Int8.ofInt (-10)).toInt32] h78 (fun vv h' => pz_S 6 (some .boolean) am_r73 d Q 86 [(3, .int 1), (5, .int (Int8.ofInt (-10)).toInt32), (4, .int (nI 0)), (0, .ref 4), (1, .ref 25), (2, .int dep)] (vv.toList ++ []) h') from ⟨by decide, Or.inl ⟨by decide, ex_25 (c_P y84.1)⟩, by decide, ex_lim (c_P y84.1) rfl, am_call.up (c_add_17 (a := t82.1) (C := t82.2) y84 (by
            have h7 := hok _ _ e83
            have h8 := y71.2.2.2
            unfold sp_le at h7
            dsimp only at h7
            omega) (fun h87 l88 => ?_)) (by omega)⟩)
        refine am_goX 2 (show 4 < 6 ∧ pz_S 6 (some .boolean) am_r73 d Q 10 [(4, .int ((nI 0) + Int32.ofInt 1)), (3, .int 1), (5, .int (Int8.ofInt (-10)).toInt32), (0, .ref 4), (1, .ref 25), (2, .int dep)] [] h87 from ⟨by decide, ?_⟩)
        rw [xw_i1]
        have hx : sp_sL (tt T sz) p 1001 t69 = sp_sL (tt T sz) p 1000 (t82.1, sp_em t82.2 ((Int8.ofInt (-10)).toInt32)) := by simp only [sp_sL_1, sp_b, cond_true, cond_false, e70, e72, e83]
        have h7 := hok _ _ e83
        unfold sp_le at h7
        dsimp only at h7
        exact c_73l_17 hd ks hok 1000 (0 + 1) (t82.1, sp_em t82.2 ((Int8.ofInt (-10)).toInt32)) h87 Q ((Int8.ofInt (-10)).toInt32) (by dsimp only; omega) (by dsimp only; omega) l88 (fun v h1 q => hQ v h1 (by unfold sp_su; rw [e70]; show cres _ _ _ _ (sp_sL (tt T sz) p 1001 t69) _ _; rw [hx]; exact q))
    | false =>
      refine am_goX 1 (show ((pz_b (false)) = 0 → pz_S 6 (some .boolean) am_r73 d Q 39 [(4, .int (nI 0)), (3, .int 1), (0, .ref 4), (1, .ref 25), (2, .int dep)] [] h65) ∧ (¬ ((pz_b (false)) = 0) → pz_S 6 (some .boolean) am_r73 d Q 34 [(4, .int (nI 0)), (3, .int 1), (0, .ref 4), (1, .ref 25), (2, .int dep)] [] h65) from ⟨fun _ => ?_, fun hz => absurd (by decide) hz⟩)
      refine am_goX 2 (show am_sh h65 4 = some (4, 0) ∧ pz_S 6 (some .boolean) am_r73 d Q 43 [(4, .int (nI 0)), (3, .int 1), (0, .ref 4), (1, .ref 25), (2, .int dep)] [am_rf (h65.2.2.1 4 0)] h65 from ⟨ex_4 (c_P y71.1), ?_⟩)
      rw [ex_r4_0 (c_P y71.1)]
      refine am_goX 2 (show am_rc h65 1 7 ∧ 0 ≤ 8 ∧ h65.2.2.2.2 + am_al 62 ≤ 175 ∧ am_call am_cod d 62 [.ref 1, .int (Int8.ofInt 45).toInt32] h65 (fun vv h' => pz_S 6 (some .boolean) am_r73 d Q 48 [(4, .int (nI 0)), (3, .int 1), (0, .ref 4), (1, .ref 25), (2, .int dep)] (vv.toList ++ []) h') from ⟨Or.inl ⟨by decide, ex_1 (c_P y71.1)⟩, by decide, ex_lim (c_P y71.1) rfl, am_call.up (c_iss y71.1 ?_) (by omega)⟩)
      cases e89 : sp_s (tt T sz) t69.1 (Int8.ofInt 45).toInt32 with
      | true =>
        refine am_goX 1 (show ((pz_b (true)) = 0 → pz_S 6 (some .boolean) am_r73 d Q 56 [(4, .int (nI 0)), (3, .int 1), (0, .ref 4), (1, .ref 25), (2, .int dep)] [] h65) ∧ (¬ ((pz_b (true)) = 0) → pz_S 6 (some .boolean) am_r73 d Q 51 [(4, .int (nI 0)), (3, .int 1), (0, .ref 4), (1, .ref 25), (2, .int dep)] [] h65) from ⟨fun hz => absurd hz (by decide), fun _ => ?_⟩)
        refine am_goX 5 (show 5 < 6 ∧ (¬ (Int8.ofInt (-11)).toInt32 = 0 → pz_S 6 (some .boolean) am_r73 d Q 66 [(5, .int (Int8.ofInt (-11)).toInt32), (4, .int (nI 0)), (3, .int 1), (0, .ref 4), (1, .ref 25), (2, .int dep)] [] h65) ∧ (¬ ¬ (Int8.ofInt (-11)).toInt32 = 0 → pz_S 6 (some .boolean) am_r73 d Q 64 [(5, .int (Int8.ofInt (-11)).toInt32), (4, .int (nI 0)), (3, .int 1), (0, .ref 4), (1, .ref 25), (2, .int dep)] [] h65) from ⟨by decide, fun _ => ?_, fun hz => absurd (by decide) hz⟩)
        refine am_goX 2 (show am_sh h65 4 = some (4, 0) ∧ pz_S 6 (some .boolean) am_r73 d Q 70 [(5, .int (Int8.ofInt (-11)).toInt32), (4, .int (nI 0)), (3, .int 1), (0, .ref 4), (1, .ref 25), (2, .int dep)] [am_rf (h65.2.2.1 4 0)] h65 from ⟨ex_4 (c_P y71.1), ?_⟩)
        rw [ex_r4_0 (c_P y71.1)]
        refine am_goX 1 (show am_rc h65 1 7 ∧ 0 ≤ 8 ∧ h65.2.2.2.2 + am_al 18 ≤ 175 ∧ am_call am_cod d 18 [.ref 1] h65 (fun vv h' => pz_S 6 (some .boolean) am_r73 d Q 73 [(5, .int (Int8.ofInt (-11)).toInt32), (4, .int (nI 0)), (3, .int 1), (0, .ref 4), (1, .ref 25), (2, .int dep)] (vv.toList ++ []) h') from ⟨Or.inl ⟨by decide, ex_1 (c_P y71.1)⟩, by decide, ex_lim (c_P y71.1) rfl, am_call.up (c_step y71.1 (sp_sn e89) (fun h90 m91 f92 => ?_)) (by omega)⟩)
        have l93 : cr h0 17 T sz ((t69.1 + 1), t69.2) h90 := cr_fr (a := t69.1) (C := t69.2) (by decide) y71 m91 (Nat.le_succ _) f92
        refine am_goX 4 (show am_rc h90 4 4 ∧ 0 ≤ 8 ∧ h90.2.2.2.2 + am_al 74 ≤ 175 ∧ am_call am_cod d 74 [.ref 4, .ref 25, .int dep] h90 (fun vv h' => pz_S 6 (some .boolean) am_r73 d Q 79 [(5, .int (Int8.ofInt (-11)).toInt32), (4, .int (nI 0)), (3, .int 1), (0, .ref 4), (1, .ref 25), (2, .int dep)] (vv.toList ++ []) h') from ⟨Or.inl ⟨by decide, ex_4 (c_P l93.1)⟩, by decide, ex_lim (c_P l93.1) rfl, ks _ _ _ l93 (fun v94 h95 x96 => ?_)⟩)
        rcases cres_cs x96 with ⟨F98, e100, rfl, y101⟩ | ⟨t99, e100, rfl, y101⟩
        ·
          refine am_goX 4 (show 3 < 6 ∧ am_rc h95 25 3 ∧ 0 ≤ 8 ∧ h95.2.2.2.2 + am_al 77 ≤ 175 ∧ am_call am_cod d 77 [.ref 25, .int (Int8.ofInt (-11)).toInt32] h95 (fun vv h' => pz_S 6 (some .boolean) am_r73 d Q 86 [(3, .int 0), (5, .int (Int8.ofInt (-11)).toInt32), (4, .int (nI 0)), (0, .ref 4), (1, .ref 25), (2, .int dep)] (vv.toList ++ []) h') from ⟨by decide, Or.inl ⟨by decide, ex_25 y101.1⟩, by decide, ex_lim y101.1 rfl, am_call.up (c_addx_17 y101 (fun h102 y103 => ?_)) (by omega)⟩)
          refine am_goX 4 (show 4 < 6 ∧ (0 = 0 → pz_S 6 (some .boolean) am_r73 d Q 92 [(4, .int ((nI 0) + Int32.ofInt 1)), (3, .int 0), (5, .int (Int8.ofInt (-11)).toInt32), (0, .ref 4), (1, .ref 25), (2, .int dep)] [] h102) ∧ (¬ (0 = 0) → pz_S 6 (some .boolean) am_r73 d Q 14 [(4, .int ((nI 0) + Int32.ofInt 1)), (3, .int 0), (5, .int (Int8.ofInt (-11)).toInt32), (0, .ref 4), (1, .ref 25), (2, .int dep)] [] h102) from ⟨by decide, fun _ => ?_, fun hz => absurd (by decide) hz⟩)
          exact am_goX 2 (show (∃ ty, (some .boolean) = some ty ∧ narrow ty (.int (0)) = .int (0)) ∧ h102.2.2.2.2 = 175 ∧ _ from ⟨⟨.boolean, rfl, rfl⟩, ex_175 y103.1, hQ _ _ (cres_inl (F := F98) (by simp only [sp_su, sp_sL_1, sp_b, sp_f, cond_true, cond_false, e70, e72, e89, e100]) rfl y103)⟩)
        ·
          refine am_goX 4 (show 3 < 6 ∧ am_rc h95 25 3 ∧ 0 ≤ 8 ∧ h95.2.2.2.2 + am_al 77 ≤ 175 ∧ am_call am_cod d 77 [.ref 25, .int (Int8.ofInt (-11)).toInt32] h95 (fun vv h' => pz_S 6 (some .boolean) am_r73 d Q 86 [(3, .int 1), (5, .int (Int8.ofInt (-11)).toInt32), (4, .int (nI 0)), (0, .ref 4), (1, .ref 25), (2, .int dep)] (vv.toList ++ []) h') from ⟨by decide, Or.inl ⟨by decide, ex_25 (c_P y101.1)⟩, by decide, ex_lim (c_P y101.1) rfl, am_call.up (c_add_17 (a := t99.1) (C := t99.2) y101 (by
              have h7 := hok _ _ e100
              have h8 := y71.2.2.2
              unfold sp_le at h7
              dsimp only at h7
              omega) (fun h104 l105 => ?_)) (by omega)⟩)
          refine am_goX 2 (show 4 < 6 ∧ pz_S 6 (some .boolean) am_r73 d Q 10 [(4, .int ((nI 0) + Int32.ofInt 1)), (3, .int 1), (5, .int (Int8.ofInt (-11)).toInt32), (0, .ref 4), (1, .ref 25), (2, .int dep)] [] h104 from ⟨by decide, ?_⟩)
          rw [xw_i1]
          have hx : sp_sL (tt T sz) p 1001 t69 = sp_sL (tt T sz) p 1000 (t99.1, sp_em t99.2 ((Int8.ofInt (-11)).toInt32)) := by simp only [sp_sL_1, sp_b, cond_true, cond_false, e70, e72, e89, e100]
          have h7 := hok _ _ e100
          unfold sp_le at h7
          dsimp only at h7
          exact c_73l_17 hd ks hok 1000 (0 + 1) (t99.1, sp_em t99.2 ((Int8.ofInt (-11)).toInt32)) h104 Q ((Int8.ofInt (-11)).toInt32) (by dsimp only; omega) (by dsimp only; omega) l105 (fun v h1 q => hQ v h1 (by unfold sp_su; rw [e70]; show cres _ _ _ _ (sp_sL (tt T sz) p 1001 t69) _ _; rw [hx]; exact q))
      | false =>
        refine am_goX 1 (show ((pz_b (false)) = 0 → pz_S 6 (some .boolean) am_r73 d Q 56 [(4, .int (nI 0)), (3, .int 1), (0, .ref 4), (1, .ref 25), (2, .int dep)] [] h65) ∧ (¬ ((pz_b (false)) = 0) → pz_S 6 (some .boolean) am_r73 d Q 51 [(4, .int (nI 0)), (3, .int 1), (0, .ref 4), (1, .ref 25), (2, .int dep)] [] h65) from ⟨fun _ => ?_, fun hz => absurd (by decide) hz⟩)
        refine am_goX 4 (show 5 < 6 ∧ (¬ (Int32.ofInt 0) = 0 → pz_S 6 (some .boolean) am_r73 d Q 66 [(5, .int (Int32.ofInt 0)), (4, .int (nI 0)), (3, .int 1), (0, .ref 4), (1, .ref 25), (2, .int dep)] [] h65) ∧ (¬ ¬ (Int32.ofInt 0) = 0 → pz_S 6 (some .boolean) am_r73 d Q 64 [(5, .int (Int32.ofInt 0)), (4, .int (nI 0)), (3, .int 1), (0, .ref 4), (1, .ref 25), (2, .int dep)] [] h65) from ⟨by decide, fun hz => absurd hz (by decide), fun _ => ?_⟩)
        exact am_goX 2 (show (∃ ty, (some .boolean) = some ty ∧ narrow ty (.int ((Int32.ofInt 1))) = .int ((Int32.ofInt 1))) ∧ h65.2.2.2.2 = 175 ∧ _ from ⟨⟨.boolean, rfl, rfl⟩, ex_175 (c_P y71.1), hQ _ _ (cres_inr (s' := t69) (by simp only [sp_su, sp_sL_1, sp_b, sp_f, cond_true, cond_false, e70, e72, e89]) rfl y71)⟩)
theorem c_72_17 (hd : 6 ≤ d) (ks : lw_c h0 17 T sz d 73 dep (sp_su (tt T sz) p)) (hok : sp_ok (sp_su (tt T sz) p)) : lw_c h0 17 T sz (d + 1) 72 dep (sp_te (tt T sz) p) := by
  intro s h Q l hQ
  have hP := c_P l.1
  refine pz_call (n := 72) (nL := 5) (rt := (some .boolean)) (rows := am_r72) (d := d) (by decide +kernel) (by decide +kernel) rfl (by funext pc; rfl) (ex_175 hP) (by exact Nat.le_of_ble_eq_true rfl) ?_
  refine am_goX 4 (show am_rc h 4 4 ∧ 0 ≤ 8 ∧ h.2.2.2.2 + am_al 73 ≤ 175 ∧ am_call am_cod d 73 [.ref 4, .ref 25, .int dep] h (fun vv h' => pz_S 5 (some .boolean) am_r72 d Q 6 [(0, .ref 4), (1, .ref 25), (2, .int dep)] (vv.toList ++ []) h') from ⟨Or.inl ⟨by decide, ex_4 (c_P l.1)⟩, by decide, ex_lim (c_P l.1) rfl, ks _ _ _ l (fun v106 h107 x108 => ?_)⟩)
  rcases cres_cs x108 with ⟨F110, e112, rfl, y113⟩ | ⟨t111, e112, rfl, y113⟩
  ·
    refine am_goX 1 (show (¬ 0 = 0 → pz_S 5 (some .boolean) am_r72 d Q 11 [(0, .ref 4), (1, .ref 25), (2, .int dep)] [] h107) ∧ (¬ ¬ 0 = 0 → pz_S 5 (some .boolean) am_r72 d Q 9 [(0, .ref 4), (1, .ref 25), (2, .int dep)] [] h107) from ⟨fun hz => absurd hz (by decide), fun _ => ?_⟩)
    exact am_goX 2 (show (∃ ty, (some .boolean) = some ty ∧ narrow ty (.int ((Int32.ofInt 0))) = .int ((Int32.ofInt 0))) ∧ h107.2.2.2.2 = 175 ∧ _ from ⟨⟨.boolean, rfl, rfl⟩, ex_175 y113.1, hQ _ _ (cres_inl (F := F110) (by simp only [sp_te, sp_b, sp_f, cond_true, cond_false, e112]) rfl y113)⟩)
  ·
    refine am_goX 1 (show (¬ 1 = 0 → pz_S 5 (some .boolean) am_r72 d Q 11 [(0, .ref 4), (1, .ref 25), (2, .int dep)] [] h107) ∧ (¬ ¬ 1 = 0 → pz_S 5 (some .boolean) am_r72 d Q 9 [(0, .ref 4), (1, .ref 25), (2, .int dep)] [] h107) from ⟨fun _ => ?_, fun hz => absurd (by decide) hz⟩)
    refine am_goX 2 (show am_sh h107 4 = some (4, 0) ∧ pz_S 5 (some .boolean) am_r72 d Q 15 [(0, .ref 4), (1, .ref 25), (2, .int dep)] [am_rf (h107.2.2.1 4 0)] h107 from ⟨ex_4 (c_P y113.1), ?_⟩)
    rw [ex_r4_0 (c_P y113.1)]
    refine am_goX 2 (show am_rc h107 1 7 ∧ 0 ≤ 8 ∧ h107.2.2.2.2 + am_al 62 ≤ 175 ∧ am_call am_cod d 62 [.ref 1, .int (Int8.ofInt 60).toInt32] h107 (fun vv h' => pz_S 5 (some .boolean) am_r72 d Q 20 [(0, .ref 4), (1, .ref 25), (2, .int dep)] (vv.toList ++ []) h') from ⟨Or.inl ⟨by decide, ex_1 (c_P y113.1)⟩, by decide, ex_lim (c_P y113.1) rfl, am_call.up (c_iss y113.1 ?_) (by omega)⟩)
    cases e114 : sp_s (tt T sz) t111.1 (Int8.ofInt 60).toInt32 with
    | true =>
      refine am_goX 1 (show ((pz_b (true)) = 0 → pz_S 5 (some .boolean) am_r72 d Q 28 [(0, .ref 4), (1, .ref 25), (2, .int dep)] [] h107) ∧ (¬ ((pz_b (true)) = 0) → pz_S 5 (some .boolean) am_r72 d Q 23 [(0, .ref 4), (1, .ref 25), (2, .int dep)] [] h107) from ⟨fun hz => absurd hz (by decide), fun _ => ?_⟩)
      refine am_goX 5 (show 3 < 5 ∧ (¬ (Int8.ofInt (-8)).toInt32 = 0 → pz_S 5 (some .boolean) am_r72 d Q 53 [(3, .int (Int8.ofInt (-8)).toInt32), (0, .ref 4), (1, .ref 25), (2, .int dep)] [] h107) ∧ (¬ ¬ (Int8.ofInt (-8)).toInt32 = 0 → pz_S 5 (some .boolean) am_r72 d Q 51 [(3, .int (Int8.ofInt (-8)).toInt32), (0, .ref 4), (1, .ref 25), (2, .int dep)] [] h107) from ⟨by decide, fun _ => ?_, fun hz => absurd (by decide) hz⟩)
      refine am_goX 2 (show am_sh h107 4 = some (4, 0) ∧ pz_S 5 (some .boolean) am_r72 d Q 57 [(3, .int (Int8.ofInt (-8)).toInt32), (0, .ref 4), (1, .ref 25), (2, .int dep)] [am_rf (h107.2.2.1 4 0)] h107 from ⟨ex_4 (c_P y113.1), ?_⟩)
      rw [ex_r4_0 (c_P y113.1)]
      refine am_goX 1 (show am_rc h107 1 7 ∧ 0 ≤ 8 ∧ h107.2.2.2.2 + am_al 18 ≤ 175 ∧ am_call am_cod d 18 [.ref 1] h107 (fun vv h' => pz_S 5 (some .boolean) am_r72 d Q 60 [(3, .int (Int8.ofInt (-8)).toInt32), (0, .ref 4), (1, .ref 25), (2, .int dep)] (vv.toList ++ []) h') from ⟨Or.inl ⟨by decide, ex_1 (c_P y113.1)⟩, by decide, ex_lim (c_P y113.1) rfl, am_call.up (c_step y113.1 (sp_sn e114) (fun h115 m116 f117 => ?_)) (by omega)⟩)
      have l118 : cr h0 17 T sz ((t111.1 + 1), t111.2) h115 := cr_fr (a := t111.1) (C := t111.2) (by decide) y113 m116 (Nat.le_succ _) f117
      refine am_goX 4 (show am_rc h115 4 4 ∧ 0 ≤ 8 ∧ h115.2.2.2.2 + am_al 73 ≤ 175 ∧ am_call am_cod d 73 [.ref 4, .ref 25, .int dep] h115 (fun vv h' => pz_S 5 (some .boolean) am_r72 d Q 66 [(3, .int (Int8.ofInt (-8)).toInt32), (0, .ref 4), (1, .ref 25), (2, .int dep)] (vv.toList ++ []) h') from ⟨Or.inl ⟨by decide, ex_4 (c_P l118.1)⟩, by decide, ex_lim (c_P l118.1) rfl, ks _ _ _ l118 (fun v119 h120 x121 => ?_)⟩)
      rcases cres_cs x121 with ⟨F123, e125, rfl, y126⟩ | ⟨t124, e125, rfl, y126⟩
      ·
        refine am_goX 4 (show 4 < 5 ∧ am_rc h120 25 3 ∧ 0 ≤ 8 ∧ h120.2.2.2.2 + am_al 77 ≤ 175 ∧ am_call am_cod d 77 [.ref 25, .int (Int8.ofInt (-8)).toInt32] h120 (fun vv h' => pz_S 5 (some .boolean) am_r72 d Q 73 [(4, .int 0), (3, .int (Int8.ofInt (-8)).toInt32), (0, .ref 4), (1, .ref 25), (2, .int dep)] (vv.toList ++ []) h') from ⟨by decide, Or.inl ⟨by decide, ex_25 y126.1⟩, by decide, ex_lim y126.1 rfl, am_call.up (c_addx_17 y126 (fun h127 y128 => ?_)) (by omega)⟩)
        exact am_goX 2 (show (∃ ty, (some .boolean) = some ty ∧ narrow ty (.int (0)) = .int (0)) ∧ h127.2.2.2.2 = 175 ∧ _ from ⟨⟨.boolean, rfl, rfl⟩, ex_175 y128.1, hQ _ _ (cres_inl (F := F123) (by simp only [sp_te, sp_b, sp_f, cond_true, cond_false, e112, e114, e125]) rfl y128)⟩)
      ·
        refine am_goX 4 (show 4 < 5 ∧ am_rc h120 25 3 ∧ 0 ≤ 8 ∧ h120.2.2.2.2 + am_al 77 ≤ 175 ∧ am_call am_cod d 77 [.ref 25, .int (Int8.ofInt (-8)).toInt32] h120 (fun vv h' => pz_S 5 (some .boolean) am_r72 d Q 73 [(4, .int 1), (3, .int (Int8.ofInt (-8)).toInt32), (0, .ref 4), (1, .ref 25), (2, .int dep)] (vv.toList ++ []) h') from ⟨by decide, Or.inl ⟨by decide, ex_25 (c_P y126.1)⟩, by decide, ex_lim (c_P y126.1) rfl, am_call.up (c_add_17 (a := t124.1) (C := t124.2) y126 (by
            have h7 := hok _ _ e125
            have h6 := hok _ _ e112
            have h8 := l.2.2.2
            unfold sp_le at h6 h7
            dsimp only at h6 h7
            omega) (fun h129 l130 => ?_)) (by omega)⟩)
        exact am_goX 2 (show (∃ ty, (some .boolean) = some ty ∧ narrow ty (.int (1)) = .int (1)) ∧ h129.2.2.2.2 = 175 ∧ _ from ⟨⟨.boolean, rfl, rfl⟩, ex_175 (c_P l130.1), hQ _ _ (cres_inr (s' := (t124.1, sp_em t124.2 ((Int8.ofInt (-8)).toInt32))) (by simp only [sp_te, sp_b, sp_f, cond_true, cond_false, e112, e114, e125]) rfl l130)⟩)
    | false =>
      refine am_goX 1 (show ((pz_b (false)) = 0 → pz_S 5 (some .boolean) am_r72 d Q 28 [(0, .ref 4), (1, .ref 25), (2, .int dep)] [] h107) ∧ (¬ ((pz_b (false)) = 0) → pz_S 5 (some .boolean) am_r72 d Q 23 [(0, .ref 4), (1, .ref 25), (2, .int dep)] [] h107) from ⟨fun _ => ?_, fun hz => absurd (by decide) hz⟩)
      refine am_goX 2 (show am_sh h107 4 = some (4, 0) ∧ pz_S 5 (some .boolean) am_r72 d Q 32 [(0, .ref 4), (1, .ref 25), (2, .int dep)] [am_rf (h107.2.2.1 4 0)] h107 from ⟨ex_4 (c_P y113.1), ?_⟩)
      rw [ex_r4_0 (c_P y113.1)]
      refine am_goX 2 (show am_rc h107 1 7 ∧ 0 ≤ 8 ∧ h107.2.2.2.2 + am_al 62 ≤ 175 ∧ am_call am_cod d 62 [.ref 1, .int (Int8.ofInt 61).toInt32] h107 (fun vv h' => pz_S 5 (some .boolean) am_r72 d Q 37 [(0, .ref 4), (1, .ref 25), (2, .int dep)] (vv.toList ++ []) h') from ⟨Or.inl ⟨by decide, ex_1 (c_P y113.1)⟩, by decide, ex_lim (c_P y113.1) rfl, am_call.up (c_iss y113.1 ?_) (by omega)⟩)
      cases e131 : sp_s (tt T sz) t111.1 (Int8.ofInt 61).toInt32 with
      | true =>
        refine am_goX 1 (show ((pz_b (true)) = 0 → pz_S 5 (some .boolean) am_r72 d Q 45 [(0, .ref 4), (1, .ref 25), (2, .int dep)] [] h107) ∧ (¬ ((pz_b (true)) = 0) → pz_S 5 (some .boolean) am_r72 d Q 40 [(0, .ref 4), (1, .ref 25), (2, .int dep)] [] h107) from ⟨fun hz => absurd hz (by decide), fun _ => ?_⟩)
        refine am_goX 5 (show 3 < 5 ∧ (¬ (Int8.ofInt (-9)).toInt32 = 0 → pz_S 5 (some .boolean) am_r72 d Q 53 [(3, .int (Int8.ofInt (-9)).toInt32), (0, .ref 4), (1, .ref 25), (2, .int dep)] [] h107) ∧ (¬ ¬ (Int8.ofInt (-9)).toInt32 = 0 → pz_S 5 (some .boolean) am_r72 d Q 51 [(3, .int (Int8.ofInt (-9)).toInt32), (0, .ref 4), (1, .ref 25), (2, .int dep)] [] h107) from ⟨by decide, fun _ => ?_, fun hz => absurd (by decide) hz⟩)
        refine am_goX 2 (show am_sh h107 4 = some (4, 0) ∧ pz_S 5 (some .boolean) am_r72 d Q 57 [(3, .int (Int8.ofInt (-9)).toInt32), (0, .ref 4), (1, .ref 25), (2, .int dep)] [am_rf (h107.2.2.1 4 0)] h107 from ⟨ex_4 (c_P y113.1), ?_⟩)
        rw [ex_r4_0 (c_P y113.1)]
        refine am_goX 1 (show am_rc h107 1 7 ∧ 0 ≤ 8 ∧ h107.2.2.2.2 + am_al 18 ≤ 175 ∧ am_call am_cod d 18 [.ref 1] h107 (fun vv h' => pz_S 5 (some .boolean) am_r72 d Q 60 [(3, .int (Int8.ofInt (-9)).toInt32), (0, .ref 4), (1, .ref 25), (2, .int dep)] (vv.toList ++ []) h') from ⟨Or.inl ⟨by decide, ex_1 (c_P y113.1)⟩, by decide, ex_lim (c_P y113.1) rfl, am_call.up (c_step y113.1 (sp_sn e131) (fun h132 m133 f134 => ?_)) (by omega)⟩)
        have l135 : cr h0 17 T sz ((t111.1 + 1), t111.2) h132 := cr_fr (a := t111.1) (C := t111.2) (by decide) y113 m133 (Nat.le_succ _) f134
        refine am_goX 4 (show am_rc h132 4 4 ∧ 0 ≤ 8 ∧ h132.2.2.2.2 + am_al 73 ≤ 175 ∧ am_call am_cod d 73 [.ref 4, .ref 25, .int dep] h132 (fun vv h' => pz_S 5 (some .boolean) am_r72 d Q 66 [(3, .int (Int8.ofInt (-9)).toInt32), (0, .ref 4), (1, .ref 25), (2, .int dep)] (vv.toList ++ []) h') from ⟨Or.inl ⟨by decide, ex_4 (c_P l135.1)⟩, by decide, ex_lim (c_P l135.1) rfl, ks _ _ _ l135 (fun v136 h137 x138 => ?_)⟩)
        rcases cres_cs x138 with ⟨F140, e142, rfl, y143⟩ | ⟨t141, e142, rfl, y143⟩
        ·
          refine am_goX 4 (show 4 < 5 ∧ am_rc h137 25 3 ∧ 0 ≤ 8 ∧ h137.2.2.2.2 + am_al 77 ≤ 175 ∧ am_call am_cod d 77 [.ref 25, .int (Int8.ofInt (-9)).toInt32] h137 (fun vv h' => pz_S 5 (some .boolean) am_r72 d Q 73 [(4, .int 0), (3, .int (Int8.ofInt (-9)).toInt32), (0, .ref 4), (1, .ref 25), (2, .int dep)] (vv.toList ++ []) h') from ⟨by decide, Or.inl ⟨by decide, ex_25 y143.1⟩, by decide, ex_lim y143.1 rfl, am_call.up (c_addx_17 y143 (fun h144 y145 => ?_)) (by omega)⟩)
          exact am_goX 2 (show (∃ ty, (some .boolean) = some ty ∧ narrow ty (.int (0)) = .int (0)) ∧ h144.2.2.2.2 = 175 ∧ _ from ⟨⟨.boolean, rfl, rfl⟩, ex_175 y145.1, hQ _ _ (cres_inl (F := F140) (by simp only [sp_te, sp_b, sp_f, cond_true, cond_false, e112, e114, e131, e142]) rfl y145)⟩)
        ·
          refine am_goX 4 (show 4 < 5 ∧ am_rc h137 25 3 ∧ 0 ≤ 8 ∧ h137.2.2.2.2 + am_al 77 ≤ 175 ∧ am_call am_cod d 77 [.ref 25, .int (Int8.ofInt (-9)).toInt32] h137 (fun vv h' => pz_S 5 (some .boolean) am_r72 d Q 73 [(4, .int 1), (3, .int (Int8.ofInt (-9)).toInt32), (0, .ref 4), (1, .ref 25), (2, .int dep)] (vv.toList ++ []) h') from ⟨by decide, Or.inl ⟨by decide, ex_25 (c_P y143.1)⟩, by decide, ex_lim (c_P y143.1) rfl, am_call.up (c_add_17 (a := t141.1) (C := t141.2) y143 (by
              have h7 := hok _ _ e142
              have h6 := hok _ _ e112
              have h8 := l.2.2.2
              unfold sp_le at h6 h7
              dsimp only at h6 h7
              omega) (fun h146 l147 => ?_)) (by omega)⟩)
          exact am_goX 2 (show (∃ ty, (some .boolean) = some ty ∧ narrow ty (.int (1)) = .int (1)) ∧ h146.2.2.2.2 = 175 ∧ _ from ⟨⟨.boolean, rfl, rfl⟩, ex_175 (c_P l147.1), hQ _ _ (cres_inr (s' := (t141.1, sp_em t141.2 ((Int8.ofInt (-9)).toInt32))) (by simp only [sp_te, sp_b, sp_f, cond_true, cond_false, e112, e114, e131, e142]) rfl l147)⟩)
      | false =>
        refine am_goX 1 (show ((pz_b (false)) = 0 → pz_S 5 (some .boolean) am_r72 d Q 45 [(0, .ref 4), (1, .ref 25), (2, .int dep)] [] h107) ∧ (¬ ((pz_b (false)) = 0) → pz_S 5 (some .boolean) am_r72 d Q 40 [(0, .ref 4), (1, .ref 25), (2, .int dep)] [] h107) from ⟨fun _ => ?_, fun hz => absurd (by decide) hz⟩)
        refine am_goX 4 (show 3 < 5 ∧ (¬ (Int32.ofInt 0) = 0 → pz_S 5 (some .boolean) am_r72 d Q 53 [(3, .int (Int32.ofInt 0)), (0, .ref 4), (1, .ref 25), (2, .int dep)] [] h107) ∧ (¬ ¬ (Int32.ofInt 0) = 0 → pz_S 5 (some .boolean) am_r72 d Q 51 [(3, .int (Int32.ofInt 0)), (0, .ref 4), (1, .ref 25), (2, .int dep)] [] h107) from ⟨by decide, fun hz => absurd hz (by decide), fun _ => ?_⟩)
        exact am_goX 2 (show (∃ ty, (some .boolean) = some ty ∧ narrow ty (.int ((Int32.ofInt 1))) = .int ((Int32.ofInt 1))) ∧ h107.2.2.2.2 = 175 ∧ _ from ⟨⟨.boolean, rfl, rfl⟩, ex_175 (c_P y113.1), hQ _ _ (cres_inr (s' := t111) (by simp only [sp_te, sp_b, sp_f, cond_true, cond_false, e112, e114, e131]) rfl y113)⟩)
theorem c_71l_17 (hd : 6 ≤ d) (ks : lw_c h0 17 T sz d 72 dep (sp_te (tt T sz) p)) (hok : sp_ok (sp_te (tt T sz) p)) : ∀ (m i : Nat) (s : sp_S) (h : am_H) (Q : am_Q) (y5 : Int32), sz < s.1 + m → i + 1 ≤ s.1 → cr h0 17 T sz s h → (∀ v h1, cres h0 17 T sz (sp_wL (tt T sz) p m s) v h1 → Q v h1) → pz_S 6 (some .boolean) am_r71 d Q 10 [(4, .int (nI i)), (3, .int 1), (5, .int y5), (0, .ref 4), (1, .ref 25), (2, .int dep)] [] h := by
  intro m
  induction m with
  | zero =>
    intro i s h Q y5 hm hi l hQ
    have := (cr_a l).1
    omega
  | succ m ih =>
    intro i s h Q y5 hm hi l hQ
    have ha := cr_a l
    refine am_goX 2 (show (1 = 0 → pz_S 6 (some .boolean) am_r71 d Q 92 [(4, .int (nI i)), (3, .int 1), (5, .int y5), (0, .ref 4), (1, .ref 25), (2, .int dep)] [] h) ∧ (¬ (1 = 0) → pz_S 6 (some .boolean) am_r71 d Q 14 [(4, .int (nI i)), (3, .int 1), (5, .int y5), (0, .ref 4), (1, .ref 25), (2, .int dep)] [] h) from ⟨fun hz => absurd hz (by decide), fun _ => ?_⟩)
    refine am_goX 3 (show ((Int16.ofInt 1000).toInt32 ≤ (nI i) → pz_S 6 (some .boolean) am_r71 d Q 92 [(4, .int (nI i)), (3, .int 1), (5, .int y5), (0, .ref 4), (1, .ref 25), (2, .int dep)] [] h) ∧ (¬ ((Int16.ofInt 1000).toInt32 ≤ (nI i)) → pz_S 6 (some .boolean) am_r71 d Q 22 [(4, .int (nI i)), (3, .int 1), (5, .int y5), (0, .ref 4), (1, .ref 25), (2, .int dep)] [] h) from ⟨fun hz => absurd hz (i1000 (by omega)), fun _ => ?_⟩)
    refine am_goX 2 (show am_sh h 4 = some (4, 0) ∧ pz_S 6 (some .boolean) am_r71 d Q 26 [(4, .int (nI i)), (3, .int 1), (5, .int y5), (0, .ref 4), (1, .ref 25), (2, .int dep)] [am_rf (h.2.2.1 4 0)] h from ⟨ex_4 (c_P l.1), ?_⟩)
    rw [ex_r4_0 (c_P l.1)]
    refine am_goX 2 (show am_rc h 1 7 ∧ 0 ≤ 8 ∧ h.2.2.2.2 + am_al 44 ≤ 175 ∧ am_call am_cod d 44 [.ref 1, .ref (4000000 + 19)] h (fun vv h' => pz_S 6 (some .boolean) am_r71 d Q 31 [(4, .int (nI i)), (3, .int 1), (5, .int y5), (0, .ref 4), (1, .ref 25), (2, .int dep)] (vv.toList ++ []) h') from ⟨Or.inl ⟨by decide, ex_1 (c_P l.1)⟩, by decide, ex_lim (c_P l.1) rfl, am_call.up (c_isw (by decide) wq_19 l.1 ?_) (by omega)⟩)
    cases e148 : sp_w (tt T sz) s.1 1891 with
    | true =>
      refine am_goX 1 (show ((pz_b (true)) = 0 → pz_S 6 (some .boolean) am_r71 d Q 39 [(4, .int (nI i)), (3, .int 1), (5, .int y5), (0, .ref 4), (1, .ref 25), (2, .int dep)] [] h) ∧ (¬ ((pz_b (true)) = 0) → pz_S 6 (some .boolean) am_r71 d Q 34 [(4, .int (nI i)), (3, .int 1), (5, .int y5), (0, .ref 4), (1, .ref 25), (2, .int dep)] [] h) from ⟨fun hz => absurd hz (by decide), fun _ => ?_⟩)
      refine am_goX 5 (show 5 < 6 ∧ (¬ (Int8.ofInt (-6)).toInt32 = 0 → pz_S 6 (some .boolean) am_r71 d Q 66 [(5, .int (Int8.ofInt (-6)).toInt32), (4, .int (nI i)), (3, .int 1), (0, .ref 4), (1, .ref 25), (2, .int dep)] [] h) ∧ (¬ ¬ (Int8.ofInt (-6)).toInt32 = 0 → pz_S 6 (some .boolean) am_r71 d Q 64 [(5, .int (Int8.ofInt (-6)).toInt32), (4, .int (nI i)), (3, .int 1), (0, .ref 4), (1, .ref 25), (2, .int dep)] [] h) from ⟨by decide, fun _ => ?_, fun hz => absurd (by decide) hz⟩)
      refine am_goX 2 (show am_sh h 4 = some (4, 0) ∧ pz_S 6 (some .boolean) am_r71 d Q 70 [(5, .int (Int8.ofInt (-6)).toInt32), (4, .int (nI i)), (3, .int 1), (0, .ref 4), (1, .ref 25), (2, .int dep)] [am_rf (h.2.2.1 4 0)] h from ⟨ex_4 (c_P l.1), ?_⟩)
      rw [ex_r4_0 (c_P l.1)]
      refine am_goX 1 (show am_rc h 1 7 ∧ 0 ≤ 8 ∧ h.2.2.2.2 + am_al 18 ≤ 175 ∧ am_call am_cod d 18 [.ref 1] h (fun vv h' => pz_S 6 (some .boolean) am_r71 d Q 73 [(5, .int (Int8.ofInt (-6)).toInt32), (4, .int (nI i)), (3, .int 1), (0, .ref 4), (1, .ref 25), (2, .int dep)] (vv.toList ++ []) h') from ⟨Or.inl ⟨by decide, ex_1 (c_P l.1)⟩, by decide, ex_lim (c_P l.1) rfl, am_call.up (c_step l.1 (sp_wn e148) (fun h149 m150 f151 => ?_)) (by omega)⟩)
      have l152 : cr h0 17 T sz ((s.1 + 1), s.2) h149 := cr_fr (a := s.1) (C := s.2) (by decide) l m150 (Nat.le_succ _) f151
      refine am_goX 4 (show am_rc h149 4 4 ∧ 0 ≤ 8 ∧ h149.2.2.2.2 + am_al 72 ≤ 175 ∧ am_call am_cod d 72 [.ref 4, .ref 25, .int dep] h149 (fun vv h' => pz_S 6 (some .boolean) am_r71 d Q 79 [(5, .int (Int8.ofInt (-6)).toInt32), (4, .int (nI i)), (3, .int 1), (0, .ref 4), (1, .ref 25), (2, .int dep)] (vv.toList ++ []) h') from ⟨Or.inl ⟨by decide, ex_4 (c_P l152.1)⟩, by decide, ex_lim (c_P l152.1) rfl, ks _ _ _ l152 (fun v153 h154 x155 => ?_)⟩)
      rcases cres_cs x155 with ⟨F157, e159, rfl, y160⟩ | ⟨t158, e159, rfl, y160⟩
      ·
        refine am_goX 4 (show 3 < 6 ∧ am_rc h154 25 3 ∧ 0 ≤ 8 ∧ h154.2.2.2.2 + am_al 77 ≤ 175 ∧ am_call am_cod d 77 [.ref 25, .int (Int8.ofInt (-6)).toInt32] h154 (fun vv h' => pz_S 6 (some .boolean) am_r71 d Q 86 [(3, .int 0), (5, .int (Int8.ofInt (-6)).toInt32), (4, .int (nI i)), (0, .ref 4), (1, .ref 25), (2, .int dep)] (vv.toList ++ []) h') from ⟨by decide, Or.inl ⟨by decide, ex_25 y160.1⟩, by decide, ex_lim y160.1 rfl, am_call.up (c_addx_17 y160 (fun h161 y162 => ?_)) (by omega)⟩)
        refine am_goX 4 (show 4 < 6 ∧ (0 = 0 → pz_S 6 (some .boolean) am_r71 d Q 92 [(4, .int ((nI i) + Int32.ofInt 1)), (3, .int 0), (5, .int (Int8.ofInt (-6)).toInt32), (0, .ref 4), (1, .ref 25), (2, .int dep)] [] h161) ∧ (¬ (0 = 0) → pz_S 6 (some .boolean) am_r71 d Q 14 [(4, .int ((nI i) + Int32.ofInt 1)), (3, .int 0), (5, .int (Int8.ofInt (-6)).toInt32), (0, .ref 4), (1, .ref 25), (2, .int dep)] [] h161) from ⟨by decide, fun _ => ?_, fun hz => absurd (by decide) hz⟩)
        exact am_goX 2 (show (∃ ty, (some .boolean) = some ty ∧ narrow ty (.int (0)) = .int (0)) ∧ h161.2.2.2.2 = 175 ∧ _ from ⟨⟨.boolean, rfl, rfl⟩, ex_175 y162.1, hQ _ _ (cres_inl (F := F157) (by simp only [sp_wL, sp_b, sp_f, cond_true, cond_false, e148, e159]) rfl y162)⟩)
      ·
        refine am_goX 4 (show 3 < 6 ∧ am_rc h154 25 3 ∧ 0 ≤ 8 ∧ h154.2.2.2.2 + am_al 77 ≤ 175 ∧ am_call am_cod d 77 [.ref 25, .int (Int8.ofInt (-6)).toInt32] h154 (fun vv h' => pz_S 6 (some .boolean) am_r71 d Q 86 [(3, .int 1), (5, .int (Int8.ofInt (-6)).toInt32), (4, .int (nI i)), (0, .ref 4), (1, .ref 25), (2, .int dep)] (vv.toList ++ []) h') from ⟨by decide, Or.inl ⟨by decide, ex_25 (c_P y160.1)⟩, by decide, ex_lim (c_P y160.1) rfl, am_call.up (c_add_17 (a := t158.1) (C := t158.2) y160 (by
            have h7 := hok _ _ e159
            have h8 := l.2.2.2
            unfold sp_le at h7
            dsimp only at h7
            omega) (fun h163 l164 => ?_)) (by omega)⟩)
        refine am_goX 2 (show 4 < 6 ∧ pz_S 6 (some .boolean) am_r71 d Q 10 [(4, .int ((nI i) + Int32.ofInt 1)), (3, .int 1), (5, .int (Int8.ofInt (-6)).toInt32), (0, .ref 4), (1, .ref 25), (2, .int dep)] [] h163 from ⟨by decide, ?_⟩)
        rw [xw_i1]
        have hx : sp_wL (tt T sz) p (m + 1) s = sp_wL (tt T sz) p m (t158.1, sp_em t158.2 ((Int8.ofInt (-6)).toInt32)) := by simp only [sp_wL, sp_b, cond_true, cond_false, e148, e159]
        have h7 := hok _ _ e159
        unfold sp_le at h7
        dsimp only at h7
        exact ih (i + 1) (t158.1, sp_em t158.2 ((Int8.ofInt (-6)).toInt32)) h163 Q ((Int8.ofInt (-6)).toInt32) (by dsimp only; omega) (by dsimp only; omega) l164 (fun v h1 q => hQ v h1 (by rw [hx]; exact q))
    | false =>
      refine am_goX 1 (show ((pz_b (false)) = 0 → pz_S 6 (some .boolean) am_r71 d Q 39 [(4, .int (nI i)), (3, .int 1), (5, .int y5), (0, .ref 4), (1, .ref 25), (2, .int dep)] [] h) ∧ (¬ ((pz_b (false)) = 0) → pz_S 6 (some .boolean) am_r71 d Q 34 [(4, .int (nI i)), (3, .int 1), (5, .int y5), (0, .ref 4), (1, .ref 25), (2, .int dep)] [] h) from ⟨fun _ => ?_, fun hz => absurd (by decide) hz⟩)
      refine am_goX 2 (show am_sh h 4 = some (4, 0) ∧ pz_S 6 (some .boolean) am_r71 d Q 43 [(4, .int (nI i)), (3, .int 1), (5, .int y5), (0, .ref 4), (1, .ref 25), (2, .int dep)] [am_rf (h.2.2.1 4 0)] h from ⟨ex_4 (c_P l.1), ?_⟩)
      rw [ex_r4_0 (c_P l.1)]
      refine am_goX 2 (show am_rc h 1 7 ∧ 0 ≤ 8 ∧ h.2.2.2.2 + am_al 44 ≤ 175 ∧ am_call am_cod d 44 [.ref 1, .ref (4000000 + 20)] h (fun vv h' => pz_S 6 (some .boolean) am_r71 d Q 48 [(4, .int (nI i)), (3, .int 1), (5, .int y5), (0, .ref 4), (1, .ref 25), (2, .int dep)] (vv.toList ++ []) h') from ⟨Or.inl ⟨by decide, ex_1 (c_P l.1)⟩, by decide, ex_lim (c_P l.1) rfl, am_call.up (c_isw (by decide) wq_20 l.1 ?_) (by omega)⟩)
      cases e165 : sp_w (tt T sz) s.1 573 with
      | true =>
        refine am_goX 1 (show ((pz_b (true)) = 0 → pz_S 6 (some .boolean) am_r71 d Q 56 [(4, .int (nI i)), (3, .int 1), (5, .int y5), (0, .ref 4), (1, .ref 25), (2, .int dep)] [] h) ∧ (¬ ((pz_b (true)) = 0) → pz_S 6 (some .boolean) am_r71 d Q 51 [(4, .int (nI i)), (3, .int 1), (5, .int y5), (0, .ref 4), (1, .ref 25), (2, .int dep)] [] h) from ⟨fun hz => absurd hz (by decide), fun _ => ?_⟩)
        refine am_goX 5 (show 5 < 6 ∧ (¬ (Int8.ofInt (-7)).toInt32 = 0 → pz_S 6 (some .boolean) am_r71 d Q 66 [(5, .int (Int8.ofInt (-7)).toInt32), (4, .int (nI i)), (3, .int 1), (0, .ref 4), (1, .ref 25), (2, .int dep)] [] h) ∧ (¬ ¬ (Int8.ofInt (-7)).toInt32 = 0 → pz_S 6 (some .boolean) am_r71 d Q 64 [(5, .int (Int8.ofInt (-7)).toInt32), (4, .int (nI i)), (3, .int 1), (0, .ref 4), (1, .ref 25), (2, .int dep)] [] h) from ⟨by decide, fun _ => ?_, fun hz => absurd (by decide) hz⟩)
        refine am_goX 2 (show am_sh h 4 = some (4, 0) ∧ pz_S 6 (some .boolean) am_r71 d Q 70 [(5, .int (Int8.ofInt (-7)).toInt32), (4, .int (nI i)), (3, .int 1), (0, .ref 4), (1, .ref 25), (2, .int dep)] [am_rf (h.2.2.1 4 0)] h from ⟨ex_4 (c_P l.1), ?_⟩)
        rw [ex_r4_0 (c_P l.1)]
        refine am_goX 1 (show am_rc h 1 7 ∧ 0 ≤ 8 ∧ h.2.2.2.2 + am_al 18 ≤ 175 ∧ am_call am_cod d 18 [.ref 1] h (fun vv h' => pz_S 6 (some .boolean) am_r71 d Q 73 [(5, .int (Int8.ofInt (-7)).toInt32), (4, .int (nI i)), (3, .int 1), (0, .ref 4), (1, .ref 25), (2, .int dep)] (vv.toList ++ []) h') from ⟨Or.inl ⟨by decide, ex_1 (c_P l.1)⟩, by decide, ex_lim (c_P l.1) rfl, am_call.up (c_step l.1 (sp_wn e165) (fun h166 m167 f168 => ?_)) (by omega)⟩)
        have l169 : cr h0 17 T sz ((s.1 + 1), s.2) h166 := cr_fr (a := s.1) (C := s.2) (by decide) l m167 (Nat.le_succ _) f168
        refine am_goX 4 (show am_rc h166 4 4 ∧ 0 ≤ 8 ∧ h166.2.2.2.2 + am_al 72 ≤ 175 ∧ am_call am_cod d 72 [.ref 4, .ref 25, .int dep] h166 (fun vv h' => pz_S 6 (some .boolean) am_r71 d Q 79 [(5, .int (Int8.ofInt (-7)).toInt32), (4, .int (nI i)), (3, .int 1), (0, .ref 4), (1, .ref 25), (2, .int dep)] (vv.toList ++ []) h') from ⟨Or.inl ⟨by decide, ex_4 (c_P l169.1)⟩, by decide, ex_lim (c_P l169.1) rfl, ks _ _ _ l169 (fun v170 h171 x172 => ?_)⟩)
        rcases cres_cs x172 with ⟨F174, e176, rfl, y177⟩ | ⟨t175, e176, rfl, y177⟩
        ·
          refine am_goX 4 (show 3 < 6 ∧ am_rc h171 25 3 ∧ 0 ≤ 8 ∧ h171.2.2.2.2 + am_al 77 ≤ 175 ∧ am_call am_cod d 77 [.ref 25, .int (Int8.ofInt (-7)).toInt32] h171 (fun vv h' => pz_S 6 (some .boolean) am_r71 d Q 86 [(3, .int 0), (5, .int (Int8.ofInt (-7)).toInt32), (4, .int (nI i)), (0, .ref 4), (1, .ref 25), (2, .int dep)] (vv.toList ++ []) h') from ⟨by decide, Or.inl ⟨by decide, ex_25 y177.1⟩, by decide, ex_lim y177.1 rfl, am_call.up (c_addx_17 y177 (fun h178 y179 => ?_)) (by omega)⟩)
          refine am_goX 4 (show 4 < 6 ∧ (0 = 0 → pz_S 6 (some .boolean) am_r71 d Q 92 [(4, .int ((nI i) + Int32.ofInt 1)), (3, .int 0), (5, .int (Int8.ofInt (-7)).toInt32), (0, .ref 4), (1, .ref 25), (2, .int dep)] [] h178) ∧ (¬ (0 = 0) → pz_S 6 (some .boolean) am_r71 d Q 14 [(4, .int ((nI i) + Int32.ofInt 1)), (3, .int 0), (5, .int (Int8.ofInt (-7)).toInt32), (0, .ref 4), (1, .ref 25), (2, .int dep)] [] h178) from ⟨by decide, fun _ => ?_, fun hz => absurd (by decide) hz⟩)
          exact am_goX 2 (show (∃ ty, (some .boolean) = some ty ∧ narrow ty (.int (0)) = .int (0)) ∧ h178.2.2.2.2 = 175 ∧ _ from ⟨⟨.boolean, rfl, rfl⟩, ex_175 y179.1, hQ _ _ (cres_inl (F := F174) (by simp only [sp_wL, sp_b, sp_f, cond_true, cond_false, e148, e165, e176]) rfl y179)⟩)
        ·
          refine am_goX 4 (show 3 < 6 ∧ am_rc h171 25 3 ∧ 0 ≤ 8 ∧ h171.2.2.2.2 + am_al 77 ≤ 175 ∧ am_call am_cod d 77 [.ref 25, .int (Int8.ofInt (-7)).toInt32] h171 (fun vv h' => pz_S 6 (some .boolean) am_r71 d Q 86 [(3, .int 1), (5, .int (Int8.ofInt (-7)).toInt32), (4, .int (nI i)), (0, .ref 4), (1, .ref 25), (2, .int dep)] (vv.toList ++ []) h') from ⟨by decide, Or.inl ⟨by decide, ex_25 (c_P y177.1)⟩, by decide, ex_lim (c_P y177.1) rfl, am_call.up (c_add_17 (a := t175.1) (C := t175.2) y177 (by
              have h7 := hok _ _ e176
              have h8 := l.2.2.2
              unfold sp_le at h7
              dsimp only at h7
              omega) (fun h180 l181 => ?_)) (by omega)⟩)
          refine am_goX 2 (show 4 < 6 ∧ pz_S 6 (some .boolean) am_r71 d Q 10 [(4, .int ((nI i) + Int32.ofInt 1)), (3, .int 1), (5, .int (Int8.ofInt (-7)).toInt32), (0, .ref 4), (1, .ref 25), (2, .int dep)] [] h180 from ⟨by decide, ?_⟩)
          rw [xw_i1]
          have hx : sp_wL (tt T sz) p (m + 1) s = sp_wL (tt T sz) p m (t175.1, sp_em t175.2 ((Int8.ofInt (-7)).toInt32)) := by simp only [sp_wL, sp_b, cond_true, cond_false, e148, e165, e176]
          have h7 := hok _ _ e176
          unfold sp_le at h7
          dsimp only at h7
          exact ih (i + 1) (t175.1, sp_em t175.2 ((Int8.ofInt (-7)).toInt32)) h180 Q ((Int8.ofInt (-7)).toInt32) (by dsimp only; omega) (by dsimp only; omega) l181 (fun v h1 q => hQ v h1 (by rw [hx]; exact q))
      | false =>
        refine am_goX 1 (show ((pz_b (false)) = 0 → pz_S 6 (some .boolean) am_r71 d Q 56 [(4, .int (nI i)), (3, .int 1), (5, .int y5), (0, .ref 4), (1, .ref 25), (2, .int dep)] [] h) ∧ (¬ ((pz_b (false)) = 0) → pz_S 6 (some .boolean) am_r71 d Q 51 [(4, .int (nI i)), (3, .int 1), (5, .int y5), (0, .ref 4), (1, .ref 25), (2, .int dep)] [] h) from ⟨fun _ => ?_, fun hz => absurd (by decide) hz⟩)
        refine am_goX 4 (show 5 < 6 ∧ (¬ (Int32.ofInt 0) = 0 → pz_S 6 (some .boolean) am_r71 d Q 66 [(5, .int (Int32.ofInt 0)), (4, .int (nI i)), (3, .int 1), (0, .ref 4), (1, .ref 25), (2, .int dep)] [] h) ∧ (¬ ¬ (Int32.ofInt 0) = 0 → pz_S 6 (some .boolean) am_r71 d Q 64 [(5, .int (Int32.ofInt 0)), (4, .int (nI i)), (3, .int 1), (0, .ref 4), (1, .ref 25), (2, .int dep)] [] h) from ⟨by decide, fun hz => absurd hz (by decide), fun _ => ?_⟩)
        exact am_goX 2 (show (∃ ty, (some .boolean) = some ty ∧ narrow ty (.int ((Int32.ofInt 1))) = .int ((Int32.ofInt 1))) ∧ h.2.2.2.2 = 175 ∧ _ from ⟨⟨.boolean, rfl, rfl⟩, ex_175 (c_P l.1), hQ _ _ (cres_inr (s' := s) (by simp only [sp_wL, sp_b, sp_f, cond_true, cond_false, e148, e165]) rfl l)⟩)
theorem c_71_17 (hd : 6 ≤ d) (ks : lw_c h0 17 T sz d 72 dep (sp_te (tt T sz) p)) (hok : sp_ok (sp_te (tt T sz) p)) : lw_c h0 17 T sz (d + 1) 71 dep (sp_wh (tt T sz) p) := by
  intro s h Q l hQ
  have hP := c_P l.1
  have ha := cr_a l
  refine pz_call (n := 71) (nL := 6) (rt := (some .boolean)) (rows := am_r71) (d := d) (by decide +kernel) (by decide +kernel) rfl (by funext pc; rfl) (ex_175 hP) (by exact Nat.le_of_ble_eq_true rfl) ?_
  refine am_goX 4 (show am_rc h 4 4 ∧ 0 ≤ 8 ∧ h.2.2.2.2 + am_al 72 ≤ 175 ∧ am_call am_cod d 72 [.ref 4, .ref 25, .int dep] h (fun vv h' => pz_S 6 (some .boolean) am_r71 d Q 6 [(0, .ref 4), (1, .ref 25), (2, .int dep)] (vv.toList ++ []) h') from ⟨Or.inl ⟨by decide, ex_4 (c_P l.1)⟩, by decide, ex_lim (c_P l.1) rfl, ks _ _ _ l (fun v182 h183 x184 => ?_)⟩)
  rcases cres_cs x184 with ⟨F186, e188, rfl, y189⟩ | ⟨t187, e188, rfl, y189⟩
  ·
    refine am_goX 5 (show 3 < 6 ∧ 4 < 6 ∧ (0 = 0 → pz_S 6 (some .boolean) am_r71 d Q 92 [(4, .int (Int32.ofInt 0)), (3, .int 0), (0, .ref 4), (1, .ref 25), (2, .int dep)] [] h183) ∧ (¬ (0 = 0) → pz_S 6 (some .boolean) am_r71 d Q 14 [(4, .int (Int32.ofInt 0)), (3, .int 0), (0, .ref 4), (1, .ref 25), (2, .int dep)] [] h183) from ⟨by decide, by decide, fun _ => ?_, fun hz => absurd (by decide) hz⟩)
    exact am_goX 2 (show (∃ ty, (some .boolean) = some ty ∧ narrow ty (.int (0)) = .int (0)) ∧ h183.2.2.2.2 = 175 ∧ _ from ⟨⟨.boolean, rfl, rfl⟩, ex_175 y189.1, hQ _ _ (cres_inl (F := F186) (by simp only [sp_wh, sp_b, sp_f, cond_true, cond_false, e188]) rfl y189)⟩)
  ·
    refine am_goX 3 (show 3 < 6 ∧ 4 < 6 ∧ pz_S 6 (some .boolean) am_r71 d Q 10 [(4, .int (Int32.ofInt 0)), (3, .int 1), (0, .ref 4), (1, .ref 25), (2, .int dep)] [] h183 from ⟨by decide, by decide, ?_⟩)
    have h7 := hok _ _ e188
    unfold sp_le at h7
    have ha := cr_a y189
    have h8 := l.2.2.2
    refine am_goX 2 (show (1 = 0 → pz_S 6 (some .boolean) am_r71 d Q 92 [(4, .int (nI 0)), (3, .int 1), (0, .ref 4), (1, .ref 25), (2, .int dep)] [] h183) ∧ (¬ (1 = 0) → pz_S 6 (some .boolean) am_r71 d Q 14 [(4, .int (nI 0)), (3, .int 1), (0, .ref 4), (1, .ref 25), (2, .int dep)] [] h183) from ⟨fun hz => absurd hz (by decide), fun _ => ?_⟩)
    refine am_goX 3 (show ((Int16.ofInt 1000).toInt32 ≤ (nI 0) → pz_S 6 (some .boolean) am_r71 d Q 92 [(4, .int (nI 0)), (3, .int 1), (0, .ref 4), (1, .ref 25), (2, .int dep)] [] h183) ∧ (¬ ((Int16.ofInt 1000).toInt32 ≤ (nI 0)) → pz_S 6 (some .boolean) am_r71 d Q 22 [(4, .int (nI 0)), (3, .int 1), (0, .ref 4), (1, .ref 25), (2, .int dep)] [] h183) from ⟨fun hz => absurd hz (i1000 (by omega)), fun _ => ?_⟩)
    refine am_goX 2 (show am_sh h183 4 = some (4, 0) ∧ pz_S 6 (some .boolean) am_r71 d Q 26 [(4, .int (nI 0)), (3, .int 1), (0, .ref 4), (1, .ref 25), (2, .int dep)] [am_rf (h183.2.2.1 4 0)] h183 from ⟨ex_4 (c_P y189.1), ?_⟩)
    rw [ex_r4_0 (c_P y189.1)]
    refine am_goX 2 (show am_rc h183 1 7 ∧ 0 ≤ 8 ∧ h183.2.2.2.2 + am_al 44 ≤ 175 ∧ am_call am_cod d 44 [.ref 1, .ref (4000000 + 19)] h183 (fun vv h' => pz_S 6 (some .boolean) am_r71 d Q 31 [(4, .int (nI 0)), (3, .int 1), (0, .ref 4), (1, .ref 25), (2, .int dep)] (vv.toList ++ []) h') from ⟨Or.inl ⟨by decide, ex_1 (c_P y189.1)⟩, by decide, ex_lim (c_P y189.1) rfl, am_call.up (c_isw (by decide) wq_19 y189.1 ?_) (by omega)⟩)
    cases e190 : sp_w (tt T sz) t187.1 1891 with
    | true =>
      refine am_goX 1 (show ((pz_b (true)) = 0 → pz_S 6 (some .boolean) am_r71 d Q 39 [(4, .int (nI 0)), (3, .int 1), (0, .ref 4), (1, .ref 25), (2, .int dep)] [] h183) ∧ (¬ ((pz_b (true)) = 0) → pz_S 6 (some .boolean) am_r71 d Q 34 [(4, .int (nI 0)), (3, .int 1), (0, .ref 4), (1, .ref 25), (2, .int dep)] [] h183) from ⟨fun hz => absurd hz (by decide), fun _ => ?_⟩)
      refine am_goX 5 (show 5 < 6 ∧ (¬ (Int8.ofInt (-6)).toInt32 = 0 → pz_S 6 (some .boolean) am_r71 d Q 66 [(5, .int (Int8.ofInt (-6)).toInt32), (4, .int (nI 0)), (3, .int 1), (0, .ref 4), (1, .ref 25), (2, .int dep)] [] h183) ∧ (¬ ¬ (Int8.ofInt (-6)).toInt32 = 0 → pz_S 6 (some .boolean) am_r71 d Q 64 [(5, .int (Int8.ofInt (-6)).toInt32), (4, .int (nI 0)), (3, .int 1), (0, .ref 4), (1, .ref 25), (2, .int dep)] [] h183) from ⟨by decide, fun _ => ?_, fun hz => absurd (by decide) hz⟩)
      refine am_goX 2 (show am_sh h183 4 = some (4, 0) ∧ pz_S 6 (some .boolean) am_r71 d Q 70 [(5, .int (Int8.ofInt (-6)).toInt32), (4, .int (nI 0)), (3, .int 1), (0, .ref 4), (1, .ref 25), (2, .int dep)] [am_rf (h183.2.2.1 4 0)] h183 from ⟨ex_4 (c_P y189.1), ?_⟩)
      rw [ex_r4_0 (c_P y189.1)]
      refine am_goX 1 (show am_rc h183 1 7 ∧ 0 ≤ 8 ∧ h183.2.2.2.2 + am_al 18 ≤ 175 ∧ am_call am_cod d 18 [.ref 1] h183 (fun vv h' => pz_S 6 (some .boolean) am_r71 d Q 73 [(5, .int (Int8.ofInt (-6)).toInt32), (4, .int (nI 0)), (3, .int 1), (0, .ref 4), (1, .ref 25), (2, .int dep)] (vv.toList ++ []) h') from ⟨Or.inl ⟨by decide, ex_1 (c_P y189.1)⟩, by decide, ex_lim (c_P y189.1) rfl, am_call.up (c_step y189.1 (sp_wn e190) (fun h191 m192 f193 => ?_)) (by omega)⟩)
      have l194 : cr h0 17 T sz ((t187.1 + 1), t187.2) h191 := cr_fr (a := t187.1) (C := t187.2) (by decide) y189 m192 (Nat.le_succ _) f193
      refine am_goX 4 (show am_rc h191 4 4 ∧ 0 ≤ 8 ∧ h191.2.2.2.2 + am_al 72 ≤ 175 ∧ am_call am_cod d 72 [.ref 4, .ref 25, .int dep] h191 (fun vv h' => pz_S 6 (some .boolean) am_r71 d Q 79 [(5, .int (Int8.ofInt (-6)).toInt32), (4, .int (nI 0)), (3, .int 1), (0, .ref 4), (1, .ref 25), (2, .int dep)] (vv.toList ++ []) h') from ⟨Or.inl ⟨by decide, ex_4 (c_P l194.1)⟩, by decide, ex_lim (c_P l194.1) rfl, ks _ _ _ l194 (fun v195 h196 x197 => ?_)⟩)
      rcases cres_cs x197 with ⟨F199, e201, rfl, y202⟩ | ⟨t200, e201, rfl, y202⟩
      ·
        refine am_goX 4 (show 3 < 6 ∧ am_rc h196 25 3 ∧ 0 ≤ 8 ∧ h196.2.2.2.2 + am_al 77 ≤ 175 ∧ am_call am_cod d 77 [.ref 25, .int (Int8.ofInt (-6)).toInt32] h196 (fun vv h' => pz_S 6 (some .boolean) am_r71 d Q 86 [(3, .int 0), (5, .int (Int8.ofInt (-6)).toInt32), (4, .int (nI 0)), (0, .ref 4), (1, .ref 25), (2, .int dep)] (vv.toList ++ []) h') from ⟨by decide, Or.inl ⟨by decide, ex_25 y202.1⟩, by decide, ex_lim y202.1 rfl, am_call.up (c_addx_17 y202 (fun h203 y204 => ?_)) (by omega)⟩)
        refine am_goX 4 (show 4 < 6 ∧ (0 = 0 → pz_S 6 (some .boolean) am_r71 d Q 92 [(4, .int ((nI 0) + Int32.ofInt 1)), (3, .int 0), (5, .int (Int8.ofInt (-6)).toInt32), (0, .ref 4), (1, .ref 25), (2, .int dep)] [] h203) ∧ (¬ (0 = 0) → pz_S 6 (some .boolean) am_r71 d Q 14 [(4, .int ((nI 0) + Int32.ofInt 1)), (3, .int 0), (5, .int (Int8.ofInt (-6)).toInt32), (0, .ref 4), (1, .ref 25), (2, .int dep)] [] h203) from ⟨by decide, fun _ => ?_, fun hz => absurd (by decide) hz⟩)
        exact am_goX 2 (show (∃ ty, (some .boolean) = some ty ∧ narrow ty (.int (0)) = .int (0)) ∧ h203.2.2.2.2 = 175 ∧ _ from ⟨⟨.boolean, rfl, rfl⟩, ex_175 y204.1, hQ _ _ (cres_inl (F := F199) (by simp only [sp_wh, sp_wL_1, sp_b, sp_f, cond_true, cond_false, e188, e190, e201]) rfl y204)⟩)
      ·
        refine am_goX 4 (show 3 < 6 ∧ am_rc h196 25 3 ∧ 0 ≤ 8 ∧ h196.2.2.2.2 + am_al 77 ≤ 175 ∧ am_call am_cod d 77 [.ref 25, .int (Int8.ofInt (-6)).toInt32] h196 (fun vv h' => pz_S 6 (some .boolean) am_r71 d Q 86 [(3, .int 1), (5, .int (Int8.ofInt (-6)).toInt32), (4, .int (nI 0)), (0, .ref 4), (1, .ref 25), (2, .int dep)] (vv.toList ++ []) h') from ⟨by decide, Or.inl ⟨by decide, ex_25 (c_P y202.1)⟩, by decide, ex_lim (c_P y202.1) rfl, am_call.up (c_add_17 (a := t200.1) (C := t200.2) y202 (by
            have h7 := hok _ _ e201
            have h8 := y189.2.2.2
            unfold sp_le at h7
            dsimp only at h7
            omega) (fun h205 l206 => ?_)) (by omega)⟩)
        refine am_goX 2 (show 4 < 6 ∧ pz_S 6 (some .boolean) am_r71 d Q 10 [(4, .int ((nI 0) + Int32.ofInt 1)), (3, .int 1), (5, .int (Int8.ofInt (-6)).toInt32), (0, .ref 4), (1, .ref 25), (2, .int dep)] [] h205 from ⟨by decide, ?_⟩)
        rw [xw_i1]
        have hx : sp_wL (tt T sz) p 1001 t187 = sp_wL (tt T sz) p 1000 (t200.1, sp_em t200.2 ((Int8.ofInt (-6)).toInt32)) := by simp only [sp_wL_1, sp_b, cond_true, cond_false, e188, e190, e201]
        have h7 := hok _ _ e201
        unfold sp_le at h7
        dsimp only at h7
        exact c_71l_17 hd ks hok 1000 (0 + 1) (t200.1, sp_em t200.2 ((Int8.ofInt (-6)).toInt32)) h205 Q ((Int8.ofInt (-6)).toInt32) (by dsimp only; omega) (by dsimp only; omega) l206 (fun v h1 q => hQ v h1 (by unfold sp_wh; rw [e188]; show cres _ _ _ _ (sp_wL (tt T sz) p 1001 t187) _ _; rw [hx]; exact q))
    | false =>
      refine am_goX 1 (show ((pz_b (false)) = 0 → pz_S 6 (some .boolean) am_r71 d Q 39 [(4, .int (nI 0)), (3, .int 1), (0, .ref 4), (1, .ref 25), (2, .int dep)] [] h183) ∧ (¬ ((pz_b (false)) = 0) → pz_S 6 (some .boolean) am_r71 d Q 34 [(4, .int (nI 0)), (3, .int 1), (0, .ref 4), (1, .ref 25), (2, .int dep)] [] h183) from ⟨fun _ => ?_, fun hz => absurd (by decide) hz⟩)
      refine am_goX 2 (show am_sh h183 4 = some (4, 0) ∧ pz_S 6 (some .boolean) am_r71 d Q 43 [(4, .int (nI 0)), (3, .int 1), (0, .ref 4), (1, .ref 25), (2, .int dep)] [am_rf (h183.2.2.1 4 0)] h183 from ⟨ex_4 (c_P y189.1), ?_⟩)
      rw [ex_r4_0 (c_P y189.1)]
      refine am_goX 2 (show am_rc h183 1 7 ∧ 0 ≤ 8 ∧ h183.2.2.2.2 + am_al 44 ≤ 175 ∧ am_call am_cod d 44 [.ref 1, .ref (4000000 + 20)] h183 (fun vv h' => pz_S 6 (some .boolean) am_r71 d Q 48 [(4, .int (nI 0)), (3, .int 1), (0, .ref 4), (1, .ref 25), (2, .int dep)] (vv.toList ++ []) h') from ⟨Or.inl ⟨by decide, ex_1 (c_P y189.1)⟩, by decide, ex_lim (c_P y189.1) rfl, am_call.up (c_isw (by decide) wq_20 y189.1 ?_) (by omega)⟩)
      cases e207 : sp_w (tt T sz) t187.1 573 with
      | true =>
        refine am_goX 1 (show ((pz_b (true)) = 0 → pz_S 6 (some .boolean) am_r71 d Q 56 [(4, .int (nI 0)), (3, .int 1), (0, .ref 4), (1, .ref 25), (2, .int dep)] [] h183) ∧ (¬ ((pz_b (true)) = 0) → pz_S 6 (some .boolean) am_r71 d Q 51 [(4, .int (nI 0)), (3, .int 1), (0, .ref 4), (1, .ref 25), (2, .int dep)] [] h183) from ⟨fun hz => absurd hz (by decide), fun _ => ?_⟩)
        refine am_goX 5 (show 5 < 6 ∧ (¬ (Int8.ofInt (-7)).toInt32 = 0 → pz_S 6 (some .boolean) am_r71 d Q 66 [(5, .int (Int8.ofInt (-7)).toInt32), (4, .int (nI 0)), (3, .int 1), (0, .ref 4), (1, .ref 25), (2, .int dep)] [] h183) ∧ (¬ ¬ (Int8.ofInt (-7)).toInt32 = 0 → pz_S 6 (some .boolean) am_r71 d Q 64 [(5, .int (Int8.ofInt (-7)).toInt32), (4, .int (nI 0)), (3, .int 1), (0, .ref 4), (1, .ref 25), (2, .int dep)] [] h183) from ⟨by decide, fun _ => ?_, fun hz => absurd (by decide) hz⟩)
        refine am_goX 2 (show am_sh h183 4 = some (4, 0) ∧ pz_S 6 (some .boolean) am_r71 d Q 70 [(5, .int (Int8.ofInt (-7)).toInt32), (4, .int (nI 0)), (3, .int 1), (0, .ref 4), (1, .ref 25), (2, .int dep)] [am_rf (h183.2.2.1 4 0)] h183 from ⟨ex_4 (c_P y189.1), ?_⟩)
        rw [ex_r4_0 (c_P y189.1)]
        refine am_goX 1 (show am_rc h183 1 7 ∧ 0 ≤ 8 ∧ h183.2.2.2.2 + am_al 18 ≤ 175 ∧ am_call am_cod d 18 [.ref 1] h183 (fun vv h' => pz_S 6 (some .boolean) am_r71 d Q 73 [(5, .int (Int8.ofInt (-7)).toInt32), (4, .int (nI 0)), (3, .int 1), (0, .ref 4), (1, .ref 25), (2, .int dep)] (vv.toList ++ []) h') from ⟨Or.inl ⟨by decide, ex_1 (c_P y189.1)⟩, by decide, ex_lim (c_P y189.1) rfl, am_call.up (c_step y189.1 (sp_wn e207) (fun h208 m209 f210 => ?_)) (by omega)⟩)
        have l211 : cr h0 17 T sz ((t187.1 + 1), t187.2) h208 := cr_fr (a := t187.1) (C := t187.2) (by decide) y189 m209 (Nat.le_succ _) f210
        refine am_goX 4 (show am_rc h208 4 4 ∧ 0 ≤ 8 ∧ h208.2.2.2.2 + am_al 72 ≤ 175 ∧ am_call am_cod d 72 [.ref 4, .ref 25, .int dep] h208 (fun vv h' => pz_S 6 (some .boolean) am_r71 d Q 79 [(5, .int (Int8.ofInt (-7)).toInt32), (4, .int (nI 0)), (3, .int 1), (0, .ref 4), (1, .ref 25), (2, .int dep)] (vv.toList ++ []) h') from ⟨Or.inl ⟨by decide, ex_4 (c_P l211.1)⟩, by decide, ex_lim (c_P l211.1) rfl, ks _ _ _ l211 (fun v212 h213 x214 => ?_)⟩)
        rcases cres_cs x214 with ⟨F216, e218, rfl, y219⟩ | ⟨t217, e218, rfl, y219⟩
        ·
          refine am_goX 4 (show 3 < 6 ∧ am_rc h213 25 3 ∧ 0 ≤ 8 ∧ h213.2.2.2.2 + am_al 77 ≤ 175 ∧ am_call am_cod d 77 [.ref 25, .int (Int8.ofInt (-7)).toInt32] h213 (fun vv h' => pz_S 6 (some .boolean) am_r71 d Q 86 [(3, .int 0), (5, .int (Int8.ofInt (-7)).toInt32), (4, .int (nI 0)), (0, .ref 4), (1, .ref 25), (2, .int dep)] (vv.toList ++ []) h') from ⟨by decide, Or.inl ⟨by decide, ex_25 y219.1⟩, by decide, ex_lim y219.1 rfl, am_call.up (c_addx_17 y219 (fun h220 y221 => ?_)) (by omega)⟩)
          refine am_goX 4 (show 4 < 6 ∧ (0 = 0 → pz_S 6 (some .boolean) am_r71 d Q 92 [(4, .int ((nI 0) + Int32.ofInt 1)), (3, .int 0), (5, .int (Int8.ofInt (-7)).toInt32), (0, .ref 4), (1, .ref 25), (2, .int dep)] [] h220) ∧ (¬ (0 = 0) → pz_S 6 (some .boolean) am_r71 d Q 14 [(4, .int ((nI 0) + Int32.ofInt 1)), (3, .int 0), (5, .int (Int8.ofInt (-7)).toInt32), (0, .ref 4), (1, .ref 25), (2, .int dep)] [] h220) from ⟨by decide, fun _ => ?_, fun hz => absurd (by decide) hz⟩)
          exact am_goX 2 (show (∃ ty, (some .boolean) = some ty ∧ narrow ty (.int (0)) = .int (0)) ∧ h220.2.2.2.2 = 175 ∧ _ from ⟨⟨.boolean, rfl, rfl⟩, ex_175 y221.1, hQ _ _ (cres_inl (F := F216) (by simp only [sp_wh, sp_wL_1, sp_b, sp_f, cond_true, cond_false, e188, e190, e207, e218]) rfl y221)⟩)
        ·
          refine am_goX 4 (show 3 < 6 ∧ am_rc h213 25 3 ∧ 0 ≤ 8 ∧ h213.2.2.2.2 + am_al 77 ≤ 175 ∧ am_call am_cod d 77 [.ref 25, .int (Int8.ofInt (-7)).toInt32] h213 (fun vv h' => pz_S 6 (some .boolean) am_r71 d Q 86 [(3, .int 1), (5, .int (Int8.ofInt (-7)).toInt32), (4, .int (nI 0)), (0, .ref 4), (1, .ref 25), (2, .int dep)] (vv.toList ++ []) h') from ⟨by decide, Or.inl ⟨by decide, ex_25 (c_P y219.1)⟩, by decide, ex_lim (c_P y219.1) rfl, am_call.up (c_add_17 (a := t217.1) (C := t217.2) y219 (by
              have h7 := hok _ _ e218
              have h8 := y189.2.2.2
              unfold sp_le at h7
              dsimp only at h7
              omega) (fun h222 l223 => ?_)) (by omega)⟩)
          refine am_goX 2 (show 4 < 6 ∧ pz_S 6 (some .boolean) am_r71 d Q 10 [(4, .int ((nI 0) + Int32.ofInt 1)), (3, .int 1), (5, .int (Int8.ofInt (-7)).toInt32), (0, .ref 4), (1, .ref 25), (2, .int dep)] [] h222 from ⟨by decide, ?_⟩)
          rw [xw_i1]
          have hx : sp_wL (tt T sz) p 1001 t187 = sp_wL (tt T sz) p 1000 (t217.1, sp_em t217.2 ((Int8.ofInt (-7)).toInt32)) := by simp only [sp_wL_1, sp_b, cond_true, cond_false, e188, e190, e207, e218]
          have h7 := hok _ _ e218
          unfold sp_le at h7
          dsimp only at h7
          exact c_71l_17 hd ks hok 1000 (0 + 1) (t217.1, sp_em t217.2 ((Int8.ofInt (-7)).toInt32)) h222 Q ((Int8.ofInt (-7)).toInt32) (by dsimp only; omega) (by dsimp only; omega) l223 (fun v h1 q => hQ v h1 (by unfold sp_wh; rw [e188]; show cres _ _ _ _ (sp_wL (tt T sz) p 1001 t187) _ _; rw [hx]; exact q))
      | false =>
        refine am_goX 1 (show ((pz_b (false)) = 0 → pz_S 6 (some .boolean) am_r71 d Q 56 [(4, .int (nI 0)), (3, .int 1), (0, .ref 4), (1, .ref 25), (2, .int dep)] [] h183) ∧ (¬ ((pz_b (false)) = 0) → pz_S 6 (some .boolean) am_r71 d Q 51 [(4, .int (nI 0)), (3, .int 1), (0, .ref 4), (1, .ref 25), (2, .int dep)] [] h183) from ⟨fun _ => ?_, fun hz => absurd (by decide) hz⟩)
        refine am_goX 4 (show 5 < 6 ∧ (¬ (Int32.ofInt 0) = 0 → pz_S 6 (some .boolean) am_r71 d Q 66 [(5, .int (Int32.ofInt 0)), (4, .int (nI 0)), (3, .int 1), (0, .ref 4), (1, .ref 25), (2, .int dep)] [] h183) ∧ (¬ ¬ (Int32.ofInt 0) = 0 → pz_S 6 (some .boolean) am_r71 d Q 64 [(5, .int (Int32.ofInt 0)), (4, .int (nI 0)), (3, .int 1), (0, .ref 4), (1, .ref 25), (2, .int dep)] [] h183) from ⟨by decide, fun hz => absurd hz (by decide), fun _ => ?_⟩)
        exact am_goX 2 (show (∃ ty, (some .boolean) = some ty ∧ narrow ty (.int ((Int32.ofInt 1))) = .int ((Int32.ofInt 1))) ∧ h183.2.2.2.2 = 175 ∧ _ from ⟨⟨.boolean, rfl, rfl⟩, ex_175 (c_P y189.1), hQ _ _ (cres_inr (s' := t187) (by simp only [sp_wh, sp_wL_1, sp_b, sp_f, cond_true, cond_false, e188, e190, e207]) rfl y189)⟩)
theorem c_addn_17 {x : Int32} (l : cr h0 17 T sz s h) (hlt : s.2.2.2.2.2.1 < 1000) (hQ : ∀ h1, cr1 h0 17 T sz s.1 (sp_em s.2 x) h1 → Q none h1) : am_call am_cod 1 77 [.ref 25, .int x] h Q := by
  have hP := c_P l.1
  have e2 : h.1 25 2 = nI s.2.2.2.2.2.1 := l.2.1.2.2.2.2.1
  refine pz_call (n := 77) (nL := 2) (rt := none) (rows := am_r77) (d := 0) (by decide +kernel) (by decide +kernel) rfl (by funext pc; rfl) (ex_175 hP) (by exact Nat.le_of_ble_eq_true rfl) ?_
  refine am_goX 3 (show am_sh h 25 = some (3, 0) ∧ pz_S 2 none am_r77 0 Q 7 [(0, .ref 25), (1, .int x)] [.int (Int16.ofInt 1000).toInt32, .int (h.1 25 2)] h from ⟨ex_25 hP, ?_⟩)
  rw [e2]
  refine am_goX 1 (show ((Int16.ofInt 1000).toInt32 ≤ (nI s.2.2.2.2.2.1) → pz_S 2 none am_r77 0 Q 30 [(0, .ref 25), (1, .int x)] [] h) ∧ (¬ ((Int16.ofInt 1000).toInt32 ≤ (nI s.2.2.2.2.2.1)) → pz_S 2 none am_r77 0 Q 10 [(0, .ref 25), (1, .int x)] [] h) from ⟨fun hz => absurd hz (i1000 hlt), fun _ => ?_⟩)
  refine am_goX 2 (show am_sh h 25 = some (3, 0) ∧ pz_S 2 none am_r77 0 Q 14 [(0, .ref 25), (1, .int x)] [am_rf (h.2.2.1 25 0)] h from ⟨ex_25 hP, ?_⟩)
  rw [ex_r25_0 hP]
  refine am_goX 4 (show am_sh h 25 = some (3, 0) ∧ ∃ jj nn : Nat, am_so h 26 = some (13, nn) ∧ jj < nn ∧ (h.1 25 2) = nI jj ∧ pz_S 2 none am_r77 0 Q 20 [(0, .ref 25), (1, .int x)] [] (am_wI h 26 jj (x)) from ⟨ex_25 hP, s.2.2.2.2.2.1, 1000, ex_w26 hP, hlt, e2, ?_⟩)
  refine am_goX 6 (show (Value.ref 25).category = 1 ∧ am_sh (am_wI h 26 (s.2.2.2.2.2.1) (x)) 25 = some (3, 0) ∧ am_sh (am_wI h 26 (s.2.2.2.2.2.1) (x)) 25 = some (3, 0) ∧ narrow (am_fty 3 2) (.int ((((am_wI h 26 (s.2.2.2.2.2.1) (x)).1 25 2) + (Int32.ofInt 1)))) = .int ((((am_wI h 26 (s.2.2.2.2.2.1) (x)).1 25 2) + (Int32.ofInt 1))) ∧ fits (am_fty 3 2) (.int ((((am_wI h 26 (s.2.2.2.2.2.1) (x)).1 25 2) + (Int32.ofInt 1)))) = true ∧ pz_S 2 none am_r77 0 Q 30 [(0, .ref 25), (1, .int x)] [] (am_wI (am_wI h 26 (s.2.2.2.2.2.1) (x)) 25 2 ((((am_wI h 26 (s.2.2.2.2.2.1) (x)).1 25 2) + (Int32.ofInt 1)))) from ⟨rfl, ex_25 hP, ex_25 hP, rfl, rfl, ?_⟩)
  rw [em_wn h _ (by omega), e2, xw_i1]
  exact am_goX 1 (show (none : Option FieldType) = none ∧ (am_wI (am_wI h 26 s.2.2.2.2.2.1 x) 25 2 (nI (s.2.2.2.2.2.1 + 1))).2.2.2.2 = 175 ∧ _ from ⟨rfl, ex_175 hP, hQ _ (cr1_em (c := 17) (by decide) l hlt)⟩)
theorem c_75z_17 {r : Nat} (hd : 6 ≤ d) (hdp : dep = Int32.ofInt 5) : lw_c h0 17 T sz (d + 1) 75 dep (sp_pt (tt T sz) 0) := by
  intro s h Q l hQ
  have hP := c_P l.1
  have hk := ck_2 T sz s.1
  refine pz_call (n := 75) (nL := 7) (rt := (some .boolean)) (rows := am_r75) (d := d) (by decide +kernel) (by decide +kernel) rfl (by funext pc; rfl) (ex_175 hP) (by exact Nat.le_of_ble_eq_true rfl) ?_
  refine am_goX 2 (show am_rc h 4 4 ∧ 0 ≤ 8 ∧ h.2.2.2.2 + am_al 76 ≤ 175 ∧ am_call am_cod d 76 [.ref 4] h (fun vv h' => pz_S 7 (some .boolean) am_r75 d Q 4 [(0, .ref 4), (1, .ref 25), (2, .int dep)] (vv.toList ++ []) h') from ⟨Or.inl ⟨by decide, ex_4 (c_P l.1)⟩, by decide, ex_lim (c_P l.1) rfl, am_call.up (c_fact_17 l ?_) (by omega)⟩)
  refine am_goX 3 (show 3 < 7 ∧ am_sh h 4 = some (4, 0) ∧ pz_S 7 (some .boolean) am_r75 d Q 9 [(3, .int (sp_fa (tt T sz) s.1)), (0, .ref 4), (1, .ref 25), (2, .int dep)] [am_rf (h.2.2.1 4 0)] h from ⟨by decide, ex_4 (c_P l.1), ?_⟩)
  rw [ex_r4_0 (c_P l.1)]
  refine am_goX 2 (show am_sh h 1 = some (7, 0) ∧ pz_S 7 (some .boolean) am_r75 d Q 13 [(3, .int (sp_fa (tt T sz) s.1)), (0, .ref 4), (1, .ref 25), (2, .int dep)] [.int (Int32.ofInt 2), .int (h.1 1 2)] h from ⟨ex_1 (c_P l.1), ?_⟩)
  rw [c_kd l.1]
  refine am_goX 1 (show (¬ (ck (tt T sz s.1).1) = (Int32.ofInt 2) → pz_S 7 (some .boolean) am_r75 d Q 20 [(3, .int (sp_fa (tt T sz) s.1)), (0, .ref 4), (1, .ref 25), (2, .int dep)] [] h) ∧ (¬ ¬ (ck (tt T sz s.1).1) = (Int32.ofInt 2) → pz_S 7 (some .boolean) am_r75 d Q 16 [(3, .int (sp_fa (tt T sz) s.1)), (0, .ref 4), (1, .ref 25), (2, .int dep)] [] h) from ⟨fun hc => ?_, fun hc => ?_⟩)
  ·
    have e2 : sp_k (tt T sz) s.1 2 = false := by rw [← hk]; exact decide_eq_false hc
    clear hc
    refine am_goX 4 (show 4 < 7 ∧ am_sh h 4 = some (4, 0) ∧ pz_S 7 (some .boolean) am_r75 d Q 27 [(4, .int (Int32.ofInt 0)), (3, .int (sp_fa (tt T sz) s.1)), (0, .ref 4), (1, .ref 25), (2, .int dep)] [am_rf (h.2.2.1 4 0)] h from ⟨by decide, ex_4 (c_P l.1), ?_⟩)
    rw [ex_r4_0 (c_P l.1)]
    refine am_goX 2 (show am_rc h 1 7 ∧ 0 ≤ 8 ∧ h.2.2.2.2 + am_al 44 ≤ 175 ∧ am_call am_cod d 44 [.ref 1, .ref (4000000 + 18)] h (fun vv h' => pz_S 7 (some .boolean) am_r75 d Q 32 [(4, .int (Int32.ofInt 0)), (3, .int (sp_fa (tt T sz) s.1)), (0, .ref 4), (1, .ref 25), (2, .int dep)] (vv.toList ++ []) h') from ⟨Or.inl ⟨by decide, ex_1 (c_P l.1)⟩, by decide, ex_lim (c_P l.1) rfl, am_call.up (c_isw (by decide) wq_18 l.1 ?_) (by omega)⟩)
    refine am_goX 3 (show 5 < 7 ∧ (¬ (sp_fa (tt T sz) s.1) = 0 → pz_S 7 (some .boolean) am_r75 d Q 69 [(5, .int (pz_b (sp_w (tt T sz) s.1 19741))), (4, .int (Int32.ofInt 0)), (3, .int (sp_fa (tt T sz) s.1)), (0, .ref 4), (1, .ref 25), (2, .int dep)] [] h) ∧ (¬ ¬ (sp_fa (tt T sz) s.1) = 0 → pz_S 7 (some .boolean) am_r75 d Q 38 [(5, .int (pz_b (sp_w (tt T sz) s.1 19741))), (4, .int (Int32.ofInt 0)), (3, .int (sp_fa (tt T sz) s.1)), (0, .ref 4), (1, .ref 25), (2, .int dep)] [] h) from ⟨by decide, fun hc => ?_, fun hc => ?_⟩)
    ·
      have e3n : ¬ sp_fa (tt T sz) s.1 = 0 := hc
      have e3 : decide (sp_fa (tt T sz) s.1 = 0) = false := decide_eq_false e3n
      clear hc
      refine am_goX 3 (show (dep < (Int32.ofInt 5) → pz_S 7 (some .boolean) am_r75 d Q 83 [(5, .int (pz_b (sp_w (tt T sz) s.1 19741))), (4, .int (Int32.ofInt 0)), (3, .int (sp_fa (tt T sz) s.1)), (0, .ref 4), (1, .ref 25), (2, .int dep)] [] h) ∧ (¬ (dep < (Int32.ofInt 5)) → pz_S 7 (some .boolean) am_r75 d Q 74 [(5, .int (pz_b (sp_w (tt T sz) s.1 19741))), (4, .int (Int32.ofInt 0)), (3, .int (sp_fa (tt T sz) s.1)), (0, .ref 4), (1, .ref 25), (2, .int dep)] [] h) from ⟨fun hz => absurd hz (by rw [hdp]; decide), fun _ => ?_⟩)
      refine am_goX 2 (show am_sh h 4 = some (4, 0) ∧ pz_S 7 (some .boolean) am_r75 d Q 78 [(5, .int (pz_b (sp_w (tt T sz) s.1 19741))), (4, .int (Int32.ofInt 0)), (3, .int (sp_fa (tt T sz) s.1)), (0, .ref 4), (1, .ref 25), (2, .int dep)] [am_rf (h.2.2.1 4 0)] h from ⟨ex_4 (c_P l.1), ?_⟩)
      rw [ex_r4_0 (c_P l.1)]
      refine am_goX 2 (show am_rc h 1 7 ∧ 0 ≤ 8 ∧ h.2.2.2.2 + am_al 52 ≤ 175 ∧ am_call am_cod d 52 [.ref 1, .int (Int32.ofInt 5)] h (fun vv h' => pz_S 7 (some .boolean) am_r75 d Q 82 [(5, .int (pz_b (sp_w (tt T sz) s.1 19741))), (4, .int (Int32.ofInt 0)), (3, .int (sp_fa (tt T sz) s.1)), (0, .ref 4), (1, .ref 25), (2, .int dep)] (vv.toList ++ []) h') from ⟨Or.inl ⟨by decide, ex_1 (c_P l.1)⟩, by decide, ex_lim (c_P l.1) rfl, am_call.up (c_refuse l.1 ?_) (by omega)⟩)
      have x224 := cr_x (s := s) (k := (Int32.ofInt 5)) (by decide) l (by decide)
      exact am_goX 1 (show (∃ ty, (some .boolean) = some ty ∧ narrow ty (.int ((Int32.ofInt 0))) = .int ((Int32.ofInt 0))) ∧ (am_wI h 1 7 (sp_ft (tt T sz) s.1 (Int32.ofInt 5))).2.2.2.2 = 175 ∧ _ from ⟨⟨.boolean, rfl, rfl⟩, ex_175 x224.1, hQ _ _ (cres_inl (F := sp_ft (tt T sz) s.1 (Int32.ofInt 5)) (by simp only [sp_pt, sp_b, sp_f, cond_true, cond_false, e2, e3, Bool.and_true, Bool.and_false, Bool.true_and, Bool.false_and, Bool.not_true, Bool.not_false]) rfl x224)⟩)
    ·
      have e3a : sp_fa (tt T sz) s.1 = 0 := Decidable.not_not.mp hc
      have e3 : decide (sp_fa (tt T sz) s.1 = 0) = true := decide_eq_true e3a
      clear hc
      refine am_goX 2 (show (¬ (Int32.ofInt 0) = 0 → pz_S 7 (some .boolean) am_r75 d Q 69 [(5, .int (pz_b (sp_w (tt T sz) s.1 19741))), (4, .int (Int32.ofInt 0)), (3, .int (sp_fa (tt T sz) s.1)), (0, .ref 4), (1, .ref 25), (2, .int dep)] [] h) ∧ (¬ ¬ (Int32.ofInt 0) = 0 → pz_S 7 (some .boolean) am_r75 d Q 43 [(5, .int (pz_b (sp_w (tt T sz) s.1 19741))), (4, .int (Int32.ofInt 0)), (3, .int (sp_fa (tt T sz) s.1)), (0, .ref 4), (1, .ref 25), (2, .int dep)] [] h) from ⟨fun hz => absurd hz (by decide), fun _ => ?_⟩)
      refine am_goX 1 (show pz_S 7 (some .boolean) am_r75 d Q 45 [(5, .int (pz_b (sp_w (tt T sz) s.1 19741))), (4, .int (Int32.ofInt 0)), (3, .int (sp_fa (tt T sz) s.1)), (0, .ref 4), (1, .ref 25), (2, .int dep)] [.int (pz_b (sp_w (tt T sz) s.1 19741))] h from ?_)
      cases e225 : sp_w (tt T sz) s.1 19741 with
      | true =>
        refine am_goX 1 (show (¬ (pz_b (true)) = 0 → pz_S 7 (some .boolean) am_r75 d Q 69 [(5, .int (pz_b (true))), (4, .int (Int32.ofInt 0)), (3, .int (sp_fa (tt T sz) s.1)), (0, .ref 4), (1, .ref 25), (2, .int dep)] [] h) ∧ (¬ ¬ (pz_b (true)) = 0 → pz_S 7 (some .boolean) am_r75 d Q 48 [(5, .int (pz_b (true))), (4, .int (Int32.ofInt 0)), (3, .int (sp_fa (tt T sz) s.1)), (0, .ref 4), (1, .ref 25), (2, .int dep)] [] h) from ⟨fun _ => ?_, fun hz => absurd (by decide) hz⟩)
        refine am_goX 3 (show (dep < (Int32.ofInt 5) → pz_S 7 (some .boolean) am_r75 d Q 83 [(5, .int (pz_b (true))), (4, .int (Int32.ofInt 0)), (3, .int (sp_fa (tt T sz) s.1)), (0, .ref 4), (1, .ref 25), (2, .int dep)] [] h) ∧ (¬ (dep < (Int32.ofInt 5)) → pz_S 7 (some .boolean) am_r75 d Q 74 [(5, .int (pz_b (true))), (4, .int (Int32.ofInt 0)), (3, .int (sp_fa (tt T sz) s.1)), (0, .ref 4), (1, .ref 25), (2, .int dep)] [] h) from ⟨fun hz => absurd hz (by rw [hdp]; decide), fun _ => ?_⟩)
        refine am_goX 2 (show am_sh h 4 = some (4, 0) ∧ pz_S 7 (some .boolean) am_r75 d Q 78 [(5, .int (pz_b (true))), (4, .int (Int32.ofInt 0)), (3, .int (sp_fa (tt T sz) s.1)), (0, .ref 4), (1, .ref 25), (2, .int dep)] [am_rf (h.2.2.1 4 0)] h from ⟨ex_4 (c_P l.1), ?_⟩)
        rw [ex_r4_0 (c_P l.1)]
        refine am_goX 2 (show am_rc h 1 7 ∧ 0 ≤ 8 ∧ h.2.2.2.2 + am_al 52 ≤ 175 ∧ am_call am_cod d 52 [.ref 1, .int (Int32.ofInt 5)] h (fun vv h' => pz_S 7 (some .boolean) am_r75 d Q 82 [(5, .int (pz_b (true))), (4, .int (Int32.ofInt 0)), (3, .int (sp_fa (tt T sz) s.1)), (0, .ref 4), (1, .ref 25), (2, .int dep)] (vv.toList ++ []) h') from ⟨Or.inl ⟨by decide, ex_1 (c_P l.1)⟩, by decide, ex_lim (c_P l.1) rfl, am_call.up (c_refuse l.1 ?_) (by omega)⟩)
        have x226 := cr_x (s := s) (k := (Int32.ofInt 5)) (by decide) l (by decide)
        exact am_goX 1 (show (∃ ty, (some .boolean) = some ty ∧ narrow ty (.int ((Int32.ofInt 0))) = .int ((Int32.ofInt 0))) ∧ (am_wI h 1 7 (sp_ft (tt T sz) s.1 (Int32.ofInt 5))).2.2.2.2 = 175 ∧ _ from ⟨⟨.boolean, rfl, rfl⟩, ex_175 x226.1, hQ _ _ (cres_inl (F := sp_ft (tt T sz) s.1 (Int32.ofInt 5)) (by simp only [sp_pt, sp_b, sp_f, cond_true, cond_false, e2, e3, e225, Bool.and_true, Bool.and_false, Bool.true_and, Bool.false_and, Bool.not_true, Bool.not_false]) rfl x226)⟩)
      | false =>
        refine am_goX 1 (show (¬ (pz_b (false)) = 0 → pz_S 7 (some .boolean) am_r75 d Q 69 [(5, .int (pz_b (false))), (4, .int (Int32.ofInt 0)), (3, .int (sp_fa (tt T sz) s.1)), (0, .ref 4), (1, .ref 25), (2, .int dep)] [] h) ∧ (¬ ¬ (pz_b (false)) = 0 → pz_S 7 (some .boolean) am_r75 d Q 48 [(5, .int (pz_b (false))), (4, .int (Int32.ofInt 0)), (3, .int (sp_fa (tt T sz) s.1)), (0, .ref 4), (1, .ref 25), (2, .int dep)] [] h) from ⟨fun hz => absurd hz (by decide), fun _ => ?_⟩)
        refine am_goX 2 (show am_sh h 4 = some (4, 0) ∧ pz_S 7 (some .boolean) am_r75 d Q 52 [(5, .int (pz_b (false))), (4, .int (Int32.ofInt 0)), (3, .int (sp_fa (tt T sz) s.1)), (0, .ref 4), (1, .ref 25), (2, .int dep)] [am_rf (h.2.2.1 4 0)] h from ⟨ex_4 (c_P l.1), ?_⟩)
        rw [ex_r4_0 (c_P l.1)]
        refine am_goX 2 (show am_rc h 1 7 ∧ 0 ≤ 8 ∧ h.2.2.2.2 + am_al 62 ≤ 175 ∧ am_call am_cod d 62 [.ref 1, .int (Int8.ofInt 40).toInt32] h (fun vv h' => pz_S 7 (some .boolean) am_r75 d Q 57 [(5, .int (pz_b (false))), (4, .int (Int32.ofInt 0)), (3, .int (sp_fa (tt T sz) s.1)), (0, .ref 4), (1, .ref 25), (2, .int dep)] (vv.toList ++ []) h') from ⟨Or.inl ⟨by decide, ex_1 (c_P l.1)⟩, by decide, ex_lim (c_P l.1) rfl, am_call.up (c_iss l.1 ?_) (by omega)⟩)
        cases e227 : sp_s (tt T sz) s.1 (Int8.ofInt 40).toInt32 with
        | true =>
          refine am_goX 1 (show (¬ (pz_b (true)) = 0 → pz_S 7 (some .boolean) am_r75 d Q 69 [(5, .int (pz_b (false))), (4, .int (Int32.ofInt 0)), (3, .int (sp_fa (tt T sz) s.1)), (0, .ref 4), (1, .ref 25), (2, .int dep)] [] h) ∧ (¬ ¬ (pz_b (true)) = 0 → pz_S 7 (some .boolean) am_r75 d Q 60 [(5, .int (pz_b (false))), (4, .int (Int32.ofInt 0)), (3, .int (sp_fa (tt T sz) s.1)), (0, .ref 4), (1, .ref 25), (2, .int dep)] [] h) from ⟨fun _ => ?_, fun hz => absurd (by decide) hz⟩)
          refine am_goX 3 (show (dep < (Int32.ofInt 5) → pz_S 7 (some .boolean) am_r75 d Q 83 [(5, .int (pz_b (false))), (4, .int (Int32.ofInt 0)), (3, .int (sp_fa (tt T sz) s.1)), (0, .ref 4), (1, .ref 25), (2, .int dep)] [] h) ∧ (¬ (dep < (Int32.ofInt 5)) → pz_S 7 (some .boolean) am_r75 d Q 74 [(5, .int (pz_b (false))), (4, .int (Int32.ofInt 0)), (3, .int (sp_fa (tt T sz) s.1)), (0, .ref 4), (1, .ref 25), (2, .int dep)] [] h) from ⟨fun hz => absurd hz (by rw [hdp]; decide), fun _ => ?_⟩)
          refine am_goX 2 (show am_sh h 4 = some (4, 0) ∧ pz_S 7 (some .boolean) am_r75 d Q 78 [(5, .int (pz_b (false))), (4, .int (Int32.ofInt 0)), (3, .int (sp_fa (tt T sz) s.1)), (0, .ref 4), (1, .ref 25), (2, .int dep)] [am_rf (h.2.2.1 4 0)] h from ⟨ex_4 (c_P l.1), ?_⟩)
          rw [ex_r4_0 (c_P l.1)]
          refine am_goX 2 (show am_rc h 1 7 ∧ 0 ≤ 8 ∧ h.2.2.2.2 + am_al 52 ≤ 175 ∧ am_call am_cod d 52 [.ref 1, .int (Int32.ofInt 5)] h (fun vv h' => pz_S 7 (some .boolean) am_r75 d Q 82 [(5, .int (pz_b (false))), (4, .int (Int32.ofInt 0)), (3, .int (sp_fa (tt T sz) s.1)), (0, .ref 4), (1, .ref 25), (2, .int dep)] (vv.toList ++ []) h') from ⟨Or.inl ⟨by decide, ex_1 (c_P l.1)⟩, by decide, ex_lim (c_P l.1) rfl, am_call.up (c_refuse l.1 ?_) (by omega)⟩)
          have x228 := cr_x (s := s) (k := (Int32.ofInt 5)) (by decide) l (by decide)
          exact am_goX 1 (show (∃ ty, (some .boolean) = some ty ∧ narrow ty (.int ((Int32.ofInt 0))) = .int ((Int32.ofInt 0))) ∧ (am_wI h 1 7 (sp_ft (tt T sz) s.1 (Int32.ofInt 5))).2.2.2.2 = 175 ∧ _ from ⟨⟨.boolean, rfl, rfl⟩, ex_175 x228.1, hQ _ _ (cres_inl (F := sp_ft (tt T sz) s.1 (Int32.ofInt 5)) (by simp only [sp_pt, sp_b, sp_f, cond_true, cond_false, e2, e3, e225, e227, Bool.and_true, Bool.and_false, Bool.true_and, Bool.false_and, Bool.not_true, Bool.not_false]) rfl x228)⟩)
        | false =>
          refine am_goX 1 (show (¬ (pz_b (false)) = 0 → pz_S 7 (some .boolean) am_r75 d Q 69 [(5, .int (pz_b (false))), (4, .int (Int32.ofInt 0)), (3, .int (sp_fa (tt T sz) s.1)), (0, .ref 4), (1, .ref 25), (2, .int dep)] [] h) ∧ (¬ ¬ (pz_b (false)) = 0 → pz_S 7 (some .boolean) am_r75 d Q 60 [(5, .int (pz_b (false))), (4, .int (Int32.ofInt 0)), (3, .int (sp_fa (tt T sz) s.1)), (0, .ref 4), (1, .ref 25), (2, .int dep)] [] h) from ⟨fun hz => absurd hz (by decide), fun _ => ?_⟩)
          refine am_goX 2 (show am_sh h 4 = some (4, 0) ∧ pz_S 7 (some .boolean) am_r75 d Q 64 [(5, .int (pz_b (false))), (4, .int (Int32.ofInt 0)), (3, .int (sp_fa (tt T sz) s.1)), (0, .ref 4), (1, .ref 25), (2, .int dep)] [am_rf (h.2.2.1 4 0)] h from ⟨ex_4 (c_P l.1), ?_⟩)
          rw [ex_r4_0 (c_P l.1)]
          refine am_goX 2 (show am_rc h 1 7 ∧ 0 ≤ 8 ∧ h.2.2.2.2 + am_al 52 ≤ 175 ∧ am_call am_cod d 52 [.ref 1, .int (Int32.ofInt 1)] h (fun vv h' => pz_S 7 (some .boolean) am_r75 d Q 68 [(5, .int (pz_b (false))), (4, .int (Int32.ofInt 0)), (3, .int (sp_fa (tt T sz) s.1)), (0, .ref 4), (1, .ref 25), (2, .int dep)] (vv.toList ++ []) h') from ⟨Or.inl ⟨by decide, ex_1 (c_P l.1)⟩, by decide, ex_lim (c_P l.1) rfl, am_call.up (c_refuse l.1 ?_) (by omega)⟩)
          have x229 := cr_x (s := s) (k := (Int32.ofInt 1)) (by decide) l (by decide)
          exact am_goX 1 (show (∃ ty, (some .boolean) = some ty ∧ narrow ty (.int ((Int32.ofInt 0))) = .int ((Int32.ofInt 0))) ∧ (am_wI h 1 7 (sp_ft (tt T sz) s.1 (Int32.ofInt 1))).2.2.2.2 = 175 ∧ _ from ⟨⟨.boolean, rfl, rfl⟩, ex_175 x229.1, hQ _ _ (cres_inl (F := sp_ft (tt T sz) s.1 (Int32.ofInt 1)) (by simp only [sp_pt, sp_b, sp_f, cond_true, cond_false, e2, e3, e225, e227, Bool.and_true, Bool.and_false, Bool.true_and, Bool.false_and, Bool.not_true, Bool.not_false]) rfl x229)⟩)
  ·
    have e2 : sp_k (tt T sz) s.1 2 = true := by rw [← hk]; exact decide_eq_true (Decidable.not_not.mp hc)
    clear hc
    refine am_goX 5 (show 4 < 7 ∧ am_sh h 4 = some (4, 0) ∧ pz_S 7 (some .boolean) am_r75 d Q 27 [(4, .int (Int32.ofInt 1)), (3, .int (sp_fa (tt T sz) s.1)), (0, .ref 4), (1, .ref 25), (2, .int dep)] [am_rf (h.2.2.1 4 0)] h from ⟨by decide, ex_4 (c_P l.1), ?_⟩)
    rw [ex_r4_0 (c_P l.1)]
    refine am_goX 2 (show am_rc h 1 7 ∧ 0 ≤ 8 ∧ h.2.2.2.2 + am_al 44 ≤ 175 ∧ am_call am_cod d 44 [.ref 1, .ref (4000000 + 18)] h (fun vv h' => pz_S 7 (some .boolean) am_r75 d Q 32 [(4, .int (Int32.ofInt 1)), (3, .int (sp_fa (tt T sz) s.1)), (0, .ref 4), (1, .ref 25), (2, .int dep)] (vv.toList ++ []) h') from ⟨Or.inl ⟨by decide, ex_1 (c_P l.1)⟩, by decide, ex_lim (c_P l.1) rfl, am_call.up (c_isw (by decide) wq_18 l.1 ?_) (by omega)⟩)
    refine am_goX 3 (show 5 < 7 ∧ (¬ (sp_fa (tt T sz) s.1) = 0 → pz_S 7 (some .boolean) am_r75 d Q 69 [(5, .int (pz_b (sp_w (tt T sz) s.1 19741))), (4, .int (Int32.ofInt 1)), (3, .int (sp_fa (tt T sz) s.1)), (0, .ref 4), (1, .ref 25), (2, .int dep)] [] h) ∧ (¬ ¬ (sp_fa (tt T sz) s.1) = 0 → pz_S 7 (some .boolean) am_r75 d Q 38 [(5, .int (pz_b (sp_w (tt T sz) s.1 19741))), (4, .int (Int32.ofInt 1)), (3, .int (sp_fa (tt T sz) s.1)), (0, .ref 4), (1, .ref 25), (2, .int dep)] [] h) from ⟨by decide, fun hc => ?_, fun hc => ?_⟩)
    ·
      have e3n : ¬ sp_fa (tt T sz) s.1 = 0 := hc
      have e3 : decide (sp_fa (tt T sz) s.1 = 0) = false := decide_eq_false e3n
      clear hc
      refine am_goX 3 (show (dep < (Int32.ofInt 5) → pz_S 7 (some .boolean) am_r75 d Q 83 [(5, .int (pz_b (sp_w (tt T sz) s.1 19741))), (4, .int (Int32.ofInt 1)), (3, .int (sp_fa (tt T sz) s.1)), (0, .ref 4), (1, .ref 25), (2, .int dep)] [] h) ∧ (¬ (dep < (Int32.ofInt 5)) → pz_S 7 (some .boolean) am_r75 d Q 74 [(5, .int (pz_b (sp_w (tt T sz) s.1 19741))), (4, .int (Int32.ofInt 1)), (3, .int (sp_fa (tt T sz) s.1)), (0, .ref 4), (1, .ref 25), (2, .int dep)] [] h) from ⟨fun hz => absurd hz (by rw [hdp]; decide), fun _ => ?_⟩)
      refine am_goX 2 (show am_sh h 4 = some (4, 0) ∧ pz_S 7 (some .boolean) am_r75 d Q 78 [(5, .int (pz_b (sp_w (tt T sz) s.1 19741))), (4, .int (Int32.ofInt 1)), (3, .int (sp_fa (tt T sz) s.1)), (0, .ref 4), (1, .ref 25), (2, .int dep)] [am_rf (h.2.2.1 4 0)] h from ⟨ex_4 (c_P l.1), ?_⟩)
      rw [ex_r4_0 (c_P l.1)]
      refine am_goX 2 (show am_rc h 1 7 ∧ 0 ≤ 8 ∧ h.2.2.2.2 + am_al 52 ≤ 175 ∧ am_call am_cod d 52 [.ref 1, .int (Int32.ofInt 5)] h (fun vv h' => pz_S 7 (some .boolean) am_r75 d Q 82 [(5, .int (pz_b (sp_w (tt T sz) s.1 19741))), (4, .int (Int32.ofInt 1)), (3, .int (sp_fa (tt T sz) s.1)), (0, .ref 4), (1, .ref 25), (2, .int dep)] (vv.toList ++ []) h') from ⟨Or.inl ⟨by decide, ex_1 (c_P l.1)⟩, by decide, ex_lim (c_P l.1) rfl, am_call.up (c_refuse l.1 ?_) (by omega)⟩)
      have x230 := cr_x (s := s) (k := (Int32.ofInt 5)) (by decide) l (by decide)
      exact am_goX 1 (show (∃ ty, (some .boolean) = some ty ∧ narrow ty (.int ((Int32.ofInt 0))) = .int ((Int32.ofInt 0))) ∧ (am_wI h 1 7 (sp_ft (tt T sz) s.1 (Int32.ofInt 5))).2.2.2.2 = 175 ∧ _ from ⟨⟨.boolean, rfl, rfl⟩, ex_175 x230.1, hQ _ _ (cres_inl (F := sp_ft (tt T sz) s.1 (Int32.ofInt 5)) (by simp only [sp_pt, sp_b, sp_f, cond_true, cond_false, e2, e3, Bool.and_true, Bool.and_false, Bool.true_and, Bool.false_and, Bool.not_true, Bool.not_false]) rfl x230)⟩)
    ·
      have e3a : sp_fa (tt T sz) s.1 = 0 := Decidable.not_not.mp hc
      have e3 : decide (sp_fa (tt T sz) s.1 = 0) = true := decide_eq_true e3a
      clear hc
      refine am_goX 2 (show (¬ (Int32.ofInt 1) = 0 → pz_S 7 (some .boolean) am_r75 d Q 69 [(5, .int (pz_b (sp_w (tt T sz) s.1 19741))), (4, .int (Int32.ofInt 1)), (3, .int (sp_fa (tt T sz) s.1)), (0, .ref 4), (1, .ref 25), (2, .int dep)] [] h) ∧ (¬ ¬ (Int32.ofInt 1) = 0 → pz_S 7 (some .boolean) am_r75 d Q 43 [(5, .int (pz_b (sp_w (tt T sz) s.1 19741))), (4, .int (Int32.ofInt 1)), (3, .int (sp_fa (tt T sz) s.1)), (0, .ref 4), (1, .ref 25), (2, .int dep)] [] h) from ⟨fun _ => ?_, fun hz => absurd (by decide) hz⟩)
      refine am_goX 3 (show (dep < (Int32.ofInt 5) → pz_S 7 (some .boolean) am_r75 d Q 83 [(5, .int (pz_b (sp_w (tt T sz) s.1 19741))), (4, .int (Int32.ofInt 1)), (3, .int (sp_fa (tt T sz) s.1)), (0, .ref 4), (1, .ref 25), (2, .int dep)] [] h) ∧ (¬ (dep < (Int32.ofInt 5)) → pz_S 7 (some .boolean) am_r75 d Q 74 [(5, .int (pz_b (sp_w (tt T sz) s.1 19741))), (4, .int (Int32.ofInt 1)), (3, .int (sp_fa (tt T sz) s.1)), (0, .ref 4), (1, .ref 25), (2, .int dep)] [] h) from ⟨fun hz => absurd hz (by rw [hdp]; decide), fun _ => ?_⟩)
      refine am_goX 2 (show am_sh h 4 = some (4, 0) ∧ pz_S 7 (some .boolean) am_r75 d Q 78 [(5, .int (pz_b (sp_w (tt T sz) s.1 19741))), (4, .int (Int32.ofInt 1)), (3, .int (sp_fa (tt T sz) s.1)), (0, .ref 4), (1, .ref 25), (2, .int dep)] [am_rf (h.2.2.1 4 0)] h from ⟨ex_4 (c_P l.1), ?_⟩)
      rw [ex_r4_0 (c_P l.1)]
      refine am_goX 2 (show am_rc h 1 7 ∧ 0 ≤ 8 ∧ h.2.2.2.2 + am_al 52 ≤ 175 ∧ am_call am_cod d 52 [.ref 1, .int (Int32.ofInt 5)] h (fun vv h' => pz_S 7 (some .boolean) am_r75 d Q 82 [(5, .int (pz_b (sp_w (tt T sz) s.1 19741))), (4, .int (Int32.ofInt 1)), (3, .int (sp_fa (tt T sz) s.1)), (0, .ref 4), (1, .ref 25), (2, .int dep)] (vv.toList ++ []) h') from ⟨Or.inl ⟨by decide, ex_1 (c_P l.1)⟩, by decide, ex_lim (c_P l.1) rfl, am_call.up (c_refuse l.1 ?_) (by omega)⟩)
      have x231 := cr_x (s := s) (k := (Int32.ofInt 5)) (by decide) l (by decide)
      exact am_goX 1 (show (∃ ty, (some .boolean) = some ty ∧ narrow ty (.int ((Int32.ofInt 0))) = .int ((Int32.ofInt 0))) ∧ (am_wI h 1 7 (sp_ft (tt T sz) s.1 (Int32.ofInt 5))).2.2.2.2 = 175 ∧ _ from ⟨⟨.boolean, rfl, rfl⟩, ex_175 x231.1, hQ _ _ (cres_inl (F := sp_ft (tt T sz) s.1 (Int32.ofInt 5)) (by simp only [sp_pt, sp_b, sp_f, cond_true, cond_false, e2, e3, Bool.and_true, Bool.and_false, Bool.true_and, Bool.false_and, Bool.not_true, Bool.not_false]) rfl x231)⟩)
theorem c_75s_17 {r : Nat} (hd : 6 ≤ d) (hdp : dep < Int32.ofInt 5) (k75 : lw_c h0 17 T sz d 75 (dep + Int32.ofInt 1) (sp_pt (tt T sz) r)) (k71 : lw_c h0 17 T sz d 71 (dep + Int32.ofInt 1) (sp_wh (tt T sz) (sp_pt (tt T sz) r))) : lw_c h0 17 T sz (d + 1) 75 dep (sp_pt (tt T sz) (r + 1)) := by
  intro s h Q l hQ
  have hP := c_P l.1
  have hk := ck_2 T sz s.1
  refine pz_call (n := 75) (nL := 7) (rt := (some .boolean)) (rows := am_r75) (d := d) (by decide +kernel) (by decide +kernel) rfl (by funext pc; rfl) (ex_175 hP) (by exact Nat.le_of_ble_eq_true rfl) ?_
  refine am_goX 2 (show am_rc h 4 4 ∧ 0 ≤ 8 ∧ h.2.2.2.2 + am_al 76 ≤ 175 ∧ am_call am_cod d 76 [.ref 4] h (fun vv h' => pz_S 7 (some .boolean) am_r75 d Q 4 [(0, .ref 4), (1, .ref 25), (2, .int dep)] (vv.toList ++ []) h') from ⟨Or.inl ⟨by decide, ex_4 (c_P l.1)⟩, by decide, ex_lim (c_P l.1) rfl, am_call.up (c_fact_17 l ?_) (by omega)⟩)
  refine am_goX 3 (show 3 < 7 ∧ am_sh h 4 = some (4, 0) ∧ pz_S 7 (some .boolean) am_r75 d Q 9 [(3, .int (sp_fa (tt T sz) s.1)), (0, .ref 4), (1, .ref 25), (2, .int dep)] [am_rf (h.2.2.1 4 0)] h from ⟨by decide, ex_4 (c_P l.1), ?_⟩)
  rw [ex_r4_0 (c_P l.1)]
  refine am_goX 2 (show am_sh h 1 = some (7, 0) ∧ pz_S 7 (some .boolean) am_r75 d Q 13 [(3, .int (sp_fa (tt T sz) s.1)), (0, .ref 4), (1, .ref 25), (2, .int dep)] [.int (Int32.ofInt 2), .int (h.1 1 2)] h from ⟨ex_1 (c_P l.1), ?_⟩)
  rw [c_kd l.1]
  refine am_goX 1 (show (¬ (ck (tt T sz s.1).1) = (Int32.ofInt 2) → pz_S 7 (some .boolean) am_r75 d Q 20 [(3, .int (sp_fa (tt T sz) s.1)), (0, .ref 4), (1, .ref 25), (2, .int dep)] [] h) ∧ (¬ ¬ (ck (tt T sz s.1).1) = (Int32.ofInt 2) → pz_S 7 (some .boolean) am_r75 d Q 16 [(3, .int (sp_fa (tt T sz) s.1)), (0, .ref 4), (1, .ref 25), (2, .int dep)] [] h) from ⟨fun hc => ?_, fun hc => ?_⟩)
  ·
    have e2 : sp_k (tt T sz) s.1 2 = false := by rw [← hk]; exact decide_eq_false hc
    clear hc
    refine am_goX 4 (show 4 < 7 ∧ am_sh h 4 = some (4, 0) ∧ pz_S 7 (some .boolean) am_r75 d Q 27 [(4, .int (Int32.ofInt 0)), (3, .int (sp_fa (tt T sz) s.1)), (0, .ref 4), (1, .ref 25), (2, .int dep)] [am_rf (h.2.2.1 4 0)] h from ⟨by decide, ex_4 (c_P l.1), ?_⟩)
    rw [ex_r4_0 (c_P l.1)]
    refine am_goX 2 (show am_rc h 1 7 ∧ 0 ≤ 8 ∧ h.2.2.2.2 + am_al 44 ≤ 175 ∧ am_call am_cod d 44 [.ref 1, .ref (4000000 + 18)] h (fun vv h' => pz_S 7 (some .boolean) am_r75 d Q 32 [(4, .int (Int32.ofInt 0)), (3, .int (sp_fa (tt T sz) s.1)), (0, .ref 4), (1, .ref 25), (2, .int dep)] (vv.toList ++ []) h') from ⟨Or.inl ⟨by decide, ex_1 (c_P l.1)⟩, by decide, ex_lim (c_P l.1) rfl, am_call.up (c_isw (by decide) wq_18 l.1 ?_) (by omega)⟩)
    refine am_goX 3 (show 5 < 7 ∧ (¬ (sp_fa (tt T sz) s.1) = 0 → pz_S 7 (some .boolean) am_r75 d Q 69 [(5, .int (pz_b (sp_w (tt T sz) s.1 19741))), (4, .int (Int32.ofInt 0)), (3, .int (sp_fa (tt T sz) s.1)), (0, .ref 4), (1, .ref 25), (2, .int dep)] [] h) ∧ (¬ ¬ (sp_fa (tt T sz) s.1) = 0 → pz_S 7 (some .boolean) am_r75 d Q 38 [(5, .int (pz_b (sp_w (tt T sz) s.1 19741))), (4, .int (Int32.ofInt 0)), (3, .int (sp_fa (tt T sz) s.1)), (0, .ref 4), (1, .ref 25), (2, .int dep)] [] h) from ⟨by decide, fun hc => ?_, fun hc => ?_⟩)
    ·
      have e3n : ¬ sp_fa (tt T sz) s.1 = 0 := hc
      have e3 : decide (sp_fa (tt T sz) s.1 = 0) = false := decide_eq_false e3n
      clear hc
      refine am_goX 3 (show (dep < (Int32.ofInt 5) → pz_S 7 (some .boolean) am_r75 d Q 83 [(5, .int (pz_b (sp_w (tt T sz) s.1 19741))), (4, .int (Int32.ofInt 0)), (3, .int (sp_fa (tt T sz) s.1)), (0, .ref 4), (1, .ref 25), (2, .int dep)] [] h) ∧ (¬ (dep < (Int32.ofInt 5)) → pz_S 7 (some .boolean) am_r75 d Q 74 [(5, .int (pz_b (sp_w (tt T sz) s.1 19741))), (4, .int (Int32.ofInt 0)), (3, .int (sp_fa (tt T sz) s.1)), (0, .ref 4), (1, .ref 25), (2, .int dep)] [] h) from ⟨fun _ => ?_, fun hz => absurd hdp hz⟩)
      refine am_goX 2 (show (¬ (Int32.ofInt 0) = 0 → pz_S 7 (some .boolean) am_r75 d Q 92 [(5, .int (pz_b (sp_w (tt T sz) s.1 19741))), (4, .int (Int32.ofInt 0)), (3, .int (sp_fa (tt T sz) s.1)), (0, .ref 4), (1, .ref 25), (2, .int dep)] [] h) ∧ (¬ ¬ (Int32.ofInt 0) = 0 → pz_S 7 (some .boolean) am_r75 d Q 88 [(5, .int (pz_b (sp_w (tt T sz) s.1 19741))), (4, .int (Int32.ofInt 0)), (3, .int (sp_fa (tt T sz) s.1)), (0, .ref 4), (1, .ref 25), (2, .int dep)] [] h) from ⟨fun hz => absurd hz (by decide), fun _ => ?_⟩)
      refine am_goX 2 (show ((sp_fa (tt T sz) s.1) = 0 → pz_S 7 (some .boolean) am_r75 d Q 121 [(5, .int (pz_b (sp_w (tt T sz) s.1 19741))), (4, .int (Int32.ofInt 0)), (3, .int (sp_fa (tt T sz) s.1)), (0, .ref 4), (1, .ref 25), (2, .int dep)] [] h) ∧ (¬ ((sp_fa (tt T sz) s.1) = 0) → pz_S 7 (some .boolean) am_r75 d Q 92 [(5, .int (pz_b (sp_w (tt T sz) s.1 19741))), (4, .int (Int32.ofInt 0)), (3, .int (sp_fa (tt T sz) s.1)), (0, .ref 4), (1, .ref 25), (2, .int dep)] [] h) from ⟨fun hz => absurd hz e3n, fun _ => ?_⟩)
      refine am_goX 3 (show ((Int32.ofInt 0) = 0 → pz_S 7 (some .boolean) am_r75 d Q 108 [(5, .int (pz_b (sp_w (tt T sz) s.1 19741))), (4, .int (Int32.ofInt 0)), (3, .int (sp_fa (tt T sz) s.1)), (0, .ref 4), (1, .ref 25), (2, .int dep)] [.ref 25] h) ∧ (¬ ((Int32.ofInt 0) = 0) → pz_S 7 (some .boolean) am_r75 d Q 98 [(5, .int (pz_b (sp_w (tt T sz) s.1 19741))), (4, .int (Int32.ofInt 0)), (3, .int (sp_fa (tt T sz) s.1)), (0, .ref 4), (1, .ref 25), (2, .int dep)] [.ref 25] h) from ⟨fun _ => ?_, fun hz => absurd (by decide) hz⟩)
      refine am_goX 2 (show am_rc h 25 3 ∧ 0 ≤ 8 ∧ h.2.2.2.2 + am_al 77 ≤ 175 ∧ am_call am_cod d 77 [.ref 25, .int (sp_fa (tt T sz) s.1)] h (fun vv h' => pz_S 7 (some .boolean) am_r75 d Q 112 [(5, .int (pz_b (sp_w (tt T sz) s.1 19741))), (4, .int (Int32.ofInt 0)), (3, .int (sp_fa (tt T sz) s.1)), (0, .ref 4), (1, .ref 25), (2, .int dep)] (vv.toList ++ []) h') from ⟨Or.inl ⟨by decide, ex_25 (c_P l.1)⟩, by decide, ex_lim (c_P l.1) rfl, am_call.up (c_addn_17 l (cr_lt l (c_fan e3n)) (fun h232 m233 => ?_)) (by omega)⟩)
      refine am_goX 2 (show am_sh h232 4 = some (4, 0) ∧ pz_S 7 (some .boolean) am_r75 d Q 116 [(5, .int (pz_b (sp_w (tt T sz) s.1 19741))), (4, .int (Int32.ofInt 0)), (3, .int (sp_fa (tt T sz) s.1)), (0, .ref 4), (1, .ref 25), (2, .int dep)] [am_rf (h232.2.2.1 4 0)] h232 from ⟨ex_4 (c_P m233.1), ?_⟩)
      rw [ex_r4_0 (c_P m233.1)]
      refine am_goX 1 (show am_rc h232 1 7 ∧ 0 ≤ 8 ∧ h232.2.2.2.2 + am_al 18 ≤ 175 ∧ am_call am_cod d 18 [.ref 1] h232 (fun vv h' => pz_S 7 (some .boolean) am_r75 d Q 119 [(5, .int (pz_b (sp_w (tt T sz) s.1 19741))), (4, .int (Int32.ofInt 0)), (3, .int (sp_fa (tt T sz) s.1)), (0, .ref 4), (1, .ref 25), (2, .int dep)] (vv.toList ++ []) h') from ⟨Or.inl ⟨by decide, ex_1 (c_P m233.1)⟩, by decide, ex_lim (c_P m233.1) rfl, am_call.up (c_step m233.1 (c_fan e3n) (fun h234 m235 f236 => ?_)) (by omega)⟩)
      have l237 := cr_em2 (by decide) m233 m235 f236
      exact am_goX 2 (show (∃ ty, (some .boolean) = some ty ∧ narrow ty (.int ((Int32.ofInt 1))) = .int ((Int32.ofInt 1))) ∧ h234.2.2.2.2 = 175 ∧ _ from ⟨⟨.boolean, rfl, rfl⟩, ex_175 (c_P l237.1), hQ _ _ (cres_inr (s' := (s.1 + 1, sp_em s.2 (sp_fa (tt T sz) s.1))) (by simp only [sp_pt, sp_b, sp_f, cond_true, cond_false, e2, e3, Bool.and_true, Bool.and_false, Bool.true_and, Bool.false_and, Bool.not_true, Bool.not_false]) rfl l237)⟩)
    ·
      have e3a : sp_fa (tt T sz) s.1 = 0 := Decidable.not_not.mp hc
      have e3 : decide (sp_fa (tt T sz) s.1 = 0) = true := decide_eq_true e3a
      clear hc
      refine am_goX 2 (show (¬ (Int32.ofInt 0) = 0 → pz_S 7 (some .boolean) am_r75 d Q 69 [(5, .int (pz_b (sp_w (tt T sz) s.1 19741))), (4, .int (Int32.ofInt 0)), (3, .int (sp_fa (tt T sz) s.1)), (0, .ref 4), (1, .ref 25), (2, .int dep)] [] h) ∧ (¬ ¬ (Int32.ofInt 0) = 0 → pz_S 7 (some .boolean) am_r75 d Q 43 [(5, .int (pz_b (sp_w (tt T sz) s.1 19741))), (4, .int (Int32.ofInt 0)), (3, .int (sp_fa (tt T sz) s.1)), (0, .ref 4), (1, .ref 25), (2, .int dep)] [] h) from ⟨fun hz => absurd hz (by decide), fun _ => ?_⟩)
      refine am_goX 1 (show pz_S 7 (some .boolean) am_r75 d Q 45 [(5, .int (pz_b (sp_w (tt T sz) s.1 19741))), (4, .int (Int32.ofInt 0)), (3, .int (sp_fa (tt T sz) s.1)), (0, .ref 4), (1, .ref 25), (2, .int dep)] [.int (pz_b (sp_w (tt T sz) s.1 19741))] h from ?_)
      cases e238 : sp_w (tt T sz) s.1 19741 with
      | true =>
        refine am_goX 1 (show (¬ (pz_b (true)) = 0 → pz_S 7 (some .boolean) am_r75 d Q 69 [(5, .int (pz_b (true))), (4, .int (Int32.ofInt 0)), (3, .int (sp_fa (tt T sz) s.1)), (0, .ref 4), (1, .ref 25), (2, .int dep)] [] h) ∧ (¬ ¬ (pz_b (true)) = 0 → pz_S 7 (some .boolean) am_r75 d Q 48 [(5, .int (pz_b (true))), (4, .int (Int32.ofInt 0)), (3, .int (sp_fa (tt T sz) s.1)), (0, .ref 4), (1, .ref 25), (2, .int dep)] [] h) from ⟨fun _ => ?_, fun hz => absurd (by decide) hz⟩)
        refine am_goX 3 (show (dep < (Int32.ofInt 5) → pz_S 7 (some .boolean) am_r75 d Q 83 [(5, .int (pz_b (true))), (4, .int (Int32.ofInt 0)), (3, .int (sp_fa (tt T sz) s.1)), (0, .ref 4), (1, .ref 25), (2, .int dep)] [] h) ∧ (¬ (dep < (Int32.ofInt 5)) → pz_S 7 (some .boolean) am_r75 d Q 74 [(5, .int (pz_b (true))), (4, .int (Int32.ofInt 0)), (3, .int (sp_fa (tt T sz) s.1)), (0, .ref 4), (1, .ref 25), (2, .int dep)] [] h) from ⟨fun _ => ?_, fun hz => absurd hdp hz⟩)
        refine am_goX 2 (show (¬ (Int32.ofInt 0) = 0 → pz_S 7 (some .boolean) am_r75 d Q 92 [(5, .int (pz_b (true))), (4, .int (Int32.ofInt 0)), (3, .int (sp_fa (tt T sz) s.1)), (0, .ref 4), (1, .ref 25), (2, .int dep)] [] h) ∧ (¬ ¬ (Int32.ofInt 0) = 0 → pz_S 7 (some .boolean) am_r75 d Q 88 [(5, .int (pz_b (true))), (4, .int (Int32.ofInt 0)), (3, .int (sp_fa (tt T sz) s.1)), (0, .ref 4), (1, .ref 25), (2, .int dep)] [] h) from ⟨fun hz => absurd hz (by decide), fun _ => ?_⟩)
        refine am_goX 2 (show ((sp_fa (tt T sz) s.1) = 0 → pz_S 7 (some .boolean) am_r75 d Q 121 [(5, .int (pz_b (true))), (4, .int (Int32.ofInt 0)), (3, .int (sp_fa (tt T sz) s.1)), (0, .ref 4), (1, .ref 25), (2, .int dep)] [] h) ∧ (¬ ((sp_fa (tt T sz) s.1) = 0) → pz_S 7 (some .boolean) am_r75 d Q 92 [(5, .int (pz_b (true))), (4, .int (Int32.ofInt 0)), (3, .int (sp_fa (tt T sz) s.1)), (0, .ref 4), (1, .ref 25), (2, .int dep)] [] h) from ⟨fun _ => ?_, fun hz => absurd e3a hz⟩)
        refine am_goX 2 (show am_sh h 4 = some (4, 0) ∧ pz_S 7 (some .boolean) am_r75 d Q 125 [(5, .int (pz_b (true))), (4, .int (Int32.ofInt 0)), (3, .int (sp_fa (tt T sz) s.1)), (0, .ref 4), (1, .ref 25), (2, .int dep)] [am_rf (h.2.2.1 4 0)] h from ⟨ex_4 (c_P l.1), ?_⟩)
        rw [ex_r4_0 (c_P l.1)]
        refine am_goX 1 (show am_rc h 1 7 ∧ 0 ≤ 8 ∧ h.2.2.2.2 + am_al 18 ≤ 175 ∧ am_call am_cod d 18 [.ref 1] h (fun vv h' => pz_S 7 (some .boolean) am_r75 d Q 128 [(5, .int (pz_b (true))), (4, .int (Int32.ofInt 0)), (3, .int (sp_fa (tt T sz) s.1)), (0, .ref 4), (1, .ref 25), (2, .int dep)] (vv.toList ++ []) h') from ⟨Or.inl ⟨by decide, ex_1 (c_P l.1)⟩, by decide, ex_lim (c_P l.1) rfl, am_call.up (c_step l.1 (sp_wn e238) (fun h239 m240 f241 => ?_)) (by omega)⟩)
        have l242 : cr h0 17 T sz ((s.1 + 1), s.2) h239 := cr_fr (a := s.1) (C := s.2) (by decide) l m240 (Nat.le_succ _) f241
        refine am_goX 2 (show ((pz_b (true)) = 0 → pz_S 7 (some .boolean) am_r75 d Q 152 [(5, .int (pz_b (true))), (4, .int (Int32.ofInt 0)), (3, .int (sp_fa (tt T sz) s.1)), (0, .ref 4), (1, .ref 25), (2, .int dep)] [] h239) ∧ (¬ ((pz_b (true)) = 0) → pz_S 7 (some .boolean) am_r75 d Q 133 [(5, .int (pz_b (true))), (4, .int (Int32.ofInt 0)), (3, .int (sp_fa (tt T sz) s.1)), (0, .ref 4), (1, .ref 25), (2, .int dep)] [] h239) from ⟨fun hz => absurd hz (by decide), fun _ => ?_⟩)
        refine am_goX 6 (show am_rc h239 4 4 ∧ 0 ≤ 8 ∧ h239.2.2.2.2 + am_al 75 ≤ 175 ∧ am_call am_cod d 75 [.ref 4, .ref 25, .int (dep + (Int32.ofInt 1))] h239 (fun vv h' => pz_S 7 (some .boolean) am_r75 d Q 141 [(5, .int (pz_b (true))), (4, .int (Int32.ofInt 0)), (3, .int (sp_fa (tt T sz) s.1)), (0, .ref 4), (1, .ref 25), (2, .int dep)] (vv.toList ++ []) h') from ⟨Or.inl ⟨by decide, ex_4 (c_P l242.1)⟩, by decide, ex_lim (c_P l242.1) rfl, k75 _ _ _ l242 (fun v243 h244 x245 => ?_)⟩)
        rcases cres_cs x245 with ⟨F247, e249, rfl, y250⟩ | ⟨t248, e249, rfl, y250⟩
        ·
          refine am_goX 4 (show 6 < 7 ∧ am_rc h244 25 3 ∧ 0 ≤ 8 ∧ h244.2.2.2.2 + am_al 77 ≤ 175 ∧ am_call am_cod d 77 [.ref 25, .int (Int8.ofInt (-5)).toInt32] h244 (fun vv h' => pz_S 7 (some .boolean) am_r75 d Q 149 [(6, .int 0), (5, .int (pz_b (true))), (4, .int (Int32.ofInt 0)), (3, .int (sp_fa (tt T sz) s.1)), (0, .ref 4), (1, .ref 25), (2, .int dep)] (vv.toList ++ []) h') from ⟨by decide, Or.inl ⟨by decide, ex_25 y250.1⟩, by decide, ex_lim y250.1 rfl, am_call.up (c_addx_17 y250 (fun h251 y252 => ?_)) (by omega)⟩)
          exact am_goX 2 (show (∃ ty, (some .boolean) = some ty ∧ narrow ty (.int (0)) = .int (0)) ∧ h251.2.2.2.2 = 175 ∧ _ from ⟨⟨.boolean, rfl, rfl⟩, ex_175 y252.1, hQ _ _ (cres_inl (F := F247) (by simp only [sp_pt, sp_b, sp_f, cond_true, cond_false, e2, e3, e238, e249, Bool.and_true, Bool.and_false, Bool.true_and, Bool.false_and, Bool.not_true, Bool.not_false]) rfl y252)⟩)
        ·
          refine am_goX 4 (show 6 < 7 ∧ am_rc h244 25 3 ∧ 0 ≤ 8 ∧ h244.2.2.2.2 + am_al 77 ≤ 175 ∧ am_call am_cod d 77 [.ref 25, .int (Int8.ofInt (-5)).toInt32] h244 (fun vv h' => pz_S 7 (some .boolean) am_r75 d Q 149 [(6, .int 1), (5, .int (pz_b (true))), (4, .int (Int32.ofInt 0)), (3, .int (sp_fa (tt T sz) s.1)), (0, .ref 4), (1, .ref 25), (2, .int dep)] (vv.toList ++ []) h') from ⟨by decide, Or.inl ⟨by decide, ex_25 (c_P y250.1)⟩, by decide, ex_lim (c_P y250.1) rfl, am_call.up (c_add_17 (a := t248.1) (C := t248.2) y250 (by
              have h7 := sp_pt_ok r _ _ e249
              have h8 := l.2.2.2
              unfold sp_le at h7
              dsimp only at h7
              omega) (fun h253 l254 => ?_)) (by omega)⟩)
          exact am_goX 2 (show (∃ ty, (some .boolean) = some ty ∧ narrow ty (.int (1)) = .int (1)) ∧ h253.2.2.2.2 = 175 ∧ _ from ⟨⟨.boolean, rfl, rfl⟩, ex_175 (c_P l254.1), hQ _ _ (cres_inr (s' := (t248.1, sp_em t248.2 ((Int8.ofInt (-5)).toInt32))) (by simp only [sp_pt, sp_b, sp_f, cond_true, cond_false, e2, e3, e238, e249, Bool.and_true, Bool.and_false, Bool.true_and, Bool.false_and, Bool.not_true, Bool.not_false]) rfl l254)⟩)
      | false =>
        refine am_goX 1 (show (¬ (pz_b (false)) = 0 → pz_S 7 (some .boolean) am_r75 d Q 69 [(5, .int (pz_b (false))), (4, .int (Int32.ofInt 0)), (3, .int (sp_fa (tt T sz) s.1)), (0, .ref 4), (1, .ref 25), (2, .int dep)] [] h) ∧ (¬ ¬ (pz_b (false)) = 0 → pz_S 7 (some .boolean) am_r75 d Q 48 [(5, .int (pz_b (false))), (4, .int (Int32.ofInt 0)), (3, .int (sp_fa (tt T sz) s.1)), (0, .ref 4), (1, .ref 25), (2, .int dep)] [] h) from ⟨fun hz => absurd hz (by decide), fun _ => ?_⟩)
        refine am_goX 2 (show am_sh h 4 = some (4, 0) ∧ pz_S 7 (some .boolean) am_r75 d Q 52 [(5, .int (pz_b (false))), (4, .int (Int32.ofInt 0)), (3, .int (sp_fa (tt T sz) s.1)), (0, .ref 4), (1, .ref 25), (2, .int dep)] [am_rf (h.2.2.1 4 0)] h from ⟨ex_4 (c_P l.1), ?_⟩)
        rw [ex_r4_0 (c_P l.1)]
        refine am_goX 2 (show am_rc h 1 7 ∧ 0 ≤ 8 ∧ h.2.2.2.2 + am_al 62 ≤ 175 ∧ am_call am_cod d 62 [.ref 1, .int (Int8.ofInt 40).toInt32] h (fun vv h' => pz_S 7 (some .boolean) am_r75 d Q 57 [(5, .int (pz_b (false))), (4, .int (Int32.ofInt 0)), (3, .int (sp_fa (tt T sz) s.1)), (0, .ref 4), (1, .ref 25), (2, .int dep)] (vv.toList ++ []) h') from ⟨Or.inl ⟨by decide, ex_1 (c_P l.1)⟩, by decide, ex_lim (c_P l.1) rfl, am_call.up (c_iss l.1 ?_) (by omega)⟩)
        cases e255 : sp_s (tt T sz) s.1 (Int8.ofInt 40).toInt32 with
        | true =>
          refine am_goX 1 (show (¬ (pz_b (true)) = 0 → pz_S 7 (some .boolean) am_r75 d Q 69 [(5, .int (pz_b (false))), (4, .int (Int32.ofInt 0)), (3, .int (sp_fa (tt T sz) s.1)), (0, .ref 4), (1, .ref 25), (2, .int dep)] [] h) ∧ (¬ ¬ (pz_b (true)) = 0 → pz_S 7 (some .boolean) am_r75 d Q 60 [(5, .int (pz_b (false))), (4, .int (Int32.ofInt 0)), (3, .int (sp_fa (tt T sz) s.1)), (0, .ref 4), (1, .ref 25), (2, .int dep)] [] h) from ⟨fun _ => ?_, fun hz => absurd (by decide) hz⟩)
          refine am_goX 3 (show (dep < (Int32.ofInt 5) → pz_S 7 (some .boolean) am_r75 d Q 83 [(5, .int (pz_b (false))), (4, .int (Int32.ofInt 0)), (3, .int (sp_fa (tt T sz) s.1)), (0, .ref 4), (1, .ref 25), (2, .int dep)] [] h) ∧ (¬ (dep < (Int32.ofInt 5)) → pz_S 7 (some .boolean) am_r75 d Q 74 [(5, .int (pz_b (false))), (4, .int (Int32.ofInt 0)), (3, .int (sp_fa (tt T sz) s.1)), (0, .ref 4), (1, .ref 25), (2, .int dep)] [] h) from ⟨fun _ => ?_, fun hz => absurd hdp hz⟩)
          refine am_goX 2 (show (¬ (Int32.ofInt 0) = 0 → pz_S 7 (some .boolean) am_r75 d Q 92 [(5, .int (pz_b (false))), (4, .int (Int32.ofInt 0)), (3, .int (sp_fa (tt T sz) s.1)), (0, .ref 4), (1, .ref 25), (2, .int dep)] [] h) ∧ (¬ ¬ (Int32.ofInt 0) = 0 → pz_S 7 (some .boolean) am_r75 d Q 88 [(5, .int (pz_b (false))), (4, .int (Int32.ofInt 0)), (3, .int (sp_fa (tt T sz) s.1)), (0, .ref 4), (1, .ref 25), (2, .int dep)] [] h) from ⟨fun hz => absurd hz (by decide), fun _ => ?_⟩)
          refine am_goX 2 (show ((sp_fa (tt T sz) s.1) = 0 → pz_S 7 (some .boolean) am_r75 d Q 121 [(5, .int (pz_b (false))), (4, .int (Int32.ofInt 0)), (3, .int (sp_fa (tt T sz) s.1)), (0, .ref 4), (1, .ref 25), (2, .int dep)] [] h) ∧ (¬ ((sp_fa (tt T sz) s.1) = 0) → pz_S 7 (some .boolean) am_r75 d Q 92 [(5, .int (pz_b (false))), (4, .int (Int32.ofInt 0)), (3, .int (sp_fa (tt T sz) s.1)), (0, .ref 4), (1, .ref 25), (2, .int dep)] [] h) from ⟨fun _ => ?_, fun hz => absurd e3a hz⟩)
          refine am_goX 2 (show am_sh h 4 = some (4, 0) ∧ pz_S 7 (some .boolean) am_r75 d Q 125 [(5, .int (pz_b (false))), (4, .int (Int32.ofInt 0)), (3, .int (sp_fa (tt T sz) s.1)), (0, .ref 4), (1, .ref 25), (2, .int dep)] [am_rf (h.2.2.1 4 0)] h from ⟨ex_4 (c_P l.1), ?_⟩)
          rw [ex_r4_0 (c_P l.1)]
          refine am_goX 1 (show am_rc h 1 7 ∧ 0 ≤ 8 ∧ h.2.2.2.2 + am_al 18 ≤ 175 ∧ am_call am_cod d 18 [.ref 1] h (fun vv h' => pz_S 7 (some .boolean) am_r75 d Q 128 [(5, .int (pz_b (false))), (4, .int (Int32.ofInt 0)), (3, .int (sp_fa (tt T sz) s.1)), (0, .ref 4), (1, .ref 25), (2, .int dep)] (vv.toList ++ []) h') from ⟨Or.inl ⟨by decide, ex_1 (c_P l.1)⟩, by decide, ex_lim (c_P l.1) rfl, am_call.up (c_step l.1 (sp_sn e255) (fun h256 m257 f258 => ?_)) (by omega)⟩)
          have l259 : cr h0 17 T sz ((s.1 + 1), s.2) h256 := cr_fr (a := s.1) (C := s.2) (by decide) l m257 (Nat.le_succ _) f258
          refine am_goX 2 (show ((pz_b (false)) = 0 → pz_S 7 (some .boolean) am_r75 d Q 152 [(5, .int (pz_b (false))), (4, .int (Int32.ofInt 0)), (3, .int (sp_fa (tt T sz) s.1)), (0, .ref 4), (1, .ref 25), (2, .int dep)] [] h256) ∧ (¬ ((pz_b (false)) = 0) → pz_S 7 (some .boolean) am_r75 d Q 133 [(5, .int (pz_b (false))), (4, .int (Int32.ofInt 0)), (3, .int (sp_fa (tt T sz) s.1)), (0, .ref 4), (1, .ref 25), (2, .int dep)] [] h256) from ⟨fun _ => ?_, fun hz => absurd (by decide) hz⟩)
          refine am_goX 6 (show am_rc h256 4 4 ∧ 0 ≤ 8 ∧ h256.2.2.2.2 + am_al 71 ≤ 175 ∧ am_call am_cod d 71 [.ref 4, .ref 25, .int (dep + (Int32.ofInt 1))] h256 (fun vv h' => pz_S 7 (some .boolean) am_r75 d Q 160 [(5, .int (pz_b (false))), (4, .int (Int32.ofInt 0)), (3, .int (sp_fa (tt T sz) s.1)), (0, .ref 4), (1, .ref 25), (2, .int dep)] (vv.toList ++ []) h') from ⟨Or.inl ⟨by decide, ex_4 (c_P l259.1)⟩, by decide, ex_lim (c_P l259.1) rfl, k71 _ _ _ l259 (fun v260 h261 x262 => ?_)⟩)
          rcases cres_cs x262 with ⟨F264, e266, rfl, y267⟩ | ⟨t265, e266, rfl, y267⟩
          ·
            refine am_goX 1 (show (0 = 0 → pz_S 7 (some .boolean) am_r75 d Q 179 [(5, .int (pz_b (false))), (4, .int (Int32.ofInt 0)), (3, .int (sp_fa (tt T sz) s.1)), (0, .ref 4), (1, .ref 25), (2, .int dep)] [] h261) ∧ (¬ (0 = 0) → pz_S 7 (some .boolean) am_r75 d Q 163 [(5, .int (pz_b (false))), (4, .int (Int32.ofInt 0)), (3, .int (sp_fa (tt T sz) s.1)), (0, .ref 4), (1, .ref 25), (2, .int dep)] [] h261) from ⟨fun _ => ?_, fun hz => absurd (by decide) hz⟩)
            exact am_goX 2 (show (∃ ty, (some .boolean) = some ty ∧ narrow ty (.int ((Int32.ofInt 0))) = .int ((Int32.ofInt 0))) ∧ h261.2.2.2.2 = 175 ∧ _ from ⟨⟨.boolean, rfl, rfl⟩, ex_175 y267.1, hQ _ _ (cres_inl (F := F264) (by simp only [sp_pt, sp_b, sp_f, cond_true, cond_false, e2, e3, e238, e255, e266, Bool.and_true, Bool.and_false, Bool.true_and, Bool.false_and, Bool.not_true, Bool.not_false]) rfl y267)⟩)
          ·
            refine am_goX 1 (show (1 = 0 → pz_S 7 (some .boolean) am_r75 d Q 179 [(5, .int (pz_b (false))), (4, .int (Int32.ofInt 0)), (3, .int (sp_fa (tt T sz) s.1)), (0, .ref 4), (1, .ref 25), (2, .int dep)] [] h261) ∧ (¬ (1 = 0) → pz_S 7 (some .boolean) am_r75 d Q 163 [(5, .int (pz_b (false))), (4, .int (Int32.ofInt 0)), (3, .int (sp_fa (tt T sz) s.1)), (0, .ref 4), (1, .ref 25), (2, .int dep)] [] h261) from ⟨fun hz => absurd hz (by decide), fun _ => ?_⟩)
            refine am_goX 2 (show am_sh h261 4 = some (4, 0) ∧ pz_S 7 (some .boolean) am_r75 d Q 167 [(5, .int (pz_b (false))), (4, .int (Int32.ofInt 0)), (3, .int (sp_fa (tt T sz) s.1)), (0, .ref 4), (1, .ref 25), (2, .int dep)] [am_rf (h261.2.2.1 4 0)] h261 from ⟨ex_4 (c_P y267.1), ?_⟩)
            rw [ex_r4_0 (c_P y267.1)]
            refine am_goX 2 (show am_rc h261 1 7 ∧ 0 ≤ 8 ∧ h261.2.2.2.2 + am_al 61 ≤ 175 ∧ am_call am_cod d 61 [.ref 1, .int (Int8.ofInt 41).toInt32] h261 (fun vv h' => pz_S 7 (some .boolean) am_r75 d Q 172 [(5, .int (pz_b (false))), (4, .int (Int32.ofInt 0)), (3, .int (sp_fa (tt T sz) s.1)), (0, .ref 4), (1, .ref 25), (2, .int dep)] (vv.toList ++ []) h') from ⟨Or.inl ⟨by decide, ex_1 (c_P y267.1)⟩, by decide, ex_lim (c_P y267.1) rfl, am_call.up (c_tS (s := t265) (by decide) y267 (fun v268 h269 x270 f271 => ?_)) (by omega)⟩)
            rcases cres_cs x270 with ⟨F272, e274, rfl, y275⟩ | ⟨t273, e274, rfl, y275⟩
            ·
              refine am_goX 1 (show (0 = 0 → pz_S 7 (some .boolean) am_r75 d Q 179 [(5, .int (pz_b (false))), (4, .int (Int32.ofInt 0)), (3, .int (sp_fa (tt T sz) s.1)), (0, .ref 4), (1, .ref 25), (2, .int dep)] [] h269) ∧ (¬ (0 = 0) → pz_S 7 (some .boolean) am_r75 d Q 175 [(5, .int (pz_b (false))), (4, .int (Int32.ofInt 0)), (3, .int (sp_fa (tt T sz) s.1)), (0, .ref 4), (1, .ref 25), (2, .int dep)] [] h269) from ⟨fun _ => ?_, fun hz => absurd (by decide) hz⟩)
              exact am_goX 2 (show (∃ ty, (some .boolean) = some ty ∧ narrow ty (.int ((Int32.ofInt 0))) = .int ((Int32.ofInt 0))) ∧ h269.2.2.2.2 = 175 ∧ _ from ⟨⟨.boolean, rfl, rfl⟩, ex_175 y275.1, hQ _ _ (cres_inl (F := F272) (by simp only [sp_pt, sp_b, sp_f, cond_true, cond_false, e2, e3, e238, e255, e266, e274, Bool.and_true, Bool.and_false, Bool.true_and, Bool.false_and, Bool.not_true, Bool.not_false]) rfl y275)⟩)
            ·
              refine am_goX 1 (show (1 = 0 → pz_S 7 (some .boolean) am_r75 d Q 179 [(5, .int (pz_b (false))), (4, .int (Int32.ofInt 0)), (3, .int (sp_fa (tt T sz) s.1)), (0, .ref 4), (1, .ref 25), (2, .int dep)] [] h269) ∧ (¬ (1 = 0) → pz_S 7 (some .boolean) am_r75 d Q 175 [(5, .int (pz_b (false))), (4, .int (Int32.ofInt 0)), (3, .int (sp_fa (tt T sz) s.1)), (0, .ref 4), (1, .ref 25), (2, .int dep)] [] h269) from ⟨fun hz => absurd hz (by decide), fun _ => ?_⟩)
              exact am_goX 3 (show (∃ ty, (some .boolean) = some ty ∧ narrow ty (.int ((Int32.ofInt 1))) = .int ((Int32.ofInt 1))) ∧ h269.2.2.2.2 = 175 ∧ _ from ⟨⟨.boolean, rfl, rfl⟩, ex_175 (c_P y275.1), hQ _ _ (cres_inr (s' := t273) (by simp only [sp_pt, sp_b, sp_f, cond_true, cond_false, e2, e3, e238, e255, e266, e274, Bool.and_true, Bool.and_false, Bool.true_and, Bool.false_and, Bool.not_true, Bool.not_false]) rfl y275)⟩)
        | false =>
          refine am_goX 1 (show (¬ (pz_b (false)) = 0 → pz_S 7 (some .boolean) am_r75 d Q 69 [(5, .int (pz_b (false))), (4, .int (Int32.ofInt 0)), (3, .int (sp_fa (tt T sz) s.1)), (0, .ref 4), (1, .ref 25), (2, .int dep)] [] h) ∧ (¬ ¬ (pz_b (false)) = 0 → pz_S 7 (some .boolean) am_r75 d Q 60 [(5, .int (pz_b (false))), (4, .int (Int32.ofInt 0)), (3, .int (sp_fa (tt T sz) s.1)), (0, .ref 4), (1, .ref 25), (2, .int dep)] [] h) from ⟨fun hz => absurd hz (by decide), fun _ => ?_⟩)
          refine am_goX 2 (show am_sh h 4 = some (4, 0) ∧ pz_S 7 (some .boolean) am_r75 d Q 64 [(5, .int (pz_b (false))), (4, .int (Int32.ofInt 0)), (3, .int (sp_fa (tt T sz) s.1)), (0, .ref 4), (1, .ref 25), (2, .int dep)] [am_rf (h.2.2.1 4 0)] h from ⟨ex_4 (c_P l.1), ?_⟩)
          rw [ex_r4_0 (c_P l.1)]
          refine am_goX 2 (show am_rc h 1 7 ∧ 0 ≤ 8 ∧ h.2.2.2.2 + am_al 52 ≤ 175 ∧ am_call am_cod d 52 [.ref 1, .int (Int32.ofInt 1)] h (fun vv h' => pz_S 7 (some .boolean) am_r75 d Q 68 [(5, .int (pz_b (false))), (4, .int (Int32.ofInt 0)), (3, .int (sp_fa (tt T sz) s.1)), (0, .ref 4), (1, .ref 25), (2, .int dep)] (vv.toList ++ []) h') from ⟨Or.inl ⟨by decide, ex_1 (c_P l.1)⟩, by decide, ex_lim (c_P l.1) rfl, am_call.up (c_refuse l.1 ?_) (by omega)⟩)
          have x276 := cr_x (s := s) (k := (Int32.ofInt 1)) (by decide) l (by decide)
          exact am_goX 1 (show (∃ ty, (some .boolean) = some ty ∧ narrow ty (.int ((Int32.ofInt 0))) = .int ((Int32.ofInt 0))) ∧ (am_wI h 1 7 (sp_ft (tt T sz) s.1 (Int32.ofInt 1))).2.2.2.2 = 175 ∧ _ from ⟨⟨.boolean, rfl, rfl⟩, ex_175 x276.1, hQ _ _ (cres_inl (F := sp_ft (tt T sz) s.1 (Int32.ofInt 1)) (by simp only [sp_pt, sp_b, sp_f, cond_true, cond_false, e2, e3, e238, e255, Bool.and_true, Bool.and_false, Bool.true_and, Bool.false_and, Bool.not_true, Bool.not_false]) rfl x276)⟩)
  ·
    have e2 : sp_k (tt T sz) s.1 2 = true := by rw [← hk]; exact decide_eq_true (Decidable.not_not.mp hc)
    clear hc
    refine am_goX 5 (show 4 < 7 ∧ am_sh h 4 = some (4, 0) ∧ pz_S 7 (some .boolean) am_r75 d Q 27 [(4, .int (Int32.ofInt 1)), (3, .int (sp_fa (tt T sz) s.1)), (0, .ref 4), (1, .ref 25), (2, .int dep)] [am_rf (h.2.2.1 4 0)] h from ⟨by decide, ex_4 (c_P l.1), ?_⟩)
    rw [ex_r4_0 (c_P l.1)]
    refine am_goX 2 (show am_rc h 1 7 ∧ 0 ≤ 8 ∧ h.2.2.2.2 + am_al 44 ≤ 175 ∧ am_call am_cod d 44 [.ref 1, .ref (4000000 + 18)] h (fun vv h' => pz_S 7 (some .boolean) am_r75 d Q 32 [(4, .int (Int32.ofInt 1)), (3, .int (sp_fa (tt T sz) s.1)), (0, .ref 4), (1, .ref 25), (2, .int dep)] (vv.toList ++ []) h') from ⟨Or.inl ⟨by decide, ex_1 (c_P l.1)⟩, by decide, ex_lim (c_P l.1) rfl, am_call.up (c_isw (by decide) wq_18 l.1 ?_) (by omega)⟩)
    refine am_goX 3 (show 5 < 7 ∧ (¬ (sp_fa (tt T sz) s.1) = 0 → pz_S 7 (some .boolean) am_r75 d Q 69 [(5, .int (pz_b (sp_w (tt T sz) s.1 19741))), (4, .int (Int32.ofInt 1)), (3, .int (sp_fa (tt T sz) s.1)), (0, .ref 4), (1, .ref 25), (2, .int dep)] [] h) ∧ (¬ ¬ (sp_fa (tt T sz) s.1) = 0 → pz_S 7 (some .boolean) am_r75 d Q 38 [(5, .int (pz_b (sp_w (tt T sz) s.1 19741))), (4, .int (Int32.ofInt 1)), (3, .int (sp_fa (tt T sz) s.1)), (0, .ref 4), (1, .ref 25), (2, .int dep)] [] h) from ⟨by decide, fun hc => ?_, fun hc => ?_⟩)
    ·
      have e3n : ¬ sp_fa (tt T sz) s.1 = 0 := hc
      have e3 : decide (sp_fa (tt T sz) s.1 = 0) = false := decide_eq_false e3n
      clear hc
      refine am_goX 3 (show (dep < (Int32.ofInt 5) → pz_S 7 (some .boolean) am_r75 d Q 83 [(5, .int (pz_b (sp_w (tt T sz) s.1 19741))), (4, .int (Int32.ofInt 1)), (3, .int (sp_fa (tt T sz) s.1)), (0, .ref 4), (1, .ref 25), (2, .int dep)] [] h) ∧ (¬ (dep < (Int32.ofInt 5)) → pz_S 7 (some .boolean) am_r75 d Q 74 [(5, .int (pz_b (sp_w (tt T sz) s.1 19741))), (4, .int (Int32.ofInt 1)), (3, .int (sp_fa (tt T sz) s.1)), (0, .ref 4), (1, .ref 25), (2, .int dep)] [] h) from ⟨fun _ => ?_, fun hz => absurd hdp hz⟩)
      refine am_goX 2 (show (¬ (Int32.ofInt 1) = 0 → pz_S 7 (some .boolean) am_r75 d Q 92 [(5, .int (pz_b (sp_w (tt T sz) s.1 19741))), (4, .int (Int32.ofInt 1)), (3, .int (sp_fa (tt T sz) s.1)), (0, .ref 4), (1, .ref 25), (2, .int dep)] [] h) ∧ (¬ ¬ (Int32.ofInt 1) = 0 → pz_S 7 (some .boolean) am_r75 d Q 88 [(5, .int (pz_b (sp_w (tt T sz) s.1 19741))), (4, .int (Int32.ofInt 1)), (3, .int (sp_fa (tt T sz) s.1)), (0, .ref 4), (1, .ref 25), (2, .int dep)] [] h) from ⟨fun _ => ?_, fun hz => absurd (by decide) hz⟩)
      refine am_goX 3 (show ((Int32.ofInt 1) = 0 → pz_S 7 (some .boolean) am_r75 d Q 108 [(5, .int (pz_b (sp_w (tt T sz) s.1 19741))), (4, .int (Int32.ofInt 1)), (3, .int (sp_fa (tt T sz) s.1)), (0, .ref 4), (1, .ref 25), (2, .int dep)] [.ref 25] h) ∧ (¬ ((Int32.ofInt 1) = 0) → pz_S 7 (some .boolean) am_r75 d Q 98 [(5, .int (pz_b (sp_w (tt T sz) s.1 19741))), (4, .int (Int32.ofInt 1)), (3, .int (sp_fa (tt T sz) s.1)), (0, .ref 4), (1, .ref 25), (2, .int dep)] [.ref 25] h) from ⟨fun hz => absurd hz (by decide), fun _ => ?_⟩)
      refine am_goX 2 (show am_sh h 4 = some (4, 0) ∧ pz_S 7 (some .boolean) am_r75 d Q 102 [(5, .int (pz_b (sp_w (tt T sz) s.1 19741))), (4, .int (Int32.ofInt 1)), (3, .int (sp_fa (tt T sz) s.1)), (0, .ref 4), (1, .ref 25), (2, .int dep)] [am_rf (h.2.2.1 4 0), .ref 25] h from ⟨ex_4 (c_P l.1), ?_⟩)
      rw [ex_r4_0 (c_P l.1)]
      refine am_goX 2 (show am_sh h 1 = some (7, 0) ∧ pz_S 7 (some .boolean) am_r75 d Q 109 [(5, .int (pz_b (sp_w (tt T sz) s.1 19741))), (4, .int (Int32.ofInt 1)), (3, .int (sp_fa (tt T sz) s.1)), (0, .ref 4), (1, .ref 25), (2, .int dep)] [.int (h.1 1 6), .ref 25] h from ⟨ex_1 (c_P l.1), ?_⟩)
      rw [c_nv l.1 e2]
      refine am_goX 1 (show am_rc h 25 3 ∧ 0 ≤ 8 ∧ h.2.2.2.2 + am_al 77 ≤ 175 ∧ am_call am_cod d 77 [.ref 25, .int (sp_v (tt T sz) s.1)] h (fun vv h' => pz_S 7 (some .boolean) am_r75 d Q 112 [(5, .int (pz_b (sp_w (tt T sz) s.1 19741))), (4, .int (Int32.ofInt 1)), (3, .int (sp_fa (tt T sz) s.1)), (0, .ref 4), (1, .ref 25), (2, .int dep)] (vv.toList ++ []) h') from ⟨Or.inl ⟨by decide, ex_25 (c_P l.1)⟩, by decide, ex_lim (c_P l.1) rfl, am_call.up (c_addn_17 l (cr_lt l (c_fan e3n)) (fun h277 m278 => ?_)) (by omega)⟩)
      refine am_goX 2 (show am_sh h277 4 = some (4, 0) ∧ pz_S 7 (some .boolean) am_r75 d Q 116 [(5, .int (pz_b (sp_w (tt T sz) s.1 19741))), (4, .int (Int32.ofInt 1)), (3, .int (sp_fa (tt T sz) s.1)), (0, .ref 4), (1, .ref 25), (2, .int dep)] [am_rf (h277.2.2.1 4 0)] h277 from ⟨ex_4 (c_P m278.1), ?_⟩)
      rw [ex_r4_0 (c_P m278.1)]
      refine am_goX 1 (show am_rc h277 1 7 ∧ 0 ≤ 8 ∧ h277.2.2.2.2 + am_al 18 ≤ 175 ∧ am_call am_cod d 18 [.ref 1] h277 (fun vv h' => pz_S 7 (some .boolean) am_r75 d Q 119 [(5, .int (pz_b (sp_w (tt T sz) s.1 19741))), (4, .int (Int32.ofInt 1)), (3, .int (sp_fa (tt T sz) s.1)), (0, .ref 4), (1, .ref 25), (2, .int dep)] (vv.toList ++ []) h') from ⟨Or.inl ⟨by decide, ex_1 (c_P m278.1)⟩, by decide, ex_lim (c_P m278.1) rfl, am_call.up (c_step m278.1 (c_fan e3n) (fun h279 m280 f281 => ?_)) (by omega)⟩)
      have l282 := cr_em2 (by decide) m278 m280 f281
      exact am_goX 2 (show (∃ ty, (some .boolean) = some ty ∧ narrow ty (.int ((Int32.ofInt 1))) = .int ((Int32.ofInt 1))) ∧ h279.2.2.2.2 = 175 ∧ _ from ⟨⟨.boolean, rfl, rfl⟩, ex_175 (c_P l282.1), hQ _ _ (cres_inr (s' := (s.1 + 1, sp_em s.2 (sp_v (tt T sz) s.1))) (by simp only [sp_pt, sp_b, sp_f, cond_true, cond_false, e2, e3, Bool.and_true, Bool.and_false, Bool.true_and, Bool.false_and, Bool.not_true, Bool.not_false]) rfl l282)⟩)
    ·
      have e3a : sp_fa (tt T sz) s.1 = 0 := Decidable.not_not.mp hc
      have e3 : decide (sp_fa (tt T sz) s.1 = 0) = true := decide_eq_true e3a
      clear hc
      refine am_goX 2 (show (¬ (Int32.ofInt 1) = 0 → pz_S 7 (some .boolean) am_r75 d Q 69 [(5, .int (pz_b (sp_w (tt T sz) s.1 19741))), (4, .int (Int32.ofInt 1)), (3, .int (sp_fa (tt T sz) s.1)), (0, .ref 4), (1, .ref 25), (2, .int dep)] [] h) ∧ (¬ ¬ (Int32.ofInt 1) = 0 → pz_S 7 (some .boolean) am_r75 d Q 43 [(5, .int (pz_b (sp_w (tt T sz) s.1 19741))), (4, .int (Int32.ofInt 1)), (3, .int (sp_fa (tt T sz) s.1)), (0, .ref 4), (1, .ref 25), (2, .int dep)] [] h) from ⟨fun _ => ?_, fun hz => absurd (by decide) hz⟩)
      refine am_goX 3 (show (dep < (Int32.ofInt 5) → pz_S 7 (some .boolean) am_r75 d Q 83 [(5, .int (pz_b (sp_w (tt T sz) s.1 19741))), (4, .int (Int32.ofInt 1)), (3, .int (sp_fa (tt T sz) s.1)), (0, .ref 4), (1, .ref 25), (2, .int dep)] [] h) ∧ (¬ (dep < (Int32.ofInt 5)) → pz_S 7 (some .boolean) am_r75 d Q 74 [(5, .int (pz_b (sp_w (tt T sz) s.1 19741))), (4, .int (Int32.ofInt 1)), (3, .int (sp_fa (tt T sz) s.1)), (0, .ref 4), (1, .ref 25), (2, .int dep)] [] h) from ⟨fun _ => ?_, fun hz => absurd hdp hz⟩)
      refine am_goX 2 (show (¬ (Int32.ofInt 1) = 0 → pz_S 7 (some .boolean) am_r75 d Q 92 [(5, .int (pz_b (sp_w (tt T sz) s.1 19741))), (4, .int (Int32.ofInt 1)), (3, .int (sp_fa (tt T sz) s.1)), (0, .ref 4), (1, .ref 25), (2, .int dep)] [] h) ∧ (¬ ¬ (Int32.ofInt 1) = 0 → pz_S 7 (some .boolean) am_r75 d Q 88 [(5, .int (pz_b (sp_w (tt T sz) s.1 19741))), (4, .int (Int32.ofInt 1)), (3, .int (sp_fa (tt T sz) s.1)), (0, .ref 4), (1, .ref 25), (2, .int dep)] [] h) from ⟨fun _ => ?_, fun hz => absurd (by decide) hz⟩)
      refine am_goX 3 (show ((Int32.ofInt 1) = 0 → pz_S 7 (some .boolean) am_r75 d Q 108 [(5, .int (pz_b (sp_w (tt T sz) s.1 19741))), (4, .int (Int32.ofInt 1)), (3, .int (sp_fa (tt T sz) s.1)), (0, .ref 4), (1, .ref 25), (2, .int dep)] [.ref 25] h) ∧ (¬ ((Int32.ofInt 1) = 0) → pz_S 7 (some .boolean) am_r75 d Q 98 [(5, .int (pz_b (sp_w (tt T sz) s.1 19741))), (4, .int (Int32.ofInt 1)), (3, .int (sp_fa (tt T sz) s.1)), (0, .ref 4), (1, .ref 25), (2, .int dep)] [.ref 25] h) from ⟨fun hz => absurd hz (by decide), fun _ => ?_⟩)
      refine am_goX 2 (show am_sh h 4 = some (4, 0) ∧ pz_S 7 (some .boolean) am_r75 d Q 102 [(5, .int (pz_b (sp_w (tt T sz) s.1 19741))), (4, .int (Int32.ofInt 1)), (3, .int (sp_fa (tt T sz) s.1)), (0, .ref 4), (1, .ref 25), (2, .int dep)] [am_rf (h.2.2.1 4 0), .ref 25] h from ⟨ex_4 (c_P l.1), ?_⟩)
      rw [ex_r4_0 (c_P l.1)]
      refine am_goX 2 (show am_sh h 1 = some (7, 0) ∧ pz_S 7 (some .boolean) am_r75 d Q 109 [(5, .int (pz_b (sp_w (tt T sz) s.1 19741))), (4, .int (Int32.ofInt 1)), (3, .int (sp_fa (tt T sz) s.1)), (0, .ref 4), (1, .ref 25), (2, .int dep)] [.int (h.1 1 6), .ref 25] h from ⟨ex_1 (c_P l.1), ?_⟩)
      rw [c_nv l.1 e2]
      refine am_goX 1 (show am_rc h 25 3 ∧ 0 ≤ 8 ∧ h.2.2.2.2 + am_al 77 ≤ 175 ∧ am_call am_cod d 77 [.ref 25, .int (sp_v (tt T sz) s.1)] h (fun vv h' => pz_S 7 (some .boolean) am_r75 d Q 112 [(5, .int (pz_b (sp_w (tt T sz) s.1 19741))), (4, .int (Int32.ofInt 1)), (3, .int (sp_fa (tt T sz) s.1)), (0, .ref 4), (1, .ref 25), (2, .int dep)] (vv.toList ++ []) h') from ⟨Or.inl ⟨by decide, ex_25 (c_P l.1)⟩, by decide, ex_lim (c_P l.1) rfl, am_call.up (c_addn_17 l (cr_lt l (sp_kn (by decide) e2)) (fun h283 m284 => ?_)) (by omega)⟩)
      refine am_goX 2 (show am_sh h283 4 = some (4, 0) ∧ pz_S 7 (some .boolean) am_r75 d Q 116 [(5, .int (pz_b (sp_w (tt T sz) s.1 19741))), (4, .int (Int32.ofInt 1)), (3, .int (sp_fa (tt T sz) s.1)), (0, .ref 4), (1, .ref 25), (2, .int dep)] [am_rf (h283.2.2.1 4 0)] h283 from ⟨ex_4 (c_P m284.1), ?_⟩)
      rw [ex_r4_0 (c_P m284.1)]
      refine am_goX 1 (show am_rc h283 1 7 ∧ 0 ≤ 8 ∧ h283.2.2.2.2 + am_al 18 ≤ 175 ∧ am_call am_cod d 18 [.ref 1] h283 (fun vv h' => pz_S 7 (some .boolean) am_r75 d Q 119 [(5, .int (pz_b (sp_w (tt T sz) s.1 19741))), (4, .int (Int32.ofInt 1)), (3, .int (sp_fa (tt T sz) s.1)), (0, .ref 4), (1, .ref 25), (2, .int dep)] (vv.toList ++ []) h') from ⟨Or.inl ⟨by decide, ex_1 (c_P m284.1)⟩, by decide, ex_lim (c_P m284.1) rfl, am_call.up (c_step m284.1 (sp_kn (by decide) e2) (fun h285 m286 f287 => ?_)) (by omega)⟩)
      have l288 := cr_em2 (by decide) m284 m286 f287
      exact am_goX 2 (show (∃ ty, (some .boolean) = some ty ∧ narrow ty (.int ((Int32.ofInt 1))) = .int ((Int32.ofInt 1))) ∧ h285.2.2.2.2 = 175 ∧ _ from ⟨⟨.boolean, rfl, rfl⟩, ex_175 (c_P l288.1), hQ _ _ (cres_inr (s' := (s.1 + 1, sp_em s.2 (sp_v (tt T sz) s.1))) (by simp only [sp_pt, sp_b, sp_f, cond_true, cond_false, e2, e3, Bool.and_true, Bool.and_false, Bool.true_and, Bool.false_and, Bool.not_true, Bool.not_false]) rfl l288)⟩)
theorem c_law_17 (hsz : 0 < sz ∨ True) : ∀ (r : Nat) (dep : Int32), r ≤ 5 → dep = Int32.ofInt (5 - r) → lw_c h0 17 T sz (7 + 5 * r) 75 dep (sp_pt (tt T sz) r) ∧ lw_c h0 17 T sz (11 + 5 * r) 71 dep (sp_wh (tt T sz) (sp_pt (tt T sz) r)) := by
  have up : ∀ (r : Nat) (dep : Int32) (d : Nat), 6 ≤ d → lw_c h0 17 T sz d 75 dep (sp_pt (tt T sz) r) → lw_c h0 17 T sz (d + 1 + 1 + 1 + 1) 71 dep (sp_wh (tt T sz) (sp_pt (tt T sz) r)) := fun r dep d hd k =>
    c_71_17 (by omega) (c_72_17 (by omega) (c_73_17 (by omega) (c_74_17 hd k (sp_pt_ok r)) (sp_p_ok (sp_pt_ok r))) (sp_su_ok (sp_pt_ok r))) (sp_te_ok (sp_pt_ok r))
  intro r
  induction r with
  | zero =>
    intro dep _ e
    have k : lw_c h0 17 T sz 7 75 dep (sp_pt (tt T sz) 0) := c_75z_17 (r := 0) (d := 6) (by omega) e
    exact ⟨k, up 0 dep 7 (by omega) k⟩
  | succ r ih =>
    intro dep hr e
    obtain ⟨i1, i2⟩ := ih (dep + Int32.ofInt 1) (by omega) (by
      rw [e, ← Int32.ofInt_add]
      congr 1
      omega)
    have hlt : dep < Int32.ofInt 5 := by
      rw [e]
      have h5 : r = 0 ∨ r = 1 ∨ r = 2 ∨ r = 3 ∨ r = 4 := by omega
      rcases h5 with rfl | rfl | rfl | rfl | rfl <;> decide
    have k : lw_c h0 17 T sz (7 + 5 * (r + 1)) 75 dep (sp_pt (tt T sz) (r + 1)) := lw_up (c_75s_17 (d := 11 + 5 * r) (by omega) hlt (lw_up i1 (by omega)) i2) (by omega)
    exact ⟨k, lw_up (up (r + 1) dep (7 + 5 * (r + 1)) (by omega) k) (by omega)⟩
end
section
/-! WRITES TO THE CANTON BEING READ -/
variable {h h0 : am_H} {c sz a o k : Nat} {T : Nat → Int32} {C : sp_C} {s : sp_S}
theorem cr_wf {v : Int32} (hc : 2 < c) (l : cr h0 c T sz s h) (hf : ((o = c + 2 ∨ o = c + 3) ∧ s.2.1.1 ≤ k) ∨ ((o = c + 5 ∨ o = c + 6 ∨ o = c + 7) ∧ s.2.2.1.1 ≤ k)) : cr h0 c T sz s (am_wI h o k v) := by
  obtain ⟨l1, ⟨⟨a1, a2, a3⟩, ⟨b1, b2, b3⟩, ⟨d1, d2, d3⟩, ⟨e1, e2, e3, e4⟩⟩, l3, l4⟩ := l
  refine ⟨ct_wI l1 (by omega), ⟨⟨?_, a2, fun i hi => ⟨(a3 i hi).1, ?_, ?_⟩⟩, ⟨?_, b2, fun i hi => ⟨(b3 i hi).1, ?_, ?_, ?_⟩⟩, ⟨?_, ?_, d3⟩, ⟨?_, ?_, e3, fun i hi => ?_⟩⟩, cq_wI l3 (by omega), l4⟩
  · rw [em_wn _ _ (by omega)]; exact a1
  · rw [em_wn _ _ (by omega)]; exact (a3 i hi).2.1
  · rw [em_wn _ _ (by omega)]; exact (a3 i hi).2.2
  · rw [em_wn _ _ (by omega)]; exact b1
  · rw [em_wn _ _ (by omega)]; exact (b3 i hi).2.1
  · rw [em_wn _ _ (by omega)]; exact (b3 i hi).2.2.1
  · rw [em_wn _ _ (by omega)]; exact (b3 i hi).2.2.2
  · rw [em_wn _ _ (by omega)]; exact d1
  · rw [em_wn _ _ (by omega)]; exact d2
  · rw [em_wn _ _ (by omega)]; exact e1
  · rw [em_wn _ _ (by omega)]; exact e2
  · rw [em_wn _ _ (by omega)]; exact e4 i hi
theorem cr_wg {v : Int64} (hc : 2 < c) (l : cr h0 c T sz s h) (hf : (o = c + 1 ∧ s.2.1.1 ≤ k) ∨ (o = c + 4 ∧ s.2.2.1.1 ≤ k)) : cr h0 c T sz s (am_wL h o k v) := by
  obtain ⟨l1, ⟨⟨a1, a2, a3⟩, ⟨b1, b2, b3⟩, ⟨d1, d2, d3⟩, ⟨e1, e2, e3, e4⟩⟩, l3, l4⟩ := l
  refine ⟨ct_wL l1 (by omega), ⟨⟨a1, a2, fun i hi => ⟨?_, (a3 i hi).2⟩⟩, ⟨b1, b2, fun i hi => ⟨?_, (b3 i hi).2⟩⟩, ⟨d1, d2, d3⟩, ⟨e1, e2, e3, e4⟩⟩, cq_wL l3 (by omega), l4⟩
  · rw [ex_ln (by omega)]; exact (a3 i hi).1
  · rw [ex_ln (by omega)]; exact (b3 i hi).1
/-- one more person -/
theorem cr_P {v : Int64} {kd lt : Int32} (hc : 2 < c) (l : cr h0 c T sz (a, C) h) (hn : C.1.1 < 6) (x1 : cwk v (h.2.1 (c + 1) C.1.1)) (x2 : h.1 (c + 2) C.1.1 = kd) (x3 : h.1 (c + 3) C.1.1 = lt) : cr h0 c T sz (a, sp_cP C v kd lt) (am_wI h c 0 (nI (C.1.1 + 1))) := by
  obtain ⟨l1, ⟨⟨a1, a2, a3⟩, ⟨b1, b2, b3⟩, ⟨d1, d2, d3⟩, ⟨e1, e2, e3, e4⟩⟩, l3, l4⟩ := l
  refine ⟨ct_wI l1 (by omega), ⟨⟨em_we _ _ _ _, (show C.1.1 + 1 ≤ 6 by omega), fun i hi => ?_⟩, ⟨?_, b2, fun i hi => ⟨(b3 i hi).1, ?_, ?_, ?_⟩⟩, ⟨?_, ?_, d3⟩, ⟨?_, ?_, e3, fun i hi => ?_⟩⟩, cq_wI l3 (by omega), l4⟩
  · have hi : i < C.1.1 + 1 := hi
    show cwk (if i = C.1.1 then v else C.1.2.1 i) (h.2.1 (c + 1) i) ∧ _ = (if i = C.1.1 then kd else C.1.2.2.1 i) ∧ _ = (if i = C.1.1 then lt else C.1.2.2.2 i)
    rw [em_wn _ _ (by omega), em_wn _ _ (by omega)]
    by_cases ei : i = C.1.1
    · rw [if_pos ei, if_pos ei, if_pos ei, ei]
      exact ⟨x1, x2, x3⟩
    · rw [if_neg ei, if_neg ei, if_neg ei]
      exact a3 i (show i < C.1.1 by omega)
  · rw [em_wn _ _ (by omega)]; exact b1
  · rw [em_wn _ _ (by omega)]; exact (b3 i hi).2.1
  · rw [em_wn _ _ (by omega)]; exact (b3 i hi).2.2.1
  · rw [em_wn _ _ (by omega)]; exact (b3 i hi).2.2.2
  · rw [em_wn _ _ (by omega)]; exact d1
  · rw [em_wn _ _ (by omega)]; exact d2
  · rw [em_wn _ _ (by omega)]; exact e1
  · rw [em_wn _ _ (by omega)]; exact e2
  · rw [em_wn _ _ (by omega)]; exact e4 i hi
/-- one more event -/
theorem cr_E {v : Int64} {on nd : Int32} (hc : 2 < c) (l : cr h0 c T sz (a, C) h) (hn : C.2.1.1 < 5) (x1 : cwk v (h.2.1 (c + 4) C.2.1.1)) (x2 : h.1 (c + 5) C.2.1.1 = on) (x3 : h.1 (c + 6) C.2.1.1 = nd) (x4 : h.1 (c + 7) C.2.1.1 = 0) : cr h0 c T sz (a, sp_cE C v on nd) (am_wI h c 4 (nI (C.2.1.1 + 1))) := by
  obtain ⟨l1, ⟨⟨a1, a2, a3⟩, ⟨b1, b2, b3⟩, ⟨d1, d2, d3⟩, ⟨e1, e2, e3, e4⟩⟩, l3, l4⟩ := l
  refine ⟨ct_wI l1 (by omega), ⟨⟨?_, a2, fun i hi => ⟨(a3 i hi).1, ?_, ?_⟩⟩, ⟨em_we _ _ _ _, (show C.2.1.1 + 1 ≤ 5 by omega), fun i hi => ?_⟩, ⟨?_, ?_, d3⟩, ⟨?_, ?_, e3, fun i hi => ?_⟩⟩, cq_wI l3 (by omega), l4⟩
  · rw [em_wn _ _ (by omega)]; exact a1
  · rw [em_wn _ _ (by omega)]; exact (a3 i hi).2.1
  · rw [em_wn _ _ (by omega)]; exact (a3 i hi).2.2
  · have hi : i < C.2.1.1 + 1 := hi
    show cwk (if i = C.2.1.1 then v else C.2.1.2.1 i) (h.2.1 (c + 4) i) ∧ _ = (if i = C.2.1.1 then on else C.2.1.2.2.1 i) ∧ _ = (if i = C.2.1.1 then nd else C.2.1.2.2.2.1 i) ∧ _ = (if i = C.2.1.1 then 0 else C.2.1.2.2.2.2 i)
    rw [em_wn _ _ (by omega), em_wn _ _ (by omega), em_wn _ _ (by omega)]
    by_cases ei : i = C.2.1.1
    · rw [if_pos ei, if_pos ei, if_pos ei, if_pos ei, ei]
      exact ⟨x1, x2, x3, x4⟩
    · rw [if_neg ei, if_neg ei, if_neg ei, if_neg ei]
      exact b3 i (show i < C.2.1.1 by omega)
  · rw [em_wn _ _ (by omega)]; exact d1
  · rw [em_wn _ _ (by omega)]; exact d2
  · rw [em_wn _ _ (by omega)]; exact e1
  · rw [em_wn _ _ (by omega)]; exact e2
  · rw [em_wn _ _ (by omega)]; exact e4 i hi
/-- a person is to come -/
theorem cr_G {e p : Nat} (hc : 2 < c) (l : cr h0 c T sz (a, C) h) (he : e < C.2.1.1) : cr h0 c T sz (a, sp_cG C e p) (am_wI h (c + 7) e (C.2.1.2.2.2.2 e ||| ((Int32.ofInt 1) <<< (nI p &&& 31)))) := by
  obtain ⟨l1, ⟨⟨a1, a2, a3⟩, ⟨b1, b2, b3⟩, ⟨d1, d2, d3⟩, ⟨e1, e2, e3, e4⟩⟩, l3, l4⟩ := l
  refine ⟨ct_wI l1 (by omega), ⟨⟨?_, a2, fun i hi => ⟨(a3 i hi).1, ?_, ?_⟩⟩, ⟨?_, b2, fun i hi => ⟨(b3 i hi).1, ?_, ?_, ?_⟩⟩, ⟨?_, ?_, d3⟩, ⟨?_, ?_, e3, fun i hi => ?_⟩⟩, cq_wI l3 (by omega), l4⟩
  · rw [em_wn _ _ (by omega)]; exact a1
  · rw [em_wn _ _ (by omega)]; exact (a3 i hi).2.1
  · rw [em_wn _ _ (by omega)]; exact (a3 i hi).2.2
  · rw [em_wn _ _ (by omega)]; exact b1
  · rw [em_wn _ _ (by omega)]; exact (b3 i hi).2.1
  · rw [em_wn _ _ (by omega)]; exact (b3 i hi).2.2.1
  · show _ = (if i = e then _ else C.2.1.2.2.2.2 i)
    by_cases ei : i = e
    · rw [if_pos ei, ei]
      exact em_we _ _ _ _
    · rw [if_neg ei, em_wn _ _ (by omega)]
      exact (b3 i hi).2.2.2
  · rw [em_wn _ _ (by omega)]; exact d1
  · rw [em_wn _ _ (by omega)]; exact d2
  · rw [em_wn _ _ (by omega)]; exact e1
  · rw [em_wn _ _ (by omega)]; exact e2
  · rw [em_wn _ _ (by omega)]; exact e4 i hi
/-- snow -/
theorem cr_S9 (hc : 2 < c) (l : cr h0 c T sz (a, C) h) : cr h0 c T sz (a, sp_cS C true C.2.2.1.2) (am_wI h c 9 1) := by
  obtain ⟨l1, ⟨⟨a1, a2, a3⟩, ⟨b1, b2, b3⟩, ⟨d1, d2, d3⟩, ⟨e1, e2, e3, e4⟩⟩, l3, l4⟩ := l
  refine ⟨ct_wI l1 (by omega), ⟨⟨?_, a2, fun i hi => ⟨(a3 i hi).1, ?_, ?_⟩⟩, ⟨?_, b2, fun i hi => ⟨(b3 i hi).1, ?_, ?_, ?_⟩⟩, ⟨em_we _ _ _ _, ?_, ⟨fun z => (by cases z), d3.2⟩⟩, ⟨?_, ?_, e3, fun i hi => ?_⟩⟩, cq_wI l3 (by omega), l4⟩
  · rw [em_wn _ _ (by omega)]; exact a1
  · rw [em_wn _ _ (by omega)]; exact (a3 i hi).2.1
  · rw [em_wn _ _ (by omega)]; exact (a3 i hi).2.2
  · rw [em_wn _ _ (by omega)]; exact b1
  · rw [em_wn _ _ (by omega)]; exact (b3 i hi).2.1
  · rw [em_wn _ _ (by omega)]; exact (b3 i hi).2.2.1
  · rw [em_wn _ _ (by omega)]; exact (b3 i hi).2.2.2
  · rw [em_wn _ _ (by omega)]; exact d2
  · rw [em_wn _ _ (by omega)]; exact e1
  · rw [em_wn _ _ (by omega)]; exact e2
  · rw [em_wn _ _ (by omega)]; exact e4 i hi
theorem cr_S10 {v : Int32} (hc : 2 < c) (hv : sp_sK (C.2.2.1.1, v)) (l : cr h0 c T sz (a, C) h) : cr h0 c T sz (a, sp_cS C C.2.2.1.1 v) (am_wI h c 10 v) := by
  obtain ⟨l1, ⟨⟨a1, a2, a3⟩, ⟨b1, b2, b3⟩, ⟨d1, d2, d3⟩, ⟨e1, e2, e3, e4⟩⟩, l3, l4⟩ := l
  refine ⟨ct_wI l1 (by omega), ⟨⟨?_, a2, fun i hi => ⟨(a3 i hi).1, ?_, ?_⟩⟩, ⟨?_, b2, fun i hi => ⟨(b3 i hi).1, ?_, ?_, ?_⟩⟩, ⟨?_, em_we _ _ _ _, hv⟩, ⟨?_, ?_, e3, fun i hi => ?_⟩⟩, cq_wI l3 (by omega), l4⟩
  · rw [em_wn _ _ (by omega)]; exact a1
  · rw [em_wn _ _ (by omega)]; exact (a3 i hi).2.1
  · rw [em_wn _ _ (by omega)]; exact (a3 i hi).2.2
  · rw [em_wn _ _ (by omega)]; exact b1
  · rw [em_wn _ _ (by omega)]; exact (b3 i hi).2.1
  · rw [em_wn _ _ (by omega)]; exact (b3 i hi).2.2.1
  · rw [em_wn _ _ (by omega)]; exact (b3 i hi).2.2.2
  · rw [em_wn _ _ (by omega)]; exact d1
  · rw [em_wn _ _ (by omega)]; exact e1
  · rw [em_wn _ _ (by omega)]; exact e2
  · rw [em_wn _ _ (by omega)]; exact e4 i hi
theorem cr_L (hc : 2 < c) (l : cr h0 c T sz (a, C) h) : cr h0 c T sz (a, sp_cL C) (am_wI h c 11 1) := by
  obtain ⟨l1, ⟨⟨a1, a2, a3⟩, ⟨b1, b2, b3⟩, ⟨d1, d2, d3⟩, ⟨e1, e2, e3, e4⟩⟩, l3, l4⟩ := l
  refine ⟨ct_wI l1 (by omega), ⟨⟨?_, a2, fun i hi => ⟨(a3 i hi).1, ?_, ?_⟩⟩, ⟨?_, b2, fun i hi => ⟨(b3 i hi).1, ?_, ?_, ?_⟩⟩, ⟨?_, ?_, d3⟩, ⟨em_we _ _ _ _, ?_, e3, fun i hi => ?_⟩⟩, cq_wI l3 (by omega), l4⟩
  · rw [em_wn _ _ (by omega)]; exact a1
  · rw [em_wn _ _ (by omega)]; exact (a3 i hi).2.1
  · rw [em_wn _ _ (by omega)]; exact (a3 i hi).2.2
  · rw [em_wn _ _ (by omega)]; exact b1
  · rw [em_wn _ _ (by omega)]; exact (b3 i hi).2.1
  · rw [em_wn _ _ (by omega)]; exact (b3 i hi).2.2.1
  · rw [em_wn _ _ (by omega)]; exact (b3 i hi).2.2.2
  · rw [em_wn _ _ (by omega)]; exact d1
  · rw [em_wn _ _ (by omega)]; exact d2
  · rw [em_wn _ _ (by omega)]; exact e2
  · rw [em_wn _ _ (by omega)]; exact e4 i hi
theorem sp_fd_lt {f : Nat → Int64} {v : Int64} : ∀ {m i p : Nat}, sp_fd f v m i = some p → i ≤ p ∧ p < i + m ∧ f p = v
  | 0, _, _, e => by cases e
  | m + 1, i, p, e => by
    unfold sp_fd at e
    cases hb : decide (f i = v) with
    | true =>
      rw [hb] at e
      cases e
      exact ⟨Nat.le_refl _, by omega, of_decide_eq_true hb⟩
    | false =>
      rw [hb] at e
      have := sp_fd_lt e
      exact ⟨by omega, by omega, this.2.2⟩
/-- a number, or -1 -/
def sp_o (r : Option Nat) : Int32 := match r with
  | some p => nI p
  | none => Int32.ofInt (-1)
theorem nI_m1 {p : Nat} (hp : p < 100) : ¬ nI p = Int32.ofInt (-1) := by
  intro e
  have e1 := congrArg Int32.toInt e
  rw [nI_toInt (by omega)] at e1
  have e2 : ((Int32.ofInt (-1)).toInt) = -1 := by decide
  omega
theorem fr1_I {h1 : am_H} {v : Int32} (f : fr1 h h1) (ho : ¬ o = 1) (x : h.1 o k = v) : h1.1 o k = v := (f.2 o k ho).1.trans x
theorem fr1_W {h1 : am_H} {v : Int64} (f : fr1 h h1) (ho : ¬ o = 1) (x : cwk v (h.2.1 o k)) : cwk v (h1.2.1 o k) := by
  rw [(f.2 o k ho).2]
  exact x
theorem sp_bit28 {n : Nat} (hn : n < 28) : nI n - nI n / (Int8.ofInt 28).toInt32 * (Int8.ofInt 28).toInt32 = nI n := by
  have key : ∀ n, n < 28 → nI n - nI n / (Int8.ofInt 28).toInt32 * (Int8.ofInt 28).toInt32 = nI n := by decide +kernel
  exact key n hn
end
section
/-! BITS BY NUMBERS -/
def bN (x : Int32) : Nat := x.toBitVec.toNat
theorem bN_and (a b : Int32) : bN (a &&& b) = bN a &&& bN b := by
  unfold bN
  rw [Int32.toBitVec_and, BitVec.toNat_and]
theorem bN_or (a b : Int32) : bN (a ||| b) = bN a ||| bN b := by
  unfold bN
  rw [Int32.toBitVec_or, BitVec.toNat_or]
theorem bN_add (a b : Int32) : bN (a + b) = (bN a + bN b) % 4294967296 := by
  unfold bN
  rw [Int32.toBitVec_add, BitVec.toNat_add]
theorem bN_sub (a b : Int32) : bN (a - b) = (4294967296 - bN b + bN a) % 4294967296 := by
  unfold bN
  rw [Int32.toBitVec_sub, BitVec.toNat_sub]
theorem bN_lt (a : Int32) : bN a < 4294967296 := a.toBitVec.isLt
theorem bN_inj {a b : Int32} (e : bN a = bN b) : a = b := Int32.toBitVec_inj.mp (BitVec.eq_of_toNat_eq e)
theorem bN_nI {n : Nat} (hn : n < 4294967296) : bN (nI n) = n := by
  show (BitVec.ofNat 32 n).toNat = n
  rw [BitVec.toNat_ofNat]
  exact Nat.mod_eq_of_lt hn
theorem bN_u1 (x : Int32) : bN ((x.toUInt32 >>> ((Int32.ofInt 1).toUInt32 &&& Int32.toUInt32 31)).toInt32) = bN x / 2 := by
  show (x.toBitVec >>> (1 : Nat)).toNat = _
  rw [BitVec.toNat_ushiftRight, Nat.shiftRight_eq_div_pow]
  rfl
theorem bN_u2 (x : Int32) : bN ((x.toUInt32 >>> ((Int32.ofInt 2).toUInt32 &&& Int32.toUInt32 31)).toInt32) = bN x / 4 := by
  show (x.toBitVec >>> (2 : Nat)).toNat = _
  rw [BitVec.toNat_ushiftRight, Nat.shiftRight_eq_div_pow]
  rfl
theorem bN_u4 (x : Int32) : bN ((x.toUInt32 >>> ((Int32.ofInt 4).toUInt32 &&& Int32.toUInt32 31)).toInt32) = bN x / 16 := by
  show (x.toBitVec >>> (4 : Nat)).toNat = _
  rw [BitVec.toNat_ushiftRight, Nat.shiftRight_eq_div_pow]
  rfl
theorem bN_u8 (x : Int32) : bN ((x.toUInt32 >>> (((Int8.ofInt 8).toInt32).toUInt32 &&& Int32.toUInt32 31)).toInt32) = bN x / 256 := by
  show (x.toBitVec >>> (8 : Nat)).toNat = _
  rw [BitVec.toNat_ushiftRight, Nat.shiftRight_eq_div_pow]
  rfl
theorem bN_u16 (x : Int32) : bN ((x.toUInt32 >>> (((Int8.ofInt 16).toInt32).toUInt32 &&& Int32.toUInt32 31)).toInt32) = bN x / 65536 := by
  show (x.toBitVec >>> (16 : Nat)).toNat = _
  rw [BitVec.toNat_ushiftRight, Nat.shiftRight_eq_div_pow]
  rfl
/-- four bytes -/
def cb (a b c d : Nat) : Nat := 256 * (256 * (256 * d + c) + b) + a
theorem and256 {a b m n : Nat} (hb : b < 256) (hn : n < 256) : (256 * a + b) &&& (256 * m + n) = 256 * (a &&& m) + (b &&& n) := by
  apply Nat.eq_of_testBit_eq
  intro i
  have hbn : b &&& n < 2 ^ 8 := Nat.and_lt_two_pow b (show n < 2 ^ 8 by omega)
  rw [Nat.testBit_and, show (256 : Nat) = 2 ^ 8 from rfl, Nat.testBit_two_pow_mul_add a (show b < 2 ^ 8 by omega), Nat.testBit_two_pow_mul_add m (show n < 2 ^ 8 by omega), Nat.testBit_two_pow_mul_add (a &&& m) hbn]
  by_cases hi : i < 8
  · simp only [if_pos hi, Nat.testBit_and]
  · simp only [if_neg hi, Nat.testBit_and]
theorem and_cb {a b c d m1 m2 m3 m4 : Nat} (ha : a < 256) (hb : b < 256) (hc : c < 256) (h1 : m1 < 256) (h2 : m2 < 256) (h3 : m3 < 256) : cb a b c d &&& cb m1 m2 m3 m4 = cb (a &&& m1) (b &&& m2) (c &&& m3) (d &&& m4) := by
  unfold cb
  rw [and256 ha h1, and256 hb h2, and256 hc h3]
def q1 (b : Nat) : Nat := b - ((b / 2) &&& 85)
def q2 (a : Nat) : Nat := (a &&& 51) + ((a / 4) &&& 51)
def q3 (v : Nat) : Nat := (v + v / 16) &&& 15
def tbN (n : Nat) : Nat → Nat
  | 0 => 0
  | m + 1 => tbN n m + (n.testBit m).toNat
theorem q_tab : ∀ b, b < 256 → ((b / 2) &&& 85) ≤ b ∧ q1 b < 256 ∧ (q1 b &&& 51) + ((q1 b / 4) &&& 51) ≤ 68 ∧ q2 (q1 b) ≤ 68 ∧ q2 (q1 b) % 16 ≤ 4 ∧ q3 (q2 (q1 b)) = tbN b 8 ∧ tbN b 8 ≤ 8 := by decide +kernel
theorem q_85 : ∀ a, a < 256 → ∀ r, r < 2 → (a / 2 + 128 * r) &&& 85 = (a / 2) &&& 85 := by decide +kernel
theorem q_51 : ∀ a, a < 256 → ∀ r, r < 4 → (a / 4 + 64 * r) &&& 51 = (a / 4) &&& 51 := by decide +kernel
theorem q_15 : ∀ v, v < 69 → ∀ r, r < 5 → (v + v / 16 + 16 * r) &&& 15 = (v + v / 16) &&& 15 := by decide +kernel
theorem cb_2 (a b c d : Nat) (ha : a < 256) (hb : b < 256) (hc : c < 256) : cb a b c d / 2 = cb (a / 2 + 128 * (b % 2)) (b / 2 + 128 * (c % 2)) (c / 2 + 128 * (d % 2)) (d / 2) := by
  unfold cb
  omega
theorem cb_4 (a b c d : Nat) (ha : a < 256) (hb : b < 256) (hc : c < 256) : cb a b c d / 4 = cb (a / 4 + 64 * (b % 4)) (b / 4 + 64 * (c % 4)) (c / 4 + 64 * (d % 4)) (d / 4) := by
  unfold cb
  omega
theorem bc_1 {a b c d : Nat} (ha : a < 256) (hb : b < 256) (hc : c < 256) (hd : d < 256) : (4294967296 - (cb a b c d / 2 &&& cb 85 85 85 85) + cb a b c d) % 4294967296 = cb (q1 a) (q1 b) (q1 c) (q1 d) := by
  have e : cb a b c d / 2 &&& cb 85 85 85 85 = cb ((a / 2) &&& 85) ((b / 2) &&& 85) ((c / 2) &&& 85) ((d / 2) &&& 85) := by
    rw [cb_2 a b c d ha hb hc, and_cb (by omega) (by omega) (by omega) (by decide) (by decide) (by decide), q_85 a ha _ (by omega), q_85 b hb _ (by omega), q_85 c hc _ (by omega)]
  rw [e]
  have t1 := (q_tab a ha).1
  have t2 := (q_tab b hb).1
  have t3 := (q_tab c hc).1
  have t4 := (q_tab d hd).1
  unfold q1 cb
  generalize (a / 2) &&& 85 = x1 at *
  generalize (b / 2) &&& 85 = x2 at *
  generalize (c / 2) &&& 85 = x3 at *
  generalize (d / 2) &&& 85 = x4 at *
  omega
theorem bc_2 {a b c d : Nat} (ha : a < 256) (hb : b < 256) (hc : c < 256) (h1 : (a &&& 51) + ((a / 4) &&& 51) ≤ 68) (h2 : (b &&& 51) + ((b / 4) &&& 51) ≤ 68) (h3 : (c &&& 51) + ((c / 4) &&& 51) ≤ 68) (h4 : (d &&& 51) + ((d / 4) &&& 51) ≤ 68) : ((cb a b c d &&& cb 51 51 51 51) + (cb a b c d / 4 &&& cb 51 51 51 51)) % 4294967296 = cb (q2 a) (q2 b) (q2 c) (q2 d) := by
  rw [cb_4 a b c d ha hb hc, and_cb ha hb hc (by decide) (by decide) (by decide), and_cb (by omega) (by omega) (by omega) (by decide) (by decide) (by decide), q_51 a ha _ (by omega), q_51 b hb _ (by omega), q_51 c hc _ (by omega)]
  unfold q2 cb
  generalize a &&& 51 = x1 at *
  generalize b &&& 51 = x2 at *
  generalize c &&& 51 = x3 at *
  generalize d &&& 51 = x4 at *
  generalize (a / 4) &&& 51 = y1 at *
  generalize (b / 4) &&& 51 = y2 at *
  generalize (c / 4) &&& 51 = y3 at *
  generalize (d / 4) &&& 51 = y4 at *
  omega
theorem bc_3 {a b c d : Nat} (ha : a ≤ 68) (hb : b ≤ 68) (hc : c ≤ 68) (hd : d ≤ 68) (h2 : b % 16 ≤ 4) (h3 : c % 16 ≤ 4) (h4 : d % 16 ≤ 4) : (cb a b c d + cb a b c d / 16) % 4294967296 &&& cb 15 15 15 15 = cb (q3 a) (q3 b) (q3 c) (q3 d) := by
  have e : (cb a b c d + cb a b c d / 16) % 4294967296 = cb (a + a / 16 + 16 * (b % 16)) (b + b / 16 + 16 * (c % 16)) (c + c / 16 + 16 * (d % 16)) (d + d / 16) := by
    unfold cb
    omega
  rw [e, and_cb (by omega) (by omega) (by omega) (by decide) (by decide) (by decide), q_15 a (by omega) _ (by omega), q_15 b (by omega) _ (by omega), q_15 c (by omega) _ (by omega)]
  rfl
theorem bc_4 {a b c d : Nat} (ha : a ≤ 8) (hb : b ≤ 8) (hc : c ≤ 8) (hd : d ≤ 8) : (((cb a b c d + cb a b c d / 256) % 4294967296 + (cb a b c d + cb a b c d / 256) % 4294967296 / 65536) % 4294967296) &&& 63 = a + b + c + d := by
  have e1 : (cb a b c d + cb a b c d / 256) % 4294967296 = cb (a + b) (b + c) (c + d) d := by
    unfold cb
    omega
  have e2 : (cb (a + b) (b + c) (c + d) d + cb (a + b) (b + c) (c + d) d / 65536) % 4294967296 = cb (a + b + (c + d)) (b + c + d) (c + d) d := by
    clear e1
    have e3 : cb (a + b) (b + c) (c + d) d / 65536 = 256 * d + (c + d) := by
      unfold cb
      omega
    rw [e3]
    have e4 : cb (a + b) (b + c) (c + d) d + (256 * d + (c + d)) < 4294967296 := by
      unfold cb
      omega
    rw [Nat.mod_eq_of_lt e4]
    unfold cb
    omega
  rw [show (63 : Nat) = 2 ^ 6 - 1 from rfl, Nat.and_two_pow_sub_one_eq_mod, e1, e2]
  unfold cb
  omega
theorem tbN_div (n : Nat) (k : Nat) : ∀ m, tbN n (k + m) = tbN n k + tbN (n / 2 ^ k) m
  | 0 => rfl
  | m + 1 => by
    show tbN n (k + m) + (n.testBit (k + m)).toNat = tbN n k + (tbN (n / 2 ^ k) m + ((n / 2 ^ k).testBit m).toNat)
    rw [tbN_div n k m, Nat.testBit_div_two_pow, Nat.add_comm m k, Nat.add_assoc]
theorem tbN_mod (n k : Nat) : ∀ m, m ≤ k → tbN (n % 2 ^ k) m = tbN n m
  | 0, _ => rfl
  | m + 1, hm => by
    show tbN (n % 2 ^ k) m + ((n % 2 ^ k).testBit m).toNat = tbN n m + (n.testBit m).toNat
    rw [tbN_mod n k m (by omega), Nat.testBit_mod_two_pow, decide_eq_true (show m < k by omega), Bool.true_and]
theorem tbN_28 {n : Nat} (hn : n < 268435456) : tbN n 28 = tbN (n % 256) 8 + tbN (n / 256 % 256) 8 + tbN (n / 65536 % 256) 8 + tbN (n / 16777216) 8 := by
  have h1 := tbN_div n 8 20
  have h2 := tbN_div (n / 2 ^ 8) 8 12
  have h3 := tbN_div (n / 2 ^ 8 / 2 ^ 8) 8 4
  have h4 := tbN_mod n 8 8 (Nat.le_refl 8)
  have h5 := tbN_mod (n / 2 ^ 8) 8 8 (Nat.le_refl 8)
  have h6 := tbN_mod (n / 2 ^ 8 / 2 ^ 8) 8 8 (Nat.le_refl 8)
  have k16 : ∀ b, b < 16 → tbN b 4 = tbN b 8 := by decide +kernel
  have h7 := k16 (n / 2 ^ 8 / 2 ^ 8 / 2 ^ 8) (by omega)
  have e1 : n / 2 ^ 8 = n / 256 := rfl
  have e2 : n / 2 ^ 8 / 2 ^ 8 = n / 65536 := by omega
  have e3 : n / 2 ^ 8 / 2 ^ 8 / 2 ^ 8 = n / 16777216 := by omega
  rw [e3] at h7 h3
  rw [e2] at h3 h6 h2
  rw [e1] at h1 h2 h5
  have h4 : tbN (n % 256) 8 = tbN n 8 := h4
  have h5 : tbN (n / 256 % 256) 8 = tbN (n / 256) 8 := h5
  have h6 : tbN (n / 65536 % 256) 8 = tbN (n / 65536) 8 := h6
  have h1 : tbN n 28 = tbN n 8 + tbN (n / 256) 20 := h1
  have h2 : tbN (n / 256) 20 = tbN (n / 256) 8 + tbN (n / 65536) 12 := h2
  have h3 : tbN (n / 65536) 12 = tbN (n / 65536) 8 + tbN (n / 16777216) 4 := h3
  omega
theorem bc_N {n y1 y2 y3 y4 y5 y6 : Nat} (hn : n < 268435456) (e1 : y1 = (4294967296 - (n / 2 &&& 1431655765) + n) % 4294967296) (e2 : y2 = ((y1 &&& 858993459) + (y1 / 4 &&& 858993459)) % 4294967296) (e3 : y3 = (y2 + y2 / 16) % 4294967296 &&& 252645135) (e4 : y4 = (y3 + y3 / 256) % 4294967296) (e5 : y5 = (y4 + y4 / 65536) % 4294967296) (e6 : y6 = y5 &&& 63) : y6 = tbN n 28 := by
  have en : n = cb (n % 256) (n / 256 % 256) (n / 65536 % 256) (n / 16777216) := by
    unfold cb
    omega
  rw [tbN_28 hn]
  have b0 : n % 256 < 256 := by omega
  have b1 : n / 256 % 256 < 256 := by omega
  have b2 : n / 65536 % 256 < 256 := by omega
  have b3 : n / 16777216 < 256 := by omega
  generalize n % 256 = x0 at *
  generalize n / 256 % 256 = x1 at *
  generalize n / 65536 % 256 = x2 at *
  generalize n / 16777216 = x3 at *
  obtain ⟨-, p0, r0, s0, u0, v0, w0⟩ := q_tab x0 b0
  obtain ⟨-, p1, r1, s1, u1, v1, w1⟩ := q_tab x1 b1
  obtain ⟨-, p2, r2, s2, u2, v2, w2⟩ := q_tab x2 b2
  obtain ⟨-, p3, r3, s3, u3, v3, w3⟩ := q_tab x3 b3
  have f1 : y1 = cb (q1 x0) (q1 x1) (q1 x2) (q1 x3) := by
    rw [e1, en]
    exact bc_1 b0 b1 b2 b3
  have f2 : y2 = cb (q2 (q1 x0)) (q2 (q1 x1)) (q2 (q1 x2)) (q2 (q1 x3)) := by
    rw [e2, f1]
    exact bc_2 p0 p1 p2 r0 r1 r2 r3
  have f3 : y3 = cb (tbN x0 8) (tbN x1 8) (tbN x2 8) (tbN x3 8) := by
    rw [e3, f2, ← v0, ← v1, ← v2, ← v3]
    exact bc_3 s0 s1 s2 s3 u1 u2 u3
  rw [e6, e5, e4, f3]
  exact bc_4 w0 w1 w2 w3
/-- a bit, by its number -/
theorem sp_bit_tb {x : Int32} (hx : sp_28 x) {m : Nat} (hm : m < 28) : sp_bit x (nI m) = (bN x).testBit m := by
  have k0 : ∀ m, m < 28 → ((nI m &&& 31).toBitVec.smod 32).toNat = m := by decide +kernel
  have hm1 : x.toBitVec.msb = false := by
    rw [BitVec.msb_eq_false_iff_two_mul_lt]
    have : x.toBitVec.toNat < 268435456 := hx
    omega
  have e : bN ((x >>> (nI m &&& 31)) &&& Int32.ofInt 1) = 1 &&& (bN x >>> m) := by
    rw [bN_and, Nat.and_comm]
    congr 1
    unfold bN
    rw [Int32.toBitVec_shiftRight]
    show (x.toBitVec.sshiftRight ((nI m &&& 31).toBitVec.smod 32).toNat).toNat = x.toBitVec.toNat >>> m
    rw [k0 m hm, BitVec.sshiftRight_eq_of_msb_false hm1, BitVec.toNat_ushiftRight]
  unfold sp_bit Nat.testBit
  rw [← e]
  by_cases hz : ((x >>> (nI m &&& 31)) &&& Int32.ofInt 1) = 0
  · rw [hz]
    rfl
  · rw [decide_eq_true hz]
    have : ¬ bN ((x >>> (nI m &&& 31)) &&& Int32.ofInt 1) = 0 := fun z => hz (bN_inj z)
    exact (bne_iff_ne.mpr this).symm
theorem sp_pc_tb {x : Int32} (hx : sp_28 x) : ∀ m, m ≤ 28 → sp_pc x m = tbN (bN x) m
  | 0, _ => rfl
  | m + 1, hm => by
    show sp_pc x m + (bif sp_bit x (nI m) then 1 else 0) = tbN (bN x) m + ((bN x).testBit m).toNat
    rw [sp_pc_tb hx m (by omega), sp_bit_tb hx (by omega)]
    cases (bN x).testBit m with
    | true => rfl
    | false => rfl
theorem tbN_le (n : Nat) : ∀ m, tbN n m ≤ m
  | 0 => Nat.le_refl 0
  | m + 1 => by
    have := tbN_le n m
    show tbN n m + (n.testBit m).toNat ≤ m + 1
    cases n.testBit m with
    | true => show tbN n m + 1 ≤ m + 1; omega
    | false => show tbN n m + 0 ≤ m + 1; omega
variable {h : am_H} {Q : am_Q}
theorem c_65 {x i : Int32} (hP : ex_P h) (hQ : Q (some (.int (pz_b (sp_bit x i)))) h) : am_call am_cod 1 65 [.int x, .int i] h Q := by
  refine pz_call (n := 65) (nL := 2) (rt := (some .boolean)) (rows := am_r65) (d := 0) (by decide +kernel) (by decide +kernel) rfl (by funext pc; rfl) (ex_175 hP) (by exact Nat.le_of_ble_eq_true rfl) ?_
  refine am_goX 6 (show (((x >>> (i &&& 31)) &&& (Int32.ofInt 1)) = 0 → pz_S 2 (some .boolean) am_r65 0 Q 12 [(0, .int x), (1, .int i)] [] h) ∧ (¬ (((x >>> (i &&& 31)) &&& (Int32.ofInt 1)) = 0) → pz_S 2 (some .boolean) am_r65 0 Q 8 [(0, .int x), (1, .int i)] [] h) from ⟨fun hc => ?_, fun hc => ?_⟩)
  · have e : sp_bit x i = false := decide_eq_false (fun z => z hc)
    rw [e] at hQ
    exact am_goX 2 (show (∃ ty, (some .boolean) = some ty ∧ narrow ty (.int ((Int32.ofInt 0))) = .int ((Int32.ofInt 0))) ∧ h.2.2.2.2 = 175 ∧ _ from ⟨⟨.boolean, rfl, rfl⟩, ex_175 hP, hQ⟩)
  · have e : sp_bit x i = true := decide_eq_true hc
    rw [e] at hQ
    exact am_goX 3 (show (∃ ty, (some .boolean) = some ty ∧ narrow ty (.int ((Int32.ofInt 1))) = .int ((Int32.ofInt 1))) ∧ h.2.2.2.2 = 175 ∧ _ from ⟨⟨.boolean, rfl, rfl⟩, ex_175 hP, hQ⟩)
theorem c_69 {x : Int32} (hP : ex_P h) (hx : sp_28 x) (hQ : Q (some (.int (nI (sp_pc x 28)))) h) : am_call am_cod 1 69 [.int x] h Q := by
  rw [sp_pc_tb hx 28 (Nat.le_refl _)] at hQ
  refine pz_call (n := 69) (nL := 1) (rt := (some .int)) (rows := am_r69) (d := 0) (by decide +kernel) (by decide +kernel) rfl (by funext pc; rfl) (ex_175 hP) (by exact Nat.le_of_ble_eq_true rfl) ?_
  refine am_goX 8 (show 0 < 1 ∧ pz_S 1 (some .int) am_r69 0 Q 10 [(0, .int (x - ((x.toUInt32 >>> (((Int32.ofInt 1)).toUInt32 &&& Int32.toUInt32 31)).toInt32 &&& (am_ki 3))))] [] h from ⟨by decide, ?_⟩)
  generalize g1 : (x - ((x.toUInt32 >>> (((Int32.ofInt 1)).toUInt32 &&& Int32.toUInt32 31)).toInt32 &&& (am_ki 3))) = y1
  refine am_goX 10 (show 0 < 1 ∧ pz_S 1 (some .int) am_r69 0 Q 24 [(0, .int ((y1 &&& (am_ki 4)) + ((y1.toUInt32 >>> (((Int32.ofInt 2)).toUInt32 &&& Int32.toUInt32 31)).toInt32 &&& (am_ki 4))))] [] h from ⟨by decide, ?_⟩)
  generalize g2 : ((y1 &&& (am_ki 4)) + ((y1.toUInt32 >>> (((Int32.ofInt 2)).toUInt32 &&& Int32.toUInt32 31)).toInt32 &&& (am_ki 4))) = y2
  refine am_goX 8 (show 0 < 1 ∧ pz_S 1 (some .int) am_r69 0 Q 34 [(0, .int ((y2 + (y2.toUInt32 >>> (((Int32.ofInt 4)).toUInt32 &&& Int32.toUInt32 31)).toInt32) &&& (am_ki 5)))] [] h from ⟨by decide, ?_⟩)
  generalize g3 : ((y2 + (y2.toUInt32 >>> (((Int32.ofInt 4)).toUInt32 &&& Int32.toUInt32 31)).toInt32) &&& (am_ki 5)) = y3
  refine am_goX 6 (show 0 < 1 ∧ pz_S 1 (some .int) am_r69 0 Q 41 [(0, .int (y3 + (y3.toUInt32 >>> (((Int8.ofInt 8).toInt32).toUInt32 &&& Int32.toUInt32 31)).toInt32))] [] h from ⟨by decide, ?_⟩)
  generalize g4 : (y3 + (y3.toUInt32 >>> (((Int8.ofInt 8).toInt32).toUInt32 &&& Int32.toUInt32 31)).toInt32) = y4
  refine am_goX 6 (show 0 < 1 ∧ pz_S 1 (some .int) am_r69 0 Q 48 [(0, .int (y4 + (y4.toUInt32 >>> (((Int8.ofInt 16).toInt32).toUInt32 &&& Int32.toUInt32 31)).toInt32))] [] h from ⟨by decide, ?_⟩)
  generalize g5 : (y4 + (y4.toUInt32 >>> (((Int8.ofInt 16).toInt32).toUInt32 &&& Int32.toUInt32 31)).toInt32) = y5
  refine am_goX 3 (show pz_S 1 (some .int) am_r69 0 Q 52 [(0, .int y5)] [.int (y5 &&& (Int8.ofInt 63).toInt32)] h from ?_)
  have k3 : bN (am_ki 3) = 1431655765 := by decide +kernel
  have k4 : bN (am_ki 4) = 858993459 := by decide +kernel
  have k5 : bN (am_ki 5) = 252645135 := by decide +kernel
  have k6 : bN (Int8.ofInt 63).toInt32 = 63 := by decide +kernel
  have e1 := (congrArg bN g1).symm
  simp only [bN_add, bN_sub, bN_and, bN_u1, k3, k4, k5] at e1
  have e2 := (congrArg bN g2).symm
  simp only [bN_add, bN_sub, bN_and, bN_u2, k3, k4, k5] at e2
  have e3 := (congrArg bN g3).symm
  simp only [bN_add, bN_sub, bN_and, bN_u4, k3, k4, k5] at e3
  have e4 := (congrArg bN g4).symm
  simp only [bN_add, bN_sub, bN_and, bN_u8, k3, k4, k5] at e4
  have e5 := (congrArg bN g5).symm
  simp only [bN_add, bN_sub, bN_and, bN_u16, k3, k4, k5] at e5
  have e6 : bN (y5 &&& (Int8.ofInt 63).toInt32) = bN y5 &&& 63 := by rw [bN_and, k6]
  have e7 := bc_N (n := bN x) hx e1 e2 e3 e4 e5 e6
  have e8 : (y5 &&& (Int8.ofInt 63).toInt32) = nI (tbN (bN x) 28) := bN_inj (by
    rw [e7, bN_nI (by have := tbN_le (bN x) 28; omega)])
  rw [e8]
  exact am_goX 1 (show (∃ ty, (some .int) = some ty ∧ narrow ty (.int ((nI (tbN (bN x) 28)))) = .int ((nI (tbN (bN x) 28)))) ∧ h.2.2.2.2 = 175 ∧ _ from ⟨⟨.int, rfl, rfl⟩, ex_175 hP, hQ⟩)
end
section
/-! WHAT BOTH CANTONS' READERS SHARE -/
theorem sp_b_inr {r : sp_R} {f : sp_S → sp_R} {t : sp_S} (e : sp_b r f = .inr t) : ∃ s, r = .inr s ∧ f s = .inr t := by
  cases r with
  | inl F => cases e
  | inr s => exact ⟨s, rfl, e⟩
theorem sp_tS_inr {τ : sp_T} {x : Int32} {a : Nat} {C : sp_C} {t : sp_S} (e : sp_tS τ x (a, C) = .inr t) : t = (a + 1, C) := by
  unfold sp_tS at e
  cases hb : sp_s τ a x with
  | true => simp only [hb, cond_true] at e; cases e; rfl
  | false => simp only [hb, cond_false, sp_f] at e; cases e
theorem sp_tW_inr {τ : sp_T} {x : Int64} {a : Nat} {C : sp_C} {t : sp_S} (e : sp_tW τ x (a, C) = .inr t) : t = (a + 1, C) := by
  unfold sp_tW at e
  cases hb : sp_w τ a x with
  | true => simp only [hb, cond_true] at e; cases e; rfl
  | false => simp only [hb, cond_false, sp_f] at e; cases e
theorem sp_tN_inr {τ : sp_T} {lo hi : Int32} {s t : sp_S} (e : sp_tN τ lo hi s = .inr t) : t = s ∧ sp_k τ s.1 2 = true ∧ sp_in τ s.1 lo hi = true := by
  unfold sp_tN at e
  cases hb : sp_k τ s.1 2 with
  | true =>
    simp only [hb, cond_true] at e
    cases hi : sp_in τ s.1 lo hi with
    | true => simp only [hi, cond_true] at e; cases e; exact ⟨rfl, rfl, rfl⟩
    | false => simp only [hi, cond_false, sp_f] at e; cases e
  | false => simp only [hb, cond_false, sp_f] at e; cases e
theorem sp_fn_inr {τ : sp_T} {s t : sp_S} (e : sp_fn τ s = .inr t) : t = s ∧ sp_n τ s.1 = true := by
  unfold sp_fn at e
  cases hb : sp_n τ s.1 with
  | true =>
    simp only [hb, cond_true] at e
    cases hi : (sp_pf s.2 (τ s.1).2.1).isSome || (sp_ef s.2 (τ s.1).2.1).isSome with
    | true => simp only [hi, cond_true, sp_f] at e; cases e
    | false => simp only [hi, cond_false] at e; cases e; exact ⟨rfl, rfl⟩
  | false => simp only [hb, cond_false, sp_f] at e; cases e
theorem sp_nk {τ : sp_T} {a : Nat} (e : sp_n τ a = true) : sp_k τ a 1 = true := (Bool.and_eq_true _ _ ▸ e : _ ∧ _).1
def sp_ko (r : Option Int32) : Int32 := match r with
  | some k => k
  | none => Int32.ofInt (-1)
theorem sp_kd_v {τ : sp_T} {a : Nat} {k : Int32} (e : sp_kd τ a = some k) : ¬ k = Int32.ofInt (-1) ∧ ¬ (τ a).1 = 0 := by
  unfold sp_kd at e
  cases h1 : sp_w τ a 30596128 with
  | true => simp only [h1, cond_true] at e; cases e; exact ⟨by decide, sp_wn h1⟩
  | false =>
    simp only [h1, cond_false] at e
    cases h2 : sp_w τ a 43567634 with
    | true => simp only [h2, cond_true] at e; cases e; exact ⟨by decide, sp_wn h2⟩
    | false =>
      simp only [h2, cond_false] at e
      cases h3 : sp_w τ a 37900956 with
      | true => simp only [h3, cond_true] at e; cases e; exact ⟨by decide, sp_wn h3⟩
      | false =>
        simp only [h3, cond_false] at e
        cases h4 : sp_w τ a 488058286 with
        | true => simp only [h4, cond_true] at e; cases e; exact ⟨by decide, sp_wn h4⟩
        | false => simp only [h4, cond_false] at e; cases e
theorem cr_pf {h h0 : am_H} {c sz a p : Nat} {T : Nat → Int32} {C : sp_C} {v : Int64} (l : cr h0 c T sz (a, C) h) (e : sp_pf C v = some p) : p < C.1.1 ∧ p < 6 := by
  have h1 := (sp_fd_lt e).2.1
  have h2 : C.1.1 ≤ 6 := l.2.1.1.2.1
  omega
theorem cr_ef {h h0 : am_H} {c sz a p : Nat} {T : Nat → Int32} {C : sp_C} {v : Int64} (l : cr h0 c T sz (a, C) h) (e : sp_ef C v = some p) : p < C.2.1.1 ∧ p < 5 := by
  have h1 := (sp_fd_lt e).2.1
  have h2 : C.2.1.1 ≤ 5 := l.2.1.2.1.2.1
  omega
theorem i6 {n : Nat} (e : Nat.ble 6 n = true) (h : n ≤ 6) : ¬ nI n < (Int8.ofInt 6).toInt32 := by
  have := Nat.le_of_ble_eq_true e
  show ¬ nI n < nI 6
  rw [nI_ltI (by omega) (by omega)]
  omega
theorem j6n {n : Nat} (e : Nat.ble 6 n = false) : n < 6 := by
  apply Nat.lt_of_not_le
  intro z
  rw [Nat.ble_eq_true_of_le z] at e
  cases e
theorem j6 {n : Nat} (e : Nat.ble 6 n = false) : nI n < (Int8.ofInt 6).toInt32 := by
  have := j6n e
  show nI n < nI 6
  rw [nI_ltI (by omega) (by omega)]
  omega
theorem i5 {n : Nat} (e : Nat.ble 5 n = true) (h : n ≤ 5) : ¬ nI n < Int32.ofInt 5 := by
  have := Nat.le_of_ble_eq_true e
  show ¬ nI n < nI 5
  rw [nI_ltI (by omega) (by omega)]
  omega
theorem j5n {n : Nat} (e : Nat.ble 5 n = false) : n < 5 := by
  apply Nat.lt_of_not_le
  intro z
  rw [Nat.ble_eq_true_of_le z] at e
  cases e
theorem j5 {n : Nat} (e : Nat.ble 5 n = false) : nI n < Int32.ofInt 5 := by
  have := j5n e
  show nI n < nI 5
  rw [nI_ltI (by omega) (by omega)]
  omega
theorem i8 {n : Nat} (e : Nat.ble 8 n = true) (h : n < 100) : ¬ nI n < (Int8.ofInt 8).toInt32 := by
  have := Nat.le_of_ble_eq_true e
  show ¬ nI n < nI 8
  rw [nI_ltI (by omega) (by omega)]
  omega
theorem j8 {n : Nat} (e : Nat.ble 8 n = false) : nI n < (Int8.ofInt 8).toInt32 := by
  have : n < 8 := by
    apply Nat.lt_of_not_le
    intro z
    rw [Nat.ble_eq_true_of_le z] at e
    cases e
  show nI n < nI 8
  rw [nI_ltI (by omega) (by omega)]
  omega
theorem ex_lq {h : am_H} (o k : Nat) (v : Int64) : (am_wL h o k v).2.1 o k = v := if_pos ⟨rfl, rfl⟩
theorem sp_in28 {τ : sp_T} {a D : Nat} (hD : D ≤ 9999) (ev : sp_v τ a = nI D) : sp_in τ a (Int32.ofInt 0) (Int8.ofInt 27).toInt32 = decide (D < 28) := by
  unfold sp_in
  rw [ev]
  show (decide (nI 0 ≤ nI D) && decide (nI D ≤ nI 27)) = _
  rw [decide_eq_true (nI_le (Nat.zero_le D) (by omega)), Bool.true_and]
  by_cases hd : D < 28
  · rw [decide_eq_true hd, decide_eq_true (nI_le (by omega) (by omega))]
  · rw [decide_eq_false hd, decide_eq_false (by rw [nI_leI (by omega) (by omega)]; omega)]
theorem i28 {D : Nat} (hD : D ≤ 9999) : (Int8.ofInt 28).toInt32 ≤ nI D ↔ 28 ≤ D := by
  show nI 28 ≤ nI D ↔ _
  rw [nI_leI (by omega) (by omega)]
theorem sp_28_or {x : Int32} {D : Nat} (hx : sp_28 x) (hD : D < 28) : sp_28 (x ||| ((Int32.ofInt 1) <<< (nI D &&& 31))) := by
  unfold sp_28 at *
  have key : ∀ D, D < 28 → ((Int32.ofInt 1) <<< (nI D &&& 31)).toBitVec.toNat < 268435456 := by decide +kernel
  have h1 := key D hD
  rw [Int32.toBitVec_or, BitVec.toNat_or]
  exact Nat.or_lt_two_pow (n := 28) hx h1
theorem sp_sd_inr {τ : sp_T} {s t : sp_S} (e : sp_sd τ s = .inr t) : t.1 = s.1 + 1 ∧ t.2.2.2.1.1 = s.2.2.2.1.1 := by
  unfold sp_sd at e
  cases h1 : sp_k τ s.1 2 with
  | false => simp only [h1, cond_false, sp_f] at e; cases e
  | true =>
    simp only [h1, cond_true] at e
    cases h2 : sp_in τ s.1 (Int32.ofInt 0) (Int8.ofInt 27).toInt32 with
    | false => simp only [h2, cond_false, sp_f] at e; cases e
    | true =>
      simp only [h2, cond_true] at e
      cases h3 : sp_bit s.2.2.2.1.2 (sp_v τ s.1) with
      | true => simp only [h3, cond_true, sp_f] at e; cases e
      | false =>
        simp only [h3, cond_false] at e
        cases h4 : Nat.ble 8 (sp_pc s.2.2.2.1.2 28) with
        | true => simp only [h4, cond_true, sp_f] at e; cases e
        | false => simp only [h4, cond_false] at e; cases e; exact ⟨rfl, rfl⟩
theorem sp_pc_le (x : Int32) : ∀ m, sp_pc x m ≤ m
  | 0 => Nat.le_refl 0
  | m + 1 => by
    have := sp_pc_le x m
    show sp_pc x m + _ ≤ m + 1
    cases sp_bit x (nI m) with
    | true => show sp_pc x m + 1 ≤ m + 1; omega
    | false => show sp_pc x m + 0 ≤ m + 1; omega
theorem sp_sl_le {τ : sp_T} : ∀ {m : Nat} {s t : sp_S}, sp_sl τ m s = .inr t → s.1 ≤ t.1
  | 0, s, t, e => by cases e; exact Nat.le_refl _
  | m + 1, s, t, e => by
    unfold sp_sl at e
    cases h1 : sp_k τ s.1 2 with
    | false => simp only [h1, cond_false] at e; cases e; exact Nat.le_refl _
    | true =>
      simp only [h1, cond_true] at e
      obtain ⟨u, e1, e2⟩ := sp_b_inr e
      have h2 := (sp_sd_inr e1).1
      have h3 := sp_sl_le e2
      omega
/-- a line takes tokens -/
theorem sp_tS_lt {τ : sp_T} {x : Int32} {s t : sp_S} (e : sp_tS τ x s = .inr t) : t.1 = s.1 + 1 := congrArg Prod.fst (sp_tS_inr (a := s.1) (C := s.2) e)
theorem sp_tW_lt {τ : sp_T} {x : Int64} {s t : sp_S} (e : sp_tW τ x s = .inr t) : t.1 = s.1 + 1 := congrArg Prod.fst (sp_tW_inr (a := s.1) (C := s.2) e)
theorem sp_tN_lt {τ : sp_T} {lo hi : Int32} {s t : sp_S} (e : sp_tN τ lo hi s = .inr t) : t.1 = s.1 := congrArg Prod.fst (sp_tN_inr e).1
theorem sp_fn_lt {τ : sp_T} {s t : sp_S} (e : sp_fn τ s = .inr t) : t.1 = s.1 := congrArg Prod.fst (sp_fn_inr e).1
theorem sp_person_lt {τ : sp_T} {s t : sp_S} (e : sp_person τ s = .inr t) : s.1 < t.1 := by
  unfold sp_person at e
  cases h1 : Nat.ble 6 s.2.1.1 with
  | true => simp only [h1, cond_true, sp_f] at e; cases e
  | false =>
    simp only [h1, cond_false] at e
    obtain ⟨u1, e1, e2⟩ := sp_b_inr e
    have p1 := sp_fn_lt e1
    cases h2 : sp_kd τ (u1.1 + 1) with
    | none => simp only [h2, sp_f] at e2; cases e2
    | some k =>
      simp only [h2] at e2
      obtain ⟨u2, e3, e4⟩ := sp_b_inr e2
      obtain ⟨u3, e5, e6⟩ := sp_b_inr e4
      have p2 := sp_tW_lt e3
      have p3 := sp_tN_lt e5
      have p4 := sp_tS_lt e6
      dsimp only at p1 p2 p3 p4
      omega
theorem sp_event_lt {τ : sp_T} {s t : sp_S} (e : sp_event τ s = .inr t) : s.1 < t.1 := by
  unfold sp_event at e
  cases h1 : Nat.ble 5 s.2.2.1.1 with
  | true => simp only [h1, cond_true, sp_f] at e; cases e
  | false =>
    simp only [h1, cond_false] at e
    obtain ⟨u1, e1, e2⟩ := sp_b_inr e
    obtain ⟨u2, e3, e4⟩ := sp_b_inr e2
    obtain ⟨u3, e5, e6⟩ := sp_b_inr e4
    obtain ⟨u4, e7, e8⟩ := sp_b_inr e6
    obtain ⟨u5, e9, e10⟩ := sp_b_inr e8
    have p1 := sp_fn_lt e1
    have p2 := sp_tW_lt e3
    have p3 := sp_tN_lt e5
    have p4 := sp_tW_lt e7
    have p5 := sp_tN_lt e9
    have p6 := sp_tS_lt e10
    dsimp only at p1 p2 p3 p4 p5 p6
    omega
theorem sp_comes_lt {τ : sp_T} {s t : sp_S} (e : sp_comes τ s = .inr t) : s.1 < t.1 := by
  unfold sp_comes at e
  cases h1 : sp_n τ (s.1 + 1) with
  | false => simp only [h1, cond_false, sp_f] at e; cases e
  | true =>
    simp only [h1, cond_true] at e
    cases h2 : sp_pf s.2 (τ (s.1 + 1)).2.1 with
    | none => simp only [h2, sp_f] at e; cases e
    | some p =>
      simp only [h2] at e
      cases h3 : sp_n τ (s.1 + 1 + 1) with
      | false => simp only [h3, cond_false, sp_f] at e; cases e
      | true =>
        simp only [h3, cond_true] at e
        cases h4 : sp_ef s.2 (τ (s.1 + 1 + 1)).2.1 with
        | none => simp only [h4, sp_f] at e; cases e
        | some q =>
          simp only [h4] at e
          cases h5 : sp_bit (s.2.2.1.2.2.2.2 q) (nI p) with
          | true => simp only [h5, cond_true, sp_f] at e; cases e
          | false =>
            simp only [h5, cond_false] at e
            have p4 := sp_tS_lt e
            dsimp only at p4
            omega
theorem sp_snow_lt {τ : sp_T} {s t : sp_S} (e : sp_snow τ s = .inr t) : s.1 < t.1 := by
  unfold sp_snow at e
  cases h1 : s.2.2.2.1.1 with
  | true => simp only [h1, cond_true, sp_f] at e; cases e
  | false =>
    simp only [h1, cond_false] at e
    obtain ⟨u1, e1, e2⟩ := sp_b_inr e
    obtain ⟨u2, e3, e4⟩ := sp_b_inr e2
    have p1 := (sp_sd_inr e1).1
    have p2 := sp_sl_le e3
    have p3 := sp_tS_lt e4
    dsimp only at p1 p2 p3
    omega
theorem sp_goes_lt {τ : sp_T} {s t : sp_S} (e : sp_goes τ s = .inr t) : s.1 < t.1 := by
  unfold sp_goes at e
  cases h1 : s.2.2.2.2.1 with
  | true => simp only [h1, cond_true, sp_f] at e; cases e
  | false =>
    simp only [h1, cond_false] at e
    obtain ⟨u1, e1, e2⟩ := sp_b_inr e
    have p1 := sp_wh_ok (sp_pt_ok 5) _ _ e1
    have p3 := sp_tS_lt e2
    unfold sp_le at p1
    dsimp only at p1 p3
    omega
theorem sp_line_lt {τ : sp_T} {s t : sp_S} (e : sp_line τ s = .inr t) : s.1 < t.1 := by
  unfold sp_line at e
  cases h1 : sp_w τ s.1 1119812451 with
  | true => simp only [h1, cond_true] at e; exact sp_person_lt e
  | false =>
    simp only [h1, cond_false] at e
    cases h2 : sp_w τ s.1 10492554 with
    | true => simp only [h2, cond_true] at e; exact sp_event_lt e
    | false =>
      simp only [h2, cond_false] at e
      cases h3 : sp_w τ s.1 6400279 with
      | true => simp only [h3, cond_true] at e; exact sp_comes_lt e
      | false =>
        simp only [h3, cond_false] at e
        cases h4 : sp_w τ s.1 982151 with
        | true => simp only [h4, cond_true] at e; exact sp_snow_lt e
        | false =>
          simp only [h4, cond_false] at e
          cases h5 : sp_w τ s.1 375310 with
          | true => simp only [h5, cond_true] at e; exact sp_goes_lt e
          | false => simp only [h5, cond_false, sp_f] at e; cases e
end
section
/-! THE CLASS'S READERS OF A CANTON, EXACTLY (6) -/
/-- what is there at the end -/
def cfin (h0 : am_H) (c : Nat) (T : Nat → Int32) (sz : Nat) (r : sp_R) (h : am_H) : Prop := match r with
  | .inl F => cx h0 c F h
  | .inr s => cr h0 c T sz s h
theorem pz_b_v (b : Bool) : pz_b b = 0 ∨ pz_b b = 1 := by cases b <;> decide
variable {h h0 : am_H} {sz a : Nat} {T : Nat → Int32} {Q : am_Q} {s : sp_S}
theorem ex_3 {h : am_H} (hP : ex_P h) : am_sh h 3 = some (1, 0) := (ex_so hP (by decide +kernel)).2
theorem ex_6 {h : am_H} (hP : ex_P h) : am_sh h 6 = some (0, 0) := (ex_so hP (by decide +kernel)).2
theorem ex_7 {h : am_H} (hP : ex_P h) : am_sh h 7 = some (14, 6) := (ex_so hP (by decide +kernel)).2
theorem ex_w7 {h : am_H} (hP : ex_P h) : am_so h 7 = some (14, 6) := (ex_so hP (by decide +kernel)).1
theorem ex_8 {h : am_H} (hP : ex_P h) : am_sh h 8 = some (13, 6) := (ex_so hP (by decide +kernel)).2
theorem ex_w8 {h : am_H} (hP : ex_P h) : am_so h 8 = some (13, 6) := (ex_so hP (by decide +kernel)).1
theorem ex_9 {h : am_H} (hP : ex_P h) : am_sh h 9 = some (13, 6) := (ex_so hP (by decide +kernel)).2
theorem ex_w9 {h : am_H} (hP : ex_P h) : am_so h 9 = some (13, 6) := (ex_so hP (by decide +kernel)).1
theorem ex_10 {h : am_H} (hP : ex_P h) : am_sh h 10 = some (14, 5) := (ex_so hP (by decide +kernel)).2
theorem ex_w10 {h : am_H} (hP : ex_P h) : am_so h 10 = some (14, 5) := (ex_so hP (by decide +kernel)).1
theorem ex_11 {h : am_H} (hP : ex_P h) : am_sh h 11 = some (13, 5) := (ex_so hP (by decide +kernel)).2
theorem ex_w11 {h : am_H} (hP : ex_P h) : am_so h 11 = some (13, 5) := (ex_so hP (by decide +kernel)).1
theorem ex_12 {h : am_H} (hP : ex_P h) : am_sh h 12 = some (13, 5) := (ex_so hP (by decide +kernel)).2
theorem ex_w12 {h : am_H} (hP : ex_P h) : am_so h 12 = some (13, 5) := (ex_so hP (by decide +kernel)).1
theorem ex_13 {h : am_H} (hP : ex_P h) : am_sh h 13 = some (13, 5) := (ex_so hP (by decide +kernel)).2
theorem ex_w13 {h : am_H} (hP : ex_P h) : am_so h 13 = some (13, 5) := (ex_so hP (by decide +kernel)).1
theorem ex_r3_0 {h : am_H} (hP : ex_P h) : h.2.2.1 3 0 = some 1 := hP.2 3 0 1 (by decide +kernel)
theorem ex_r3_1 {h : am_H} (hP : ex_P h) : h.2.2.1 3 1 = some 4 := hP.2 3 1 4 (by decide +kernel)
theorem ex_r6_1 {h : am_H} (hP : ex_P h) : h.2.2.1 6 1 = some 7 := hP.2 6 1 7 (by decide +kernel)
theorem ex_r6_2 {h : am_H} (hP : ex_P h) : h.2.2.1 6 2 = some 8 := hP.2 6 2 8 (by decide +kernel)
theorem ex_r6_3 {h : am_H} (hP : ex_P h) : h.2.2.1 6 3 = some 9 := hP.2 6 3 9 (by decide +kernel)
theorem ex_r6_5 {h : am_H} (hP : ex_P h) : h.2.2.1 6 5 = some 10 := hP.2 6 5 10 (by decide +kernel)
theorem ex_r6_6 {h : am_H} (hP : ex_P h) : h.2.2.1 6 6 = some 11 := hP.2 6 6 11 (by decide +kernel)
theorem ex_r6_7 {h : am_H} (hP : ex_P h) : h.2.2.1 6 7 = some 12 := hP.2 6 7 12 (by decide +kernel)
theorem ex_r6_8 {h : am_H} (hP : ex_P h) : h.2.2.1 6 8 = some 13 := hP.2 6 8 13 (by decide +kernel)
theorem ex_r6_12 {h : am_H} (hP : ex_P h) : h.2.2.1 6 12 = some 14 := hP.2 6 12 14 (by decide +kernel)
theorem c_55l_6 {C : sp_C} {v w : Int64} (l : cr h0 6 T sz (a, C) h) (hw : cwk v w) : ∀ (m i : Nat), i + m = C.1.1 → Q (some (.int (sp_o (sp_fd C.1.2.1 v m i)))) h → pz_S 4 (some .int) am_r55 0 Q 2 [(3, .int (nI i)), (0, .ref 6), (1, .long w)] [] h := by
  have hP := c_P l.1
  have a1 : h.1 6 0 = nI C.1.1 := l.2.1.1.1
  have a2 : C.1.1 ≤ 6 := l.2.1.1.2.1
  intro m
  induction m with
  | zero =>
    intro i hi hQ
    refine am_goX 3 (show am_sh h 6 = some (0, 0) ∧ pz_S 4 (some .int) am_r55 0 Q 7 [(3, .int (nI i)), (0, .ref 6), (1, .long w)] [.int (h.1 6 0), .int (nI i)] h from ⟨ex_6 hP, ?_⟩)
    rw [a1]
    refine am_goX 1 (show ((nI C.1.1) ≤ (nI i) → pz_S 4 (some .int) am_r55 0 Q 29 [(3, .int (nI i)), (0, .ref 6), (1, .long w)] [] h) ∧ (¬ ((nI C.1.1) ≤ (nI i)) → pz_S 4 (some .int) am_r55 0 Q 10 [(3, .int (nI i)), (0, .ref 6), (1, .long w)] [] h) from ⟨fun hc => ?_, fun hc => ?_⟩)
    · exact am_goX 2 (show (∃ ty, (some .int) = some ty ∧ narrow ty (.int ((Int32.ofInt (-1)))) = .int ((Int32.ofInt (-1)))) ∧ h.2.2.2.2 = 175 ∧ _ from ⟨⟨.int, rfl, rfl⟩, ex_175 hP, hQ⟩)
    · exact absurd (nI_le (by omega) (by omega)) hc
  | succ m ih =>
    intro i hi hQ
    refine am_goX 3 (show am_sh h 6 = some (0, 0) ∧ pz_S 4 (some .int) am_r55 0 Q 7 [(3, .int (nI i)), (0, .ref 6), (1, .long w)] [.int (h.1 6 0), .int (nI i)] h from ⟨ex_6 hP, ?_⟩)
    rw [a1]
    refine am_goX 1 (show ((nI C.1.1) ≤ (nI i) → pz_S 4 (some .int) am_r55 0 Q 29 [(3, .int (nI i)), (0, .ref 6), (1, .long w)] [] h) ∧ (¬ ((nI C.1.1) ≤ (nI i)) → pz_S 4 (some .int) am_r55 0 Q 10 [(3, .int (nI i)), (0, .ref 6), (1, .long w)] [] h) from ⟨fun hc => ?_, fun hc => ?_⟩)
    · rw [nI_leI (by omega) (by omega)] at hc
      omega
    clear hc
    unfold sp_fd at hQ
    have hj := (l.2.1.1.2.2 i (show i < C.1.1 by omega)).1
    refine am_goX 2 (show am_sh h 6 = some (0, 0) ∧ pz_S 4 (some .int) am_r55 0 Q 14 [(3, .int (nI i)), (0, .ref 6), (1, .long w)] [am_rf (h.2.2.1 6 1)] h from ⟨ex_6 hP, ?_⟩)
    rw [ex_r6_1 (h := h) hP]
    refine am_goX 2 (show ∃ jj nn : Nat, am_sh h 7 = some (14, nn) ∧ jj < nn ∧ (nI i) = nI jj ∧ pz_S 4 (some .int) am_r55 0 Q 16 [(3, .int (nI i)), (0, .ref 6), (1, .long w)] [.long (h.2.1 7 jj)] h from ⟨i, 6, ex_7 hP, by omega, rfl, ?_⟩)
    refine am_goX 3 (show (¬ (lg_cmp ((h.2.1 7 i)) (w)) = 0 → pz_S 4 (some .int) am_r55 0 Q 23 [(3, .int (nI i)), (0, .ref 6), (1, .long w)] [] h) ∧ (¬ ¬ (lg_cmp ((h.2.1 7 i)) (w)) = 0 → pz_S 4 (some .int) am_r55 0 Q 21 [(3, .int (nI i)), (0, .ref 6), (1, .long w)] [] h) from ⟨fun hc => ?_, fun hc => ?_⟩)
    · rw [decide_eq_false (fun e => hc ((pz_cmp _ _).mpr ((cwk_inj hj hw).mp e)))] at hQ
      refine am_goX 2 (show 3 < 4 ∧ pz_S 4 (some .int) am_r55 0 Q 2 [(3, .int ((nI i) + Int32.ofInt 1)), (0, .ref 6), (1, .long w)] [] h from ⟨by decide, ?_⟩)
      rw [xw_i1]
      exact ih (i + 1) (by omega) hQ
    · rw [decide_eq_true ((cwk_inj hj hw).mpr ((pz_cmp _ _).mp (Decidable.not_not.mp hc)))] at hQ
      exact am_goX 2 (show (∃ ty, (some .int) = some ty ∧ narrow ty (.int ((nI i))) = .int ((nI i))) ∧ h.2.2.2.2 = 175 ∧ _ from ⟨⟨.int, rfl, rfl⟩, ex_175 hP, hQ⟩)
theorem c_55_6 {v w : Int64} (l : cr h0 6 T sz s h) (hw : cwk v w) (hQ : Q (some (.int (sp_o (sp_pf s.2 v)))) h) : am_call am_cod 1 55 [.ref 6, .long w] h Q := by
  have hP := c_P l.1
  refine pz_call (n := 55) (nL := 4) (rt := (some .int)) (rows := am_r55) (d := 0) (by decide +kernel) (by decide +kernel) rfl (by funext pc; rfl) (ex_175 hP) (by exact Nat.le_of_ble_eq_true rfl) ?_
  refine am_goX 2 (show 3 < 4 ∧ pz_S 4 (some .int) am_r55 0 Q 2 [(3, .int (Int32.ofInt 0)), (0, .ref 6), (1, .long w)] [] h from ⟨by decide, ?_⟩)
  exact c_55l_6 (a := s.1) (C := s.2) l hw s.2.1.1 0 (Nat.zero_add _) hQ
theorem c_56l_6 {C : sp_C} {v w : Int64} (l : cr h0 6 T sz (a, C) h) (hw : cwk v w) : ∀ (m i : Nat), i + m = C.2.1.1 → Q (some (.int (sp_o (sp_fd C.2.1.2.1 v m i)))) h → pz_S 4 (some .int) am_r56 0 Q 2 [(3, .int (nI i)), (0, .ref 6), (1, .long w)] [] h := by
  have hP := c_P l.1
  have a1 : h.1 6 4 = nI C.2.1.1 := l.2.1.2.1.1
  have a2 : C.2.1.1 ≤ 5 := l.2.1.2.1.2.1
  intro m
  induction m with
  | zero =>
    intro i hi hQ
    refine am_goX 3 (show am_sh h 6 = some (0, 0) ∧ pz_S 4 (some .int) am_r56 0 Q 7 [(3, .int (nI i)), (0, .ref 6), (1, .long w)] [.int (h.1 6 4), .int (nI i)] h from ⟨ex_6 hP, ?_⟩)
    rw [a1]
    refine am_goX 1 (show ((nI C.2.1.1) ≤ (nI i) → pz_S 4 (some .int) am_r56 0 Q 29 [(3, .int (nI i)), (0, .ref 6), (1, .long w)] [] h) ∧ (¬ ((nI C.2.1.1) ≤ (nI i)) → pz_S 4 (some .int) am_r56 0 Q 10 [(3, .int (nI i)), (0, .ref 6), (1, .long w)] [] h) from ⟨fun hc => ?_, fun hc => ?_⟩)
    · exact am_goX 2 (show (∃ ty, (some .int) = some ty ∧ narrow ty (.int ((Int32.ofInt (-1)))) = .int ((Int32.ofInt (-1)))) ∧ h.2.2.2.2 = 175 ∧ _ from ⟨⟨.int, rfl, rfl⟩, ex_175 hP, hQ⟩)
    · exact absurd (nI_le (by omega) (by omega)) hc
  | succ m ih =>
    intro i hi hQ
    refine am_goX 3 (show am_sh h 6 = some (0, 0) ∧ pz_S 4 (some .int) am_r56 0 Q 7 [(3, .int (nI i)), (0, .ref 6), (1, .long w)] [.int (h.1 6 4), .int (nI i)] h from ⟨ex_6 hP, ?_⟩)
    rw [a1]
    refine am_goX 1 (show ((nI C.2.1.1) ≤ (nI i) → pz_S 4 (some .int) am_r56 0 Q 29 [(3, .int (nI i)), (0, .ref 6), (1, .long w)] [] h) ∧ (¬ ((nI C.2.1.1) ≤ (nI i)) → pz_S 4 (some .int) am_r56 0 Q 10 [(3, .int (nI i)), (0, .ref 6), (1, .long w)] [] h) from ⟨fun hc => ?_, fun hc => ?_⟩)
    · rw [nI_leI (by omega) (by omega)] at hc
      omega
    clear hc
    unfold sp_fd at hQ
    have hj := (l.2.1.2.1.2.2 i (show i < C.2.1.1 by omega)).1
    refine am_goX 2 (show am_sh h 6 = some (0, 0) ∧ pz_S 4 (some .int) am_r56 0 Q 14 [(3, .int (nI i)), (0, .ref 6), (1, .long w)] [am_rf (h.2.2.1 6 5)] h from ⟨ex_6 hP, ?_⟩)
    rw [ex_r6_5 (h := h) hP]
    refine am_goX 2 (show ∃ jj nn : Nat, am_sh h 10 = some (14, nn) ∧ jj < nn ∧ (nI i) = nI jj ∧ pz_S 4 (some .int) am_r56 0 Q 16 [(3, .int (nI i)), (0, .ref 6), (1, .long w)] [.long (h.2.1 10 jj)] h from ⟨i, 5, ex_10 hP, by omega, rfl, ?_⟩)
    refine am_goX 3 (show (¬ (lg_cmp ((h.2.1 10 i)) (w)) = 0 → pz_S 4 (some .int) am_r56 0 Q 23 [(3, .int (nI i)), (0, .ref 6), (1, .long w)] [] h) ∧ (¬ ¬ (lg_cmp ((h.2.1 10 i)) (w)) = 0 → pz_S 4 (some .int) am_r56 0 Q 21 [(3, .int (nI i)), (0, .ref 6), (1, .long w)] [] h) from ⟨fun hc => ?_, fun hc => ?_⟩)
    · rw [decide_eq_false (fun e => hc ((pz_cmp _ _).mpr ((cwk_inj hj hw).mp e)))] at hQ
      refine am_goX 2 (show 3 < 4 ∧ pz_S 4 (some .int) am_r56 0 Q 2 [(3, .int ((nI i) + Int32.ofInt 1)), (0, .ref 6), (1, .long w)] [] h from ⟨by decide, ?_⟩)
      rw [xw_i1]
      exact ih (i + 1) (by omega) hQ
    · rw [decide_eq_true ((cwk_inj hj hw).mpr ((pz_cmp _ _).mp (Decidable.not_not.mp hc)))] at hQ
      exact am_goX 2 (show (∃ ty, (some .int) = some ty ∧ narrow ty (.int ((nI i))) = .int ((nI i))) ∧ h.2.2.2.2 = 175 ∧ _ from ⟨⟨.int, rfl, rfl⟩, ex_175 hP, hQ⟩)
theorem c_56_6 {v w : Int64} (l : cr h0 6 T sz s h) (hw : cwk v w) (hQ : Q (some (.int (sp_o (sp_ef s.2 v)))) h) : am_call am_cod 1 56 [.ref 6, .long w] h Q := by
  have hP := c_P l.1
  refine pz_call (n := 56) (nL := 4) (rt := (some .int)) (rows := am_r56) (d := 0) (by decide +kernel) (by decide +kernel) rfl (by funext pc; rfl) (ex_175 hP) (by exact Nat.le_of_ble_eq_true rfl) ?_
  refine am_goX 2 (show 3 < 4 ∧ pz_S 4 (some .int) am_r56 0 Q 2 [(3, .int (Int32.ofInt 0)), (0, .ref 6), (1, .long w)] [] h from ⟨by decide, ?_⟩)
  exact c_56l_6 (a := s.1) (C := s.2) l hw s.2.2.1.1 0 (Nat.zero_add _) hQ
theorem c_53_6 (l : cr h0 6 T sz s h) (hQ : ∀ v h1, cres h0 6 T sz (sp_fn (tt T sz) s) v h1 → Q v h1) : am_call am_cod 6 53 [.ref 3, .ref 6] h Q := by
  have hP := c_P l.1
  refine pz_call (n := 53) (nL := 3) (rt := (some .boolean)) (rows := am_r53) (d := 5) (by decide +kernel) (by decide +kernel) rfl (by funext pc; rfl) (ex_175 hP) (by exact Nat.le_of_ble_eq_true rfl) ?_
  refine am_goX 2 (show am_sh h 3 = some (1, 0) ∧ pz_S 3 (some .boolean) am_r53 5 Q 4 [(0, .ref 3), (1, .ref 6)] [am_rf (h.2.2.1 3 0)] h from ⟨ex_3 (c_P l.1), ?_⟩)
  rw [ex_r3_0 (h := h) (c_P l.1)]
  refine am_goX 1 (show am_rc h 1 7 ∧ 0 ≤ 8 ∧ h.2.2.2.2 + am_al 54 ≤ 175 ∧ am_call am_cod 5 54 [.ref 1] h (fun vv h' => pz_S 3 (some .boolean) am_r53 5 Q 7 [(0, .ref 3), (1, .ref 6)] (vv.toList ++ []) h') from ⟨Or.inl ⟨by decide, ex_1 (c_P l.1)⟩, by decide, ex_lim (c_P l.1) rfl, am_call.up (c_isn l.1 ?_) (by decide)⟩)
  cases e1 : sp_n (tt T sz) s.1 with
  | true =>
    refine am_goX 1 (show (¬ (pz_b (true)) = 0 → pz_S 3 (some .boolean) am_r53 5 Q 19 [(0, .ref 3), (1, .ref 6)] [] h) ∧ (¬ ¬ (pz_b (true)) = 0 → pz_S 3 (some .boolean) am_r53 5 Q 10 [(0, .ref 3), (1, .ref 6)] [] h) from ⟨fun _ => ?_, fun hz => absurd (by decide) hz⟩)
    refine am_goX 3 (show am_sh h 3 = some (1, 0) ∧ pz_S 3 (some .boolean) am_r53 5 Q 24 [(0, .ref 3), (1, .ref 6)] [am_rf (h.2.2.1 3 0), .ref 6] h from ⟨ex_3 (c_P l.1), ?_⟩)
    rw [ex_r3_0 (h := h) (c_P l.1)]
    refine am_goX 2 (show am_sh h 1 = some (7, 0) ∧ am_rc h 6 0 ∧ 0 ≤ 8 ∧ h.2.2.2.2 + am_al 55 ≤ 175 ∧ am_call am_cod 5 55 [.ref 6, .long (h.2.1 1 5)] h (fun vv h' => pz_S 3 (some .boolean) am_r53 5 Q 30 [(0, .ref 3), (1, .ref 6)] (vv.toList ++ []) h') from ⟨ex_1 (c_P l.1), Or.inl ⟨by decide, ex_6 (c_P l.1)⟩, by decide, ex_lim (c_P l.1) rfl, am_call.up (c_55_6 (v := (tt T sz s.1).2.1) l (c_wd l.1 (sp_nk e1)) ?_) (by decide)⟩)
    cases e2 : sp_pf s.2 (tt T sz s.1).2.1 with
    | none =>
      refine am_goX 2 (show (¬ (Int32.ofInt (-1)) = (Int32.ofInt (-1)) → pz_S 3 (some .boolean) am_r53 5 Q 49 [(0, .ref 3), (1, .ref 6)] [] h) ∧ (¬ ¬ (Int32.ofInt (-1)) = (Int32.ofInt (-1)) → pz_S 3 (some .boolean) am_r53 5 Q 34 [(0, .ref 3), (1, .ref 6)] [] h) from ⟨fun hz => absurd hz (by decide), fun _ => ?_⟩)
      refine am_goX 3 (show am_sh h 3 = some (1, 0) ∧ pz_S 3 (some .boolean) am_r53 5 Q 39 [(0, .ref 3), (1, .ref 6)] [am_rf (h.2.2.1 3 0), .ref 6] h from ⟨ex_3 (c_P l.1), ?_⟩)
      rw [ex_r3_0 (h := h) (c_P l.1)]
      refine am_goX 2 (show am_sh h 1 = some (7, 0) ∧ am_rc h 6 0 ∧ 0 ≤ 8 ∧ h.2.2.2.2 + am_al 56 ≤ 175 ∧ am_call am_cod 5 56 [.ref 6, .long (h.2.1 1 5)] h (fun vv h' => pz_S 3 (some .boolean) am_r53 5 Q 45 [(0, .ref 3), (1, .ref 6)] (vv.toList ++ []) h') from ⟨ex_1 (c_P l.1), Or.inl ⟨by decide, ex_6 (c_P l.1)⟩, by decide, ex_lim (c_P l.1) rfl, am_call.up (c_56_6 (v := (tt T sz s.1).2.1) l (c_wd l.1 (sp_nk e1)) ?_) (by decide)⟩)
      cases e5 : sp_ef s.2 (tt T sz s.1).2.1 with
      | none =>
        refine am_goX 2 (show ((Int32.ofInt (-1)) = (Int32.ofInt (-1)) → pz_S 3 (some .boolean) am_r53 5 Q 53 [(0, .ref 3), (1, .ref 6)] [] h) ∧ (¬ ((Int32.ofInt (-1)) = (Int32.ofInt (-1))) → pz_S 3 (some .boolean) am_r53 5 Q 49 [(0, .ref 3), (1, .ref 6)] [] h) from ⟨fun _ => ?_, fun hz => absurd (by decide) hz⟩)
        refine am_goX 4 (show 2 < 3 ∧ ((Int32.ofInt 0) = 0 → pz_S 3 (some .boolean) am_r53 5 Q 70 [(2, .int (Int32.ofInt 0)), (0, .ref 3), (1, .ref 6)] [] h) ∧ (¬ ((Int32.ofInt 0) = 0) → pz_S 3 (some .boolean) am_r53 5 Q 59 [(2, .int (Int32.ofInt 0)), (0, .ref 3), (1, .ref 6)] [] h) from ⟨by decide, fun _ => ?_, fun hz => absurd (by decide) hz⟩)
        exact am_goX 3 (show (∃ ty, (some .boolean) = some ty ∧ narrow ty (.int ((Int32.ofInt 1))) = .int ((Int32.ofInt 1))) ∧ h.2.2.2.2 = 175 ∧ _ from ⟨⟨.boolean, rfl, rfl⟩, ex_175 (c_P l.1), hQ _ _ (cres_inr (s' := s) (by simp only [sp_fn, sp_b, sp_f, cond_true, cond_false, e1, e2, e5, Option.isSome_some, Option.isSome_none, Bool.true_or, Bool.or_true, Bool.or_false, Bool.false_or]) rfl l)⟩)
      | some p6 =>
        have w7 := cr_ef (a := s.1) (C := s.2) l e5
        refine am_goX 2 (show ((nI p6) = (Int32.ofInt (-1)) → pz_S 3 (some .boolean) am_r53 5 Q 53 [(0, .ref 3), (1, .ref 6)] [] h) ∧ (¬ ((nI p6) = (Int32.ofInt (-1))) → pz_S 3 (some .boolean) am_r53 5 Q 49 [(0, .ref 3), (1, .ref 6)] [] h) from ⟨fun hz => absurd hz (nI_m1 (by omega)), fun _ => ?_⟩)
        refine am_goX 5 (show 2 < 3 ∧ ((Int32.ofInt 1) = 0 → pz_S 3 (some .boolean) am_r53 5 Q 70 [(2, .int (Int32.ofInt 1)), (0, .ref 3), (1, .ref 6)] [] h) ∧ (¬ ((Int32.ofInt 1) = 0) → pz_S 3 (some .boolean) am_r53 5 Q 59 [(2, .int (Int32.ofInt 1)), (0, .ref 3), (1, .ref 6)] [] h) from ⟨by decide, fun hz => absurd hz (by decide), fun _ => ?_⟩)
        refine am_goX 2 (show am_sh h 3 = some (1, 0) ∧ pz_S 3 (some .boolean) am_r53 5 Q 63 [(2, .int (Int32.ofInt 1)), (0, .ref 3), (1, .ref 6)] [am_rf (h.2.2.1 3 0)] h from ⟨ex_3 (c_P l.1), ?_⟩)
        rw [ex_r3_0 (h := h) (c_P l.1)]
        refine am_goX 2 (show am_rc h 1 7 ∧ 0 ≤ 8 ∧ h.2.2.2.2 + am_al 52 ≤ 175 ∧ am_call am_cod 5 52 [.ref 1, .int (Int32.ofInt 3)] h (fun vv h' => pz_S 3 (some .boolean) am_r53 5 Q 67 [(2, .int (Int32.ofInt 1)), (0, .ref 3), (1, .ref 6)] (vv.toList ++ []) h') from ⟨Or.inl ⟨by decide, ex_1 (c_P l.1)⟩, by decide, ex_lim (c_P l.1) rfl, am_call.up (c_refuse l.1 ?_) (by decide)⟩)
        have x8 := cr_x (s := s) (k := (Int32.ofInt 3)) (by decide) l (by decide)
        refine am_goX 1 (show ((Int32.ofInt 0) = 0 → pz_S 3 (some .boolean) am_r53 5 Q 74 [(2, .int (Int32.ofInt 1)), (0, .ref 3), (1, .ref 6)] [] (am_wI h 1 7 (sp_ft (tt T sz) s.1 (Int32.ofInt 3)))) ∧ (¬ ((Int32.ofInt 0) = 0) → pz_S 3 (some .boolean) am_r53 5 Q 70 [(2, .int (Int32.ofInt 1)), (0, .ref 3), (1, .ref 6)] [] (am_wI h 1 7 (sp_ft (tt T sz) s.1 (Int32.ofInt 3)))) from ⟨fun _ => ?_, fun hz => absurd (by decide) hz⟩)
        exact am_goX 2 (show (∃ ty, (some .boolean) = some ty ∧ narrow ty (.int ((Int32.ofInt 0))) = .int ((Int32.ofInt 0))) ∧ (am_wI h 1 7 (sp_ft (tt T sz) s.1 (Int32.ofInt 3))).2.2.2.2 = 175 ∧ _ from ⟨⟨.boolean, rfl, rfl⟩, ex_175 x8.1, hQ _ _ (cres_inl (F := sp_ft (tt T sz) s.1 (Int32.ofInt 3)) (by simp only [sp_fn, sp_b, sp_f, cond_true, cond_false, e1, e2, e5, Option.isSome_some, Option.isSome_none, Bool.true_or, Bool.or_true, Bool.or_false, Bool.false_or]) rfl x8)⟩)
    | some p3 =>
      have w4 := cr_pf (a := s.1) (C := s.2) l e2
      refine am_goX 2 (show (¬ (nI p3) = (Int32.ofInt (-1)) → pz_S 3 (some .boolean) am_r53 5 Q 49 [(0, .ref 3), (1, .ref 6)] [] h) ∧ (¬ ¬ (nI p3) = (Int32.ofInt (-1)) → pz_S 3 (some .boolean) am_r53 5 Q 34 [(0, .ref 3), (1, .ref 6)] [] h) from ⟨fun _ => ?_, fun hz => absurd (nI_m1 (by omega)) hz⟩)
      refine am_goX 5 (show 2 < 3 ∧ ((Int32.ofInt 1) = 0 → pz_S 3 (some .boolean) am_r53 5 Q 70 [(2, .int (Int32.ofInt 1)), (0, .ref 3), (1, .ref 6)] [] h) ∧ (¬ ((Int32.ofInt 1) = 0) → pz_S 3 (some .boolean) am_r53 5 Q 59 [(2, .int (Int32.ofInt 1)), (0, .ref 3), (1, .ref 6)] [] h) from ⟨by decide, fun hz => absurd hz (by decide), fun _ => ?_⟩)
      refine am_goX 2 (show am_sh h 3 = some (1, 0) ∧ pz_S 3 (some .boolean) am_r53 5 Q 63 [(2, .int (Int32.ofInt 1)), (0, .ref 3), (1, .ref 6)] [am_rf (h.2.2.1 3 0)] h from ⟨ex_3 (c_P l.1), ?_⟩)
      rw [ex_r3_0 (h := h) (c_P l.1)]
      refine am_goX 2 (show am_rc h 1 7 ∧ 0 ≤ 8 ∧ h.2.2.2.2 + am_al 52 ≤ 175 ∧ am_call am_cod 5 52 [.ref 1, .int (Int32.ofInt 3)] h (fun vv h' => pz_S 3 (some .boolean) am_r53 5 Q 67 [(2, .int (Int32.ofInt 1)), (0, .ref 3), (1, .ref 6)] (vv.toList ++ []) h') from ⟨Or.inl ⟨by decide, ex_1 (c_P l.1)⟩, by decide, ex_lim (c_P l.1) rfl, am_call.up (c_refuse l.1 ?_) (by decide)⟩)
      have x9 := cr_x (s := s) (k := (Int32.ofInt 3)) (by decide) l (by decide)
      refine am_goX 1 (show ((Int32.ofInt 0) = 0 → pz_S 3 (some .boolean) am_r53 5 Q 74 [(2, .int (Int32.ofInt 1)), (0, .ref 3), (1, .ref 6)] [] (am_wI h 1 7 (sp_ft (tt T sz) s.1 (Int32.ofInt 3)))) ∧ (¬ ((Int32.ofInt 0) = 0) → pz_S 3 (some .boolean) am_r53 5 Q 70 [(2, .int (Int32.ofInt 1)), (0, .ref 3), (1, .ref 6)] [] (am_wI h 1 7 (sp_ft (tt T sz) s.1 (Int32.ofInt 3)))) from ⟨fun _ => ?_, fun hz => absurd (by decide) hz⟩)
      exact am_goX 2 (show (∃ ty, (some .boolean) = some ty ∧ narrow ty (.int ((Int32.ofInt 0))) = .int ((Int32.ofInt 0))) ∧ (am_wI h 1 7 (sp_ft (tt T sz) s.1 (Int32.ofInt 3))).2.2.2.2 = 175 ∧ _ from ⟨⟨.boolean, rfl, rfl⟩, ex_175 x9.1, hQ _ _ (cres_inl (F := sp_ft (tt T sz) s.1 (Int32.ofInt 3)) (by simp only [sp_fn, sp_b, sp_f, cond_true, cond_false, e1, e2, Option.isSome_some, Option.isSome_none, Bool.true_or, Bool.or_true, Bool.or_false, Bool.false_or]) rfl x9)⟩)
  | false =>
    refine am_goX 1 (show (¬ (pz_b (false)) = 0 → pz_S 3 (some .boolean) am_r53 5 Q 19 [(0, .ref 3), (1, .ref 6)] [] h) ∧ (¬ ¬ (pz_b (false)) = 0 → pz_S 3 (some .boolean) am_r53 5 Q 10 [(0, .ref 3), (1, .ref 6)] [] h) from ⟨fun hz => absurd hz (by decide), fun _ => ?_⟩)
    refine am_goX 2 (show am_sh h 3 = some (1, 0) ∧ pz_S 3 (some .boolean) am_r53 5 Q 14 [(0, .ref 3), (1, .ref 6)] [am_rf (h.2.2.1 3 0)] h from ⟨ex_3 (c_P l.1), ?_⟩)
    rw [ex_r3_0 (h := h) (c_P l.1)]
    refine am_goX 2 (show am_rc h 1 7 ∧ 0 ≤ 8 ∧ h.2.2.2.2 + am_al 52 ≤ 175 ∧ am_call am_cod 5 52 [.ref 1, .int (Int32.ofInt 1)] h (fun vv h' => pz_S 3 (some .boolean) am_r53 5 Q 18 [(0, .ref 3), (1, .ref 6)] (vv.toList ++ []) h') from ⟨Or.inl ⟨by decide, ex_1 (c_P l.1)⟩, by decide, ex_lim (c_P l.1) rfl, am_call.up (c_refuse l.1 ?_) (by decide)⟩)
    have x10 := cr_x (s := s) (k := (Int32.ofInt 1)) (by decide) l (by decide)
    exact am_goX 1 (show (∃ ty, (some .boolean) = some ty ∧ narrow ty (.int ((Int32.ofInt 0))) = .int ((Int32.ofInt 0))) ∧ (am_wI h 1 7 (sp_ft (tt T sz) s.1 (Int32.ofInt 1))).2.2.2.2 = 175 ∧ _ from ⟨⟨.boolean, rfl, rfl⟩, ex_175 x10.1, hQ _ _ (cres_inl (F := sp_ft (tt T sz) s.1 (Int32.ofInt 1)) (by simp only [sp_fn, sp_b, sp_f, cond_true, cond_false, e1, Option.isSome_some, Option.isSome_none, Bool.true_or, Bool.or_true, Bool.or_false, Bool.false_or]) rfl x10)⟩)
theorem c_57_6 (l : cr h0 6 T sz s h) (hQ : Q (some (.int (sp_ko (sp_kd (tt T sz) s.1)))) h) : am_call am_cod 6 57 [.ref 3] h Q := by
  have hP := c_P l.1
  unfold sp_kd at hQ
  refine pz_call (n := 57) (nL := 1) (rt := (some .int)) (rows := am_r57) (d := 5) (by decide +kernel) (by decide +kernel) rfl (by funext pc; rfl) (ex_175 hP) (by exact Nat.le_of_ble_eq_true rfl) ?_
  refine am_goX 2 (show am_sh h 3 = some (1, 0) ∧ pz_S 1 (some .int) am_r57 5 Q 4 [(0, .ref 3)] [am_rf (h.2.2.1 3 0)] h from ⟨ex_3 (c_P l.1), ?_⟩)
  rw [ex_r3_0 (h := h) (c_P l.1)]
  refine am_goX 2 (show am_rc h 1 7 ∧ 0 ≤ 8 ∧ h.2.2.2.2 + am_al 44 ≤ 175 ∧ am_call am_cod 5 44 [.ref 1, .ref (4000000 + 3)] h (fun vv h' => pz_S 1 (some .int) am_r57 5 Q 9 [(0, .ref 3)] (vv.toList ++ []) h') from ⟨Or.inl ⟨by decide, ex_1 (c_P l.1)⟩, by decide, ex_lim (c_P l.1) rfl, am_call.up (c_isw (by decide) wq_3 l.1 ?_) (by decide)⟩)
  cases e11 : sp_w (tt T sz) s.1 30596128 with
  | true =>
    refine am_goX 1 (show ((pz_b (true)) = 0 → pz_S 1 (some .int) am_r57 5 Q 14 [(0, .ref 3)] [] h) ∧ (¬ ((pz_b (true)) = 0) → pz_S 1 (some .int) am_r57 5 Q 12 [(0, .ref 3)] [] h) from ⟨fun hz => absurd hz (by decide), fun _ => ?_⟩)
    refine am_goX 1 (show pz_S 1 (some .int) am_r57 5 Q 13 [(0, .ref 3)] [.int (Int32.ofInt 0)] h from ?_)
    simp only [e11, cond_true, cond_false] at hQ
    exact am_goX 1 (show (∃ ty, (some .int) = some ty ∧ narrow ty (.int ((Int32.ofInt 0))) = .int ((Int32.ofInt 0))) ∧ h.2.2.2.2 = 175 ∧ _ from ⟨⟨.int, rfl, rfl⟩, ex_175 (c_P l.1), hQ⟩)
  | false =>
    refine am_goX 1 (show ((pz_b (false)) = 0 → pz_S 1 (some .int) am_r57 5 Q 14 [(0, .ref 3)] [] h) ∧ (¬ ((pz_b (false)) = 0) → pz_S 1 (some .int) am_r57 5 Q 12 [(0, .ref 3)] [] h) from ⟨fun _ => ?_, fun hz => absurd (by decide) hz⟩)
    refine am_goX 2 (show am_sh h 3 = some (1, 0) ∧ pz_S 1 (some .int) am_r57 5 Q 18 [(0, .ref 3)] [am_rf (h.2.2.1 3 0)] h from ⟨ex_3 (c_P l.1), ?_⟩)
    rw [ex_r3_0 (h := h) (c_P l.1)]
    refine am_goX 2 (show am_rc h 1 7 ∧ 0 ≤ 8 ∧ h.2.2.2.2 + am_al 44 ≤ 175 ∧ am_call am_cod 5 44 [.ref 1, .ref (4000000 + 4)] h (fun vv h' => pz_S 1 (some .int) am_r57 5 Q 23 [(0, .ref 3)] (vv.toList ++ []) h') from ⟨Or.inl ⟨by decide, ex_1 (c_P l.1)⟩, by decide, ex_lim (c_P l.1) rfl, am_call.up (c_isw (by decide) wq_4 l.1 ?_) (by decide)⟩)
    cases e12 : sp_w (tt T sz) s.1 43567634 with
    | true =>
      refine am_goX 1 (show ((pz_b (true)) = 0 → pz_S 1 (some .int) am_r57 5 Q 28 [(0, .ref 3)] [] h) ∧ (¬ ((pz_b (true)) = 0) → pz_S 1 (some .int) am_r57 5 Q 26 [(0, .ref 3)] [] h) from ⟨fun hz => absurd hz (by decide), fun _ => ?_⟩)
      refine am_goX 1 (show pz_S 1 (some .int) am_r57 5 Q 27 [(0, .ref 3)] [.int (Int32.ofInt 1)] h from ?_)
      simp only [e11, e12, cond_true, cond_false] at hQ
      exact am_goX 1 (show (∃ ty, (some .int) = some ty ∧ narrow ty (.int ((Int32.ofInt 1))) = .int ((Int32.ofInt 1))) ∧ h.2.2.2.2 = 175 ∧ _ from ⟨⟨.int, rfl, rfl⟩, ex_175 (c_P l.1), hQ⟩)
    | false =>
      refine am_goX 1 (show ((pz_b (false)) = 0 → pz_S 1 (some .int) am_r57 5 Q 28 [(0, .ref 3)] [] h) ∧ (¬ ((pz_b (false)) = 0) → pz_S 1 (some .int) am_r57 5 Q 26 [(0, .ref 3)] [] h) from ⟨fun _ => ?_, fun hz => absurd (by decide) hz⟩)
      refine am_goX 2 (show am_sh h 3 = some (1, 0) ∧ pz_S 1 (some .int) am_r57 5 Q 32 [(0, .ref 3)] [am_rf (h.2.2.1 3 0)] h from ⟨ex_3 (c_P l.1), ?_⟩)
      rw [ex_r3_0 (h := h) (c_P l.1)]
      refine am_goX 2 (show am_rc h 1 7 ∧ 0 ≤ 8 ∧ h.2.2.2.2 + am_al 44 ≤ 175 ∧ am_call am_cod 5 44 [.ref 1, .ref (4000000 + 5)] h (fun vv h' => pz_S 1 (some .int) am_r57 5 Q 37 [(0, .ref 3)] (vv.toList ++ []) h') from ⟨Or.inl ⟨by decide, ex_1 (c_P l.1)⟩, by decide, ex_lim (c_P l.1) rfl, am_call.up (c_isw (by decide) wq_5 l.1 ?_) (by decide)⟩)
      cases e13 : sp_w (tt T sz) s.1 37900956 with
      | true =>
        refine am_goX 1 (show ((pz_b (true)) = 0 → pz_S 1 (some .int) am_r57 5 Q 42 [(0, .ref 3)] [] h) ∧ (¬ ((pz_b (true)) = 0) → pz_S 1 (some .int) am_r57 5 Q 40 [(0, .ref 3)] [] h) from ⟨fun hz => absurd hz (by decide), fun _ => ?_⟩)
        refine am_goX 1 (show pz_S 1 (some .int) am_r57 5 Q 41 [(0, .ref 3)] [.int (Int32.ofInt 2)] h from ?_)
        simp only [e11, e12, e13, cond_true, cond_false] at hQ
        exact am_goX 1 (show (∃ ty, (some .int) = some ty ∧ narrow ty (.int ((Int32.ofInt 2))) = .int ((Int32.ofInt 2))) ∧ h.2.2.2.2 = 175 ∧ _ from ⟨⟨.int, rfl, rfl⟩, ex_175 (c_P l.1), hQ⟩)
      | false =>
        refine am_goX 1 (show ((pz_b (false)) = 0 → pz_S 1 (some .int) am_r57 5 Q 42 [(0, .ref 3)] [] h) ∧ (¬ ((pz_b (false)) = 0) → pz_S 1 (some .int) am_r57 5 Q 40 [(0, .ref 3)] [] h) from ⟨fun _ => ?_, fun hz => absurd (by decide) hz⟩)
        refine am_goX 2 (show am_sh h 3 = some (1, 0) ∧ pz_S 1 (some .int) am_r57 5 Q 46 [(0, .ref 3)] [am_rf (h.2.2.1 3 0)] h from ⟨ex_3 (c_P l.1), ?_⟩)
        rw [ex_r3_0 (h := h) (c_P l.1)]
        refine am_goX 2 (show am_rc h 1 7 ∧ 0 ≤ 8 ∧ h.2.2.2.2 + am_al 44 ≤ 175 ∧ am_call am_cod 5 44 [.ref 1, .ref (4000000 + 6)] h (fun vv h' => pz_S 1 (some .int) am_r57 5 Q 51 [(0, .ref 3)] (vv.toList ++ []) h') from ⟨Or.inl ⟨by decide, ex_1 (c_P l.1)⟩, by decide, ex_lim (c_P l.1) rfl, am_call.up (c_isw (by decide) wq_6 l.1 ?_) (by decide)⟩)
        cases e14 : sp_w (tt T sz) s.1 488058286 with
        | true =>
          refine am_goX 1 (show ((pz_b (true)) = 0 → pz_S 1 (some .int) am_r57 5 Q 58 [(0, .ref 3)] [] h) ∧ (¬ ((pz_b (true)) = 0) → pz_S 1 (some .int) am_r57 5 Q 54 [(0, .ref 3)] [] h) from ⟨fun hz => absurd hz (by decide), fun _ => ?_⟩)
          refine am_goX 2 (show pz_S 1 (some .int) am_r57 5 Q 59 [(0, .ref 3)] [.int (Int32.ofInt 3)] h from ?_)
          simp only [e11, e12, e13, e14, cond_true, cond_false] at hQ
          exact am_goX 1 (show (∃ ty, (some .int) = some ty ∧ narrow ty (.int ((Int32.ofInt 3))) = .int ((Int32.ofInt 3))) ∧ h.2.2.2.2 = 175 ∧ _ from ⟨⟨.int, rfl, rfl⟩, ex_175 (c_P l.1), hQ⟩)
        | false =>
          refine am_goX 1 (show ((pz_b (false)) = 0 → pz_S 1 (some .int) am_r57 5 Q 58 [(0, .ref 3)] [] h) ∧ (¬ ((pz_b (false)) = 0) → pz_S 1 (some .int) am_r57 5 Q 54 [(0, .ref 3)] [] h) from ⟨fun _ => ?_, fun hz => absurd (by decide) hz⟩)
          refine am_goX 1 (show pz_S 1 (some .int) am_r57 5 Q 59 [(0, .ref 3)] [.int (Int32.ofInt (-1))] h from ?_)
          simp only [e11, e12, e13, e14, cond_true, cond_false] at hQ
          exact am_goX 1 (show (∃ ty, (some .int) = some ty ∧ narrow ty (.int ((Int32.ofInt (-1)))) = .int ((Int32.ofInt (-1)))) ∧ h.2.2.2.2 = 175 ∧ _ from ⟨⟨.int, rfl, rfl⟩, ex_175 (c_P l.1), hQ⟩)
theorem c_51_6 (hn : ¬ (tt T sz s.1).1 = 0) (l : cr h0 6 T sz s h) (hQ : ∀ v h1, cres h0 6 T sz (sp_person (tt T sz) s) v h1 → Q v h1) : am_call am_cod 7 51 [.ref 3, .ref 6] h Q := by
  have hP := c_P l.1
  have a1 : h.1 6 0 = nI s.2.1.1 := l.2.1.1.1
  have a2 : s.2.1.1 ≤ 6 := l.2.1.1.2.1
  refine pz_call (n := 51) (nL := 4) (rt := (some .boolean)) (rows := am_r51) (d := 6) (by decide +kernel) (by decide +kernel) rfl (by funext pc; rfl) (ex_175 hP) (by exact Nat.le_of_ble_eq_true rfl) ?_
  refine am_goX 5 (show am_sh h 6 = some (0, 0) ∧ 2 < 4 ∧ pz_S 4 (some .boolean) am_r51 6 Q 8 [(2, .int (h.1 6 0)), (0, .ref 3), (1, .ref 6)] [.int (Int8.ofInt 6).toInt32, .int (h.1 6 0)] h from ⟨ex_6 (c_P l.1), by decide, ?_⟩)
  rw [a1]
  cases e15 : Nat.ble 6 s.2.1.1 with
  | true =>
    refine am_goX 1 (show ((nI s.2.1.1) < (Int8.ofInt 6).toInt32 → pz_S 4 (some .boolean) am_r51 6 Q 20 [(2, .int (nI s.2.1.1)), (0, .ref 3), (1, .ref 6)] [] h) ∧ (¬ ((nI s.2.1.1) < (Int8.ofInt 6).toInt32) → pz_S 4 (some .boolean) am_r51 6 Q 11 [(2, .int (nI s.2.1.1)), (0, .ref 3), (1, .ref 6)] [] h) from ⟨fun hz => absurd hz (i6 e15 a2), fun _ => ?_⟩)
    refine am_goX 2 (show am_sh h 3 = some (1, 0) ∧ pz_S 4 (some .boolean) am_r51 6 Q 15 [(2, .int (nI s.2.1.1)), (0, .ref 3), (1, .ref 6)] [am_rf (h.2.2.1 3 0)] h from ⟨ex_3 (c_P l.1), ?_⟩)
    rw [ex_r3_0 (h := h) (c_P l.1)]
    refine am_goX 2 (show am_rc h 1 7 ∧ 0 ≤ 8 ∧ h.2.2.2.2 + am_al 52 ≤ 175 ∧ am_call am_cod 6 52 [.ref 1, .int (Int32.ofInt 5)] h (fun vv h' => pz_S 4 (some .boolean) am_r51 6 Q 19 [(2, .int (nI s.2.1.1)), (0, .ref 3), (1, .ref 6)] (vv.toList ++ []) h') from ⟨Or.inl ⟨by decide, ex_1 (c_P l.1)⟩, by decide, ex_lim (c_P l.1) rfl, am_call.up (c_refuse l.1 ?_) (by decide)⟩)
    have x16 := cr_x (s := s) (k := (Int32.ofInt 5)) (by decide) l (by decide)
    exact am_goX 1 (show (∃ ty, (some .boolean) = some ty ∧ narrow ty (.int ((Int32.ofInt 0))) = .int ((Int32.ofInt 0))) ∧ (am_wI h 1 7 (sp_ft (tt T sz) s.1 (Int32.ofInt 5))).2.2.2.2 = 175 ∧ _ from ⟨⟨.boolean, rfl, rfl⟩, ex_175 x16.1, hQ _ _ (cres_inl (F := sp_ft (tt T sz) s.1 (Int32.ofInt 5)) (by simp only [sp_person, sp_b, sp_f, cond_true, cond_false, e15, Option.isSome_some, Option.isSome_none, Bool.true_or, Bool.or_true, Bool.or_false, Bool.false_or]) rfl x16)⟩)
  | false =>
    refine am_goX 1 (show ((nI s.2.1.1) < (Int8.ofInt 6).toInt32 → pz_S 4 (some .boolean) am_r51 6 Q 20 [(2, .int (nI s.2.1.1)), (0, .ref 3), (1, .ref 6)] [] h) ∧ (¬ ((nI s.2.1.1) < (Int8.ofInt 6).toInt32) → pz_S 4 (some .boolean) am_r51 6 Q 11 [(2, .int (nI s.2.1.1)), (0, .ref 3), (1, .ref 6)] [] h) from ⟨fun _ => ?_, fun hz => absurd (j6 e15) hz⟩)
    have hlt := j6n e15
    refine am_goX 2 (show am_sh h 3 = some (1, 0) ∧ pz_S 4 (some .boolean) am_r51 6 Q 24 [(2, .int (nI s.2.1.1)), (0, .ref 3), (1, .ref 6)] [am_rf (h.2.2.1 3 0)] h from ⟨ex_3 (c_P l.1), ?_⟩)
    rw [ex_r3_0 (h := h) (c_P l.1)]
    refine am_goX 1 (show am_rc h 1 7 ∧ 0 ≤ 8 ∧ h.2.2.2.2 + am_al 18 ≤ 175 ∧ am_call am_cod 6 18 [.ref 1] h (fun vv h' => pz_S 4 (some .boolean) am_r51 6 Q 27 [(2, .int (nI s.2.1.1)), (0, .ref 3), (1, .ref 6)] (vv.toList ++ []) h') from ⟨Or.inl ⟨by decide, ex_1 (c_P l.1)⟩, by decide, ex_lim (c_P l.1) rfl, am_call.up (c_step l.1 (hn) (fun h17 m18 f19 => ?_)) (by decide)⟩)
    have l20 : cr h0 6 T sz (s.1 + 1, s.2) h17 := cr_fr (a := s.1) (C := s.2) (by decide) l m18 (Nat.le_succ _) f19
    refine am_goX 3 (show am_rc h17 3 1 ∧ 0 ≤ 8 ∧ h17.2.2.2.2 + am_al 53 ≤ 175 ∧ am_call am_cod 6 53 [.ref 3, .ref 6] h17 (fun vv h' => pz_S 4 (some .boolean) am_r51 6 Q 32 [(2, .int (nI s.2.1.1)), (0, .ref 3), (1, .ref 6)] (vv.toList ++ []) h') from ⟨Or.inl ⟨by decide, ex_3 (c_P l20.1)⟩, by decide, ex_lim (c_P l20.1) rfl, am_call.up (c_53_6 (s := (s.1 + 1, s.2)) l20 (fun v21 h22 x23 => ?_)) (by decide)⟩)
    rcases cres_cs x23 with ⟨F25, e27, rfl, y28⟩ | ⟨t26, e27, rfl, y28⟩
    ·
      refine am_goX 1 (show (¬ 0 = 0 → pz_S 4 (some .boolean) am_r51 6 Q 37 [(2, .int (nI s.2.1.1)), (0, .ref 3), (1, .ref 6)] [] h22) ∧ (¬ ¬ 0 = 0 → pz_S 4 (some .boolean) am_r51 6 Q 35 [(2, .int (nI s.2.1.1)), (0, .ref 3), (1, .ref 6)] [] h22) from ⟨fun hz => absurd hz (by decide), fun _ => ?_⟩)
      exact am_goX 2 (show (∃ ty, (some .boolean) = some ty ∧ narrow ty (.int ((Int32.ofInt 0))) = .int ((Int32.ofInt 0))) ∧ h22.2.2.2.2 = 175 ∧ _ from ⟨⟨.boolean, rfl, rfl⟩, ex_175 y28.1, hQ _ _ (cres_inl (F := F25) (by simp only [sp_person, sp_b, sp_f, cond_true, cond_false, e15, e27, Option.isSome_some, Option.isSome_none, Bool.true_or, Bool.or_true, Bool.or_false, Bool.false_or]) rfl y28)⟩)
    ·
      obtain ⟨rfl, k29⟩ := sp_fn_inr e27
      refine am_goX 1 (show (¬ 1 = 0 → pz_S 4 (some .boolean) am_r51 6 Q 37 [(2, .int (nI s.2.1.1)), (0, .ref 3), (1, .ref 6)] [] h22) ∧ (¬ ¬ 1 = 0 → pz_S 4 (some .boolean) am_r51 6 Q 35 [(2, .int (nI s.2.1.1)), (0, .ref 3), (1, .ref 6)] [] h22) from ⟨fun _ => ?_, fun hz => absurd (by decide) hz⟩)
      refine am_goX 2 (show am_sh h22 6 = some (0, 0) ∧ pz_S 4 (some .boolean) am_r51 6 Q 41 [(2, .int (nI s.2.1.1)), (0, .ref 3), (1, .ref 6)] [am_rf (h22.2.2.1 6 1)] h22 from ⟨ex_6 (c_P y28.1), ?_⟩)
      rw [ex_r6_1 (h := h22) (c_P y28.1)]
      refine am_goX 3 (show am_sh h22 3 = some (1, 0) ∧ pz_S 4 (some .boolean) am_r51 6 Q 46 [(2, .int (nI s.2.1.1)), (0, .ref 3), (1, .ref 6)] [am_rf (h22.2.2.1 3 0), .int (nI s.2.1.1), .ref 7] h22 from ⟨ex_3 (c_P y28.1), ?_⟩)
      rw [ex_r3_0 (h := h22) (c_P y28.1)]
      refine am_goX 2 (show am_sh h22 1 = some (7, 0) ∧ ∃ jj nn : Nat, am_so h22 7 = some (14, nn) ∧ jj < nn ∧ (nI s.2.1.1) = nI jj ∧ pz_S 4 (some .boolean) am_r51 6 Q 50 [(2, .int (nI s.2.1.1)), (0, .ref 3), (1, .ref 6)] [] (am_wL h22 7 jj (h22.2.1 1 5)) from ⟨ex_1 (c_P y28.1), s.2.1.1, 6, ex_w7 (c_P y28.1), by omega, rfl, ?_⟩)
      have l30 : cr h0 6 T sz (s.1 + 1, s.2) (am_wL h22 7 (s.2.1.1) (h22.2.1 1 5)) := cr_wg (by decide) y28 (Or.inl ⟨rfl, Nat.le_refl _⟩)
      have x1 : cwk (tt T sz (s.1 + 1)).2.1 ((am_wL h22 7 (s.2.1.1) (h22.2.1 1 5)).2.1 7 (s.2.1.1)) := by
        rw [ex_lq]
        exact c_wd y28.1 (sp_nk k29)
      refine am_goX 2 (show am_sh (am_wL h22 7 (s.2.1.1) (h22.2.1 1 5)) 3 = some (1, 0) ∧ pz_S 4 (some .boolean) am_r51 6 Q 54 [(2, .int (nI s.2.1.1)), (0, .ref 3), (1, .ref 6)] [am_rf ((am_wL h22 7 (s.2.1.1) (h22.2.1 1 5)).2.2.1 3 0)] (am_wL h22 7 (s.2.1.1) (h22.2.1 1 5)) from ⟨ex_3 (c_P l30.1), ?_⟩)
      rw [ex_r3_0 (h := am_wL h22 7 (s.2.1.1) (h22.2.1 1 5)) (c_P l30.1)]
      refine am_goX 1 (show am_rc (am_wL h22 7 (s.2.1.1) (h22.2.1 1 5)) 1 7 ∧ 0 ≤ 8 ∧ (am_wL h22 7 (s.2.1.1) (h22.2.1 1 5)).2.2.2.2 + am_al 18 ≤ 175 ∧ am_call am_cod 6 18 [.ref 1] (am_wL h22 7 (s.2.1.1) (h22.2.1 1 5)) (fun vv h' => pz_S 4 (some .boolean) am_r51 6 Q 57 [(2, .int (nI s.2.1.1)), (0, .ref 3), (1, .ref 6)] (vv.toList ++ []) h') from ⟨Or.inl ⟨by decide, ex_1 (c_P l30.1)⟩, by decide, ex_lim (c_P l30.1) rfl, am_call.up (c_step l30.1 (sp_nn k29) (fun h31 m32 f33 => ?_)) (by decide)⟩)
      have l34 : cr h0 6 T sz (s.1 + 1 + 1, s.2) h31 := cr_fr (a := (s.1 + 1)) (C := s.2) (by decide) l30 m32 (Nat.le_succ _) f33
      have x1 := fr1_W f33 (by decide) x1
      refine am_goX 2 (show am_rc h31 3 1 ∧ 0 ≤ 8 ∧ h31.2.2.2.2 + am_al 57 ≤ 175 ∧ am_call am_cod 6 57 [.ref 3] h31 (fun vv h' => pz_S 4 (some .boolean) am_r51 6 Q 61 [(2, .int (nI s.2.1.1)), (0, .ref 3), (1, .ref 6)] (vv.toList ++ []) h') from ⟨Or.inl ⟨by decide, ex_3 (c_P l34.1)⟩, by decide, ex_lim (c_P l34.1) rfl, am_call.up (c_57_6 l34 ?_) (by decide)⟩)
      cases e35 : sp_kd (tt T sz) (s.1 + 1 + 1) with
      | none =>
        refine am_goX 4 (show 3 < 4 ∧ (¬ (Int32.ofInt (-1)) = (Int32.ofInt (-1)) → pz_S 4 (some .boolean) am_r51 6 Q 76 [(3, .int (Int32.ofInt (-1))), (2, .int (nI s.2.1.1)), (0, .ref 3), (1, .ref 6)] [] h31) ∧ (¬ ¬ (Int32.ofInt (-1)) = (Int32.ofInt (-1)) → pz_S 4 (some .boolean) am_r51 6 Q 67 [(3, .int (Int32.ofInt (-1))), (2, .int (nI s.2.1.1)), (0, .ref 3), (1, .ref 6)] [] h31) from ⟨by decide, fun hz => absurd hz (by decide), fun _ => ?_⟩)
        refine am_goX 2 (show am_sh h31 3 = some (1, 0) ∧ pz_S 4 (some .boolean) am_r51 6 Q 71 [(3, .int (Int32.ofInt (-1))), (2, .int (nI s.2.1.1)), (0, .ref 3), (1, .ref 6)] [am_rf (h31.2.2.1 3 0)] h31 from ⟨ex_3 (c_P l34.1), ?_⟩)
        rw [ex_r3_0 (h := h31) (c_P l34.1)]
        refine am_goX 2 (show am_rc h31 1 7 ∧ 0 ≤ 8 ∧ h31.2.2.2.2 + am_al 52 ≤ 175 ∧ am_call am_cod 6 52 [.ref 1, .int (Int32.ofInt 1)] h31 (fun vv h' => pz_S 4 (some .boolean) am_r51 6 Q 75 [(3, .int (Int32.ofInt (-1))), (2, .int (nI s.2.1.1)), (0, .ref 3), (1, .ref 6)] (vv.toList ++ []) h') from ⟨Or.inl ⟨by decide, ex_1 (c_P l34.1)⟩, by decide, ex_lim (c_P l34.1) rfl, am_call.up (c_refuse l34.1 ?_) (by decide)⟩)
        have x38 := cr_x (s := (s.1 + 1 + 1, s.2)) (k := (Int32.ofInt 1)) (by decide) l34 (by decide)
        exact am_goX 1 (show (∃ ty, (some .boolean) = some ty ∧ narrow ty (.int ((Int32.ofInt 0))) = .int ((Int32.ofInt 0))) ∧ (am_wI h31 1 7 (sp_ft (tt T sz) (s.1 + 1 + 1) (Int32.ofInt 1))).2.2.2.2 = 175 ∧ _ from ⟨⟨.boolean, rfl, rfl⟩, ex_175 x38.1, hQ _ _ (cres_inl (F := sp_ft (tt T sz) (s.1 + 1 + 1) (Int32.ofInt 1)) (by simp only [sp_person, sp_b, sp_f, cond_true, cond_false, e15, e27, e35, Option.isSome_some, Option.isSome_none, Bool.true_or, Bool.or_true, Bool.or_false, Bool.false_or]) rfl x38)⟩)
      | some k36 =>
        have w37 := sp_kd_v e35
        refine am_goX 4 (show 3 < 4 ∧ (¬ k36 = (Int32.ofInt (-1)) → pz_S 4 (some .boolean) am_r51 6 Q 76 [(3, .int k36), (2, .int (nI s.2.1.1)), (0, .ref 3), (1, .ref 6)] [] h31) ∧ (¬ ¬ k36 = (Int32.ofInt (-1)) → pz_S 4 (some .boolean) am_r51 6 Q 67 [(3, .int k36), (2, .int (nI s.2.1.1)), (0, .ref 3), (1, .ref 6)] [] h31) from ⟨by decide, fun _ => ?_, fun hz => absurd w37.1 hz⟩)
        refine am_goX 2 (show am_sh h31 6 = some (0, 0) ∧ pz_S 4 (some .boolean) am_r51 6 Q 80 [(3, .int k36), (2, .int (nI s.2.1.1)), (0, .ref 3), (1, .ref 6)] [am_rf (h31.2.2.1 6 2)] h31 from ⟨ex_6 (c_P l34.1), ?_⟩)
        rw [ex_r6_2 (h := h31) (c_P l34.1)]
        refine am_goX 3 (show ∃ jj nn : Nat, am_so h31 8 = some (13, nn) ∧ jj < nn ∧ (nI s.2.1.1) = nI jj ∧ pz_S 4 (some .boolean) am_r51 6 Q 83 [(3, .int k36), (2, .int (nI s.2.1.1)), (0, .ref 3), (1, .ref 6)] [] (am_wI h31 8 jj k36) from ⟨s.2.1.1, 6, ex_w8 (c_P l34.1), by omega, rfl, ?_⟩)
        have l39 : cr h0 6 T sz (s.1 + 1 + 1, s.2) (am_wI h31 8 (s.2.1.1) k36) := cr_wf (by decide) l34 (Or.inl ⟨Or.inl rfl, Nat.le_refl _⟩)
        have x2 : (am_wI h31 8 (s.2.1.1) k36).1 8 (s.2.1.1) = k36 := em_we _ _ _ _
        refine am_goX 2 (show am_sh (am_wI h31 8 (s.2.1.1) k36) 3 = some (1, 0) ∧ pz_S 4 (some .boolean) am_r51 6 Q 87 [(3, .int k36), (2, .int (nI s.2.1.1)), (0, .ref 3), (1, .ref 6)] [am_rf ((am_wI h31 8 (s.2.1.1) k36).2.2.1 3 0)] (am_wI h31 8 (s.2.1.1) k36) from ⟨ex_3 (c_P l39.1), ?_⟩)
        rw [ex_r3_0 (h := am_wI h31 8 (s.2.1.1) k36) (c_P l39.1)]
        refine am_goX 1 (show am_rc (am_wI h31 8 (s.2.1.1) k36) 1 7 ∧ 0 ≤ 8 ∧ (am_wI h31 8 (s.2.1.1) k36).2.2.2.2 + am_al 18 ≤ 175 ∧ am_call am_cod 6 18 [.ref 1] (am_wI h31 8 (s.2.1.1) k36) (fun vv h' => pz_S 4 (some .boolean) am_r51 6 Q 90 [(3, .int k36), (2, .int (nI s.2.1.1)), (0, .ref 3), (1, .ref 6)] (vv.toList ++ []) h') from ⟨Or.inl ⟨by decide, ex_1 (c_P l39.1)⟩, by decide, ex_lim (c_P l39.1) rfl, am_call.up (c_step l39.1 (w37.2) (fun h40 m41 f42 => ?_)) (by decide)⟩)
        have l43 : cr h0 6 T sz (s.1 + 1 + 1 + 1, s.2) h40 := cr_fr (a := (s.1 + 1 + 1)) (C := s.2) (by decide) l39 m41 (Nat.le_succ _) f42
        have x1 := fr1_W f42 (by decide) x1
        have x2 := fr1_I f42 (by decide) x2
        refine am_goX 2 (show am_sh h40 3 = some (1, 0) ∧ pz_S 4 (some .boolean) am_r51 6 Q 94 [(3, .int k36), (2, .int (nI s.2.1.1)), (0, .ref 3), (1, .ref 6)] [am_rf (h40.2.2.1 3 0)] h40 from ⟨ex_3 (c_P l43.1), ?_⟩)
        rw [ex_r3_0 (h := h40) (c_P l43.1)]
        refine am_goX 2 (show am_rc h40 1 7 ∧ 0 ≤ 8 ∧ h40.2.2.2.2 + am_al 58 ≤ 175 ∧ am_call am_cod 6 58 [.ref 1, .ref (4000000 + 7)] h40 (fun vv h' => pz_S 4 (some .boolean) am_r51 6 Q 99 [(3, .int k36), (2, .int (nI s.2.1.1)), (0, .ref 3), (1, .ref 6)] (vv.toList ++ []) h') from ⟨Or.inl ⟨by decide, ex_1 (c_P l43.1)⟩, by decide, ex_lim (c_P l43.1) rfl, am_call.up (c_tW (s := (s.1 + 1 + 1 + 1, s.2)) (by decide) wq_7 (by decide) l43 (fun v44 h45 x46 f47 => ?_)) (by decide)⟩)
        rcases cres_cs x46 with ⟨F48, e50, rfl, y51⟩ | ⟨t49, e50, rfl, y51⟩
        ·
          refine am_goX 1 (show (0 = 0 → pz_S 4 (some .boolean) am_r51 6 Q 114 [(3, .int k36), (2, .int (nI s.2.1.1)), (0, .ref 3), (1, .ref 6)] [] h45) ∧ (¬ (0 = 0) → pz_S 4 (some .boolean) am_r51 6 Q 102 [(3, .int k36), (2, .int (nI s.2.1.1)), (0, .ref 3), (1, .ref 6)] [] h45) from ⟨fun _ => ?_, fun hz => absurd (by decide) hz⟩)
          exact am_goX 2 (show (∃ ty, (some .boolean) = some ty ∧ narrow ty (.int ((Int32.ofInt 0))) = .int ((Int32.ofInt 0))) ∧ h45.2.2.2.2 = 175 ∧ _ from ⟨⟨.boolean, rfl, rfl⟩, ex_175 y51.1, hQ _ _ (cres_inl (F := F48) (by simp only [sp_person, sp_b, sp_f, cond_true, cond_false, e15, e27, e35, e50, Option.isSome_some, Option.isSome_none, Bool.true_or, Bool.or_true, Bool.or_false, Bool.false_or]) rfl y51)⟩)
        ·
          obtain rfl := sp_tW_inr e50
          have x1 := fr1_W f47 (by decide) x1
          have x2 := fr1_I f47 (by decide) x2
          refine am_goX 1 (show (1 = 0 → pz_S 4 (some .boolean) am_r51 6 Q 114 [(3, .int k36), (2, .int (nI s.2.1.1)), (0, .ref 3), (1, .ref 6)] [] h45) ∧ (¬ (1 = 0) → pz_S 4 (some .boolean) am_r51 6 Q 102 [(3, .int k36), (2, .int (nI s.2.1.1)), (0, .ref 3), (1, .ref 6)] [] h45) from ⟨fun hz => absurd hz (by decide), fun _ => ?_⟩)
          refine am_goX 2 (show am_sh h45 3 = some (1, 0) ∧ pz_S 4 (some .boolean) am_r51 6 Q 106 [(3, .int k36), (2, .int (nI s.2.1.1)), (0, .ref 3), (1, .ref 6)] [am_rf (h45.2.2.1 3 0)] h45 from ⟨ex_3 (c_P y51.1), ?_⟩)
          rw [ex_r3_0 (h := h45) (c_P y51.1)]
          refine am_goX 3 (show am_rc h45 1 7 ∧ 0 ≤ 8 ∧ h45.2.2.2.2 + am_al 59 ≤ 175 ∧ am_call am_cod 6 59 [.ref 1, .int (Int32.ofInt 0), .int (Int32.ofInt 4)] h45 (fun vv h' => pz_S 4 (some .boolean) am_r51 6 Q 111 [(3, .int k36), (2, .int (nI s.2.1.1)), (0, .ref 3), (1, .ref 6)] (vv.toList ++ []) h') from ⟨Or.inl ⟨by decide, ex_1 (c_P y51.1)⟩, by decide, ex_lim (c_P y51.1) rfl, am_call.up (c_tN (s := (s.1 + 1 + 1 + 1 + 1, s.2)) (by decide) y51 (fun v52 h53 x54 f55 => ?_)) (by decide)⟩)
          rcases cres_cs x54 with ⟨F56, e58, rfl, y59⟩ | ⟨t57, e58, rfl, y59⟩
          ·
            refine am_goX 1 (show (¬ 0 = 0 → pz_S 4 (some .boolean) am_r51 6 Q 116 [(3, .int k36), (2, .int (nI s.2.1.1)), (0, .ref 3), (1, .ref 6)] [] h53) ∧ (¬ ¬ 0 = 0 → pz_S 4 (some .boolean) am_r51 6 Q 114 [(3, .int k36), (2, .int (nI s.2.1.1)), (0, .ref 3), (1, .ref 6)] [] h53) from ⟨fun hz => absurd hz (by decide), fun _ => ?_⟩)
            exact am_goX 2 (show (∃ ty, (some .boolean) = some ty ∧ narrow ty (.int ((Int32.ofInt 0))) = .int ((Int32.ofInt 0))) ∧ h53.2.2.2.2 = 175 ∧ _ from ⟨⟨.boolean, rfl, rfl⟩, ex_175 y59.1, hQ _ _ (cres_inl (F := F56) (by simp only [sp_person, sp_b, sp_f, cond_true, cond_false, e15, e27, e35, e50, e58, Option.isSome_some, Option.isSome_none, Bool.true_or, Bool.or_true, Bool.or_false, Bool.false_or]) rfl y59)⟩)
          ·
            obtain ⟨rfl, k60, _⟩ := sp_tN_inr e58
            have x1 := fr1_W f55 (by decide) x1
            have x2 := fr1_I f55 (by decide) x2
            refine am_goX 1 (show (¬ 1 = 0 → pz_S 4 (some .boolean) am_r51 6 Q 116 [(3, .int k36), (2, .int (nI s.2.1.1)), (0, .ref 3), (1, .ref 6)] [] h53) ∧ (¬ ¬ 1 = 0 → pz_S 4 (some .boolean) am_r51 6 Q 114 [(3, .int k36), (2, .int (nI s.2.1.1)), (0, .ref 3), (1, .ref 6)] [] h53) from ⟨fun _ => ?_, fun hz => absurd (by decide) hz⟩)
            refine am_goX 2 (show am_sh h53 6 = some (0, 0) ∧ pz_S 4 (some .boolean) am_r51 6 Q 120 [(3, .int k36), (2, .int (nI s.2.1.1)), (0, .ref 3), (1, .ref 6)] [am_rf (h53.2.2.1 6 3)] h53 from ⟨ex_6 (c_P y59.1), ?_⟩)
            rw [ex_r6_3 (h := h53) (c_P y59.1)]
            refine am_goX 3 (show am_sh h53 3 = some (1, 0) ∧ pz_S 4 (some .boolean) am_r51 6 Q 125 [(3, .int k36), (2, .int (nI s.2.1.1)), (0, .ref 3), (1, .ref 6)] [am_rf (h53.2.2.1 3 0), .int (nI s.2.1.1), .ref 9] h53 from ⟨ex_3 (c_P y59.1), ?_⟩)
            rw [ex_r3_0 (h := h53) (c_P y59.1)]
            refine am_goX 1 (show am_sh h53 1 = some (7, 0) ∧ pz_S 4 (some .boolean) am_r51 6 Q 128 [(3, .int k36), (2, .int (nI s.2.1.1)), (0, .ref 3), (1, .ref 6)] [.int (h53.1 1 6), .int (nI s.2.1.1), .ref 9] h53 from ⟨ex_1 (c_P y59.1), ?_⟩)
            rw [c_nv y59.1 k60]
            refine am_goX 1 (show ∃ jj nn : Nat, am_so h53 9 = some (13, nn) ∧ jj < nn ∧ (nI s.2.1.1) = nI jj ∧ pz_S 4 (some .boolean) am_r51 6 Q 129 [(3, .int k36), (2, .int (nI s.2.1.1)), (0, .ref 3), (1, .ref 6)] [] (am_wI h53 9 jj (sp_v (tt T sz) (s.1 + 1 + 1 + 1 + 1))) from ⟨s.2.1.1, 6, ex_w9 (c_P y59.1), by omega, rfl, ?_⟩)
            have l61 : cr h0 6 T sz (s.1 + 1 + 1 + 1 + 1, s.2) (am_wI h53 9 (s.2.1.1) (sp_v (tt T sz) (s.1 + 1 + 1 + 1 + 1))) := cr_wf (by decide) y59 (Or.inl ⟨Or.inr rfl, Nat.le_refl _⟩)
            have x3 : (am_wI h53 9 (s.2.1.1) (sp_v (tt T sz) (s.1 + 1 + 1 + 1 + 1))).1 9 (s.2.1.1) = (sp_v (tt T sz) (s.1 + 1 + 1 + 1 + 1)) := em_we _ _ _ _
            have x2 := (em_wn (o := 9) (k := s.2.1.1) _ ((sp_v (tt T sz) (s.1 + 1 + 1 + 1 + 1))) (by omega)).trans x2
            refine am_goX 2 (show am_sh (am_wI h53 9 (s.2.1.1) (sp_v (tt T sz) (s.1 + 1 + 1 + 1 + 1))) 3 = some (1, 0) ∧ pz_S 4 (some .boolean) am_r51 6 Q 133 [(3, .int k36), (2, .int (nI s.2.1.1)), (0, .ref 3), (1, .ref 6)] [am_rf ((am_wI h53 9 (s.2.1.1) (sp_v (tt T sz) (s.1 + 1 + 1 + 1 + 1))).2.2.1 3 0)] (am_wI h53 9 (s.2.1.1) (sp_v (tt T sz) (s.1 + 1 + 1 + 1 + 1))) from ⟨ex_3 (c_P l61.1), ?_⟩)
            rw [ex_r3_0 (h := am_wI h53 9 (s.2.1.1) (sp_v (tt T sz) (s.1 + 1 + 1 + 1 + 1))) (c_P l61.1)]
            refine am_goX 1 (show am_rc (am_wI h53 9 (s.2.1.1) (sp_v (tt T sz) (s.1 + 1 + 1 + 1 + 1))) 1 7 ∧ 0 ≤ 8 ∧ (am_wI h53 9 (s.2.1.1) (sp_v (tt T sz) (s.1 + 1 + 1 + 1 + 1))).2.2.2.2 + am_al 18 ≤ 175 ∧ am_call am_cod 6 18 [.ref 1] (am_wI h53 9 (s.2.1.1) (sp_v (tt T sz) (s.1 + 1 + 1 + 1 + 1))) (fun vv h' => pz_S 4 (some .boolean) am_r51 6 Q 136 [(3, .int k36), (2, .int (nI s.2.1.1)), (0, .ref 3), (1, .ref 6)] (vv.toList ++ []) h') from ⟨Or.inl ⟨by decide, ex_1 (c_P l61.1)⟩, by decide, ex_lim (c_P l61.1) rfl, am_call.up (c_step l61.1 (sp_kn (by decide) k60) (fun h62 m63 f64 => ?_)) (by decide)⟩)
            have l65 : cr h0 6 T sz (s.1 + 1 + 1 + 1 + 1 + 1, s.2) h62 := cr_fr (a := (s.1 + 1 + 1 + 1 + 1)) (C := s.2) (by decide) l61 m63 (Nat.le_succ _) f64
            have x1 := fr1_W f64 (by decide) x1
            have x2 := fr1_I f64 (by decide) x2
            have x3 := fr1_I f64 (by decide) x3
            refine am_goX 6 (show (Value.ref 6).category = 1 ∧ am_sh h62 6 = some (0, 0) ∧ am_sh h62 6 = some (0, 0) ∧ narrow (am_fty 0 0) (.int (((h62.1 6 0) + (Int32.ofInt 1)))) = .int (((h62.1 6 0) + (Int32.ofInt 1))) ∧ fits (am_fty 0 0) (.int (((h62.1 6 0) + (Int32.ofInt 1)))) = true ∧ pz_S 4 (some .boolean) am_r51 6 Q 146 [(3, .int k36), (2, .int (nI s.2.1.1)), (0, .ref 3), (1, .ref 6)] [] (am_wI h62 6 0 (((h62.1 6 0) + (Int32.ofInt 1)))) from ⟨rfl, ex_6 (c_P l65.1), ex_6 (c_P l65.1), rfl, rfl, ?_⟩)
            rw [show h62.1 6 0 = nI (s.2.1.1) from l65.2.1.1.1, xw_i1]
            have l66 : cr h0 6 T sz (s.1 + 1 + 1 + 1 + 1 + 1, sp_cP s.2 (tt T sz (s.1 + 1)).2.1 k36 (sp_v (tt T sz) (s.1 + 1 + 1 + 1 + 1))) (am_wI h62 6 0 (nI (s.2.1.1 + 1))) := cr_P (by decide) l65 hlt x1 x2 x3
            refine am_goX 2 (show am_sh (am_wI h62 6 0 (nI (s.2.1.1 + 1))) 3 = some (1, 0) ∧ pz_S 4 (some .boolean) am_r51 6 Q 150 [(3, .int k36), (2, .int (nI s.2.1.1)), (0, .ref 3), (1, .ref 6)] [am_rf ((am_wI h62 6 0 (nI (s.2.1.1 + 1))).2.2.1 3 0)] (am_wI h62 6 0 (nI (s.2.1.1 + 1))) from ⟨ex_3 (c_P l66.1), ?_⟩)
            rw [ex_r3_0 (h := am_wI h62 6 0 (nI (s.2.1.1 + 1))) (c_P l66.1)]
            refine am_goX 2 (show am_rc (am_wI h62 6 0 (nI (s.2.1.1 + 1))) 1 7 ∧ 0 ≤ 8 ∧ (am_wI h62 6 0 (nI (s.2.1.1 + 1))).2.2.2.2 + am_al 61 ≤ 175 ∧ am_call am_cod 6 61 [.ref 1, .int (Int8.ofInt 59).toInt32] (am_wI h62 6 0 (nI (s.2.1.1 + 1))) (fun vv h' => pz_S 4 (some .boolean) am_r51 6 Q 155 [(3, .int k36), (2, .int (nI s.2.1.1)), (0, .ref 3), (1, .ref 6)] (vv.toList ++ []) h') from ⟨Or.inl ⟨by decide, ex_1 (c_P l66.1)⟩, by decide, ex_lim (c_P l66.1) rfl, am_call.up (c_tS (s := (s.1 + 1 + 1 + 1 + 1 + 1, sp_cP s.2 (tt T sz (s.1 + 1)).2.1 k36 (sp_v (tt T sz) (s.1 + 1 + 1 + 1 + 1)))) (by decide) l66 (fun v67 h68 x69 f70 => ?_)) (by decide)⟩)
            rcases cres_cs x69 with ⟨F71, e73, rfl, y74⟩ | ⟨t72, e73, rfl, y74⟩
            ·
              exact am_goX 1 (show (∃ ty, (some .boolean) = some ty ∧ narrow ty (.int (0)) = .int (0)) ∧ h68.2.2.2.2 = 175 ∧ _ from ⟨⟨.boolean, rfl, rfl⟩, ex_175 y74.1, hQ _ _ (cres_inl (F := F71) (by simp only [sp_person, sp_b, sp_f, cond_true, cond_false, e15, e27, e35, e50, e58, e73, Option.isSome_some, Option.isSome_none, Bool.true_or, Bool.or_true, Bool.or_false, Bool.false_or]) rfl y74)⟩)
            ·
              obtain rfl := sp_tS_inr e73
              exact am_goX 1 (show (∃ ty, (some .boolean) = some ty ∧ narrow ty (.int (1)) = .int (1)) ∧ h68.2.2.2.2 = 175 ∧ _ from ⟨⟨.boolean, rfl, rfl⟩, ex_175 (c_P y74.1), hQ _ _ (cres_inr (s' := (s.1 + 1 + 1 + 1 + 1 + 1 + 1, (sp_cP s.2 (tt T sz (s.1 + 1)).2.1 k36 (sp_v (tt T sz) (s.1 + 1 + 1 + 1 + 1))))) (by simp only [sp_person, sp_b, sp_f, cond_true, cond_false, e15, e27, e35, e50, e58, e73, Option.isSome_some, Option.isSome_none, Bool.true_or, Bool.or_true, Bool.or_false, Bool.false_or]) rfl y74)⟩)
theorem c_63_6 (hn : ¬ (tt T sz s.1).1 = 0) (l : cr h0 6 T sz s h) (hQ : ∀ v h1, cres h0 6 T sz (sp_event (tt T sz) s) v h1 → Q v h1) : am_call am_cod 7 63 [.ref 3, .ref 6] h Q := by
  have hP := c_P l.1
  have a1 : h.1 6 4 = nI s.2.2.1.1 := l.2.1.2.1.1
  have a2 : s.2.2.1.1 ≤ 5 := l.2.1.2.1.2.1
  refine pz_call (n := 63) (nL := 3) (rt := (some .boolean)) (rows := am_r63) (d := 6) (by decide +kernel) (by decide +kernel) rfl (by funext pc; rfl) (ex_175 hP) (by exact Nat.le_of_ble_eq_true rfl) ?_
  refine am_goX 5 (show am_sh h 6 = some (0, 0) ∧ 2 < 3 ∧ pz_S 3 (some .boolean) am_r63 6 Q 7 [(2, .int (h.1 6 4)), (0, .ref 3), (1, .ref 6)] [.int (Int32.ofInt 5), .int (h.1 6 4)] h from ⟨ex_6 (c_P l.1), by decide, ?_⟩)
  rw [a1]
  cases e75 : Nat.ble 5 s.2.2.1.1 with
  | true =>
    refine am_goX 1 (show ((nI s.2.2.1.1) < (Int32.ofInt 5) → pz_S 3 (some .boolean) am_r63 6 Q 19 [(2, .int (nI s.2.2.1.1)), (0, .ref 3), (1, .ref 6)] [] h) ∧ (¬ ((nI s.2.2.1.1) < (Int32.ofInt 5)) → pz_S 3 (some .boolean) am_r63 6 Q 10 [(2, .int (nI s.2.2.1.1)), (0, .ref 3), (1, .ref 6)] [] h) from ⟨fun hz => absurd hz (i5 e75 a2), fun _ => ?_⟩)
    refine am_goX 2 (show am_sh h 3 = some (1, 0) ∧ pz_S 3 (some .boolean) am_r63 6 Q 14 [(2, .int (nI s.2.2.1.1)), (0, .ref 3), (1, .ref 6)] [am_rf (h.2.2.1 3 0)] h from ⟨ex_3 (c_P l.1), ?_⟩)
    rw [ex_r3_0 (h := h) (c_P l.1)]
    refine am_goX 2 (show am_rc h 1 7 ∧ 0 ≤ 8 ∧ h.2.2.2.2 + am_al 52 ≤ 175 ∧ am_call am_cod 6 52 [.ref 1, .int (Int32.ofInt 5)] h (fun vv h' => pz_S 3 (some .boolean) am_r63 6 Q 18 [(2, .int (nI s.2.2.1.1)), (0, .ref 3), (1, .ref 6)] (vv.toList ++ []) h') from ⟨Or.inl ⟨by decide, ex_1 (c_P l.1)⟩, by decide, ex_lim (c_P l.1) rfl, am_call.up (c_refuse l.1 ?_) (by decide)⟩)
    have x76 := cr_x (s := s) (k := (Int32.ofInt 5)) (by decide) l (by decide)
    exact am_goX 1 (show (∃ ty, (some .boolean) = some ty ∧ narrow ty (.int ((Int32.ofInt 0))) = .int ((Int32.ofInt 0))) ∧ (am_wI h 1 7 (sp_ft (tt T sz) s.1 (Int32.ofInt 5))).2.2.2.2 = 175 ∧ _ from ⟨⟨.boolean, rfl, rfl⟩, ex_175 x76.1, hQ _ _ (cres_inl (F := sp_ft (tt T sz) s.1 (Int32.ofInt 5)) (by simp only [sp_event, sp_b, sp_f, cond_true, cond_false, e75, Option.isSome_some, Option.isSome_none, Bool.true_or, Bool.or_true, Bool.or_false, Bool.false_or]) rfl x76)⟩)
  | false =>
    refine am_goX 1 (show ((nI s.2.2.1.1) < (Int32.ofInt 5) → pz_S 3 (some .boolean) am_r63 6 Q 19 [(2, .int (nI s.2.2.1.1)), (0, .ref 3), (1, .ref 6)] [] h) ∧ (¬ ((nI s.2.2.1.1) < (Int32.ofInt 5)) → pz_S 3 (some .boolean) am_r63 6 Q 10 [(2, .int (nI s.2.2.1.1)), (0, .ref 3), (1, .ref 6)] [] h) from ⟨fun _ => ?_, fun hz => absurd (j5 e75) hz⟩)
    have hlt := j5n e75
    refine am_goX 2 (show am_sh h 3 = some (1, 0) ∧ pz_S 3 (some .boolean) am_r63 6 Q 23 [(2, .int (nI s.2.2.1.1)), (0, .ref 3), (1, .ref 6)] [am_rf (h.2.2.1 3 0)] h from ⟨ex_3 (c_P l.1), ?_⟩)
    rw [ex_r3_0 (h := h) (c_P l.1)]
    refine am_goX 1 (show am_rc h 1 7 ∧ 0 ≤ 8 ∧ h.2.2.2.2 + am_al 18 ≤ 175 ∧ am_call am_cod 6 18 [.ref 1] h (fun vv h' => pz_S 3 (some .boolean) am_r63 6 Q 26 [(2, .int (nI s.2.2.1.1)), (0, .ref 3), (1, .ref 6)] (vv.toList ++ []) h') from ⟨Or.inl ⟨by decide, ex_1 (c_P l.1)⟩, by decide, ex_lim (c_P l.1) rfl, am_call.up (c_step l.1 (hn) (fun h77 m78 f79 => ?_)) (by decide)⟩)
    have l80 : cr h0 6 T sz (s.1 + 1, s.2) h77 := cr_fr (a := s.1) (C := s.2) (by decide) l m78 (Nat.le_succ _) f79
    refine am_goX 3 (show am_rc h77 3 1 ∧ 0 ≤ 8 ∧ h77.2.2.2.2 + am_al 53 ≤ 175 ∧ am_call am_cod 6 53 [.ref 3, .ref 6] h77 (fun vv h' => pz_S 3 (some .boolean) am_r63 6 Q 31 [(2, .int (nI s.2.2.1.1)), (0, .ref 3), (1, .ref 6)] (vv.toList ++ []) h') from ⟨Or.inl ⟨by decide, ex_3 (c_P l80.1)⟩, by decide, ex_lim (c_P l80.1) rfl, am_call.up (c_53_6 (s := (s.1 + 1, s.2)) l80 (fun v81 h82 x83 => ?_)) (by decide)⟩)
    rcases cres_cs x83 with ⟨F85, e87, rfl, y88⟩ | ⟨t86, e87, rfl, y88⟩
    ·
      refine am_goX 1 (show (¬ 0 = 0 → pz_S 3 (some .boolean) am_r63 6 Q 36 [(2, .int (nI s.2.2.1.1)), (0, .ref 3), (1, .ref 6)] [] h82) ∧ (¬ ¬ 0 = 0 → pz_S 3 (some .boolean) am_r63 6 Q 34 [(2, .int (nI s.2.2.1.1)), (0, .ref 3), (1, .ref 6)] [] h82) from ⟨fun hz => absurd hz (by decide), fun _ => ?_⟩)
      exact am_goX 2 (show (∃ ty, (some .boolean) = some ty ∧ narrow ty (.int ((Int32.ofInt 0))) = .int ((Int32.ofInt 0))) ∧ h82.2.2.2.2 = 175 ∧ _ from ⟨⟨.boolean, rfl, rfl⟩, ex_175 y88.1, hQ _ _ (cres_inl (F := F85) (by simp only [sp_event, sp_b, sp_f, cond_true, cond_false, e75, e87, Option.isSome_some, Option.isSome_none, Bool.true_or, Bool.or_true, Bool.or_false, Bool.false_or]) rfl y88)⟩)
    ·
      obtain ⟨rfl, k89⟩ := sp_fn_inr e87
      refine am_goX 1 (show (¬ 1 = 0 → pz_S 3 (some .boolean) am_r63 6 Q 36 [(2, .int (nI s.2.2.1.1)), (0, .ref 3), (1, .ref 6)] [] h82) ∧ (¬ ¬ 1 = 0 → pz_S 3 (some .boolean) am_r63 6 Q 34 [(2, .int (nI s.2.2.1.1)), (0, .ref 3), (1, .ref 6)] [] h82) from ⟨fun _ => ?_, fun hz => absurd (by decide) hz⟩)
      refine am_goX 2 (show am_sh h82 6 = some (0, 0) ∧ pz_S 3 (some .boolean) am_r63 6 Q 40 [(2, .int (nI s.2.2.1.1)), (0, .ref 3), (1, .ref 6)] [am_rf (h82.2.2.1 6 5)] h82 from ⟨ex_6 (c_P y88.1), ?_⟩)
      rw [ex_r6_5 (h := h82) (c_P y88.1)]
      refine am_goX 3 (show am_sh h82 3 = some (1, 0) ∧ pz_S 3 (some .boolean) am_r63 6 Q 45 [(2, .int (nI s.2.2.1.1)), (0, .ref 3), (1, .ref 6)] [am_rf (h82.2.2.1 3 0), .int (nI s.2.2.1.1), .ref 10] h82 from ⟨ex_3 (c_P y88.1), ?_⟩)
      rw [ex_r3_0 (h := h82) (c_P y88.1)]
      refine am_goX 2 (show am_sh h82 1 = some (7, 0) ∧ ∃ jj nn : Nat, am_so h82 10 = some (14, nn) ∧ jj < nn ∧ (nI s.2.2.1.1) = nI jj ∧ pz_S 3 (some .boolean) am_r63 6 Q 49 [(2, .int (nI s.2.2.1.1)), (0, .ref 3), (1, .ref 6)] [] (am_wL h82 10 jj (h82.2.1 1 5)) from ⟨ex_1 (c_P y88.1), s.2.2.1.1, 5, ex_w10 (c_P y88.1), by omega, rfl, ?_⟩)
      have l90 : cr h0 6 T sz (s.1 + 1, s.2) (am_wL h82 10 (s.2.2.1.1) (h82.2.1 1 5)) := cr_wg (by decide) y88 (Or.inr ⟨rfl, Nat.le_refl _⟩)
      have x1 : cwk (tt T sz (s.1 + 1)).2.1 ((am_wL h82 10 (s.2.2.1.1) (h82.2.1 1 5)).2.1 10 (s.2.2.1.1)) := by
        rw [ex_lq]
        exact c_wd y88.1 (sp_nk k89)
      refine am_goX 2 (show am_sh (am_wL h82 10 (s.2.2.1.1) (h82.2.1 1 5)) 3 = some (1, 0) ∧ pz_S 3 (some .boolean) am_r63 6 Q 53 [(2, .int (nI s.2.2.1.1)), (0, .ref 3), (1, .ref 6)] [am_rf ((am_wL h82 10 (s.2.2.1.1) (h82.2.1 1 5)).2.2.1 3 0)] (am_wL h82 10 (s.2.2.1.1) (h82.2.1 1 5)) from ⟨ex_3 (c_P l90.1), ?_⟩)
      rw [ex_r3_0 (h := am_wL h82 10 (s.2.2.1.1) (h82.2.1 1 5)) (c_P l90.1)]
      refine am_goX 1 (show am_rc (am_wL h82 10 (s.2.2.1.1) (h82.2.1 1 5)) 1 7 ∧ 0 ≤ 8 ∧ (am_wL h82 10 (s.2.2.1.1) (h82.2.1 1 5)).2.2.2.2 + am_al 18 ≤ 175 ∧ am_call am_cod 6 18 [.ref 1] (am_wL h82 10 (s.2.2.1.1) (h82.2.1 1 5)) (fun vv h' => pz_S 3 (some .boolean) am_r63 6 Q 56 [(2, .int (nI s.2.2.1.1)), (0, .ref 3), (1, .ref 6)] (vv.toList ++ []) h') from ⟨Or.inl ⟨by decide, ex_1 (c_P l90.1)⟩, by decide, ex_lim (c_P l90.1) rfl, am_call.up (c_step l90.1 (sp_nn k89) (fun h91 m92 f93 => ?_)) (by decide)⟩)
      have l94 : cr h0 6 T sz (s.1 + 1 + 1, s.2) h91 := cr_fr (a := (s.1 + 1)) (C := s.2) (by decide) l90 m92 (Nat.le_succ _) f93
      have x1 := fr1_W f93 (by decide) x1
      refine am_goX 2 (show am_sh h91 3 = some (1, 0) ∧ pz_S 3 (some .boolean) am_r63 6 Q 60 [(2, .int (nI s.2.2.1.1)), (0, .ref 3), (1, .ref 6)] [am_rf (h91.2.2.1 3 0)] h91 from ⟨ex_3 (c_P l94.1), ?_⟩)
      rw [ex_r3_0 (h := h91) (c_P l94.1)]
      refine am_goX 2 (show am_rc h91 1 7 ∧ 0 ≤ 8 ∧ h91.2.2.2.2 + am_al 58 ≤ 175 ∧ am_call am_cod 6 58 [.ref 1, .ref (4000000 + 9)] h91 (fun vv h' => pz_S 3 (some .boolean) am_r63 6 Q 65 [(2, .int (nI s.2.2.1.1)), (0, .ref 3), (1, .ref 6)] (vv.toList ++ []) h') from ⟨Or.inl ⟨by decide, ex_1 (c_P l94.1)⟩, by decide, ex_lim (c_P l94.1) rfl, am_call.up (c_tW (s := (s.1 + 1 + 1, s.2)) (by decide) wq_9 (by decide) l94 (fun v95 h96 x97 f98 => ?_)) (by decide)⟩)
      rcases cres_cs x97 with ⟨F99, e101, rfl, y102⟩ | ⟨t100, e101, rfl, y102⟩
      ·
        refine am_goX 1 (show (0 = 0 → pz_S 3 (some .boolean) am_r63 6 Q 81 [(2, .int (nI s.2.2.1.1)), (0, .ref 3), (1, .ref 6)] [] h96) ∧ (¬ (0 = 0) → pz_S 3 (some .boolean) am_r63 6 Q 68 [(2, .int (nI s.2.2.1.1)), (0, .ref 3), (1, .ref 6)] [] h96) from ⟨fun _ => ?_, fun hz => absurd (by decide) hz⟩)
        exact am_goX 2 (show (∃ ty, (some .boolean) = some ty ∧ narrow ty (.int ((Int32.ofInt 0))) = .int ((Int32.ofInt 0))) ∧ h96.2.2.2.2 = 175 ∧ _ from ⟨⟨.boolean, rfl, rfl⟩, ex_175 y102.1, hQ _ _ (cres_inl (F := F99) (by simp only [sp_event, sp_b, sp_f, cond_true, cond_false, e75, e87, e101, Option.isSome_some, Option.isSome_none, Bool.true_or, Bool.or_true, Bool.or_false, Bool.false_or]) rfl y102)⟩)
      ·
        obtain rfl := sp_tW_inr e101
        have x1 := fr1_W f98 (by decide) x1
        refine am_goX 1 (show (1 = 0 → pz_S 3 (some .boolean) am_r63 6 Q 81 [(2, .int (nI s.2.2.1.1)), (0, .ref 3), (1, .ref 6)] [] h96) ∧ (¬ (1 = 0) → pz_S 3 (some .boolean) am_r63 6 Q 68 [(2, .int (nI s.2.2.1.1)), (0, .ref 3), (1, .ref 6)] [] h96) from ⟨fun hz => absurd hz (by decide), fun _ => ?_⟩)
        refine am_goX 2 (show am_sh h96 3 = some (1, 0) ∧ pz_S 3 (some .boolean) am_r63 6 Q 72 [(2, .int (nI s.2.2.1.1)), (0, .ref 3), (1, .ref 6)] [am_rf (h96.2.2.1 3 0)] h96 from ⟨ex_3 (c_P y102.1), ?_⟩)
        rw [ex_r3_0 (h := h96) (c_P y102.1)]
        refine am_goX 3 (show am_rc h96 1 7 ∧ 0 ≤ 8 ∧ h96.2.2.2.2 + am_al 59 ≤ 175 ∧ am_call am_cod 6 59 [.ref 1, .int (Int32.ofInt 0), .int (Int8.ofInt 6).toInt32] h96 (fun vv h' => pz_S 3 (some .boolean) am_r63 6 Q 78 [(2, .int (nI s.2.2.1.1)), (0, .ref 3), (1, .ref 6)] (vv.toList ++ []) h') from ⟨Or.inl ⟨by decide, ex_1 (c_P y102.1)⟩, by decide, ex_lim (c_P y102.1) rfl, am_call.up (c_tN (s := (s.1 + 1 + 1 + 1, s.2)) (by decide) y102 (fun v103 h104 x105 f106 => ?_)) (by decide)⟩)
        rcases cres_cs x105 with ⟨F107, e109, rfl, y110⟩ | ⟨t108, e109, rfl, y110⟩
        ·
          refine am_goX 1 (show (¬ 0 = 0 → pz_S 3 (some .boolean) am_r63 6 Q 83 [(2, .int (nI s.2.2.1.1)), (0, .ref 3), (1, .ref 6)] [] h104) ∧ (¬ ¬ 0 = 0 → pz_S 3 (some .boolean) am_r63 6 Q 81 [(2, .int (nI s.2.2.1.1)), (0, .ref 3), (1, .ref 6)] [] h104) from ⟨fun hz => absurd hz (by decide), fun _ => ?_⟩)
          exact am_goX 2 (show (∃ ty, (some .boolean) = some ty ∧ narrow ty (.int ((Int32.ofInt 0))) = .int ((Int32.ofInt 0))) ∧ h104.2.2.2.2 = 175 ∧ _ from ⟨⟨.boolean, rfl, rfl⟩, ex_175 y110.1, hQ _ _ (cres_inl (F := F107) (by simp only [sp_event, sp_b, sp_f, cond_true, cond_false, e75, e87, e101, e109, Option.isSome_some, Option.isSome_none, Bool.true_or, Bool.or_true, Bool.or_false, Bool.false_or]) rfl y110)⟩)
        ·
          obtain ⟨rfl, k111, _⟩ := sp_tN_inr e109
          have x1 := fr1_W f106 (by decide) x1
          refine am_goX 1 (show (¬ 1 = 0 → pz_S 3 (some .boolean) am_r63 6 Q 83 [(2, .int (nI s.2.2.1.1)), (0, .ref 3), (1, .ref 6)] [] h104) ∧ (¬ ¬ 1 = 0 → pz_S 3 (some .boolean) am_r63 6 Q 81 [(2, .int (nI s.2.2.1.1)), (0, .ref 3), (1, .ref 6)] [] h104) from ⟨fun _ => ?_, fun hz => absurd (by decide) hz⟩)
          refine am_goX 2 (show am_sh h104 6 = some (0, 0) ∧ pz_S 3 (some .boolean) am_r63 6 Q 87 [(2, .int (nI s.2.2.1.1)), (0, .ref 3), (1, .ref 6)] [am_rf (h104.2.2.1 6 6)] h104 from ⟨ex_6 (c_P y110.1), ?_⟩)
          rw [ex_r6_6 (h := h104) (c_P y110.1)]
          refine am_goX 3 (show am_sh h104 3 = some (1, 0) ∧ pz_S 3 (some .boolean) am_r63 6 Q 92 [(2, .int (nI s.2.2.1.1)), (0, .ref 3), (1, .ref 6)] [am_rf (h104.2.2.1 3 0), .int (nI s.2.2.1.1), .ref 11] h104 from ⟨ex_3 (c_P y110.1), ?_⟩)
          rw [ex_r3_0 (h := h104) (c_P y110.1)]
          refine am_goX 1 (show am_sh h104 1 = some (7, 0) ∧ pz_S 3 (some .boolean) am_r63 6 Q 95 [(2, .int (nI s.2.2.1.1)), (0, .ref 3), (1, .ref 6)] [.int (h104.1 1 6), .int (nI s.2.2.1.1), .ref 11] h104 from ⟨ex_1 (c_P y110.1), ?_⟩)
          rw [c_nv y110.1 k111]
          refine am_goX 1 (show ∃ jj nn : Nat, am_so h104 11 = some (13, nn) ∧ jj < nn ∧ (nI s.2.2.1.1) = nI jj ∧ pz_S 3 (some .boolean) am_r63 6 Q 96 [(2, .int (nI s.2.2.1.1)), (0, .ref 3), (1, .ref 6)] [] (am_wI h104 11 jj (sp_v (tt T sz) (s.1 + 1 + 1 + 1))) from ⟨s.2.2.1.1, 5, ex_w11 (c_P y110.1), by omega, rfl, ?_⟩)
          have l112 : cr h0 6 T sz (s.1 + 1 + 1 + 1, s.2) (am_wI h104 11 (s.2.2.1.1) (sp_v (tt T sz) (s.1 + 1 + 1 + 1))) := cr_wf (by decide) y110 (Or.inr ⟨Or.inl rfl, Nat.le_refl _⟩)
          have x2 : (am_wI h104 11 (s.2.2.1.1) (sp_v (tt T sz) (s.1 + 1 + 1 + 1))).1 11 (s.2.2.1.1) = (sp_v (tt T sz) (s.1 + 1 + 1 + 1)) := em_we _ _ _ _
          refine am_goX 2 (show am_sh (am_wI h104 11 (s.2.2.1.1) (sp_v (tt T sz) (s.1 + 1 + 1 + 1))) 3 = some (1, 0) ∧ pz_S 3 (some .boolean) am_r63 6 Q 100 [(2, .int (nI s.2.2.1.1)), (0, .ref 3), (1, .ref 6)] [am_rf ((am_wI h104 11 (s.2.2.1.1) (sp_v (tt T sz) (s.1 + 1 + 1 + 1))).2.2.1 3 0)] (am_wI h104 11 (s.2.2.1.1) (sp_v (tt T sz) (s.1 + 1 + 1 + 1))) from ⟨ex_3 (c_P l112.1), ?_⟩)
          rw [ex_r3_0 (h := am_wI h104 11 (s.2.2.1.1) (sp_v (tt T sz) (s.1 + 1 + 1 + 1))) (c_P l112.1)]
          refine am_goX 1 (show am_rc (am_wI h104 11 (s.2.2.1.1) (sp_v (tt T sz) (s.1 + 1 + 1 + 1))) 1 7 ∧ 0 ≤ 8 ∧ (am_wI h104 11 (s.2.2.1.1) (sp_v (tt T sz) (s.1 + 1 + 1 + 1))).2.2.2.2 + am_al 18 ≤ 175 ∧ am_call am_cod 6 18 [.ref 1] (am_wI h104 11 (s.2.2.1.1) (sp_v (tt T sz) (s.1 + 1 + 1 + 1))) (fun vv h' => pz_S 3 (some .boolean) am_r63 6 Q 103 [(2, .int (nI s.2.2.1.1)), (0, .ref 3), (1, .ref 6)] (vv.toList ++ []) h') from ⟨Or.inl ⟨by decide, ex_1 (c_P l112.1)⟩, by decide, ex_lim (c_P l112.1) rfl, am_call.up (c_step l112.1 (sp_kn (by decide) k111) (fun h113 m114 f115 => ?_)) (by decide)⟩)
          have l116 : cr h0 6 T sz (s.1 + 1 + 1 + 1 + 1, s.2) h113 := cr_fr (a := (s.1 + 1 + 1 + 1)) (C := s.2) (by decide) l112 m114 (Nat.le_succ _) f115
          have x1 := fr1_W f115 (by decide) x1
          have x2 := fr1_I f115 (by decide) x2
          refine am_goX 2 (show am_sh h113 3 = some (1, 0) ∧ pz_S 3 (some .boolean) am_r63 6 Q 107 [(2, .int (nI s.2.2.1.1)), (0, .ref 3), (1, .ref 6)] [am_rf (h113.2.2.1 3 0)] h113 from ⟨ex_3 (c_P l116.1), ?_⟩)
          rw [ex_r3_0 (h := h113) (c_P l116.1)]
          refine am_goX 2 (show am_rc h113 1 7 ∧ 0 ≤ 8 ∧ h113.2.2.2.2 + am_al 58 ≤ 175 ∧ am_call am_cod 6 58 [.ref 1, .ref (4000000 + 10)] h113 (fun vv h' => pz_S 3 (some .boolean) am_r63 6 Q 112 [(2, .int (nI s.2.2.1.1)), (0, .ref 3), (1, .ref 6)] (vv.toList ++ []) h') from ⟨Or.inl ⟨by decide, ex_1 (c_P l116.1)⟩, by decide, ex_lim (c_P l116.1) rfl, am_call.up (c_tW (s := (s.1 + 1 + 1 + 1 + 1, s.2)) (by decide) wq_10 (by decide) l116 (fun v117 h118 x119 f120 => ?_)) (by decide)⟩)
          rcases cres_cs x119 with ⟨F121, e123, rfl, y124⟩ | ⟨t122, e123, rfl, y124⟩
          ·
            refine am_goX 1 (show (0 = 0 → pz_S 3 (some .boolean) am_r63 6 Q 128 [(2, .int (nI s.2.2.1.1)), (0, .ref 3), (1, .ref 6)] [] h118) ∧ (¬ (0 = 0) → pz_S 3 (some .boolean) am_r63 6 Q 115 [(2, .int (nI s.2.2.1.1)), (0, .ref 3), (1, .ref 6)] [] h118) from ⟨fun _ => ?_, fun hz => absurd (by decide) hz⟩)
            exact am_goX 2 (show (∃ ty, (some .boolean) = some ty ∧ narrow ty (.int ((Int32.ofInt 0))) = .int ((Int32.ofInt 0))) ∧ h118.2.2.2.2 = 175 ∧ _ from ⟨⟨.boolean, rfl, rfl⟩, ex_175 y124.1, hQ _ _ (cres_inl (F := F121) (by simp only [sp_event, sp_b, sp_f, cond_true, cond_false, e75, e87, e101, e109, e123, Option.isSome_some, Option.isSome_none, Bool.true_or, Bool.or_true, Bool.or_false, Bool.false_or]) rfl y124)⟩)
          ·
            obtain rfl := sp_tW_inr e123
            have x1 := fr1_W f120 (by decide) x1
            have x2 := fr1_I f120 (by decide) x2
            refine am_goX 1 (show (1 = 0 → pz_S 3 (some .boolean) am_r63 6 Q 128 [(2, .int (nI s.2.2.1.1)), (0, .ref 3), (1, .ref 6)] [] h118) ∧ (¬ (1 = 0) → pz_S 3 (some .boolean) am_r63 6 Q 115 [(2, .int (nI s.2.2.1.1)), (0, .ref 3), (1, .ref 6)] [] h118) from ⟨fun hz => absurd hz (by decide), fun _ => ?_⟩)
            refine am_goX 2 (show am_sh h118 3 = some (1, 0) ∧ pz_S 3 (some .boolean) am_r63 6 Q 119 [(2, .int (nI s.2.2.1.1)), (0, .ref 3), (1, .ref 6)] [am_rf (h118.2.2.1 3 0)] h118 from ⟨ex_3 (c_P y124.1), ?_⟩)
            rw [ex_r3_0 (h := h118) (c_P y124.1)]
            refine am_goX 3 (show am_rc h118 1 7 ∧ 0 ≤ 8 ∧ h118.2.2.2.2 + am_al 59 ≤ 175 ∧ am_call am_cod 6 59 [.ref 1, .int (Int32.ofInt 1), .int (Int8.ofInt 6).toInt32] h118 (fun vv h' => pz_S 3 (some .boolean) am_r63 6 Q 125 [(2, .int (nI s.2.2.1.1)), (0, .ref 3), (1, .ref 6)] (vv.toList ++ []) h') from ⟨Or.inl ⟨by decide, ex_1 (c_P y124.1)⟩, by decide, ex_lim (c_P y124.1) rfl, am_call.up (c_tN (s := (s.1 + 1 + 1 + 1 + 1 + 1, s.2)) (by decide) y124 (fun v125 h126 x127 f128 => ?_)) (by decide)⟩)
            rcases cres_cs x127 with ⟨F129, e131, rfl, y132⟩ | ⟨t130, e131, rfl, y132⟩
            ·
              refine am_goX 1 (show (¬ 0 = 0 → pz_S 3 (some .boolean) am_r63 6 Q 130 [(2, .int (nI s.2.2.1.1)), (0, .ref 3), (1, .ref 6)] [] h126) ∧ (¬ ¬ 0 = 0 → pz_S 3 (some .boolean) am_r63 6 Q 128 [(2, .int (nI s.2.2.1.1)), (0, .ref 3), (1, .ref 6)] [] h126) from ⟨fun hz => absurd hz (by decide), fun _ => ?_⟩)
              exact am_goX 2 (show (∃ ty, (some .boolean) = some ty ∧ narrow ty (.int ((Int32.ofInt 0))) = .int ((Int32.ofInt 0))) ∧ h126.2.2.2.2 = 175 ∧ _ from ⟨⟨.boolean, rfl, rfl⟩, ex_175 y132.1, hQ _ _ (cres_inl (F := F129) (by simp only [sp_event, sp_b, sp_f, cond_true, cond_false, e75, e87, e101, e109, e123, e131, Option.isSome_some, Option.isSome_none, Bool.true_or, Bool.or_true, Bool.or_false, Bool.false_or]) rfl y132)⟩)
            ·
              obtain ⟨rfl, k133, _⟩ := sp_tN_inr e131
              have x1 := fr1_W f128 (by decide) x1
              have x2 := fr1_I f128 (by decide) x2
              refine am_goX 1 (show (¬ 1 = 0 → pz_S 3 (some .boolean) am_r63 6 Q 130 [(2, .int (nI s.2.2.1.1)), (0, .ref 3), (1, .ref 6)] [] h126) ∧ (¬ ¬ 1 = 0 → pz_S 3 (some .boolean) am_r63 6 Q 128 [(2, .int (nI s.2.2.1.1)), (0, .ref 3), (1, .ref 6)] [] h126) from ⟨fun _ => ?_, fun hz => absurd (by decide) hz⟩)
              refine am_goX 2 (show am_sh h126 6 = some (0, 0) ∧ pz_S 3 (some .boolean) am_r63 6 Q 134 [(2, .int (nI s.2.2.1.1)), (0, .ref 3), (1, .ref 6)] [am_rf (h126.2.2.1 6 7)] h126 from ⟨ex_6 (c_P y132.1), ?_⟩)
              rw [ex_r6_7 (h := h126) (c_P y132.1)]
              refine am_goX 3 (show am_sh h126 3 = some (1, 0) ∧ pz_S 3 (some .boolean) am_r63 6 Q 139 [(2, .int (nI s.2.2.1.1)), (0, .ref 3), (1, .ref 6)] [am_rf (h126.2.2.1 3 0), .int (nI s.2.2.1.1), .ref 12] h126 from ⟨ex_3 (c_P y132.1), ?_⟩)
              rw [ex_r3_0 (h := h126) (c_P y132.1)]
              refine am_goX 1 (show am_sh h126 1 = some (7, 0) ∧ pz_S 3 (some .boolean) am_r63 6 Q 142 [(2, .int (nI s.2.2.1.1)), (0, .ref 3), (1, .ref 6)] [.int (h126.1 1 6), .int (nI s.2.2.1.1), .ref 12] h126 from ⟨ex_1 (c_P y132.1), ?_⟩)
              rw [c_nv y132.1 k133]
              refine am_goX 1 (show ∃ jj nn : Nat, am_so h126 12 = some (13, nn) ∧ jj < nn ∧ (nI s.2.2.1.1) = nI jj ∧ pz_S 3 (some .boolean) am_r63 6 Q 143 [(2, .int (nI s.2.2.1.1)), (0, .ref 3), (1, .ref 6)] [] (am_wI h126 12 jj (sp_v (tt T sz) (s.1 + 1 + 1 + 1 + 1 + 1))) from ⟨s.2.2.1.1, 5, ex_w12 (c_P y132.1), by omega, rfl, ?_⟩)
              have l134 : cr h0 6 T sz (s.1 + 1 + 1 + 1 + 1 + 1, s.2) (am_wI h126 12 (s.2.2.1.1) (sp_v (tt T sz) (s.1 + 1 + 1 + 1 + 1 + 1))) := cr_wf (by decide) y132 (Or.inr ⟨Or.inr (Or.inl rfl), Nat.le_refl _⟩)
              have x3 : (am_wI h126 12 (s.2.2.1.1) (sp_v (tt T sz) (s.1 + 1 + 1 + 1 + 1 + 1))).1 12 (s.2.2.1.1) = (sp_v (tt T sz) (s.1 + 1 + 1 + 1 + 1 + 1)) := em_we _ _ _ _
              have x2 := (em_wn (o := 12) (k := s.2.2.1.1) _ ((sp_v (tt T sz) (s.1 + 1 + 1 + 1 + 1 + 1))) (by omega)).trans x2
              refine am_goX 2 (show am_sh (am_wI h126 12 (s.2.2.1.1) (sp_v (tt T sz) (s.1 + 1 + 1 + 1 + 1 + 1))) 6 = some (0, 0) ∧ pz_S 3 (some .boolean) am_r63 6 Q 147 [(2, .int (nI s.2.2.1.1)), (0, .ref 3), (1, .ref 6)] [am_rf ((am_wI h126 12 (s.2.2.1.1) (sp_v (tt T sz) (s.1 + 1 + 1 + 1 + 1 + 1))).2.2.1 6 8)] (am_wI h126 12 (s.2.2.1.1) (sp_v (tt T sz) (s.1 + 1 + 1 + 1 + 1 + 1))) from ⟨ex_6 (c_P l134.1), ?_⟩)
              rw [ex_r6_8 (h := am_wI h126 12 (s.2.2.1.1) (sp_v (tt T sz) (s.1 + 1 + 1 + 1 + 1 + 1))) (c_P l134.1)]
              refine am_goX 3 (show ∃ jj nn : Nat, am_so (am_wI h126 12 (s.2.2.1.1) (sp_v (tt T sz) (s.1 + 1 + 1 + 1 + 1 + 1))) 13 = some (13, nn) ∧ jj < nn ∧ (nI s.2.2.1.1) = nI jj ∧ pz_S 3 (some .boolean) am_r63 6 Q 150 [(2, .int (nI s.2.2.1.1)), (0, .ref 3), (1, .ref 6)] [] (am_wI (am_wI h126 12 (s.2.2.1.1) (sp_v (tt T sz) (s.1 + 1 + 1 + 1 + 1 + 1))) 13 jj (Int32.ofInt 0)) from ⟨s.2.2.1.1, 5, ex_w13 (c_P l134.1), by omega, rfl, ?_⟩)
              have l135 : cr h0 6 T sz (s.1 + 1 + 1 + 1 + 1 + 1, s.2) (am_wI (am_wI h126 12 (s.2.2.1.1) (sp_v (tt T sz) (s.1 + 1 + 1 + 1 + 1 + 1))) 13 (s.2.2.1.1) (Int32.ofInt 0)) := cr_wf (by decide) l134 (Or.inr ⟨Or.inr (Or.inr rfl), Nat.le_refl _⟩)
              have x4 : (am_wI (am_wI h126 12 (s.2.2.1.1) (sp_v (tt T sz) (s.1 + 1 + 1 + 1 + 1 + 1))) 13 (s.2.2.1.1) (Int32.ofInt 0)).1 13 (s.2.2.1.1) = (Int32.ofInt 0) := em_we _ _ _ _
              have x2 := (em_wn (o := 13) (k := s.2.2.1.1) _ ((Int32.ofInt 0)) (by omega)).trans x2
              have x3 := (em_wn (o := 13) (k := s.2.2.1.1) _ ((Int32.ofInt 0)) (by omega)).trans x3
              refine am_goX 2 (show am_sh (am_wI (am_wI h126 12 (s.2.2.1.1) (sp_v (tt T sz) (s.1 + 1 + 1 + 1 + 1 + 1))) 13 (s.2.2.1.1) (Int32.ofInt 0)) 3 = some (1, 0) ∧ pz_S 3 (some .boolean) am_r63 6 Q 154 [(2, .int (nI s.2.2.1.1)), (0, .ref 3), (1, .ref 6)] [am_rf ((am_wI (am_wI h126 12 (s.2.2.1.1) (sp_v (tt T sz) (s.1 + 1 + 1 + 1 + 1 + 1))) 13 (s.2.2.1.1) (Int32.ofInt 0)).2.2.1 3 0)] (am_wI (am_wI h126 12 (s.2.2.1.1) (sp_v (tt T sz) (s.1 + 1 + 1 + 1 + 1 + 1))) 13 (s.2.2.1.1) (Int32.ofInt 0)) from ⟨ex_3 (c_P l135.1), ?_⟩)
              rw [ex_r3_0 (h := am_wI (am_wI h126 12 (s.2.2.1.1) (sp_v (tt T sz) (s.1 + 1 + 1 + 1 + 1 + 1))) 13 (s.2.2.1.1) (Int32.ofInt 0)) (c_P l135.1)]
              refine am_goX 1 (show am_rc (am_wI (am_wI h126 12 (s.2.2.1.1) (sp_v (tt T sz) (s.1 + 1 + 1 + 1 + 1 + 1))) 13 (s.2.2.1.1) (Int32.ofInt 0)) 1 7 ∧ 0 ≤ 8 ∧ (am_wI (am_wI h126 12 (s.2.2.1.1) (sp_v (tt T sz) (s.1 + 1 + 1 + 1 + 1 + 1))) 13 (s.2.2.1.1) (Int32.ofInt 0)).2.2.2.2 + am_al 18 ≤ 175 ∧ am_call am_cod 6 18 [.ref 1] (am_wI (am_wI h126 12 (s.2.2.1.1) (sp_v (tt T sz) (s.1 + 1 + 1 + 1 + 1 + 1))) 13 (s.2.2.1.1) (Int32.ofInt 0)) (fun vv h' => pz_S 3 (some .boolean) am_r63 6 Q 157 [(2, .int (nI s.2.2.1.1)), (0, .ref 3), (1, .ref 6)] (vv.toList ++ []) h') from ⟨Or.inl ⟨by decide, ex_1 (c_P l135.1)⟩, by decide, ex_lim (c_P l135.1) rfl, am_call.up (c_step l135.1 (sp_kn (by decide) k133) (fun h136 m137 f138 => ?_)) (by decide)⟩)
              have l139 : cr h0 6 T sz (s.1 + 1 + 1 + 1 + 1 + 1 + 1, s.2) h136 := cr_fr (a := (s.1 + 1 + 1 + 1 + 1 + 1)) (C := s.2) (by decide) l135 m137 (Nat.le_succ _) f138
              have x1 := fr1_W f138 (by decide) x1
              have x2 := fr1_I f138 (by decide) x2
              have x3 := fr1_I f138 (by decide) x3
              have x4 := fr1_I f138 (by decide) x4
              refine am_goX 6 (show (Value.ref 6).category = 1 ∧ am_sh h136 6 = some (0, 0) ∧ am_sh h136 6 = some (0, 0) ∧ narrow (am_fty 0 4) (.int (((h136.1 6 4) + (Int32.ofInt 1)))) = .int (((h136.1 6 4) + (Int32.ofInt 1))) ∧ fits (am_fty 0 4) (.int (((h136.1 6 4) + (Int32.ofInt 1)))) = true ∧ pz_S 3 (some .boolean) am_r63 6 Q 167 [(2, .int (nI s.2.2.1.1)), (0, .ref 3), (1, .ref 6)] [] (am_wI h136 6 4 (((h136.1 6 4) + (Int32.ofInt 1)))) from ⟨rfl, ex_6 (c_P l139.1), ex_6 (c_P l139.1), rfl, rfl, ?_⟩)
              rw [show h136.1 6 4 = nI (s.2.2.1.1) from l139.2.1.2.1.1, xw_i1]
              have l140 : cr h0 6 T sz (s.1 + 1 + 1 + 1 + 1 + 1 + 1, sp_cE s.2 (tt T sz (s.1 + 1)).2.1 (sp_v (tt T sz) (s.1 + 1 + 1 + 1)) (sp_v (tt T sz) (s.1 + 1 + 1 + 1 + 1 + 1))) (am_wI h136 6 4 (nI (s.2.2.1.1 + 1))) := cr_E (by decide) l139 hlt x1 x2 x3 x4
              refine am_goX 2 (show am_sh (am_wI h136 6 4 (nI (s.2.2.1.1 + 1))) 3 = some (1, 0) ∧ pz_S 3 (some .boolean) am_r63 6 Q 171 [(2, .int (nI s.2.2.1.1)), (0, .ref 3), (1, .ref 6)] [am_rf ((am_wI h136 6 4 (nI (s.2.2.1.1 + 1))).2.2.1 3 0)] (am_wI h136 6 4 (nI (s.2.2.1.1 + 1))) from ⟨ex_3 (c_P l140.1), ?_⟩)
              rw [ex_r3_0 (h := am_wI h136 6 4 (nI (s.2.2.1.1 + 1))) (c_P l140.1)]
              refine am_goX 2 (show am_rc (am_wI h136 6 4 (nI (s.2.2.1.1 + 1))) 1 7 ∧ 0 ≤ 8 ∧ (am_wI h136 6 4 (nI (s.2.2.1.1 + 1))).2.2.2.2 + am_al 61 ≤ 175 ∧ am_call am_cod 6 61 [.ref 1, .int (Int8.ofInt 59).toInt32] (am_wI h136 6 4 (nI (s.2.2.1.1 + 1))) (fun vv h' => pz_S 3 (some .boolean) am_r63 6 Q 176 [(2, .int (nI s.2.2.1.1)), (0, .ref 3), (1, .ref 6)] (vv.toList ++ []) h') from ⟨Or.inl ⟨by decide, ex_1 (c_P l140.1)⟩, by decide, ex_lim (c_P l140.1) rfl, am_call.up (c_tS (s := (s.1 + 1 + 1 + 1 + 1 + 1 + 1, sp_cE s.2 (tt T sz (s.1 + 1)).2.1 (sp_v (tt T sz) (s.1 + 1 + 1 + 1)) (sp_v (tt T sz) (s.1 + 1 + 1 + 1 + 1 + 1)))) (by decide) l140 (fun v141 h142 x143 f144 => ?_)) (by decide)⟩)
              rcases cres_cs x143 with ⟨F145, e147, rfl, y148⟩ | ⟨t146, e147, rfl, y148⟩
              ·
                exact am_goX 1 (show (∃ ty, (some .boolean) = some ty ∧ narrow ty (.int (0)) = .int (0)) ∧ h142.2.2.2.2 = 175 ∧ _ from ⟨⟨.boolean, rfl, rfl⟩, ex_175 y148.1, hQ _ _ (cres_inl (F := F145) (by simp only [sp_event, sp_b, sp_f, cond_true, cond_false, e75, e87, e101, e109, e123, e131, e147, Option.isSome_some, Option.isSome_none, Bool.true_or, Bool.or_true, Bool.or_false, Bool.false_or]) rfl y148)⟩)
              ·
                obtain rfl := sp_tS_inr e147
                exact am_goX 1 (show (∃ ty, (some .boolean) = some ty ∧ narrow ty (.int (1)) = .int (1)) ∧ h142.2.2.2.2 = 175 ∧ _ from ⟨⟨.boolean, rfl, rfl⟩, ex_175 (c_P y148.1), hQ _ _ (cres_inr (s' := (s.1 + 1 + 1 + 1 + 1 + 1 + 1 + 1, (sp_cE s.2 (tt T sz (s.1 + 1)).2.1 (sp_v (tt T sz) (s.1 + 1 + 1 + 1)) (sp_v (tt T sz) (s.1 + 1 + 1 + 1 + 1 + 1))))) (by simp only [sp_event, sp_b, sp_f, cond_true, cond_false, e75, e87, e101, e109, e123, e131, e147, Option.isSome_some, Option.isSome_none, Bool.true_or, Bool.or_true, Bool.or_false, Bool.false_or]) rfl y148)⟩)
theorem c_64_6 (hn : ¬ (tt T sz s.1).1 = 0) (l : cr h0 6 T sz s h) (hQ : ∀ v h1, cres h0 6 T sz (sp_comes (tt T sz) s) v h1 → Q v h1) : am_call am_cod 7 64 [.ref 3, .ref 6] h Q := by
  have hP := c_P l.1
  refine pz_call (n := 64) (nL := 4) (rt := (some .boolean)) (rows := am_r64) (d := 6) (by decide +kernel) (by decide +kernel) rfl (by funext pc; rfl) (ex_175 hP) (by exact Nat.le_of_ble_eq_true rfl) ?_
  refine am_goX 2 (show am_sh h 3 = some (1, 0) ∧ pz_S 4 (some .boolean) am_r64 6 Q 4 [(0, .ref 3), (1, .ref 6)] [am_rf (h.2.2.1 3 0)] h from ⟨ex_3 (c_P l.1), ?_⟩)
  rw [ex_r3_0 (h := h) (c_P l.1)]
  refine am_goX 1 (show am_rc h 1 7 ∧ 0 ≤ 8 ∧ h.2.2.2.2 + am_al 18 ≤ 175 ∧ am_call am_cod 6 18 [.ref 1] h (fun vv h' => pz_S 4 (some .boolean) am_r64 6 Q 7 [(0, .ref 3), (1, .ref 6)] (vv.toList ++ []) h') from ⟨Or.inl ⟨by decide, ex_1 (c_P l.1)⟩, by decide, ex_lim (c_P l.1) rfl, am_call.up (c_step l.1 (hn) (fun h149 m150 f151 => ?_)) (by decide)⟩)
  have l152 : cr h0 6 T sz (s.1 + 1, s.2) h149 := cr_fr (a := s.1) (C := s.2) (by decide) l m150 (Nat.le_succ _) f151
  refine am_goX 2 (show am_sh h149 3 = some (1, 0) ∧ pz_S 4 (some .boolean) am_r64 6 Q 11 [(0, .ref 3), (1, .ref 6)] [am_rf (h149.2.2.1 3 0)] h149 from ⟨ex_3 (c_P l152.1), ?_⟩)
  rw [ex_r3_0 (h := h149) (c_P l152.1)]
  refine am_goX 1 (show am_rc h149 1 7 ∧ 0 ≤ 8 ∧ h149.2.2.2.2 + am_al 54 ≤ 175 ∧ am_call am_cod 6 54 [.ref 1] h149 (fun vv h' => pz_S 4 (some .boolean) am_r64 6 Q 14 [(0, .ref 3), (1, .ref 6)] (vv.toList ++ []) h') from ⟨Or.inl ⟨by decide, ex_1 (c_P l152.1)⟩, by decide, ex_lim (c_P l152.1) rfl, am_call.up (c_isn l152.1 ?_) (by decide)⟩)
  cases e153 : sp_n (tt T sz) (s.1 + 1) with
  | true =>
    refine am_goX 1 (show (¬ (pz_b (true)) = 0 → pz_S 4 (some .boolean) am_r64 6 Q 26 [(0, .ref 3), (1, .ref 6)] [] h149) ∧ (¬ ¬ (pz_b (true)) = 0 → pz_S 4 (some .boolean) am_r64 6 Q 17 [(0, .ref 3), (1, .ref 6)] [] h149) from ⟨fun _ => ?_, fun hz => absurd (by decide) hz⟩)
    refine am_goX 3 (show am_sh h149 3 = some (1, 0) ∧ pz_S 4 (some .boolean) am_r64 6 Q 31 [(0, .ref 3), (1, .ref 6)] [am_rf (h149.2.2.1 3 0), .ref 6] h149 from ⟨ex_3 (c_P l152.1), ?_⟩)
    rw [ex_r3_0 (h := h149) (c_P l152.1)]
    refine am_goX 2 (show am_sh h149 1 = some (7, 0) ∧ am_rc h149 6 0 ∧ 0 ≤ 8 ∧ h149.2.2.2.2 + am_al 55 ≤ 175 ∧ am_call am_cod 6 55 [.ref 6, .long (h149.2.1 1 5)] h149 (fun vv h' => pz_S 4 (some .boolean) am_r64 6 Q 37 [(0, .ref 3), (1, .ref 6)] (vv.toList ++ []) h') from ⟨ex_1 (c_P l152.1), Or.inl ⟨by decide, ex_6 (c_P l152.1)⟩, by decide, ex_lim (c_P l152.1) rfl, am_call.up (c_55_6 (v := (tt T sz (s.1 + 1)).2.1) l152 (c_wd l152.1 (sp_nk e153)) ?_) (by decide)⟩)
    cases e154 : sp_pf s.2 (tt T sz (s.1 + 1)).2.1 with
    | none =>
      refine am_goX 4 (show 2 < 4 ∧ (¬ (Int32.ofInt (-1)) = (Int32.ofInt (-1)) → pz_S 4 (some .boolean) am_r64 6 Q 52 [(2, .int (Int32.ofInt (-1))), (0, .ref 3), (1, .ref 6)] [] h149) ∧ (¬ ¬ (Int32.ofInt (-1)) = (Int32.ofInt (-1)) → pz_S 4 (some .boolean) am_r64 6 Q 43 [(2, .int (Int32.ofInt (-1))), (0, .ref 3), (1, .ref 6)] [] h149) from ⟨by decide, fun hz => absurd hz (by decide), fun _ => ?_⟩)
      refine am_goX 2 (show am_sh h149 3 = some (1, 0) ∧ pz_S 4 (some .boolean) am_r64 6 Q 47 [(2, .int (Int32.ofInt (-1))), (0, .ref 3), (1, .ref 6)] [am_rf (h149.2.2.1 3 0)] h149 from ⟨ex_3 (c_P l152.1), ?_⟩)
      rw [ex_r3_0 (h := h149) (c_P l152.1)]
      refine am_goX 2 (show am_rc h149 1 7 ∧ 0 ≤ 8 ∧ h149.2.2.2.2 + am_al 52 ≤ 175 ∧ am_call am_cod 6 52 [.ref 1, .int (Int32.ofInt 2)] h149 (fun vv h' => pz_S 4 (some .boolean) am_r64 6 Q 51 [(2, .int (Int32.ofInt (-1))), (0, .ref 3), (1, .ref 6)] (vv.toList ++ []) h') from ⟨Or.inl ⟨by decide, ex_1 (c_P l152.1)⟩, by decide, ex_lim (c_P l152.1) rfl, am_call.up (c_refuse l152.1 ?_) (by decide)⟩)
      have x157 := cr_x (s := (s.1 + 1, s.2)) (k := (Int32.ofInt 2)) (by decide) l152 (by decide)
      exact am_goX 1 (show (∃ ty, (some .boolean) = some ty ∧ narrow ty (.int ((Int32.ofInt 0))) = .int ((Int32.ofInt 0))) ∧ (am_wI h149 1 7 (sp_ft (tt T sz) (s.1 + 1) (Int32.ofInt 2))).2.2.2.2 = 175 ∧ _ from ⟨⟨.boolean, rfl, rfl⟩, ex_175 x157.1, hQ _ _ (cres_inl (F := sp_ft (tt T sz) (s.1 + 1) (Int32.ofInt 2)) (by simp only [sp_comes, sp_b, sp_f, cond_true, cond_false, e153, e154, Option.isSome_some, Option.isSome_none, Bool.true_or, Bool.or_true, Bool.or_false, Bool.false_or]) rfl x157)⟩)
    | some p155 =>
      have w156 := cr_pf (a := (s.1 + 1)) (C := s.2) l152 e154
      refine am_goX 4 (show 2 < 4 ∧ (¬ (nI p155) = (Int32.ofInt (-1)) → pz_S 4 (some .boolean) am_r64 6 Q 52 [(2, .int (nI p155)), (0, .ref 3), (1, .ref 6)] [] h149) ∧ (¬ ¬ (nI p155) = (Int32.ofInt (-1)) → pz_S 4 (some .boolean) am_r64 6 Q 43 [(2, .int (nI p155)), (0, .ref 3), (1, .ref 6)] [] h149) from ⟨by decide, fun _ => ?_, fun hz => absurd (nI_m1 (by omega)) hz⟩)
      refine am_goX 2 (show am_sh h149 3 = some (1, 0) ∧ pz_S 4 (some .boolean) am_r64 6 Q 56 [(2, .int (nI p155)), (0, .ref 3), (1, .ref 6)] [am_rf (h149.2.2.1 3 0)] h149 from ⟨ex_3 (c_P l152.1), ?_⟩)
      rw [ex_r3_0 (h := h149) (c_P l152.1)]
      refine am_goX 1 (show am_rc h149 1 7 ∧ 0 ≤ 8 ∧ h149.2.2.2.2 + am_al 18 ≤ 175 ∧ am_call am_cod 6 18 [.ref 1] h149 (fun vv h' => pz_S 4 (some .boolean) am_r64 6 Q 59 [(2, .int (nI p155)), (0, .ref 3), (1, .ref 6)] (vv.toList ++ []) h') from ⟨Or.inl ⟨by decide, ex_1 (c_P l152.1)⟩, by decide, ex_lim (c_P l152.1) rfl, am_call.up (c_step l152.1 (sp_nn e153) (fun h158 m159 f160 => ?_)) (by decide)⟩)
      have l161 : cr h0 6 T sz (s.1 + 1 + 1, s.2) h158 := cr_fr (a := (s.1 + 1)) (C := s.2) (by decide) l152 m159 (Nat.le_succ _) f160
      refine am_goX 2 (show am_sh h158 3 = some (1, 0) ∧ pz_S 4 (some .boolean) am_r64 6 Q 63 [(2, .int (nI p155)), (0, .ref 3), (1, .ref 6)] [am_rf (h158.2.2.1 3 0)] h158 from ⟨ex_3 (c_P l161.1), ?_⟩)
      rw [ex_r3_0 (h := h158) (c_P l161.1)]
      refine am_goX 1 (show am_rc h158 1 7 ∧ 0 ≤ 8 ∧ h158.2.2.2.2 + am_al 54 ≤ 175 ∧ am_call am_cod 6 54 [.ref 1] h158 (fun vv h' => pz_S 4 (some .boolean) am_r64 6 Q 66 [(2, .int (nI p155)), (0, .ref 3), (1, .ref 6)] (vv.toList ++ []) h') from ⟨Or.inl ⟨by decide, ex_1 (c_P l161.1)⟩, by decide, ex_lim (c_P l161.1) rfl, am_call.up (c_isn l161.1 ?_) (by decide)⟩)
      cases e162 : sp_n (tt T sz) (s.1 + 1 + 1) with
      | true =>
        refine am_goX 1 (show (¬ (pz_b (true)) = 0 → pz_S 4 (some .boolean) am_r64 6 Q 78 [(2, .int (nI p155)), (0, .ref 3), (1, .ref 6)] [] h158) ∧ (¬ ¬ (pz_b (true)) = 0 → pz_S 4 (some .boolean) am_r64 6 Q 69 [(2, .int (nI p155)), (0, .ref 3), (1, .ref 6)] [] h158) from ⟨fun _ => ?_, fun hz => absurd (by decide) hz⟩)
        refine am_goX 3 (show am_sh h158 3 = some (1, 0) ∧ pz_S 4 (some .boolean) am_r64 6 Q 83 [(2, .int (nI p155)), (0, .ref 3), (1, .ref 6)] [am_rf (h158.2.2.1 3 0), .ref 6] h158 from ⟨ex_3 (c_P l161.1), ?_⟩)
        rw [ex_r3_0 (h := h158) (c_P l161.1)]
        refine am_goX 2 (show am_sh h158 1 = some (7, 0) ∧ am_rc h158 6 0 ∧ 0 ≤ 8 ∧ h158.2.2.2.2 + am_al 56 ≤ 175 ∧ am_call am_cod 6 56 [.ref 6, .long (h158.2.1 1 5)] h158 (fun vv h' => pz_S 4 (some .boolean) am_r64 6 Q 89 [(2, .int (nI p155)), (0, .ref 3), (1, .ref 6)] (vv.toList ++ []) h') from ⟨ex_1 (c_P l161.1), Or.inl ⟨by decide, ex_6 (c_P l161.1)⟩, by decide, ex_lim (c_P l161.1) rfl, am_call.up (c_56_6 (v := (tt T sz (s.1 + 1 + 1)).2.1) l161 (c_wd l161.1 (sp_nk e162)) ?_) (by decide)⟩)
        cases e163 : sp_ef s.2 (tt T sz (s.1 + 1 + 1)).2.1 with
        | none =>
          refine am_goX 4 (show 3 < 4 ∧ (¬ (Int32.ofInt (-1)) = (Int32.ofInt (-1)) → pz_S 4 (some .boolean) am_r64 6 Q 104 [(3, .int (Int32.ofInt (-1))), (2, .int (nI p155)), (0, .ref 3), (1, .ref 6)] [] h158) ∧ (¬ ¬ (Int32.ofInt (-1)) = (Int32.ofInt (-1)) → pz_S 4 (some .boolean) am_r64 6 Q 95 [(3, .int (Int32.ofInt (-1))), (2, .int (nI p155)), (0, .ref 3), (1, .ref 6)] [] h158) from ⟨by decide, fun hz => absurd hz (by decide), fun _ => ?_⟩)
          refine am_goX 2 (show am_sh h158 3 = some (1, 0) ∧ pz_S 4 (some .boolean) am_r64 6 Q 99 [(3, .int (Int32.ofInt (-1))), (2, .int (nI p155)), (0, .ref 3), (1, .ref 6)] [am_rf (h158.2.2.1 3 0)] h158 from ⟨ex_3 (c_P l161.1), ?_⟩)
          rw [ex_r3_0 (h := h158) (c_P l161.1)]
          refine am_goX 2 (show am_rc h158 1 7 ∧ 0 ≤ 8 ∧ h158.2.2.2.2 + am_al 52 ≤ 175 ∧ am_call am_cod 6 52 [.ref 1, .int (Int32.ofInt 2)] h158 (fun vv h' => pz_S 4 (some .boolean) am_r64 6 Q 103 [(3, .int (Int32.ofInt (-1))), (2, .int (nI p155)), (0, .ref 3), (1, .ref 6)] (vv.toList ++ []) h') from ⟨Or.inl ⟨by decide, ex_1 (c_P l161.1)⟩, by decide, ex_lim (c_P l161.1) rfl, am_call.up (c_refuse l161.1 ?_) (by decide)⟩)
          have x166 := cr_x (s := (s.1 + 1 + 1, s.2)) (k := (Int32.ofInt 2)) (by decide) l161 (by decide)
          exact am_goX 1 (show (∃ ty, (some .boolean) = some ty ∧ narrow ty (.int ((Int32.ofInt 0))) = .int ((Int32.ofInt 0))) ∧ (am_wI h158 1 7 (sp_ft (tt T sz) (s.1 + 1 + 1) (Int32.ofInt 2))).2.2.2.2 = 175 ∧ _ from ⟨⟨.boolean, rfl, rfl⟩, ex_175 x166.1, hQ _ _ (cres_inl (F := sp_ft (tt T sz) (s.1 + 1 + 1) (Int32.ofInt 2)) (by simp only [sp_comes, sp_b, sp_f, cond_true, cond_false, e153, e154, e162, e163, Option.isSome_some, Option.isSome_none, Bool.true_or, Bool.or_true, Bool.or_false, Bool.false_or]) rfl x166)⟩)
        | some p164 =>
          have w165 := cr_ef (a := (s.1 + 1 + 1)) (C := s.2) l161 e163
          refine am_goX 4 (show 3 < 4 ∧ (¬ (nI p164) = (Int32.ofInt (-1)) → pz_S 4 (some .boolean) am_r64 6 Q 104 [(3, .int (nI p164)), (2, .int (nI p155)), (0, .ref 3), (1, .ref 6)] [] h158) ∧ (¬ ¬ (nI p164) = (Int32.ofInt (-1)) → pz_S 4 (some .boolean) am_r64 6 Q 95 [(3, .int (nI p164)), (2, .int (nI p155)), (0, .ref 3), (1, .ref 6)] [] h158) from ⟨by decide, fun _ => ?_, fun hz => absurd (nI_m1 (by omega)) hz⟩)
          refine am_goX 2 (show am_sh h158 6 = some (0, 0) ∧ pz_S 4 (some .boolean) am_r64 6 Q 108 [(3, .int (nI p164)), (2, .int (nI p155)), (0, .ref 3), (1, .ref 6)] [am_rf (h158.2.2.1 6 8)] h158 from ⟨ex_6 (c_P l161.1), ?_⟩)
          rw [ex_r6_8 (h := h158) (c_P l161.1)]
          refine am_goX 2 (show ∃ jj nn : Nat, am_sh h158 13 = some (13, nn) ∧ jj < nn ∧ (nI p164) = nI jj ∧ pz_S 4 (some .boolean) am_r64 6 Q 110 [(3, .int (nI p164)), (2, .int (nI p155)), (0, .ref 3), (1, .ref 6)] [.int (h158.1 13 jj)] h158 from ⟨p164, 5, ex_13 (c_P l161.1), by omega, rfl, ?_⟩)
          rw [show h158.1 13 p164 = s.2.2.1.2.2.2.2 p164 from (l161.2.1.2.1.2.2 p164 w165.1).2.2.2]
          refine am_goX 2 (show 0 ≤ 8 ∧ h158.2.2.2.2 + am_al 65 ≤ 175 ∧ am_call am_cod 6 65 [.int (s.2.2.1.2.2.2.2 p164), .int (nI p155)] h158 (fun vv h' => pz_S 4 (some .boolean) am_r64 6 Q 114 [(3, .int (nI p164)), (2, .int (nI p155)), (0, .ref 3), (1, .ref 6)] (vv.toList ++ []) h') from ⟨by decide, ex_lim (c_P l161.1) rfl, am_call.up (c_65 (c_P l161.1) ?_) (by decide)⟩)
          cases e167 : sp_bit (s.2.2.1.2.2.2.2 p164) (nI p155) with
          | true =>
            refine am_goX 1 (show ((pz_b (true)) = 0 → pz_S 4 (some .boolean) am_r64 6 Q 126 [(3, .int (nI p164)), (2, .int (nI p155)), (0, .ref 3), (1, .ref 6)] [] h158) ∧ (¬ ((pz_b (true)) = 0) → pz_S 4 (some .boolean) am_r64 6 Q 117 [(3, .int (nI p164)), (2, .int (nI p155)), (0, .ref 3), (1, .ref 6)] [] h158) from ⟨fun hz => absurd hz (by decide), fun _ => ?_⟩)
            refine am_goX 2 (show am_sh h158 3 = some (1, 0) ∧ pz_S 4 (some .boolean) am_r64 6 Q 121 [(3, .int (nI p164)), (2, .int (nI p155)), (0, .ref 3), (1, .ref 6)] [am_rf (h158.2.2.1 3 0)] h158 from ⟨ex_3 (c_P l161.1), ?_⟩)
            rw [ex_r3_0 (h := h158) (c_P l161.1)]
            refine am_goX 2 (show am_rc h158 1 7 ∧ 0 ≤ 8 ∧ h158.2.2.2.2 + am_al 52 ≤ 175 ∧ am_call am_cod 6 52 [.ref 1, .int (Int32.ofInt 3)] h158 (fun vv h' => pz_S 4 (some .boolean) am_r64 6 Q 125 [(3, .int (nI p164)), (2, .int (nI p155)), (0, .ref 3), (1, .ref 6)] (vv.toList ++ []) h') from ⟨Or.inl ⟨by decide, ex_1 (c_P l161.1)⟩, by decide, ex_lim (c_P l161.1) rfl, am_call.up (c_refuse l161.1 ?_) (by decide)⟩)
            have x168 := cr_x (s := (s.1 + 1 + 1, s.2)) (k := (Int32.ofInt 3)) (by decide) l161 (by decide)
            exact am_goX 1 (show (∃ ty, (some .boolean) = some ty ∧ narrow ty (.int ((Int32.ofInt 0))) = .int ((Int32.ofInt 0))) ∧ (am_wI h158 1 7 (sp_ft (tt T sz) (s.1 + 1 + 1) (Int32.ofInt 3))).2.2.2.2 = 175 ∧ _ from ⟨⟨.boolean, rfl, rfl⟩, ex_175 x168.1, hQ _ _ (cres_inl (F := sp_ft (tt T sz) (s.1 + 1 + 1) (Int32.ofInt 3)) (by simp only [sp_comes, sp_b, sp_f, cond_true, cond_false, e153, e154, e162, e163, e167, Option.isSome_some, Option.isSome_none, Bool.true_or, Bool.or_true, Bool.or_false, Bool.false_or]) rfl x168)⟩)
          | false =>
            refine am_goX 1 (show ((pz_b (false)) = 0 → pz_S 4 (some .boolean) am_r64 6 Q 126 [(3, .int (nI p164)), (2, .int (nI p155)), (0, .ref 3), (1, .ref 6)] [] h158) ∧ (¬ ((pz_b (false)) = 0) → pz_S 4 (some .boolean) am_r64 6 Q 117 [(3, .int (nI p164)), (2, .int (nI p155)), (0, .ref 3), (1, .ref 6)] [] h158) from ⟨fun _ => ?_, fun hz => absurd (by decide) hz⟩)
            refine am_goX 2 (show am_sh h158 6 = some (0, 0) ∧ pz_S 4 (some .boolean) am_r64 6 Q 130 [(3, .int (nI p164)), (2, .int (nI p155)), (0, .ref 3), (1, .ref 6)] [am_rf (h158.2.2.1 6 8)] h158 from ⟨ex_6 (c_P l161.1), ?_⟩)
            rw [ex_r6_8 (h := h158) (c_P l161.1)]
            refine am_goX 3 (show (Value.int (nI p164)).category = 1 ∧ (Value.ref 13).category = 1 ∧ ∃ jj nn : Nat, am_sh h158 13 = some (13, nn) ∧ jj < nn ∧ (nI p164) = nI jj ∧ pz_S 4 (some .boolean) am_r64 6 Q 133 [(3, .int (nI p164)), (2, .int (nI p155)), (0, .ref 3), (1, .ref 6)] [.int (h158.1 13 jj), .int (nI p164), .ref 13] h158 from ⟨rfl, rfl, p164, 5, ex_13 (c_P l161.1), by omega, rfl, ?_⟩)
            rw [show h158.1 13 p164 = s.2.2.1.2.2.2.2 p164 from (l161.2.1.2.1.2.2 p164 w165.1).2.2.2]
            refine am_goX 5 (show ∃ jj nn : Nat, am_so h158 13 = some (13, nn) ∧ jj < nn ∧ (nI p164) = nI jj ∧ pz_S 4 (some .boolean) am_r64 6 Q 138 [(3, .int (nI p164)), (2, .int (nI p155)), (0, .ref 3), (1, .ref 6)] [] (am_wI h158 13 jj ((s.2.2.1.2.2.2.2 p164) ||| ((Int32.ofInt 1) <<< ((nI p155) &&& 31)))) from ⟨p164, 5, ex_w13 (c_P l161.1), by omega, rfl, ?_⟩)
            have l169 : cr h0 6 T sz (s.1 + 1 + 1, sp_cG s.2 p164 p155) (am_wI h158 13 (p164) ((s.2.2.1.2.2.2.2 p164) ||| ((Int32.ofInt 1) <<< ((nI p155) &&& 31)))) := cr_G (by decide) l161 w165.1
            refine am_goX 2 (show am_sh (am_wI h158 13 (p164) ((s.2.2.1.2.2.2.2 p164) ||| ((Int32.ofInt 1) <<< ((nI p155) &&& 31)))) 3 = some (1, 0) ∧ pz_S 4 (some .boolean) am_r64 6 Q 142 [(3, .int (nI p164)), (2, .int (nI p155)), (0, .ref 3), (1, .ref 6)] [am_rf ((am_wI h158 13 (p164) ((s.2.2.1.2.2.2.2 p164) ||| ((Int32.ofInt 1) <<< ((nI p155) &&& 31)))).2.2.1 3 0)] (am_wI h158 13 (p164) ((s.2.2.1.2.2.2.2 p164) ||| ((Int32.ofInt 1) <<< ((nI p155) &&& 31)))) from ⟨ex_3 (c_P l169.1), ?_⟩)
            rw [ex_r3_0 (h := am_wI h158 13 (p164) ((s.2.2.1.2.2.2.2 p164) ||| ((Int32.ofInt 1) <<< ((nI p155) &&& 31)))) (c_P l169.1)]
            refine am_goX 1 (show am_rc (am_wI h158 13 (p164) ((s.2.2.1.2.2.2.2 p164) ||| ((Int32.ofInt 1) <<< ((nI p155) &&& 31)))) 1 7 ∧ 0 ≤ 8 ∧ (am_wI h158 13 (p164) ((s.2.2.1.2.2.2.2 p164) ||| ((Int32.ofInt 1) <<< ((nI p155) &&& 31)))).2.2.2.2 + am_al 18 ≤ 175 ∧ am_call am_cod 6 18 [.ref 1] (am_wI h158 13 (p164) ((s.2.2.1.2.2.2.2 p164) ||| ((Int32.ofInt 1) <<< ((nI p155) &&& 31)))) (fun vv h' => pz_S 4 (some .boolean) am_r64 6 Q 145 [(3, .int (nI p164)), (2, .int (nI p155)), (0, .ref 3), (1, .ref 6)] (vv.toList ++ []) h') from ⟨Or.inl ⟨by decide, ex_1 (c_P l169.1)⟩, by decide, ex_lim (c_P l169.1) rfl, am_call.up (c_step l169.1 (sp_nn e162) (fun h170 m171 f172 => ?_)) (by decide)⟩)
            have l173 : cr h0 6 T sz (s.1 + 1 + 1 + 1, (sp_cG s.2 p164 p155)) h170 := cr_fr (a := (s.1 + 1 + 1)) (C := (sp_cG s.2 p164 p155)) (by decide) l169 m171 (Nat.le_succ _) f172
            refine am_goX 2 (show am_sh h170 3 = some (1, 0) ∧ pz_S 4 (some .boolean) am_r64 6 Q 149 [(3, .int (nI p164)), (2, .int (nI p155)), (0, .ref 3), (1, .ref 6)] [am_rf (h170.2.2.1 3 0)] h170 from ⟨ex_3 (c_P l173.1), ?_⟩)
            rw [ex_r3_0 (h := h170) (c_P l173.1)]
            refine am_goX 2 (show am_rc h170 1 7 ∧ 0 ≤ 8 ∧ h170.2.2.2.2 + am_al 61 ≤ 175 ∧ am_call am_cod 6 61 [.ref 1, .int (Int8.ofInt 59).toInt32] h170 (fun vv h' => pz_S 4 (some .boolean) am_r64 6 Q 154 [(3, .int (nI p164)), (2, .int (nI p155)), (0, .ref 3), (1, .ref 6)] (vv.toList ++ []) h') from ⟨Or.inl ⟨by decide, ex_1 (c_P l173.1)⟩, by decide, ex_lim (c_P l173.1) rfl, am_call.up (c_tS (s := (s.1 + 1 + 1 + 1, (sp_cG s.2 p164 p155))) (by decide) l173 (fun v174 h175 x176 f177 => ?_)) (by decide)⟩)
            rcases cres_cs x176 with ⟨F178, e180, rfl, y181⟩ | ⟨t179, e180, rfl, y181⟩
            ·
              exact am_goX 1 (show (∃ ty, (some .boolean) = some ty ∧ narrow ty (.int (0)) = .int (0)) ∧ h175.2.2.2.2 = 175 ∧ _ from ⟨⟨.boolean, rfl, rfl⟩, ex_175 y181.1, hQ _ _ (cres_inl (F := F178) (by simp only [sp_comes, sp_b, sp_f, cond_true, cond_false, e153, e154, e162, e163, e167, e180, Option.isSome_some, Option.isSome_none, Bool.true_or, Bool.or_true, Bool.or_false, Bool.false_or]) rfl y181)⟩)
            ·
              obtain rfl := sp_tS_inr e180
              exact am_goX 1 (show (∃ ty, (some .boolean) = some ty ∧ narrow ty (.int (1)) = .int (1)) ∧ h175.2.2.2.2 = 175 ∧ _ from ⟨⟨.boolean, rfl, rfl⟩, ex_175 (c_P y181.1), hQ _ _ (cres_inr (s' := (s.1 + 1 + 1 + 1 + 1, (sp_cG s.2 p164 p155))) (by simp only [sp_comes, sp_b, sp_f, cond_true, cond_false, e153, e154, e162, e163, e167, e180, Option.isSome_some, Option.isSome_none, Bool.true_or, Bool.or_true, Bool.or_false, Bool.false_or]) rfl y181)⟩)
      | false =>
        refine am_goX 1 (show (¬ (pz_b (false)) = 0 → pz_S 4 (some .boolean) am_r64 6 Q 78 [(2, .int (nI p155)), (0, .ref 3), (1, .ref 6)] [] h158) ∧ (¬ ¬ (pz_b (false)) = 0 → pz_S 4 (some .boolean) am_r64 6 Q 69 [(2, .int (nI p155)), (0, .ref 3), (1, .ref 6)] [] h158) from ⟨fun hz => absurd hz (by decide), fun _ => ?_⟩)
        refine am_goX 2 (show am_sh h158 3 = some (1, 0) ∧ pz_S 4 (some .boolean) am_r64 6 Q 73 [(2, .int (nI p155)), (0, .ref 3), (1, .ref 6)] [am_rf (h158.2.2.1 3 0)] h158 from ⟨ex_3 (c_P l161.1), ?_⟩)
        rw [ex_r3_0 (h := h158) (c_P l161.1)]
        refine am_goX 2 (show am_rc h158 1 7 ∧ 0 ≤ 8 ∧ h158.2.2.2.2 + am_al 52 ≤ 175 ∧ am_call am_cod 6 52 [.ref 1, .int (Int32.ofInt 1)] h158 (fun vv h' => pz_S 4 (some .boolean) am_r64 6 Q 77 [(2, .int (nI p155)), (0, .ref 3), (1, .ref 6)] (vv.toList ++ []) h') from ⟨Or.inl ⟨by decide, ex_1 (c_P l161.1)⟩, by decide, ex_lim (c_P l161.1) rfl, am_call.up (c_refuse l161.1 ?_) (by decide)⟩)
        have x182 := cr_x (s := (s.1 + 1 + 1, s.2)) (k := (Int32.ofInt 1)) (by decide) l161 (by decide)
        exact am_goX 1 (show (∃ ty, (some .boolean) = some ty ∧ narrow ty (.int ((Int32.ofInt 0))) = .int ((Int32.ofInt 0))) ∧ (am_wI h158 1 7 (sp_ft (tt T sz) (s.1 + 1 + 1) (Int32.ofInt 1))).2.2.2.2 = 175 ∧ _ from ⟨⟨.boolean, rfl, rfl⟩, ex_175 x182.1, hQ _ _ (cres_inl (F := sp_ft (tt T sz) (s.1 + 1 + 1) (Int32.ofInt 1)) (by simp only [sp_comes, sp_b, sp_f, cond_true, cond_false, e153, e154, e162, Option.isSome_some, Option.isSome_none, Bool.true_or, Bool.or_true, Bool.or_false, Bool.false_or]) rfl x182)⟩)
  | false =>
    refine am_goX 1 (show (¬ (pz_b (false)) = 0 → pz_S 4 (some .boolean) am_r64 6 Q 26 [(0, .ref 3), (1, .ref 6)] [] h149) ∧ (¬ ¬ (pz_b (false)) = 0 → pz_S 4 (some .boolean) am_r64 6 Q 17 [(0, .ref 3), (1, .ref 6)] [] h149) from ⟨fun hz => absurd hz (by decide), fun _ => ?_⟩)
    refine am_goX 2 (show am_sh h149 3 = some (1, 0) ∧ pz_S 4 (some .boolean) am_r64 6 Q 21 [(0, .ref 3), (1, .ref 6)] [am_rf (h149.2.2.1 3 0)] h149 from ⟨ex_3 (c_P l152.1), ?_⟩)
    rw [ex_r3_0 (h := h149) (c_P l152.1)]
    refine am_goX 2 (show am_rc h149 1 7 ∧ 0 ≤ 8 ∧ h149.2.2.2.2 + am_al 52 ≤ 175 ∧ am_call am_cod 6 52 [.ref 1, .int (Int32.ofInt 1)] h149 (fun vv h' => pz_S 4 (some .boolean) am_r64 6 Q 25 [(0, .ref 3), (1, .ref 6)] (vv.toList ++ []) h') from ⟨Or.inl ⟨by decide, ex_1 (c_P l152.1)⟩, by decide, ex_lim (c_P l152.1) rfl, am_call.up (c_refuse l152.1 ?_) (by decide)⟩)
    have x183 := cr_x (s := (s.1 + 1, s.2)) (k := (Int32.ofInt 1)) (by decide) l152 (by decide)
    exact am_goX 1 (show (∃ ty, (some .boolean) = some ty ∧ narrow ty (.int ((Int32.ofInt 0))) = .int ((Int32.ofInt 0))) ∧ (am_wI h149 1 7 (sp_ft (tt T sz) (s.1 + 1) (Int32.ofInt 1))).2.2.2.2 = 175 ∧ _ from ⟨⟨.boolean, rfl, rfl⟩, ex_175 x183.1, hQ _ _ (cres_inl (F := sp_ft (tt T sz) (s.1 + 1) (Int32.ofInt 1)) (by simp only [sp_comes, sp_b, sp_f, cond_true, cond_false, e153, Option.isSome_some, Option.isSome_none, Bool.true_or, Bool.or_true, Bool.or_false, Bool.false_or]) rfl x183)⟩)
theorem c_68_6 {v : Int32} {D : Nat} (hD : D < 28) (hv : v = nI D) (l : cr h0 6 T sz s h) (hQ : Q (some (.int (pz_b (sp_bit s.2.2.2.1.2 v)))) h) : am_call am_cod 2 68 [.ref 6, .int v] h Q := by
  have hP := c_P l.1
  have d2 : h.1 6 10 = s.2.2.2.1.2 := l.2.1.2.2.1.2.1
  refine pz_call (n := 68) (nL := 2) (rt := (some .boolean)) (rows := am_r68) (d := 1) (by decide +kernel) (by decide +kernel) rfl (by funext pc; rfl) (ex_175 hP) (by exact Nat.le_of_ble_eq_true rfl) ?_
  refine am_goX 5 (show am_sh h 6 = some (0, 0) ∧ ¬ (Int8.ofInt 28).toInt32 = 0 ∧ pz_S 2 (some .boolean) am_r68 1 Q 8 [(0, .ref 6), (1, .int v)] [.int (v - v / (Int8.ofInt 28).toInt32 * (Int8.ofInt 28).toInt32), .int (h.1 6 10)] h from ⟨ex_6 hP, by decide, ?_⟩)
  rw [d2, show v - v / (Int8.ofInt 28).toInt32 * (Int8.ofInt 28).toInt32 = v by rw [hv]; exact sp_bit28 hD]
  refine am_goX 1 (show 0 ≤ 8 ∧ h.2.2.2.2 + am_al 65 ≤ 175 ∧ am_call am_cod 1 65 [.int s.2.2.2.1.2, .int v] h (fun vv h' => pz_S 2 (some .boolean) am_r68 1 Q 11 [(0, .ref 6), (1, .int v)] (vv.toList ++ []) h') from ⟨by decide, ex_lim hP rfl, c_65 hP ?_⟩)
  rcases pz_b_v (sp_bit s.2.2.2.1.2 v) with e | e
  all_goals rw [e] at hQ ⊢
  · exact am_goX 1 (show (∃ ty, some FieldType.boolean = some ty ∧ narrow ty (.int 0) = .int 0) ∧ h.2.2.2.2 = 175 ∧ _ from ⟨⟨_, rfl, rfl⟩, ex_175 hP, hQ⟩)
  · exact am_goX 1 (show (∃ ty, some FieldType.boolean = some ty ∧ narrow ty (.int 1) = .int 1) ∧ h.2.2.2.2 = 175 ∧ _ from ⟨⟨_, rfl, rfl⟩, ex_175 hP, hQ⟩)
theorem c_67_6 (ht : s.2.2.2.1.1 = true) (l : cr h0 6 T sz s h) (hQ : ∀ v h1, cres h0 6 T sz (sp_sd (tt T sz) s) v h1 → Q v h1) : am_call am_cod 7 67 [.ref 3, .ref 6] h Q := by
  have hP := c_P l.1
  have hk := ck_2 T sz s.1
  have d2 : h.1 6 10 = s.2.2.2.1.2 := l.2.1.2.2.1.2.1
  refine pz_call (n := 67) (nL := 3) (rt := (some .boolean)) (rows := am_r67) (d := 6) (by decide +kernel) (by decide +kernel) rfl (by funext pc; rfl) (ex_175 hP) (by exact Nat.le_of_ble_eq_true rfl) ?_
  refine am_goX 2 (show am_sh h 3 = some (1, 0) ∧ pz_S 3 (some .boolean) am_r67 6 Q 4 [(0, .ref 3), (1, .ref 6)] [am_rf (h.2.2.1 3 0)] h from ⟨ex_3 (c_P l.1), ?_⟩)
  rw [ex_r3_0 (h := h) (c_P l.1)]
  refine am_goX 2 (show am_sh h 1 = some (7, 0) ∧ pz_S 3 (some .boolean) am_r67 6 Q 8 [(0, .ref 3), (1, .ref 6)] [.int (Int32.ofInt 2), .int (h.1 1 2)] h from ⟨ex_1 (c_P l.1), ?_⟩)
  rw [c_kd l.1]
  refine am_goX 1 (show (¬ (ck (tt T sz s.1).1) = (Int32.ofInt 2) → pz_S 3 (some .boolean) am_r67 6 Q 27 [(0, .ref 3), (1, .ref 6)] [] h) ∧ (¬ ¬ (ck (tt T sz s.1).1) = (Int32.ofInt 2) → pz_S 3 (some .boolean) am_r67 6 Q 11 [(0, .ref 3), (1, .ref 6)] [] h) from ⟨fun hc => ?_, fun hc => ?_⟩)
  ·
    have e2 : sp_k (tt T sz) s.1 2 = false := by rw [← hk]; exact decide_eq_false hc
    clear hc
    refine am_goX 4 (show 2 < 3 ∧ ((Int32.ofInt 0) = 0 → pz_S 3 (some .boolean) am_r67 6 Q 56 [(2, .int (Int32.ofInt 0)), (0, .ref 3), (1, .ref 6)] [] h) ∧ (¬ ((Int32.ofInt 0) = 0) → pz_S 3 (some .boolean) am_r67 6 Q 33 [(2, .int (Int32.ofInt 0)), (0, .ref 3), (1, .ref 6)] [] h) from ⟨by decide, fun _ => ?_, fun hz => absurd (by decide) hz⟩)
    refine am_goX 2 (show am_sh h 3 = some (1, 0) ∧ pz_S 3 (some .boolean) am_r67 6 Q 60 [(2, .int (Int32.ofInt 0)), (0, .ref 3), (1, .ref 6)] [am_rf (h.2.2.1 3 0)] h from ⟨ex_3 (c_P l.1), ?_⟩)
    rw [ex_r3_0 (h := h) (c_P l.1)]
    refine am_goX 3 (show am_rc h 1 7 ∧ 0 ≤ 8 ∧ h.2.2.2.2 + am_al 59 ≤ 175 ∧ am_call am_cod 6 59 [.ref 1, .int (Int32.ofInt 0), .int (Int8.ofInt 27).toInt32] h (fun vv h' => pz_S 3 (some .boolean) am_r67 6 Q 66 [(2, .int (Int32.ofInt 0)), (0, .ref 3), (1, .ref 6)] (vv.toList ++ []) h') from ⟨Or.inl ⟨by decide, ex_1 (c_P l.1)⟩, by decide, ex_lim (c_P l.1) rfl, am_call.up (c_tN (s := s) (by decide) l (fun v184 h185 x186 f187 => ?_)) (by decide)⟩)
    rcases cres_cs x186 with ⟨F188, e190, rfl, y191⟩ | ⟨t189, e190, rfl, y191⟩
    ·
      simp only [sp_tN, e2, cond_true, cond_false, sp_f, Sum.inl.injEq] at e190
      subst e190
      refine am_goX 1 (show (¬ 0 = 0 → pz_S 3 (some .boolean) am_r67 6 Q 71 [(2, .int (Int32.ofInt 0)), (0, .ref 3), (1, .ref 6)] [] h185) ∧ (¬ ¬ 0 = 0 → pz_S 3 (some .boolean) am_r67 6 Q 69 [(2, .int (Int32.ofInt 0)), (0, .ref 3), (1, .ref 6)] [] h185) from ⟨fun hz => absurd hz (by decide), fun _ => ?_⟩)
      exact am_goX 2 (show (∃ ty, (some .boolean) = some ty ∧ narrow ty (.int ((Int32.ofInt 0))) = .int ((Int32.ofInt 0))) ∧ h185.2.2.2.2 = 175 ∧ _ from ⟨⟨.boolean, rfl, rfl⟩, ex_175 y191.1, hQ _ _ (cres_inl (F := sp_ft (tt T sz) s.1 (Int32.ofInt 1)) (by simp only [sp_sd, sp_tN, sp_b, sp_f, cond_true, cond_false, e2, Option.isSome_some, Option.isSome_none, Bool.true_or, Bool.or_true, Bool.or_false, Bool.false_or]) rfl y191)⟩)
    ·
      simp only [sp_tN, e2, cond_true, cond_false, sp_f] at e190
      cases e190
  ·
    have e2 : sp_k (tt T sz) s.1 2 = true := by rw [← hk]; exact decide_eq_true (Decidable.not_not.mp hc)
    clear hc
    obtain ⟨D, hD, ev, en⟩ := c_nm l.1 e2
    have hi := sp_in28 hD ev
    have enn := c_nv l.1 e2
    refine am_goX 2 (show am_sh h 3 = some (1, 0) ∧ pz_S 3 (some .boolean) am_r67 6 Q 15 [(0, .ref 3), (1, .ref 6)] [am_rf (h.2.2.1 3 0)] h from ⟨ex_3 (c_P l.1), ?_⟩)
    rw [ex_r3_0 (h := h) (c_P l.1)]
    refine am_goX 2 (show am_sh h 1 = some (7, 0) ∧ pz_S 3 (some .boolean) am_r67 6 Q 20 [(0, .ref 3), (1, .ref 6)] [.int (Int8.ofInt 28).toInt32, .int (h.1 1 6)] h from ⟨ex_1 (c_P l.1), ?_⟩)
    rw [en]
    refine am_goX 1 (show ((Int8.ofInt 28).toInt32 ≤ (nI D) → pz_S 3 (some .boolean) am_r67 6 Q 27 [(0, .ref 3), (1, .ref 6)] [] h) ∧ (¬ ((Int8.ofInt 28).toInt32 ≤ (nI D)) → pz_S 3 (some .boolean) am_r67 6 Q 23 [(0, .ref 3), (1, .ref 6)] [] h) from ⟨fun hc => ?_, fun hc => ?_⟩)
    ·
      rw [i28 hD] at hc
      have ei := hi.trans (decide_eq_false (by omega : ¬ D < 28))
      refine am_goX 4 (show 2 < 3 ∧ ((Int32.ofInt 0) = 0 → pz_S 3 (some .boolean) am_r67 6 Q 56 [(2, .int (Int32.ofInt 0)), (0, .ref 3), (1, .ref 6)] [] h) ∧ (¬ ((Int32.ofInt 0) = 0) → pz_S 3 (some .boolean) am_r67 6 Q 33 [(2, .int (Int32.ofInt 0)), (0, .ref 3), (1, .ref 6)] [] h) from ⟨by decide, fun _ => ?_, fun hz => absurd (by decide) hz⟩)
      refine am_goX 2 (show am_sh h 3 = some (1, 0) ∧ pz_S 3 (some .boolean) am_r67 6 Q 60 [(2, .int (Int32.ofInt 0)), (0, .ref 3), (1, .ref 6)] [am_rf (h.2.2.1 3 0)] h from ⟨ex_3 (c_P l.1), ?_⟩)
      rw [ex_r3_0 (h := h) (c_P l.1)]
      refine am_goX 3 (show am_rc h 1 7 ∧ 0 ≤ 8 ∧ h.2.2.2.2 + am_al 59 ≤ 175 ∧ am_call am_cod 6 59 [.ref 1, .int (Int32.ofInt 0), .int (Int8.ofInt 27).toInt32] h (fun vv h' => pz_S 3 (some .boolean) am_r67 6 Q 66 [(2, .int (Int32.ofInt 0)), (0, .ref 3), (1, .ref 6)] (vv.toList ++ []) h') from ⟨Or.inl ⟨by decide, ex_1 (c_P l.1)⟩, by decide, ex_lim (c_P l.1) rfl, am_call.up (c_tN (s := s) (by decide) l (fun v192 h193 x194 f195 => ?_)) (by decide)⟩)
      rcases cres_cs x194 with ⟨F196, e198, rfl, y199⟩ | ⟨t197, e198, rfl, y199⟩
      ·
        simp only [sp_tN, e2, ei, cond_true, cond_false, sp_f, Sum.inl.injEq] at e198
        subst e198
        refine am_goX 1 (show (¬ 0 = 0 → pz_S 3 (some .boolean) am_r67 6 Q 71 [(2, .int (Int32.ofInt 0)), (0, .ref 3), (1, .ref 6)] [] h193) ∧ (¬ ¬ 0 = 0 → pz_S 3 (some .boolean) am_r67 6 Q 69 [(2, .int (Int32.ofInt 0)), (0, .ref 3), (1, .ref 6)] [] h193) from ⟨fun hz => absurd hz (by decide), fun _ => ?_⟩)
        exact am_goX 2 (show (∃ ty, (some .boolean) = some ty ∧ narrow ty (.int ((Int32.ofInt 0))) = .int ((Int32.ofInt 0))) ∧ h193.2.2.2.2 = 175 ∧ _ from ⟨⟨.boolean, rfl, rfl⟩, ex_175 y199.1, hQ _ _ (cres_inl (F := sp_ft (tt T sz) s.1 (Int32.ofInt 4)) (by simp only [sp_sd, sp_tN, sp_b, sp_f, cond_true, cond_false, e2, ei, Option.isSome_some, Option.isSome_none, Bool.true_or, Bool.or_true, Bool.or_false, Bool.false_or]) rfl y199)⟩)
      ·
        simp only [sp_tN, e2, ei, cond_true, cond_false, sp_f] at e198
        cases e198
    ·
      rw [i28 hD] at hc
      have ei := hi.trans (decide_eq_true (by omega : D < 28))
      refine am_goX 5 (show 2 < 3 ∧ ((Int32.ofInt 1) = 0 → pz_S 3 (some .boolean) am_r67 6 Q 56 [(2, .int (Int32.ofInt 1)), (0, .ref 3), (1, .ref 6)] [] h) ∧ (¬ ((Int32.ofInt 1) = 0) → pz_S 3 (some .boolean) am_r67 6 Q 33 [(2, .int (Int32.ofInt 1)), (0, .ref 3), (1, .ref 6)] [] h) from ⟨by decide, fun hz => absurd hz (by decide), fun _ => ?_⟩)
      refine am_goX 3 (show am_sh h 3 = some (1, 0) ∧ pz_S 3 (some .boolean) am_r67 6 Q 38 [(2, .int (Int32.ofInt 1)), (0, .ref 3), (1, .ref 6)] [am_rf (h.2.2.1 3 0), .ref 6] h from ⟨ex_3 (c_P l.1), ?_⟩)
      rw [ex_r3_0 (h := h) (c_P l.1)]
      refine am_goX 1 (show am_sh h 1 = some (7, 0) ∧ pz_S 3 (some .boolean) am_r67 6 Q 41 [(2, .int (Int32.ofInt 1)), (0, .ref 3), (1, .ref 6)] [.int (h.1 1 6), .ref 6] h from ⟨ex_1 (c_P l.1), ?_⟩)
      rw [enn]
      refine am_goX 1 (show am_rc h 6 0 ∧ 0 ≤ 8 ∧ h.2.2.2.2 + am_al 68 ≤ 175 ∧ am_call am_cod 6 68 [.ref 6, .int (sp_v (tt T sz) s.1)] h (fun vv h' => pz_S 3 (some .boolean) am_r67 6 Q 44 [(2, .int (Int32.ofInt 1)), (0, .ref 3), (1, .ref 6)] (vv.toList ++ []) h') from ⟨Or.inl ⟨by decide, ex_6 (c_P l.1)⟩, by decide, ex_lim (c_P l.1) rfl, am_call.up (c_68_6 (show D < 28 by omega) ev l ?_) (by decide)⟩)
      cases e4 : sp_bit s.2.2.2.1.2 (sp_v (tt T sz) s.1) with
      | true =>
        refine am_goX 1 (show ((pz_b (true)) = 0 → pz_S 3 (some .boolean) am_r67 6 Q 56 [(2, .int (Int32.ofInt 1)), (0, .ref 3), (1, .ref 6)] [] h) ∧ (¬ ((pz_b (true)) = 0) → pz_S 3 (some .boolean) am_r67 6 Q 47 [(2, .int (Int32.ofInt 1)), (0, .ref 3), (1, .ref 6)] [] h) from ⟨fun hz => absurd hz (by decide), fun _ => ?_⟩)
        refine am_goX 2 (show am_sh h 3 = some (1, 0) ∧ pz_S 3 (some .boolean) am_r67 6 Q 51 [(2, .int (Int32.ofInt 1)), (0, .ref 3), (1, .ref 6)] [am_rf (h.2.2.1 3 0)] h from ⟨ex_3 (c_P l.1), ?_⟩)
        rw [ex_r3_0 (h := h) (c_P l.1)]
        refine am_goX 2 (show am_rc h 1 7 ∧ 0 ≤ 8 ∧ h.2.2.2.2 + am_al 52 ≤ 175 ∧ am_call am_cod 6 52 [.ref 1, .int (Int32.ofInt 3)] h (fun vv h' => pz_S 3 (some .boolean) am_r67 6 Q 55 [(2, .int (Int32.ofInt 1)), (0, .ref 3), (1, .ref 6)] (vv.toList ++ []) h') from ⟨Or.inl ⟨by decide, ex_1 (c_P l.1)⟩, by decide, ex_lim (c_P l.1) rfl, am_call.up (c_refuse l.1 ?_) (by decide)⟩)
        have x200 := cr_x (s := s) (k := (Int32.ofInt 3)) (by decide) l (by decide)
        exact am_goX 1 (show (∃ ty, (some .boolean) = some ty ∧ narrow ty (.int ((Int32.ofInt 0))) = .int ((Int32.ofInt 0))) ∧ (am_wI h 1 7 (sp_ft (tt T sz) s.1 (Int32.ofInt 3))).2.2.2.2 = 175 ∧ _ from ⟨⟨.boolean, rfl, rfl⟩, ex_175 x200.1, hQ _ _ (cres_inl (F := sp_ft (tt T sz) s.1 (Int32.ofInt 3)) (by simp only [sp_sd, sp_tN, sp_b, sp_f, cond_true, cond_false, e2, ei, e4, Option.isSome_some, Option.isSome_none, Bool.true_or, Bool.or_true, Bool.or_false, Bool.false_or]) rfl x200)⟩)
      | false =>
        refine am_goX 1 (show ((pz_b (false)) = 0 → pz_S 3 (some .boolean) am_r67 6 Q 56 [(2, .int (Int32.ofInt 1)), (0, .ref 3), (1, .ref 6)] [] h) ∧ (¬ ((pz_b (false)) = 0) → pz_S 3 (some .boolean) am_r67 6 Q 47 [(2, .int (Int32.ofInt 1)), (0, .ref 3), (1, .ref 6)] [] h) from ⟨fun _ => ?_, fun hz => absurd (by decide) hz⟩)
        refine am_goX 2 (show am_sh h 3 = some (1, 0) ∧ pz_S 3 (some .boolean) am_r67 6 Q 60 [(2, .int (Int32.ofInt 1)), (0, .ref 3), (1, .ref 6)] [am_rf (h.2.2.1 3 0)] h from ⟨ex_3 (c_P l.1), ?_⟩)
        rw [ex_r3_0 (h := h) (c_P l.1)]
        refine am_goX 3 (show am_rc h 1 7 ∧ 0 ≤ 8 ∧ h.2.2.2.2 + am_al 59 ≤ 175 ∧ am_call am_cod 6 59 [.ref 1, .int (Int32.ofInt 0), .int (Int8.ofInt 27).toInt32] h (fun vv h' => pz_S 3 (some .boolean) am_r67 6 Q 66 [(2, .int (Int32.ofInt 1)), (0, .ref 3), (1, .ref 6)] (vv.toList ++ []) h') from ⟨Or.inl ⟨by decide, ex_1 (c_P l.1)⟩, by decide, ex_lim (c_P l.1) rfl, am_call.up (c_tN (s := s) (by decide) l (fun v201 h202 x203 f204 => ?_)) (by decide)⟩)
        rcases cres_cs x203 with ⟨F205, e207, rfl, y208⟩ | ⟨t206, e207, rfl, y208⟩
        ·
          simp only [sp_tN, e2, ei, cond_true, cond_false] at e207
          cases e207
        ·
          obtain ⟨et, _, _⟩ := sp_tN_inr e207
          rw [et] at y208
          refine am_goX 1 (show (¬ 1 = 0 → pz_S 3 (some .boolean) am_r67 6 Q 71 [(2, .int (Int32.ofInt 1)), (0, .ref 3), (1, .ref 6)] [] h202) ∧ (¬ ¬ 1 = 0 → pz_S 3 (some .boolean) am_r67 6 Q 69 [(2, .int (Int32.ofInt 1)), (0, .ref 3), (1, .ref 6)] [] h202) from ⟨fun _ => ?_, fun hz => absurd (by decide) hz⟩)
          refine am_goX 2 (show am_sh h202 6 = some (0, 0) ∧ pz_S 3 (some .boolean) am_r67 6 Q 75 [(2, .int (Int32.ofInt 1)), (0, .ref 3), (1, .ref 6)] [.int (h202.1 6 10)] h202 from ⟨ex_6 (c_P y208.1), ?_⟩)
          rw [show h202.1 6 10 = s.2.2.2.1.2 from y208.2.1.2.2.1.2.1]
          refine am_goX 1 (show 0 ≤ 8 ∧ h202.2.2.2.2 + am_al 69 ≤ 175 ∧ am_call am_cod 6 69 [.int s.2.2.2.1.2] h202 (fun vv h' => pz_S 3 (some .boolean) am_r67 6 Q 78 [(2, .int (Int32.ofInt 1)), (0, .ref 3), (1, .ref 6)] (vv.toList ++ []) h') from ⟨by decide, ex_lim (c_P y208.1) rfl, am_call.up (c_69 (c_P y208.1) y208.2.1.2.2.1.2.2.2 ?_) (by decide)⟩)
          refine am_goX 1 (show pz_S 3 (some .boolean) am_r67 6 Q 80 [(2, .int (Int32.ofInt 1)), (0, .ref 3), (1, .ref 6)] [.int (Int8.ofInt 8).toInt32, .int (nI (sp_pc s.2.2.2.1.2 28))] h202 from ?_)
          cases e5 : Nat.ble 8 (sp_pc s.2.2.2.1.2 28) with
          | true =>
            refine am_goX 1 (show ((nI (sp_pc s.2.2.2.1.2 28)) < (Int8.ofInt 8).toInt32 → pz_S 3 (some .boolean) am_r67 6 Q 92 [(2, .int (Int32.ofInt 1)), (0, .ref 3), (1, .ref 6)] [] h202) ∧ (¬ ((nI (sp_pc s.2.2.2.1.2 28)) < (Int8.ofInt 8).toInt32) → pz_S 3 (some .boolean) am_r67 6 Q 83 [(2, .int (Int32.ofInt 1)), (0, .ref 3), (1, .ref 6)] [] h202) from ⟨fun hz => absurd hz (i8 e5 (by have := sp_pc_le s.2.2.2.1.2 28; omega)), fun _ => ?_⟩)
            refine am_goX 2 (show am_sh h202 3 = some (1, 0) ∧ pz_S 3 (some .boolean) am_r67 6 Q 87 [(2, .int (Int32.ofInt 1)), (0, .ref 3), (1, .ref 6)] [am_rf (h202.2.2.1 3 0)] h202 from ⟨ex_3 (c_P y208.1), ?_⟩)
            rw [ex_r3_0 (h := h202) (c_P y208.1)]
            refine am_goX 2 (show am_rc h202 1 7 ∧ 0 ≤ 8 ∧ h202.2.2.2.2 + am_al 52 ≤ 175 ∧ am_call am_cod 6 52 [.ref 1, .int (Int32.ofInt 5)] h202 (fun vv h' => pz_S 3 (some .boolean) am_r67 6 Q 91 [(2, .int (Int32.ofInt 1)), (0, .ref 3), (1, .ref 6)] (vv.toList ++ []) h') from ⟨Or.inl ⟨by decide, ex_1 (c_P y208.1)⟩, by decide, ex_lim (c_P y208.1) rfl, am_call.up (c_refuse y208.1 ?_) (by decide)⟩)
            have x209 := cr_x (s := s) (k := (Int32.ofInt 5)) (by decide) y208 (by decide)
            exact am_goX 1 (show (∃ ty, (some .boolean) = some ty ∧ narrow ty (.int ((Int32.ofInt 0))) = .int ((Int32.ofInt 0))) ∧ (am_wI h202 1 7 (sp_ft (tt T sz) s.1 (Int32.ofInt 5))).2.2.2.2 = 175 ∧ _ from ⟨⟨.boolean, rfl, rfl⟩, ex_175 x209.1, hQ _ _ (cres_inl (F := sp_ft (tt T sz) s.1 (Int32.ofInt 5)) (by simp only [sp_sd, sp_tN, sp_b, sp_f, cond_true, cond_false, e2, ei, e4, e5, Option.isSome_some, Option.isSome_none, Bool.true_or, Bool.or_true, Bool.or_false, Bool.false_or]) rfl x209)⟩)
          | false =>
            refine am_goX 1 (show ((nI (sp_pc s.2.2.2.1.2 28)) < (Int8.ofInt 8).toInt32 → pz_S 3 (some .boolean) am_r67 6 Q 92 [(2, .int (Int32.ofInt 1)), (0, .ref 3), (1, .ref 6)] [] h202) ∧ (¬ ((nI (sp_pc s.2.2.2.1.2 28)) < (Int8.ofInt 8).toInt32) → pz_S 3 (some .boolean) am_r67 6 Q 83 [(2, .int (Int32.ofInt 1)), (0, .ref 3), (1, .ref 6)] [] h202) from ⟨fun _ => ?_, fun hz => absurd (j8 e5) hz⟩)
            refine am_goX 6 (show (Value.ref 6).category = 1 ∧ am_sh h202 6 = some (0, 0) ∧ am_sh h202 3 = some (1, 0) ∧ pz_S 3 (some .boolean) am_r67 6 Q 102 [(2, .int (Int32.ofInt 1)), (0, .ref 3), (1, .ref 6)] [am_rf (h202.2.2.1 3 0), .int (Int32.ofInt 1), .int (h202.1 6 10), .ref 6] h202 from ⟨rfl, ex_6 (c_P y208.1), ex_3 (c_P y208.1), ?_⟩)
            rw [ex_r3_0 (h := h202) (c_P y208.1)]
            refine am_goX 4 (show am_sh h202 1 = some (7, 0) ∧ am_sh h202 6 = some (0, 0) ∧ narrow (am_fty 0 10) (.int (((h202.1 6 10) ||| ((Int32.ofInt 1) <<< ((h202.1 1 6) &&& 31))))) = .int (((h202.1 6 10) ||| ((Int32.ofInt 1) <<< ((h202.1 1 6) &&& 31)))) ∧ fits (am_fty 0 10) (.int (((h202.1 6 10) ||| ((Int32.ofInt 1) <<< ((h202.1 1 6) &&& 31))))) = true ∧ pz_S 3 (some .boolean) am_r67 6 Q 110 [(2, .int (Int32.ofInt 1)), (0, .ref 3), (1, .ref 6)] [] (am_wI h202 6 10 (((h202.1 6 10) ||| ((Int32.ofInt 1) <<< ((h202.1 1 6) &&& 31))))) from ⟨ex_1 (c_P y208.1), ex_6 (c_P y208.1), rfl, rfl, ?_⟩)
            rw [show h202.1 6 10 = s.2.2.2.1.2 from y208.2.1.2.2.1.2.1, c_nv y208.1 e2]
            have l210 : cr h0 6 T sz (s.1, sp_cS s.2 s.2.2.2.1.1 (s.2.2.2.1.2 ||| ((Int32.ofInt 1) <<< (sp_v (tt T sz) s.1 &&& 31)))) (am_wI h202 6 10 (s.2.2.2.1.2 ||| ((Int32.ofInt 1) <<< (sp_v (tt T sz) s.1 &&& 31)))) := cr_S10 (by decide) ⟨fun z => absurd (ht.symm.trans z) (by decide), by rw [ev]; exact sp_28_or y208.2.1.2.2.1.2.2.2 (by omega)⟩ y208
            refine am_goX 2 (show am_sh (am_wI h202 6 10 (s.2.2.2.1.2 ||| ((Int32.ofInt 1) <<< (sp_v (tt T sz) s.1 &&& 31)))) 3 = some (1, 0) ∧ pz_S 3 (some .boolean) am_r67 6 Q 114 [(2, .int (Int32.ofInt 1)), (0, .ref 3), (1, .ref 6)] [am_rf ((am_wI h202 6 10 (s.2.2.2.1.2 ||| ((Int32.ofInt 1) <<< (sp_v (tt T sz) s.1 &&& 31)))).2.2.1 3 0)] (am_wI h202 6 10 (s.2.2.2.1.2 ||| ((Int32.ofInt 1) <<< (sp_v (tt T sz) s.1 &&& 31)))) from ⟨ex_3 (c_P l210.1), ?_⟩)
            rw [ex_r3_0 (h := am_wI h202 6 10 (s.2.2.2.1.2 ||| ((Int32.ofInt 1) <<< (sp_v (tt T sz) s.1 &&& 31)))) (c_P l210.1)]
            refine am_goX 1 (show am_rc (am_wI h202 6 10 (s.2.2.2.1.2 ||| ((Int32.ofInt 1) <<< (sp_v (tt T sz) s.1 &&& 31)))) 1 7 ∧ 0 ≤ 8 ∧ (am_wI h202 6 10 (s.2.2.2.1.2 ||| ((Int32.ofInt 1) <<< (sp_v (tt T sz) s.1 &&& 31)))).2.2.2.2 + am_al 18 ≤ 175 ∧ am_call am_cod 6 18 [.ref 1] (am_wI h202 6 10 (s.2.2.2.1.2 ||| ((Int32.ofInt 1) <<< (sp_v (tt T sz) s.1 &&& 31)))) (fun vv h' => pz_S 3 (some .boolean) am_r67 6 Q 117 [(2, .int (Int32.ofInt 1)), (0, .ref 3), (1, .ref 6)] (vv.toList ++ []) h') from ⟨Or.inl ⟨by decide, ex_1 (c_P l210.1)⟩, by decide, ex_lim (c_P l210.1) rfl, am_call.up (c_step l210.1 (sp_kn (by decide) e2) (fun h211 m212 f213 => ?_)) (by decide)⟩)
            have l214 : cr h0 6 T sz (s.1 + 1, (sp_cS s.2 s.2.2.2.1.1 (s.2.2.2.1.2 ||| ((Int32.ofInt 1) <<< (sp_v (tt T sz) s.1 &&& 31))))) h211 := cr_fr (a := s.1) (C := (sp_cS s.2 s.2.2.2.1.1 (s.2.2.2.1.2 ||| ((Int32.ofInt 1) <<< (sp_v (tt T sz) s.1 &&& 31))))) (by decide) l210 m212 (Nat.le_succ _) f213
            exact am_goX 2 (show (∃ ty, (some .boolean) = some ty ∧ narrow ty (.int ((Int32.ofInt 1))) = .int ((Int32.ofInt 1))) ∧ h211.2.2.2.2 = 175 ∧ _ from ⟨⟨.boolean, rfl, rfl⟩, ex_175 (c_P l214.1), hQ _ _ (cres_inr (s' := (s.1 + 1, (sp_cS s.2 s.2.2.2.1.1 (s.2.2.2.1.2 ||| ((Int32.ofInt 1) <<< (sp_v (tt T sz) s.1 &&& 31)))))) (by simp only [sp_sd, sp_tN, sp_b, sp_f, cond_true, cond_false, e2, ei, e4, e5, Option.isSome_some, Option.isSome_none, Bool.true_or, Bool.or_true, Bool.or_false, Bool.false_or]) rfl l214)⟩)
theorem c_66l_6 : ∀ (m i : Nat) (s : sp_S) (h : am_H) (Q : am_Q), sz < s.1 + m → i + 1 ≤ s.1 → s.2.2.2.1.1 = true → cr h0 6 T sz s h → (∀ v h1, cres h0 6 T sz (sp_b (sp_sl (tt T sz) m s) (sp_tS (tt T sz) (Int8.ofInt 59).toInt32)) v h1 → Q v h1) → pz_S 4 (some .boolean) am_r66 7 Q 36 [(3, .int (nI i)), (2, .int 1), (0, .ref 3), (1, .ref 6)] [] h := by
  intro m
  induction m with
  | zero =>
    intro i s h Q hm hi ht l hQ
    have := (cr_a l).1
    omega
  | succ m ih =>
    intro i s h Q hm hi ht l hQ
    have ha := cr_a l
    have hk := ck_2 T sz s.1
    refine am_goX 2 (show (1 = 0 → pz_S 4 (some .boolean) am_r66 7 Q 70 [(3, .int (nI i)), (2, .int 1), (0, .ref 3), (1, .ref 6)] [] h) ∧ (¬ (1 = 0) → pz_S 4 (some .boolean) am_r66 7 Q 40 [(3, .int (nI i)), (2, .int 1), (0, .ref 3), (1, .ref 6)] [] h) from ⟨fun hz => absurd hz (by decide), fun _ => ?_⟩)
    refine am_goX 2 (show am_sh h 3 = some (1, 0) ∧ pz_S 4 (some .boolean) am_r66 7 Q 44 [(3, .int (nI i)), (2, .int 1), (0, .ref 3), (1, .ref 6)] [am_rf (h.2.2.1 3 0)] h from ⟨ex_3 (c_P l.1), ?_⟩)
    rw [ex_r3_0 (h := h) (c_P l.1)]
    refine am_goX 2 (show am_sh h 1 = some (7, 0) ∧ pz_S 4 (some .boolean) am_r66 7 Q 48 [(3, .int (nI i)), (2, .int 1), (0, .ref 3), (1, .ref 6)] [.int (Int32.ofInt 2), .int (h.1 1 2)] h from ⟨ex_1 (c_P l.1), ?_⟩)
    rw [c_kd l.1]
    refine am_goX 1 (show (¬ (ck (tt T sz s.1).1) = (Int32.ofInt 2) → pz_S 4 (some .boolean) am_r66 7 Q 70 [(3, .int (nI i)), (2, .int 1), (0, .ref 3), (1, .ref 6)] [] h) ∧ (¬ ¬ (ck (tt T sz s.1).1) = (Int32.ofInt 2) → pz_S 4 (some .boolean) am_r66 7 Q 51 [(3, .int (nI i)), (2, .int 1), (0, .ref 3), (1, .ref 6)] [] h) from ⟨fun hc => ?_, fun hc => ?_⟩)
    ·
      have e2 : sp_k (tt T sz) s.1 2 = false := by rw [← hk]; exact decide_eq_false hc
      clear hc
      refine am_goX 2 (show (1 = 0 → pz_S 4 (some .boolean) am_r66 7 Q 90 [(3, .int (nI i)), (2, .int 1), (0, .ref 3), (1, .ref 6)] [] h) ∧ (¬ (1 = 0) → pz_S 4 (some .boolean) am_r66 7 Q 74 [(3, .int (nI i)), (2, .int 1), (0, .ref 3), (1, .ref 6)] [] h) from ⟨fun hz => absurd hz (by decide), fun _ => ?_⟩)
      refine am_goX 2 (show am_sh h 3 = some (1, 0) ∧ pz_S 4 (some .boolean) am_r66 7 Q 78 [(3, .int (nI i)), (2, .int 1), (0, .ref 3), (1, .ref 6)] [am_rf (h.2.2.1 3 0)] h from ⟨ex_3 (c_P l.1), ?_⟩)
      rw [ex_r3_0 (h := h) (c_P l.1)]
      refine am_goX 2 (show am_rc h 1 7 ∧ 0 ≤ 8 ∧ h.2.2.2.2 + am_al 61 ≤ 175 ∧ am_call am_cod 7 61 [.ref 1, .int (Int8.ofInt 59).toInt32] h (fun vv h' => pz_S 4 (some .boolean) am_r66 7 Q 83 [(3, .int (nI i)), (2, .int 1), (0, .ref 3), (1, .ref 6)] (vv.toList ++ []) h') from ⟨Or.inl ⟨by decide, ex_1 (c_P l.1)⟩, by decide, ex_lim (c_P l.1) rfl, am_call.up (c_tS (s := s) (by decide) l (fun v215 h216 x217 f218 => ?_)) (by decide)⟩)
      rcases cres_cs x217 with ⟨F219, e221, rfl, y222⟩ | ⟨t220, e221, rfl, y222⟩
      ·
        refine am_goX 1 (show (0 = 0 → pz_S 4 (some .boolean) am_r66 7 Q 90 [(3, .int (nI i)), (2, .int 1), (0, .ref 3), (1, .ref 6)] [] h216) ∧ (¬ (0 = 0) → pz_S 4 (some .boolean) am_r66 7 Q 86 [(3, .int (nI i)), (2, .int 1), (0, .ref 3), (1, .ref 6)] [] h216) from ⟨fun _ => ?_, fun hz => absurd (by decide) hz⟩)
        exact am_goX 2 (show (∃ ty, (some .boolean) = some ty ∧ narrow ty (.int ((Int32.ofInt 0))) = .int ((Int32.ofInt 0))) ∧ h216.2.2.2.2 = 175 ∧ _ from ⟨⟨.boolean, rfl, rfl⟩, ex_175 y222.1, hQ _ _ (cres_inl (F := F219) (by simp only [sp_sl, sp_b, sp_f, cond_true, cond_false, e2, e221, Option.isSome_some, Option.isSome_none, Bool.true_or, Bool.or_true, Bool.or_false, Bool.false_or]) rfl y222)⟩)
      ·
        refine am_goX 1 (show (1 = 0 → pz_S 4 (some .boolean) am_r66 7 Q 90 [(3, .int (nI i)), (2, .int 1), (0, .ref 3), (1, .ref 6)] [] h216) ∧ (¬ (1 = 0) → pz_S 4 (some .boolean) am_r66 7 Q 86 [(3, .int (nI i)), (2, .int 1), (0, .ref 3), (1, .ref 6)] [] h216) from ⟨fun hz => absurd hz (by decide), fun _ => ?_⟩)
        exact am_goX 3 (show (∃ ty, (some .boolean) = some ty ∧ narrow ty (.int ((Int32.ofInt 1))) = .int ((Int32.ofInt 1))) ∧ h216.2.2.2.2 = 175 ∧ _ from ⟨⟨.boolean, rfl, rfl⟩, ex_175 (c_P y222.1), hQ _ _ (cres_inr (s' := t220) (by simp only [sp_sl, sp_b, sp_f, cond_true, cond_false, e2, e221, Option.isSome_some, Option.isSome_none, Bool.true_or, Bool.or_true, Bool.or_false, Bool.false_or]) rfl y222)⟩)
    ·
      have e2 : sp_k (tt T sz) s.1 2 = true := by rw [← hk]; exact decide_eq_true (Decidable.not_not.mp hc)
      clear hc
      refine am_goX 3 (show ((Int16.ofInt 1000).toInt32 ≤ (nI i) → pz_S 4 (some .boolean) am_r66 7 Q 70 [(3, .int (nI i)), (2, .int 1), (0, .ref 3), (1, .ref 6)] [] h) ∧ (¬ ((Int16.ofInt 1000).toInt32 ≤ (nI i)) → pz_S 4 (some .boolean) am_r66 7 Q 58 [(3, .int (nI i)), (2, .int 1), (0, .ref 3), (1, .ref 6)] [] h) from ⟨fun hz => absurd hz (i1000 (by omega)), fun _ => ?_⟩)
      refine am_goX 3 (show am_rc h 3 1 ∧ 0 ≤ 8 ∧ h.2.2.2.2 + am_al 67 ≤ 175 ∧ am_call am_cod 7 67 [.ref 3, .ref 6] h (fun vv h' => pz_S 4 (some .boolean) am_r66 7 Q 63 [(3, .int (nI i)), (2, .int 1), (0, .ref 3), (1, .ref 6)] (vv.toList ++ []) h') from ⟨Or.inl ⟨by decide, ex_3 (c_P l.1)⟩, by decide, ex_lim (c_P l.1) rfl, am_call.up (c_67_6 (s := s) ht l (fun v223 h224 x225 => ?_)) (by decide)⟩)
      rcases cres_cs x225 with ⟨F227, e229, rfl, y230⟩ | ⟨t228, e229, rfl, y230⟩
      ·
        refine am_goX 5 (show 2 < 4 ∧ 3 < 4 ∧ (0 = 0 → pz_S 4 (some .boolean) am_r66 7 Q 70 [(3, .int ((nI i) + Int32.ofInt 1)), (2, .int 0), (0, .ref 3), (1, .ref 6)] [] h224) ∧ (¬ (0 = 0) → pz_S 4 (some .boolean) am_r66 7 Q 40 [(3, .int ((nI i) + Int32.ofInt 1)), (2, .int 0), (0, .ref 3), (1, .ref 6)] [] h224) from ⟨by decide, by decide, fun _ => ?_, fun hz => absurd (by decide) hz⟩)
        refine am_goX 2 (show (0 = 0 → pz_S 4 (some .boolean) am_r66 7 Q 90 [(3, .int ((nI i) + Int32.ofInt 1)), (2, .int 0), (0, .ref 3), (1, .ref 6)] [] h224) ∧ (¬ (0 = 0) → pz_S 4 (some .boolean) am_r66 7 Q 74 [(3, .int ((nI i) + Int32.ofInt 1)), (2, .int 0), (0, .ref 3), (1, .ref 6)] [] h224) from ⟨fun _ => ?_, fun hz => absurd (by decide) hz⟩)
        exact am_goX 2 (show (∃ ty, (some .boolean) = some ty ∧ narrow ty (.int ((Int32.ofInt 0))) = .int ((Int32.ofInt 0))) ∧ h224.2.2.2.2 = 175 ∧ _ from ⟨⟨.boolean, rfl, rfl⟩, ex_175 y230.1, hQ _ _ (cres_inl (F := F227) (by simp only [sp_sl, sp_b, sp_f, cond_true, cond_false, e2, e229, Option.isSome_some, Option.isSome_none, Bool.true_or, Bool.or_true, Bool.or_false, Bool.false_or]) rfl y230)⟩)
      ·
        refine am_goX 3 (show 2 < 4 ∧ 3 < 4 ∧ pz_S 4 (some .boolean) am_r66 7 Q 36 [(3, .int ((nI i) + Int32.ofInt 1)), (2, .int 1), (0, .ref 3), (1, .ref 6)] [] h224 from ⟨by decide, by decide, ?_⟩)
        rw [xw_i1]
        obtain ⟨g1, g2⟩ := sp_sd_inr e229
        have hx : sp_b (sp_sl (tt T sz) (m + 1) s) (sp_tS (tt T sz) (Int8.ofInt 59).toInt32) = sp_b (sp_sl (tt T sz) m t228) (sp_tS (tt T sz) (Int8.ofInt 59).toInt32) := by simp only [sp_sl, sp_b, cond_true, cond_false, e2, e229]
        exact ih (i + 1) t228 h224 Q (by omega) (by omega) (g2.trans ht) y230 (fun v h1 q => hQ v h1 (by rw [hx]; exact q))
theorem c_66_6 (hn : ¬ (tt T sz s.1).1 = 0) (l : cr h0 6 T sz s h) (hQ : ∀ v h1, cres h0 6 T sz (sp_snow (tt T sz) s) v h1 → Q v h1) : am_call am_cod 8 66 [.ref 3, .ref 6] h Q := by
  have hP := c_P l.1
  have d1 : h.1 6 9 = pz_b s.2.2.2.1.1 := l.2.1.2.2.1.1
  refine pz_call (n := 66) (nL := 4) (rt := (some .boolean)) (rows := am_r66) (d := 7) (by decide +kernel) (by decide +kernel) rfl (by funext pc; rfl) (ex_175 hP) (by exact Nat.le_of_ble_eq_true rfl) ?_
  refine am_goX 2 (show am_sh h 6 = some (0, 0) ∧ pz_S 4 (some .boolean) am_r66 7 Q 4 [(0, .ref 3), (1, .ref 6)] [.int (h.1 6 9)] h from ⟨ex_6 (c_P l.1), ?_⟩)
  rw [d1]
  cases e1 : s.2.2.2.1.1 with
  | true =>
    refine am_goX 1 (show ((pz_b (true)) = 0 → pz_S 4 (some .boolean) am_r66 7 Q 16 [(0, .ref 3), (1, .ref 6)] [] h) ∧ (¬ ((pz_b (true)) = 0) → pz_S 4 (some .boolean) am_r66 7 Q 7 [(0, .ref 3), (1, .ref 6)] [] h) from ⟨fun hz => absurd hz (by decide), fun _ => ?_⟩)
    refine am_goX 2 (show am_sh h 3 = some (1, 0) ∧ pz_S 4 (some .boolean) am_r66 7 Q 11 [(0, .ref 3), (1, .ref 6)] [am_rf (h.2.2.1 3 0)] h from ⟨ex_3 (c_P l.1), ?_⟩)
    rw [ex_r3_0 (h := h) (c_P l.1)]
    refine am_goX 2 (show am_rc h 1 7 ∧ 0 ≤ 8 ∧ h.2.2.2.2 + am_al 52 ≤ 175 ∧ am_call am_cod 7 52 [.ref 1, .int (Int32.ofInt 3)] h (fun vv h' => pz_S 4 (some .boolean) am_r66 7 Q 15 [(0, .ref 3), (1, .ref 6)] (vv.toList ++ []) h') from ⟨Or.inl ⟨by decide, ex_1 (c_P l.1)⟩, by decide, ex_lim (c_P l.1) rfl, am_call.up (c_refuse l.1 ?_) (by decide)⟩)
    have x231 := cr_x (s := s) (k := (Int32.ofInt 3)) (by decide) l (by decide)
    exact am_goX 1 (show (∃ ty, (some .boolean) = some ty ∧ narrow ty (.int ((Int32.ofInt 0))) = .int ((Int32.ofInt 0))) ∧ (am_wI h 1 7 (sp_ft (tt T sz) s.1 (Int32.ofInt 3))).2.2.2.2 = 175 ∧ _ from ⟨⟨.boolean, rfl, rfl⟩, ex_175 x231.1, hQ _ _ (cres_inl (F := sp_ft (tt T sz) s.1 (Int32.ofInt 3)) (by simp only [sp_snow, sp_b, sp_f, cond_true, cond_false, e1, Option.isSome_some, Option.isSome_none, Bool.true_or, Bool.or_true, Bool.or_false, Bool.false_or]) rfl x231)⟩)
  | false =>
    refine am_goX 1 (show ((pz_b (false)) = 0 → pz_S 4 (some .boolean) am_r66 7 Q 16 [(0, .ref 3), (1, .ref 6)] [] h) ∧ (¬ ((pz_b (false)) = 0) → pz_S 4 (some .boolean) am_r66 7 Q 7 [(0, .ref 3), (1, .ref 6)] [] h) from ⟨fun _ => ?_, fun hz => absurd (by decide) hz⟩)
    refine am_goX 3 (show am_sh h 6 = some (0, 0) ∧ narrow (am_fty 0 9) (.int ((Int32.ofInt 1))) = .int ((Int32.ofInt 1)) ∧ fits (am_fty 0 9) (.int ((Int32.ofInt 1))) = true ∧ pz_S 4 (some .boolean) am_r66 7 Q 21 [(0, .ref 3), (1, .ref 6)] [] (am_wI h 6 9 ((Int32.ofInt 1))) from ⟨ex_6 (c_P l.1), rfl, rfl, ?_⟩)
    have l232 : cr h0 6 T sz (s.1, sp_cS s.2 true s.2.2.2.1.2) (am_wI h 6 9 1) := cr_S9 (by decide) l
    refine am_goX 2 (show am_sh (am_wI h 6 9 1) 3 = some (1, 0) ∧ pz_S 4 (some .boolean) am_r66 7 Q 25 [(0, .ref 3), (1, .ref 6)] [am_rf ((am_wI h 6 9 1).2.2.1 3 0)] (am_wI h 6 9 1) from ⟨ex_3 (c_P l232.1), ?_⟩)
    rw [ex_r3_0 (h := am_wI h 6 9 1) (c_P l232.1)]
    refine am_goX 1 (show am_rc (am_wI h 6 9 1) 1 7 ∧ 0 ≤ 8 ∧ (am_wI h 6 9 1).2.2.2.2 + am_al 18 ≤ 175 ∧ am_call am_cod 7 18 [.ref 1] (am_wI h 6 9 1) (fun vv h' => pz_S 4 (some .boolean) am_r66 7 Q 28 [(0, .ref 3), (1, .ref 6)] (vv.toList ++ []) h') from ⟨Or.inl ⟨by decide, ex_1 (c_P l232.1)⟩, by decide, ex_lim (c_P l232.1) rfl, am_call.up (c_step l232.1 (hn) (fun h233 m234 f235 => ?_)) (by decide)⟩)
    have l236 : cr h0 6 T sz (s.1 + 1, (sp_cS s.2 true s.2.2.2.1.2)) h233 := cr_fr (a := s.1) (C := (sp_cS s.2 true s.2.2.2.1.2)) (by decide) l232 m234 (Nat.le_succ _) f235
    refine am_goX 3 (show am_rc h233 3 1 ∧ 0 ≤ 8 ∧ h233.2.2.2.2 + am_al 67 ≤ 175 ∧ am_call am_cod 7 67 [.ref 3, .ref 6] h233 (fun vv h' => pz_S 4 (some .boolean) am_r66 7 Q 33 [(0, .ref 3), (1, .ref 6)] (vv.toList ++ []) h') from ⟨Or.inl ⟨by decide, ex_3 (c_P l236.1)⟩, by decide, ex_lim (c_P l236.1) rfl, am_call.up (c_67_6 (s := (s.1 + 1, (sp_cS s.2 true s.2.2.2.1.2))) rfl l236 (fun v237 h238 x239 => ?_)) (by decide)⟩)
    rcases cres_cs x239 with ⟨F241, e243, rfl, y244⟩ | ⟨t242, e243, rfl, y244⟩
    ·
      refine am_goX 5 (show 2 < 4 ∧ 3 < 4 ∧ (0 = 0 → pz_S 4 (some .boolean) am_r66 7 Q 70 [(3, .int (Int32.ofInt 0)), (2, .int 0), (0, .ref 3), (1, .ref 6)] [] h238) ∧ (¬ (0 = 0) → pz_S 4 (some .boolean) am_r66 7 Q 40 [(3, .int (Int32.ofInt 0)), (2, .int 0), (0, .ref 3), (1, .ref 6)] [] h238) from ⟨by decide, by decide, fun _ => ?_, fun hz => absurd (by decide) hz⟩)
      refine am_goX 2 (show (0 = 0 → pz_S 4 (some .boolean) am_r66 7 Q 90 [(3, .int (Int32.ofInt 0)), (2, .int 0), (0, .ref 3), (1, .ref 6)] [] h238) ∧ (¬ (0 = 0) → pz_S 4 (some .boolean) am_r66 7 Q 74 [(3, .int (Int32.ofInt 0)), (2, .int 0), (0, .ref 3), (1, .ref 6)] [] h238) from ⟨fun _ => ?_, fun hz => absurd (by decide) hz⟩)
      exact am_goX 2 (show (∃ ty, (some .boolean) = some ty ∧ narrow ty (.int ((Int32.ofInt 0))) = .int ((Int32.ofInt 0))) ∧ h238.2.2.2.2 = 175 ∧ _ from ⟨⟨.boolean, rfl, rfl⟩, ex_175 y244.1, hQ _ _ (cres_inl (F := F241) (by simp only [sp_snow, sp_b, sp_f, cond_true, cond_false, e1, e243, Option.isSome_some, Option.isSome_none, Bool.true_or, Bool.or_true, Bool.or_false, Bool.false_or]) rfl y244)⟩)
    ·
      refine am_goX 3 (show 2 < 4 ∧ 3 < 4 ∧ pz_S 4 (some .boolean) am_r66 7 Q 36 [(3, .int (Int32.ofInt 0)), (2, .int 1), (0, .ref 3), (1, .ref 6)] [] h238 from ⟨by decide, by decide, ?_⟩)
      obtain ⟨g1, g2⟩ := sp_sd_inr e243
      have ha := cr_a y244
      dsimp only at g1
      exact c_66l_6 1001 0 t242 h238 Q (by omega) (by omega) g2 y244 (fun v h1 q => hQ v h1 (by simp only [sp_snow, sp_b, cond_true, cond_false, e1, e243]; exact q))
theorem c_70_6 (hn : ¬ (tt T sz s.1).1 = 0) (l : cr h0 6 T sz s h) (hQ : ∀ v h1, cres h0 6 T sz (sp_goes (tt T sz) s) v h1 → Q v h1) : am_call am_cod 37 70 [.ref 4, .ref 6] h Q := by
  have hP := c_P l.1
  have d1 : h.1 6 11 = pz_b s.2.2.2.2.1 := l.2.1.2.2.2.1
  refine pz_call (n := 70) (nL := 2) (rt := (some .boolean)) (rows := am_r70) (d := 36) (by decide +kernel) (by decide +kernel) rfl (by funext pc; rfl) (ex_175 hP) (by exact Nat.le_of_ble_eq_true rfl) ?_
  refine am_goX 2 (show am_sh h 6 = some (0, 0) ∧ pz_S 2 (some .boolean) am_r70 36 Q 4 [(0, .ref 4), (1, .ref 6)] [.int (h.1 6 11)] h from ⟨ex_6 (c_P l.1), ?_⟩)
  rw [d1]
  cases e1 : s.2.2.2.2.1 with
  | true =>
    refine am_goX 1 (show ((pz_b (true)) = 0 → pz_S 2 (some .boolean) am_r70 36 Q 16 [(0, .ref 4), (1, .ref 6)] [] h) ∧ (¬ ((pz_b (true)) = 0) → pz_S 2 (some .boolean) am_r70 36 Q 7 [(0, .ref 4), (1, .ref 6)] [] h) from ⟨fun hz => absurd hz (by decide), fun _ => ?_⟩)
    refine am_goX 2 (show am_sh h 4 = some (4, 0) ∧ pz_S 2 (some .boolean) am_r70 36 Q 11 [(0, .ref 4), (1, .ref 6)] [am_rf (h.2.2.1 4 0)] h from ⟨ex_4 (c_P l.1), ?_⟩)
    rw [ex_r4_0 (h := h) (c_P l.1)]
    refine am_goX 2 (show am_rc h 1 7 ∧ 0 ≤ 8 ∧ h.2.2.2.2 + am_al 52 ≤ 175 ∧ am_call am_cod 36 52 [.ref 1, .int (Int32.ofInt 3)] h (fun vv h' => pz_S 2 (some .boolean) am_r70 36 Q 15 [(0, .ref 4), (1, .ref 6)] (vv.toList ++ []) h') from ⟨Or.inl ⟨by decide, ex_1 (c_P l.1)⟩, by decide, ex_lim (c_P l.1) rfl, am_call.up (c_refuse l.1 ?_) (by decide)⟩)
    have x245 := cr_x (s := s) (k := (Int32.ofInt 3)) (by decide) l (by decide)
    exact am_goX 1 (show (∃ ty, (some .boolean) = some ty ∧ narrow ty (.int ((Int32.ofInt 0))) = .int ((Int32.ofInt 0))) ∧ (am_wI h 1 7 (sp_ft (tt T sz) s.1 (Int32.ofInt 3))).2.2.2.2 = 175 ∧ _ from ⟨⟨.boolean, rfl, rfl⟩, ex_175 x245.1, hQ _ _ (cres_inl (F := sp_ft (tt T sz) s.1 (Int32.ofInt 3)) (by simp only [sp_goes, sp_b, sp_f, cond_true, cond_false, e1, Option.isSome_some, Option.isSome_none, Bool.true_or, Bool.or_true, Bool.or_false, Bool.false_or]) rfl x245)⟩)
  | false =>
    refine am_goX 1 (show ((pz_b (false)) = 0 → pz_S 2 (some .boolean) am_r70 36 Q 16 [(0, .ref 4), (1, .ref 6)] [] h) ∧ (¬ ((pz_b (false)) = 0) → pz_S 2 (some .boolean) am_r70 36 Q 7 [(0, .ref 4), (1, .ref 6)] [] h) from ⟨fun _ => ?_, fun hz => absurd (by decide) hz⟩)
    refine am_goX 3 (show am_sh h 6 = some (0, 0) ∧ narrow (am_fty 0 11) (.int ((Int32.ofInt 1))) = .int ((Int32.ofInt 1)) ∧ fits (am_fty 0 11) (.int ((Int32.ofInt 1))) = true ∧ pz_S 2 (some .boolean) am_r70 36 Q 21 [(0, .ref 4), (1, .ref 6)] [] (am_wI h 6 11 ((Int32.ofInt 1))) from ⟨ex_6 (c_P l.1), rfl, rfl, ?_⟩)
    have l246 : cr h0 6 T sz (s.1, sp_cL s.2) (am_wI h 6 11 1) := cr_L (by decide) l
    refine am_goX 2 (show am_sh (am_wI h 6 11 1) 4 = some (4, 0) ∧ pz_S 2 (some .boolean) am_r70 36 Q 25 [(0, .ref 4), (1, .ref 6)] [am_rf ((am_wI h 6 11 1).2.2.1 4 0)] (am_wI h 6 11 1) from ⟨ex_4 (c_P l246.1), ?_⟩)
    rw [ex_r4_0 (h := am_wI h 6 11 1) (c_P l246.1)]
    refine am_goX 1 (show am_rc (am_wI h 6 11 1) 1 7 ∧ 0 ≤ 8 ∧ (am_wI h 6 11 1).2.2.2.2 + am_al 18 ≤ 175 ∧ am_call am_cod 36 18 [.ref 1] (am_wI h 6 11 1) (fun vv h' => pz_S 2 (some .boolean) am_r70 36 Q 28 [(0, .ref 4), (1, .ref 6)] (vv.toList ++ []) h') from ⟨Or.inl ⟨by decide, ex_1 (c_P l246.1)⟩, by decide, ex_lim (c_P l246.1) rfl, am_call.up (c_step l246.1 (hn) (fun h247 m248 f249 => ?_)) (by decide)⟩)
    have l250 : cr h0 6 T sz (s.1 + 1, (sp_cL s.2)) h247 := cr_fr (a := s.1) (C := (sp_cL s.2)) (by decide) l246 m248 (Nat.le_succ _) f249
    refine am_goX 3 (show am_sh h247 6 = some (0, 0) ∧ pz_S 2 (some .boolean) am_r70 36 Q 33 [(0, .ref 4), (1, .ref 6)] [am_rf (h247.2.2.1 6 12), .ref 4] h247 from ⟨ex_6 (c_P l250.1), ?_⟩)
    rw [ex_r6_12 (h := h247) (c_P l250.1)]
    refine am_goX 2 (show am_rc h247 4 4 ∧ 0 ≤ 8 ∧ h247.2.2.2.2 + am_al 71 ≤ 175 ∧ am_call am_cod 36 71 [.ref 4, .ref 14, .int (Int32.ofInt 0)] h247 (fun vv h' => pz_S 2 (some .boolean) am_r70 36 Q 37 [(0, .ref 4), (1, .ref 6)] (vv.toList ++ []) h') from ⟨Or.inl ⟨by decide, ex_4 (c_P l250.1)⟩, by decide, ex_lim (c_P l250.1) rfl, (c_law_6 (Or.inr trivial) 5 (Int32.ofInt 0) (by decide) (by decide)).2 _ _ _ l250 (fun v251 h252 x253 => ?_)⟩)
    rcases cres_cs x253 with ⟨F255, e257, rfl, y258⟩ | ⟨t256, e257, rfl, y258⟩
    ·
      refine am_goX 1 (show (0 = 0 → pz_S 2 (some .boolean) am_r70 36 Q 56 [(0, .ref 4), (1, .ref 6)] [] h252) ∧ (¬ (0 = 0) → pz_S 2 (some .boolean) am_r70 36 Q 40 [(0, .ref 4), (1, .ref 6)] [] h252) from ⟨fun _ => ?_, fun hz => absurd (by decide) hz⟩)
      exact am_goX 2 (show (∃ ty, (some .boolean) = some ty ∧ narrow ty (.int ((Int32.ofInt 0))) = .int ((Int32.ofInt 0))) ∧ h252.2.2.2.2 = 175 ∧ _ from ⟨⟨.boolean, rfl, rfl⟩, ex_175 y258.1, hQ _ _ (cres_inl (F := F255) (by simp only [sp_goes, sp_b, sp_f, cond_true, cond_false, e1, e257, Option.isSome_some, Option.isSome_none, Bool.true_or, Bool.or_true, Bool.or_false, Bool.false_or]) rfl y258)⟩)
    ·
      refine am_goX 1 (show (1 = 0 → pz_S 2 (some .boolean) am_r70 36 Q 56 [(0, .ref 4), (1, .ref 6)] [] h252) ∧ (¬ (1 = 0) → pz_S 2 (some .boolean) am_r70 36 Q 40 [(0, .ref 4), (1, .ref 6)] [] h252) from ⟨fun hz => absurd hz (by decide), fun _ => ?_⟩)
      refine am_goX 2 (show am_sh h252 4 = some (4, 0) ∧ pz_S 2 (some .boolean) am_r70 36 Q 44 [(0, .ref 4), (1, .ref 6)] [am_rf (h252.2.2.1 4 0)] h252 from ⟨ex_4 (c_P y258.1), ?_⟩)
      rw [ex_r4_0 (h := h252) (c_P y258.1)]
      refine am_goX 2 (show am_rc h252 1 7 ∧ 0 ≤ 8 ∧ h252.2.2.2.2 + am_al 61 ≤ 175 ∧ am_call am_cod 36 61 [.ref 1, .int (Int8.ofInt 59).toInt32] h252 (fun vv h' => pz_S 2 (some .boolean) am_r70 36 Q 49 [(0, .ref 4), (1, .ref 6)] (vv.toList ++ []) h') from ⟨Or.inl ⟨by decide, ex_1 (c_P y258.1)⟩, by decide, ex_lim (c_P y258.1) rfl, am_call.up (c_tS (s := t256) (by decide) y258 (fun v259 h260 x261 f262 => ?_)) (by decide)⟩)
      rcases cres_cs x261 with ⟨F263, e265, rfl, y266⟩ | ⟨t264, e265, rfl, y266⟩
      ·
        refine am_goX 1 (show (0 = 0 → pz_S 2 (some .boolean) am_r70 36 Q 56 [(0, .ref 4), (1, .ref 6)] [] h260) ∧ (¬ (0 = 0) → pz_S 2 (some .boolean) am_r70 36 Q 52 [(0, .ref 4), (1, .ref 6)] [] h260) from ⟨fun _ => ?_, fun hz => absurd (by decide) hz⟩)
        exact am_goX 2 (show (∃ ty, (some .boolean) = some ty ∧ narrow ty (.int ((Int32.ofInt 0))) = .int ((Int32.ofInt 0))) ∧ h260.2.2.2.2 = 175 ∧ _ from ⟨⟨.boolean, rfl, rfl⟩, ex_175 y266.1, hQ _ _ (cres_inl (F := F263) (by simp only [sp_goes, sp_b, sp_f, cond_true, cond_false, e1, e257, e265, Option.isSome_some, Option.isSome_none, Bool.true_or, Bool.or_true, Bool.or_false, Bool.false_or]) rfl y266)⟩)
      ·
        refine am_goX 1 (show (1 = 0 → pz_S 2 (some .boolean) am_r70 36 Q 56 [(0, .ref 4), (1, .ref 6)] [] h260) ∧ (¬ (1 = 0) → pz_S 2 (some .boolean) am_r70 36 Q 52 [(0, .ref 4), (1, .ref 6)] [] h260) from ⟨fun hz => absurd hz (by decide), fun _ => ?_⟩)
        exact am_goX 3 (show (∃ ty, (some .boolean) = some ty ∧ narrow ty (.int ((Int32.ofInt 1))) = .int ((Int32.ofInt 1))) ∧ h260.2.2.2.2 = 175 ∧ _ from ⟨⟨.boolean, rfl, rfl⟩, ex_175 (c_P y266.1), hQ _ _ (cres_inr (s' := t264) (by simp only [sp_goes, sp_b, sp_f, cond_true, cond_false, e1, e257, e265, Option.isSome_some, Option.isSome_none, Bool.true_or, Bool.or_true, Bool.or_false, Bool.false_or]) rfl y266)⟩)
theorem c_43_6 (l : cr h0 6 T sz s h) (hQ : ∀ v h1, cres h0 6 T sz (sp_line (tt T sz) s) v h1 → Q v h1) : am_call am_cod 38 43 [.ref 3, .ref 6] h Q := by
  have hP := c_P l.1
  refine pz_call (n := 43) (nL := 2) (rt := (some .boolean)) (rows := am_r43) (d := 37) (by decide +kernel) (by decide +kernel) rfl (by funext pc; rfl) (ex_175 hP) (by exact Nat.le_of_ble_eq_true rfl) ?_
  refine am_goX 2 (show am_sh h 3 = some (1, 0) ∧ pz_S 2 (some .boolean) am_r43 37 Q 4 [(0, .ref 3), (1, .ref 6)] [am_rf (h.2.2.1 3 0)] h from ⟨ex_3 (c_P l.1), ?_⟩)
  rw [ex_r3_0 (h := h) (c_P l.1)]
  refine am_goX 2 (show am_rc h 1 7 ∧ 0 ≤ 8 ∧ h.2.2.2.2 + am_al 44 ≤ 175 ∧ am_call am_cod 37 44 [.ref 1, .ref (4000000 + 1)] h (fun vv h' => pz_S 2 (some .boolean) am_r43 37 Q 9 [(0, .ref 3), (1, .ref 6)] (vv.toList ++ []) h') from ⟨Or.inl ⟨by decide, ex_1 (c_P l.1)⟩, by decide, ex_lim (c_P l.1) rfl, am_call.up (c_isw (by decide) wq_1 l.1 ?_) (by decide)⟩)
  cases e267 : sp_w (tt T sz) s.1 1119812451 with
  | true =>
    refine am_goX 1 (show ((pz_b (true)) = 0 → pz_S 2 (some .boolean) am_r43 37 Q 18 [(0, .ref 3), (1, .ref 6)] [] h) ∧ (¬ ((pz_b (true)) = 0) → pz_S 2 (some .boolean) am_r43 37 Q 12 [(0, .ref 3), (1, .ref 6)] [] h) from ⟨fun hz => absurd hz (by decide), fun _ => ?_⟩)
    refine am_goX 3 (show am_rc h 3 1 ∧ 0 ≤ 8 ∧ h.2.2.2.2 + am_al 51 ≤ 175 ∧ am_call am_cod 37 51 [.ref 3, .ref 6] h (fun vv h' => pz_S 2 (some .boolean) am_r43 37 Q 17 [(0, .ref 3), (1, .ref 6)] (vv.toList ++ []) h') from ⟨Or.inl ⟨by decide, ex_3 (c_P l.1)⟩, by decide, ex_lim (c_P l.1) rfl, am_call.up (c_51_6 (sp_wn e267) l (fun v268 h269 x270 => ?_)) (by decide)⟩)
    rcases cres_cs x270 with ⟨F272, e274, rfl, y275⟩ | ⟨t273, e274, rfl, y275⟩
    ·
      exact am_goX 1 (show (∃ ty, (some .boolean) = some ty ∧ narrow ty (.int (0)) = .int (0)) ∧ h269.2.2.2.2 = 175 ∧ _ from ⟨⟨.boolean, rfl, rfl⟩, ex_175 y275.1, hQ _ _ (cres_inl (F := F272) (by simp only [sp_line, sp_b, sp_f, cond_true, cond_false, e267, e274, Option.isSome_some, Option.isSome_none, Bool.true_or, Bool.or_true, Bool.or_false, Bool.false_or]) rfl y275)⟩)
    ·
      exact am_goX 1 (show (∃ ty, (some .boolean) = some ty ∧ narrow ty (.int (1)) = .int (1)) ∧ h269.2.2.2.2 = 175 ∧ _ from ⟨⟨.boolean, rfl, rfl⟩, ex_175 (c_P y275.1), hQ _ _ (cres_inr (s' := t273) (by simp only [sp_line, sp_b, sp_f, cond_true, cond_false, e267, e274, Option.isSome_some, Option.isSome_none, Bool.true_or, Bool.or_true, Bool.or_false, Bool.false_or]) rfl y275)⟩)
  | false =>
    refine am_goX 1 (show ((pz_b (false)) = 0 → pz_S 2 (some .boolean) am_r43 37 Q 18 [(0, .ref 3), (1, .ref 6)] [] h) ∧ (¬ ((pz_b (false)) = 0) → pz_S 2 (some .boolean) am_r43 37 Q 12 [(0, .ref 3), (1, .ref 6)] [] h) from ⟨fun _ => ?_, fun hz => absurd (by decide) hz⟩)
    refine am_goX 2 (show am_sh h 3 = some (1, 0) ∧ pz_S 2 (some .boolean) am_r43 37 Q 22 [(0, .ref 3), (1, .ref 6)] [am_rf (h.2.2.1 3 0)] h from ⟨ex_3 (c_P l.1), ?_⟩)
    rw [ex_r3_0 (h := h) (c_P l.1)]
    refine am_goX 2 (show am_rc h 1 7 ∧ 0 ≤ 8 ∧ h.2.2.2.2 + am_al 44 ≤ 175 ∧ am_call am_cod 37 44 [.ref 1, .ref (4000000 + 8)] h (fun vv h' => pz_S 2 (some .boolean) am_r43 37 Q 27 [(0, .ref 3), (1, .ref 6)] (vv.toList ++ []) h') from ⟨Or.inl ⟨by decide, ex_1 (c_P l.1)⟩, by decide, ex_lim (c_P l.1) rfl, am_call.up (c_isw (by decide) wq_8 l.1 ?_) (by decide)⟩)
    cases e276 : sp_w (tt T sz) s.1 10492554 with
    | true =>
      refine am_goX 1 (show ((pz_b (true)) = 0 → pz_S 2 (some .boolean) am_r43 37 Q 36 [(0, .ref 3), (1, .ref 6)] [] h) ∧ (¬ ((pz_b (true)) = 0) → pz_S 2 (some .boolean) am_r43 37 Q 30 [(0, .ref 3), (1, .ref 6)] [] h) from ⟨fun hz => absurd hz (by decide), fun _ => ?_⟩)
      refine am_goX 3 (show am_rc h 3 1 ∧ 0 ≤ 8 ∧ h.2.2.2.2 + am_al 63 ≤ 175 ∧ am_call am_cod 37 63 [.ref 3, .ref 6] h (fun vv h' => pz_S 2 (some .boolean) am_r43 37 Q 35 [(0, .ref 3), (1, .ref 6)] (vv.toList ++ []) h') from ⟨Or.inl ⟨by decide, ex_3 (c_P l.1)⟩, by decide, ex_lim (c_P l.1) rfl, am_call.up (c_63_6 (sp_wn e276) l (fun v277 h278 x279 => ?_)) (by decide)⟩)
      rcases cres_cs x279 with ⟨F281, e283, rfl, y284⟩ | ⟨t282, e283, rfl, y284⟩
      ·
        exact am_goX 1 (show (∃ ty, (some .boolean) = some ty ∧ narrow ty (.int (0)) = .int (0)) ∧ h278.2.2.2.2 = 175 ∧ _ from ⟨⟨.boolean, rfl, rfl⟩, ex_175 y284.1, hQ _ _ (cres_inl (F := F281) (by simp only [sp_line, sp_b, sp_f, cond_true, cond_false, e267, e276, e283, Option.isSome_some, Option.isSome_none, Bool.true_or, Bool.or_true, Bool.or_false, Bool.false_or]) rfl y284)⟩)
      ·
        exact am_goX 1 (show (∃ ty, (some .boolean) = some ty ∧ narrow ty (.int (1)) = .int (1)) ∧ h278.2.2.2.2 = 175 ∧ _ from ⟨⟨.boolean, rfl, rfl⟩, ex_175 (c_P y284.1), hQ _ _ (cres_inr (s' := t282) (by simp only [sp_line, sp_b, sp_f, cond_true, cond_false, e267, e276, e283, Option.isSome_some, Option.isSome_none, Bool.true_or, Bool.or_true, Bool.or_false, Bool.false_or]) rfl y284)⟩)
    | false =>
      refine am_goX 1 (show ((pz_b (false)) = 0 → pz_S 2 (some .boolean) am_r43 37 Q 36 [(0, .ref 3), (1, .ref 6)] [] h) ∧ (¬ ((pz_b (false)) = 0) → pz_S 2 (some .boolean) am_r43 37 Q 30 [(0, .ref 3), (1, .ref 6)] [] h) from ⟨fun _ => ?_, fun hz => absurd (by decide) hz⟩)
      refine am_goX 2 (show am_sh h 3 = some (1, 0) ∧ pz_S 2 (some .boolean) am_r43 37 Q 40 [(0, .ref 3), (1, .ref 6)] [am_rf (h.2.2.1 3 0)] h from ⟨ex_3 (c_P l.1), ?_⟩)
      rw [ex_r3_0 (h := h) (c_P l.1)]
      refine am_goX 2 (show am_rc h 1 7 ∧ 0 ≤ 8 ∧ h.2.2.2.2 + am_al 44 ≤ 175 ∧ am_call am_cod 37 44 [.ref 1, .ref (4000000 + 11)] h (fun vv h' => pz_S 2 (some .boolean) am_r43 37 Q 45 [(0, .ref 3), (1, .ref 6)] (vv.toList ++ []) h') from ⟨Or.inl ⟨by decide, ex_1 (c_P l.1)⟩, by decide, ex_lim (c_P l.1) rfl, am_call.up (c_isw (by decide) wq_11 l.1 ?_) (by decide)⟩)
      cases e285 : sp_w (tt T sz) s.1 6400279 with
      | true =>
        refine am_goX 1 (show ((pz_b (true)) = 0 → pz_S 2 (some .boolean) am_r43 37 Q 54 [(0, .ref 3), (1, .ref 6)] [] h) ∧ (¬ ((pz_b (true)) = 0) → pz_S 2 (some .boolean) am_r43 37 Q 48 [(0, .ref 3), (1, .ref 6)] [] h) from ⟨fun hz => absurd hz (by decide), fun _ => ?_⟩)
        refine am_goX 3 (show am_rc h 3 1 ∧ 0 ≤ 8 ∧ h.2.2.2.2 + am_al 64 ≤ 175 ∧ am_call am_cod 37 64 [.ref 3, .ref 6] h (fun vv h' => pz_S 2 (some .boolean) am_r43 37 Q 53 [(0, .ref 3), (1, .ref 6)] (vv.toList ++ []) h') from ⟨Or.inl ⟨by decide, ex_3 (c_P l.1)⟩, by decide, ex_lim (c_P l.1) rfl, am_call.up (c_64_6 (sp_wn e285) l (fun v286 h287 x288 => ?_)) (by decide)⟩)
        rcases cres_cs x288 with ⟨F290, e292, rfl, y293⟩ | ⟨t291, e292, rfl, y293⟩
        ·
          exact am_goX 1 (show (∃ ty, (some .boolean) = some ty ∧ narrow ty (.int (0)) = .int (0)) ∧ h287.2.2.2.2 = 175 ∧ _ from ⟨⟨.boolean, rfl, rfl⟩, ex_175 y293.1, hQ _ _ (cres_inl (F := F290) (by simp only [sp_line, sp_b, sp_f, cond_true, cond_false, e267, e276, e285, e292, Option.isSome_some, Option.isSome_none, Bool.true_or, Bool.or_true, Bool.or_false, Bool.false_or]) rfl y293)⟩)
        ·
          exact am_goX 1 (show (∃ ty, (some .boolean) = some ty ∧ narrow ty (.int (1)) = .int (1)) ∧ h287.2.2.2.2 = 175 ∧ _ from ⟨⟨.boolean, rfl, rfl⟩, ex_175 (c_P y293.1), hQ _ _ (cres_inr (s' := t291) (by simp only [sp_line, sp_b, sp_f, cond_true, cond_false, e267, e276, e285, e292, Option.isSome_some, Option.isSome_none, Bool.true_or, Bool.or_true, Bool.or_false, Bool.false_or]) rfl y293)⟩)
      | false =>
        refine am_goX 1 (show ((pz_b (false)) = 0 → pz_S 2 (some .boolean) am_r43 37 Q 54 [(0, .ref 3), (1, .ref 6)] [] h) ∧ (¬ ((pz_b (false)) = 0) → pz_S 2 (some .boolean) am_r43 37 Q 48 [(0, .ref 3), (1, .ref 6)] [] h) from ⟨fun _ => ?_, fun hz => absurd (by decide) hz⟩)
        refine am_goX 2 (show am_sh h 3 = some (1, 0) ∧ pz_S 2 (some .boolean) am_r43 37 Q 58 [(0, .ref 3), (1, .ref 6)] [am_rf (h.2.2.1 3 0)] h from ⟨ex_3 (c_P l.1), ?_⟩)
        rw [ex_r3_0 (h := h) (c_P l.1)]
        refine am_goX 2 (show am_rc h 1 7 ∧ 0 ≤ 8 ∧ h.2.2.2.2 + am_al 44 ≤ 175 ∧ am_call am_cod 37 44 [.ref 1, .ref (4000000 + 12)] h (fun vv h' => pz_S 2 (some .boolean) am_r43 37 Q 63 [(0, .ref 3), (1, .ref 6)] (vv.toList ++ []) h') from ⟨Or.inl ⟨by decide, ex_1 (c_P l.1)⟩, by decide, ex_lim (c_P l.1) rfl, am_call.up (c_isw (by decide) wq_12 l.1 ?_) (by decide)⟩)
        cases e294 : sp_w (tt T sz) s.1 982151 with
        | true =>
          refine am_goX 1 (show ((pz_b (true)) = 0 → pz_S 2 (some .boolean) am_r43 37 Q 72 [(0, .ref 3), (1, .ref 6)] [] h) ∧ (¬ ((pz_b (true)) = 0) → pz_S 2 (some .boolean) am_r43 37 Q 66 [(0, .ref 3), (1, .ref 6)] [] h) from ⟨fun hz => absurd hz (by decide), fun _ => ?_⟩)
          refine am_goX 3 (show am_rc h 3 1 ∧ 0 ≤ 8 ∧ h.2.2.2.2 + am_al 66 ≤ 175 ∧ am_call am_cod 37 66 [.ref 3, .ref 6] h (fun vv h' => pz_S 2 (some .boolean) am_r43 37 Q 71 [(0, .ref 3), (1, .ref 6)] (vv.toList ++ []) h') from ⟨Or.inl ⟨by decide, ex_3 (c_P l.1)⟩, by decide, ex_lim (c_P l.1) rfl, am_call.up (c_66_6 (sp_wn e294) l (fun v295 h296 x297 => ?_)) (by decide)⟩)
          rcases cres_cs x297 with ⟨F299, e301, rfl, y302⟩ | ⟨t300, e301, rfl, y302⟩
          ·
            exact am_goX 1 (show (∃ ty, (some .boolean) = some ty ∧ narrow ty (.int (0)) = .int (0)) ∧ h296.2.2.2.2 = 175 ∧ _ from ⟨⟨.boolean, rfl, rfl⟩, ex_175 y302.1, hQ _ _ (cres_inl (F := F299) (by simp only [sp_line, sp_b, sp_f, cond_true, cond_false, e267, e276, e285, e294, e301, Option.isSome_some, Option.isSome_none, Bool.true_or, Bool.or_true, Bool.or_false, Bool.false_or]) rfl y302)⟩)
          ·
            exact am_goX 1 (show (∃ ty, (some .boolean) = some ty ∧ narrow ty (.int (1)) = .int (1)) ∧ h296.2.2.2.2 = 175 ∧ _ from ⟨⟨.boolean, rfl, rfl⟩, ex_175 (c_P y302.1), hQ _ _ (cres_inr (s' := t300) (by simp only [sp_line, sp_b, sp_f, cond_true, cond_false, e267, e276, e285, e294, e301, Option.isSome_some, Option.isSome_none, Bool.true_or, Bool.or_true, Bool.or_false, Bool.false_or]) rfl y302)⟩)
        | false =>
          refine am_goX 1 (show ((pz_b (false)) = 0 → pz_S 2 (some .boolean) am_r43 37 Q 72 [(0, .ref 3), (1, .ref 6)] [] h) ∧ (¬ ((pz_b (false)) = 0) → pz_S 2 (some .boolean) am_r43 37 Q 66 [(0, .ref 3), (1, .ref 6)] [] h) from ⟨fun _ => ?_, fun hz => absurd (by decide) hz⟩)
          refine am_goX 2 (show am_sh h 3 = some (1, 0) ∧ pz_S 2 (some .boolean) am_r43 37 Q 76 [(0, .ref 3), (1, .ref 6)] [am_rf (h.2.2.1 3 0)] h from ⟨ex_3 (c_P l.1), ?_⟩)
          rw [ex_r3_0 (h := h) (c_P l.1)]
          refine am_goX 2 (show am_rc h 1 7 ∧ 0 ≤ 8 ∧ h.2.2.2.2 + am_al 44 ≤ 175 ∧ am_call am_cod 37 44 [.ref 1, .ref (4000000 + 13)] h (fun vv h' => pz_S 2 (some .boolean) am_r43 37 Q 81 [(0, .ref 3), (1, .ref 6)] (vv.toList ++ []) h') from ⟨Or.inl ⟨by decide, ex_1 (c_P l.1)⟩, by decide, ex_lim (c_P l.1) rfl, am_call.up (c_isw (by decide) wq_13 l.1 ?_) (by decide)⟩)
          cases e303 : sp_w (tt T sz) s.1 375310 with
          | true =>
            refine am_goX 1 (show ((pz_b (true)) = 0 → pz_S 2 (some .boolean) am_r43 37 Q 93 [(0, .ref 3), (1, .ref 6)] [] h) ∧ (¬ ((pz_b (true)) = 0) → pz_S 2 (some .boolean) am_r43 37 Q 84 [(0, .ref 3), (1, .ref 6)] [] h) from ⟨fun hz => absurd hz (by decide), fun _ => ?_⟩)
            refine am_goX 2 (show am_sh h 3 = some (1, 0) ∧ pz_S 2 (some .boolean) am_r43 37 Q 88 [(0, .ref 3), (1, .ref 6)] [am_rf (h.2.2.1 3 1)] h from ⟨ex_3 (c_P l.1), ?_⟩)
            rw [ex_r3_1 (h := h) (c_P l.1)]
            refine am_goX 2 (show am_rc h 4 4 ∧ 0 ≤ 8 ∧ h.2.2.2.2 + am_al 70 ≤ 175 ∧ am_call am_cod 37 70 [.ref 4, .ref 6] h (fun vv h' => pz_S 2 (some .boolean) am_r43 37 Q 92 [(0, .ref 3), (1, .ref 6)] (vv.toList ++ []) h') from ⟨Or.inl ⟨by decide, ex_4 (c_P l.1)⟩, by decide, ex_lim (c_P l.1) rfl, am_call.up (c_70_6 (sp_wn e303) l (fun v304 h305 x306 => ?_)) (by decide)⟩)
            rcases cres_cs x306 with ⟨F308, e310, rfl, y311⟩ | ⟨t309, e310, rfl, y311⟩
            ·
              exact am_goX 1 (show (∃ ty, (some .boolean) = some ty ∧ narrow ty (.int (0)) = .int (0)) ∧ h305.2.2.2.2 = 175 ∧ _ from ⟨⟨.boolean, rfl, rfl⟩, ex_175 y311.1, hQ _ _ (cres_inl (F := F308) (by simp only [sp_line, sp_b, sp_f, cond_true, cond_false, e267, e276, e285, e294, e303, e310, Option.isSome_some, Option.isSome_none, Bool.true_or, Bool.or_true, Bool.or_false, Bool.false_or]) rfl y311)⟩)
            ·
              exact am_goX 1 (show (∃ ty, (some .boolean) = some ty ∧ narrow ty (.int (1)) = .int (1)) ∧ h305.2.2.2.2 = 175 ∧ _ from ⟨⟨.boolean, rfl, rfl⟩, ex_175 (c_P y311.1), hQ _ _ (cres_inr (s' := t309) (by simp only [sp_line, sp_b, sp_f, cond_true, cond_false, e267, e276, e285, e294, e303, e310, Option.isSome_some, Option.isSome_none, Bool.true_or, Bool.or_true, Bool.or_false, Bool.false_or]) rfl y311)⟩)
          | false =>
            refine am_goX 1 (show ((pz_b (false)) = 0 → pz_S 2 (some .boolean) am_r43 37 Q 93 [(0, .ref 3), (1, .ref 6)] [] h) ∧ (¬ ((pz_b (false)) = 0) → pz_S 2 (some .boolean) am_r43 37 Q 84 [(0, .ref 3), (1, .ref 6)] [] h) from ⟨fun _ => ?_, fun hz => absurd (by decide) hz⟩)
            refine am_goX 2 (show am_sh h 3 = some (1, 0) ∧ pz_S 2 (some .boolean) am_r43 37 Q 97 [(0, .ref 3), (1, .ref 6)] [am_rf (h.2.2.1 3 0)] h from ⟨ex_3 (c_P l.1), ?_⟩)
            rw [ex_r3_0 (h := h) (c_P l.1)]
            refine am_goX 2 (show am_rc h 1 7 ∧ 0 ≤ 8 ∧ h.2.2.2.2 + am_al 52 ≤ 175 ∧ am_call am_cod 37 52 [.ref 1, .int (Int32.ofInt 1)] h (fun vv h' => pz_S 2 (some .boolean) am_r43 37 Q 101 [(0, .ref 3), (1, .ref 6)] (vv.toList ++ []) h') from ⟨Or.inl ⟨by decide, ex_1 (c_P l.1)⟩, by decide, ex_lim (c_P l.1) rfl, am_call.up (c_refuse l.1 ?_) (by decide)⟩)
            have x312 := cr_x (s := s) (k := (Int32.ofInt 1)) (by decide) l (by decide)
            exact am_goX 1 (show (∃ ty, (some .boolean) = some ty ∧ narrow ty (.int ((Int32.ofInt 0))) = .int ((Int32.ofInt 0))) ∧ (am_wI h 1 7 (sp_ft (tt T sz) s.1 (Int32.ofInt 1))).2.2.2.2 = 175 ∧ _ from ⟨⟨.boolean, rfl, rfl⟩, ex_175 x312.1, hQ _ _ (cres_inl (F := sp_ft (tt T sz) s.1 (Int32.ofInt 1)) (by simp only [sp_line, sp_b, sp_f, cond_true, cond_false, e267, e276, e285, e294, e303, Option.isSome_some, Option.isSome_none, Bool.true_or, Bool.or_true, Bool.or_false, Bool.false_or]) rfl x312)⟩)
def cl_h_6 (h : am_H) : am_H := am_wI (am_wI (am_wI (am_wI (am_wI (am_wI h 6 0 0) 6 4 0) 6 9 0) 6 10 0) 6 11 0) 14 2 0
theorem c_16_6 (hP : ex_P h) (hQ : Q none (cl_h_6 h)) : am_call am_cod 1 16 [.ref 6] h Q := by
  refine pz_call (n := 16) (nL := 1) (rt := none) (rows := am_r16) (d := 0) (by decide +kernel) (by decide +kernel) rfl (by funext pc; rfl) (ex_175 hP) (by exact Nat.le_of_ble_eq_true rfl) ?_
  refine am_goX 3 (show am_sh h 6 = some (0, 0) ∧ narrow (am_fty 0 0) (.int ((Int32.ofInt 0))) = .int ((Int32.ofInt 0)) ∧ fits (am_fty 0 0) (.int ((Int32.ofInt 0))) = true ∧ pz_S 1 none am_r16 0 Q 5 [(0, .ref 6)] [] (am_wI h 6 0 ((Int32.ofInt 0))) from ⟨ex_6 hP, rfl, rfl, ?_⟩)
  refine am_goX 3 (show am_sh (am_wI h 6 0 (0)) 6 = some (0, 0) ∧ narrow (am_fty 0 4) (.int ((Int32.ofInt 0))) = .int ((Int32.ofInt 0)) ∧ fits (am_fty 0 4) (.int ((Int32.ofInt 0))) = true ∧ pz_S 1 none am_r16 0 Q 10 [(0, .ref 6)] [] (am_wI (am_wI h 6 0 (0)) 6 4 ((Int32.ofInt 0))) from ⟨ex_6 hP, rfl, rfl, ?_⟩)
  refine am_goX 3 (show am_sh (am_wI (am_wI h 6 0 (0)) 6 4 (0)) 6 = some (0, 0) ∧ narrow (am_fty 0 9) (.int ((Int32.ofInt 0))) = .int ((Int32.ofInt 0)) ∧ fits (am_fty 0 9) (.int ((Int32.ofInt 0))) = true ∧ pz_S 1 none am_r16 0 Q 15 [(0, .ref 6)] [] (am_wI (am_wI (am_wI h 6 0 (0)) 6 4 (0)) 6 9 ((Int32.ofInt 0))) from ⟨ex_6 hP, rfl, rfl, ?_⟩)
  refine am_goX 3 (show am_sh (am_wI (am_wI (am_wI h 6 0 (0)) 6 4 (0)) 6 9 (0)) 6 = some (0, 0) ∧ narrow (am_fty 0 10) (.int ((Int32.ofInt 0))) = .int ((Int32.ofInt 0)) ∧ fits (am_fty 0 10) (.int ((Int32.ofInt 0))) = true ∧ pz_S 1 none am_r16 0 Q 20 [(0, .ref 6)] [] (am_wI (am_wI (am_wI (am_wI h 6 0 (0)) 6 4 (0)) 6 9 (0)) 6 10 ((Int32.ofInt 0))) from ⟨ex_6 hP, rfl, rfl, ?_⟩)
  refine am_goX 3 (show am_sh (am_wI (am_wI (am_wI (am_wI h 6 0 (0)) 6 4 (0)) 6 9 (0)) 6 10 (0)) 6 = some (0, 0) ∧ narrow (am_fty 0 11) (.int ((Int32.ofInt 0))) = .int ((Int32.ofInt 0)) ∧ fits (am_fty 0 11) (.int ((Int32.ofInt 0))) = true ∧ pz_S 1 none am_r16 0 Q 25 [(0, .ref 6)] [] (am_wI (am_wI (am_wI (am_wI (am_wI h 6 0 (0)) 6 4 (0)) 6 9 (0)) 6 10 (0)) 6 11 ((Int32.ofInt 0))) from ⟨ex_6 hP, rfl, rfl, ?_⟩)
  refine am_goX 2 (show am_sh (am_wI (am_wI (am_wI (am_wI (am_wI h 6 0 (0)) 6 4 (0)) 6 9 (0)) 6 10 (0)) 6 11 (0)) 6 = some (0, 0) ∧ pz_S 1 none am_r16 0 Q 29 [(0, .ref 6)] [am_rf ((am_wI (am_wI (am_wI (am_wI (am_wI h 6 0 (0)) 6 4 (0)) 6 9 (0)) 6 10 (0)) 6 11 (0)).2.2.1 6 12)] (am_wI (am_wI (am_wI (am_wI (am_wI h 6 0 (0)) 6 4 (0)) 6 9 (0)) 6 10 (0)) 6 11 (0)) from ⟨ex_6 hP, ?_⟩)
  rw [ex_r6_12 (h := am_wI (am_wI (am_wI (am_wI (am_wI h 6 0 (0)) 6 4 (0)) 6 9 (0)) 6 10 (0)) 6 11 (0)) hP]
  refine am_goX 2 (show am_sh (am_wI (am_wI (am_wI (am_wI (am_wI h 6 0 (0)) 6 4 (0)) 6 9 (0)) 6 10 (0)) 6 11 (0)) 14 = some (3, 0) ∧ narrow (am_fty 3 2) (.int ((Int32.ofInt 0))) = .int ((Int32.ofInt 0)) ∧ fits (am_fty 3 2) (.int ((Int32.ofInt 0))) = true ∧ pz_S 1 none am_r16 0 Q 33 [(0, .ref 6)] [] (am_wI (am_wI (am_wI (am_wI (am_wI (am_wI h 6 0 (0)) 6 4 (0)) 6 9 (0)) 6 10 (0)) 6 11 (0)) 14 2 ((Int32.ofInt 0))) from ⟨ex_14 hP, rfl, rfl, ?_⟩)
  exact am_goX 1 (show (none : Option FieldType) = none ∧ (cl_h_6 h).2.2.2.2 = 175 ∧ _ from ⟨rfl, ex_175 hP, hQ⟩)
theorem cl_c_6 (hz : sz ≤ 1000) (hch : ∀ q, q < sz → 0 ≤ (T q).toInt ∧ (T q).toInt ≤ 126) {h1 : am_H} (t : c_t T sz 0 h1) (f : fr1 (cl_h_6 h) h1) : cr h 6 T sz (0, sp_C0) h1 := by
  refine ⟨t, c_c_fr (by decide) (h := cl_h_6 h) ?_ f, c_q_fr (h := cl_h_6 h) ?_ f, Nat.zero_le _⟩
  · exact ⟨⟨rfl, by decide, fun i hi => absurd hi (Nat.not_lt_zero i)⟩, ⟨rfl, by decide, fun i hi => absurd hi (Nat.not_lt_zero i)⟩, ⟨rfl, rfl, fun _ => rfl, (by unfold sp_28; decide)⟩, ⟨rfl, rfl, by decide, fun i hi => absurd hi (Nat.not_lt_zero i)⟩⟩
  · refine ⟨rfl, fun o k ho => ⟨?_, rfl⟩⟩
    have h1 : ¬ o = 6 := fun z => ho (Or.inr (by omega))
    have h2 : ¬ o = 14 := fun z => ho (Or.inr (by omega))
    unfold cl_h_6
    rw [em_wn _ _ (by omega), em_wn _ _ (by omega), em_wn _ _ (by omega), em_wn _ _ (by omega), em_wn _ _ (by omega), em_wn _ _ (by omega)]
theorem c_15l_6 : ∀ (m i : Nat) (s : sp_S) (h : am_H) (Q : am_Q), sz < s.1 + m → i ≤ s.1 → cr h0 6 T sz s h → (∀ h1, cfin h0 6 T sz (sp_all (tt T sz) m s) h1 → Q (some (.int (sp_ans (sp_all (tt T sz) m s)))) h1) → pz_S 4 (some .int) am_r15 38 Q 15 [(3, .int (nI i)), (2, .int 1), (0, .ref 3), (1, .ref 6)] [] h := by
  intro m
  induction m with
  | zero =>
    intro i s h Q hm hi l hQ
    have := (cr_a l).1
    omega
  | succ m ih =>
    intro i s h Q hm hi l hQ
    have ha := cr_a l
    have hk := ck_4 T sz s.1
    have hf : h.1 1 7 = 0 := l.1.2.2.2.1
    refine am_goX 2 (show (1 = 0 → pz_S 4 (some .int) am_r15 38 Q 49 [(3, .int (nI i)), (2, .int 1), (0, .ref 3), (1, .ref 6)] [] h) ∧ (¬ (1 = 0) → pz_S 4 (some .int) am_r15 38 Q 19 [(3, .int (nI i)), (2, .int 1), (0, .ref 3), (1, .ref 6)] [] h) from ⟨fun hz => absurd hz (by decide), fun _ => ?_⟩)
    refine am_goX 2 (show am_sh h 3 = some (1, 0) ∧ pz_S 4 (some .int) am_r15 38 Q 23 [(3, .int (nI i)), (2, .int 1), (0, .ref 3), (1, .ref 6)] [am_rf (h.2.2.1 3 0)] h from ⟨ex_3 (c_P l.1), ?_⟩)
    rw [ex_r3_0 (h := h) (c_P l.1)]
    refine am_goX 2 (show am_sh h 1 = some (7, 0) ∧ pz_S 4 (some .int) am_r15 38 Q 27 [(3, .int (nI i)), (2, .int 1), (0, .ref 3), (1, .ref 6)] [.int (Int32.ofInt 4), .int (h.1 1 2)] h from ⟨ex_1 (c_P l.1), ?_⟩)
    rw [c_kd l.1]
    refine am_goX 1 (show ((ck (tt T sz s.1).1) = (Int32.ofInt 4) → pz_S 4 (some .int) am_r15 38 Q 49 [(3, .int (nI i)), (2, .int 1), (0, .ref 3), (1, .ref 6)] [] h) ∧ (¬ ((ck (tt T sz s.1).1) = (Int32.ofInt 4)) → pz_S 4 (some .int) am_r15 38 Q 30 [(3, .int (nI i)), (2, .int 1), (0, .ref 3), (1, .ref 6)] [] h) from ⟨fun hc => ?_, fun hc => ?_⟩)
    ·
      have e2 : sp_k (tt T sz) s.1 0 = true := by rw [← hk]; exact decide_eq_true hc
      clear hc
      refine am_goX 2 (show am_sh h 3 = some (1, 0) ∧ pz_S 4 (some .int) am_r15 38 Q 53 [(3, .int (nI i)), (2, .int 1), (0, .ref 3), (1, .ref 6)] [am_rf (h.2.2.1 3 0)] h from ⟨ex_3 (c_P l.1), ?_⟩)
      rw [ex_r3_0 (h := h) (c_P l.1)]
      refine am_goX 1 (show am_sh h 1 = some (7, 0) ∧ pz_S 4 (some .int) am_r15 38 Q 56 [(3, .int (nI i)), (2, .int 1), (0, .ref 3), (1, .ref 6)] [.int (h.1 1 7)] h from ⟨ex_1 (c_P l.1), ?_⟩)
      have hx : sp_all (tt T sz) (m + 1) s = .inr s := by simp only [sp_all, e2, cond_true]
      rw [hx] at hQ
      rw [hf]
      exact am_goX 1 (show (∃ ty, (some .int) = some ty ∧ narrow ty (.int (0)) = .int (0)) ∧ h.2.2.2.2 = 175 ∧ _ from ⟨⟨.int, rfl, rfl⟩, ex_175 (c_P l.1), hQ _ l⟩)
    ·
      have e2 : sp_k (tt T sz) s.1 0 = false := by rw [← hk]; exact decide_eq_false hc
      clear hc
      have hlt : s.1 < sz := by
        have w := l.1.2.2.2.2.1
        have w2 : tk_pl T sz s.1 < sz := kz_lt (of_decide_eq_false e2)
        omega
      refine am_goX 3 (show ((Int16.ofInt 1000).toInt32 ≤ (nI i) → pz_S 4 (some .int) am_r15 38 Q 49 [(3, .int (nI i)), (2, .int 1), (0, .ref 3), (1, .ref 6)] [] h) ∧ (¬ ((Int16.ofInt 1000).toInt32 ≤ (nI i)) → pz_S 4 (some .int) am_r15 38 Q 37 [(3, .int (nI i)), (2, .int 1), (0, .ref 3), (1, .ref 6)] [] h) from ⟨fun hz => absurd hz (i1000 (by omega)), fun _ => ?_⟩)
      refine am_goX 3 (show am_rc h 3 1 ∧ 0 ≤ 8 ∧ h.2.2.2.2 + am_al 43 ≤ 175 ∧ am_call am_cod 38 43 [.ref 3, .ref 6] h (fun vv h' => pz_S 4 (some .int) am_r15 38 Q 42 [(3, .int (nI i)), (2, .int 1), (0, .ref 3), (1, .ref 6)] (vv.toList ++ []) h') from ⟨Or.inl ⟨by decide, ex_3 (c_P l.1)⟩, by decide, ex_lim (c_P l.1) rfl, am_call.up (c_43_6 l (fun v313 h314 x315 => ?_)) (by decide)⟩)
      rcases cres_cs x315 with ⟨F317, e319, rfl, y320⟩ | ⟨t318, e319, rfl, y320⟩
      ·
        refine am_goX 5 (show 2 < 4 ∧ 3 < 4 ∧ (0 = 0 → pz_S 4 (some .int) am_r15 38 Q 49 [(3, .int ((nI i) + Int32.ofInt 1)), (2, .int 0), (0, .ref 3), (1, .ref 6)] [] h314) ∧ (¬ (0 = 0) → pz_S 4 (some .int) am_r15 38 Q 19 [(3, .int ((nI i) + Int32.ofInt 1)), (2, .int 0), (0, .ref 3), (1, .ref 6)] [] h314) from ⟨by decide, by decide, fun _ => ?_, fun hz => absurd (by decide) hz⟩)
        refine am_goX 2 (show am_sh h314 3 = some (1, 0) ∧ pz_S 4 (some .int) am_r15 38 Q 53 [(3, .int ((nI i) + Int32.ofInt 1)), (2, .int 0), (0, .ref 3), (1, .ref 6)] [am_rf (h314.2.2.1 3 0)] h314 from ⟨ex_3 y320.1, ?_⟩)
        rw [ex_r3_0 (h := h314) y320.1]
        refine am_goX 1 (show am_sh h314 1 = some (7, 0) ∧ pz_S 4 (some .int) am_r15 38 Q 56 [(3, .int ((nI i) + Int32.ofInt 1)), (2, .int 0), (0, .ref 3), (1, .ref 6)] [.int (h314.1 1 7)] h314 from ⟨ex_1 y320.1, ?_⟩)
        have hx : sp_all (tt T sz) (m + 1) s = .inl F317 := by simp only [sp_all, sp_b, cond_true, cond_false, e2, e319]
        rw [hx] at hQ
        rw [y320.2.1.1]
        exact am_goX 1 (show (∃ ty, (some .int) = some ty ∧ narrow ty (.int (F317)) = .int (F317)) ∧ h314.2.2.2.2 = 175 ∧ _ from ⟨⟨.int, rfl, rfl⟩, ex_175 y320.1, hQ _ y320⟩)
      ·
        refine am_goX 3 (show 2 < 4 ∧ 3 < 4 ∧ pz_S 4 (some .int) am_r15 38 Q 15 [(3, .int ((nI i) + Int32.ofInt 1)), (2, .int 1), (0, .ref 3), (1, .ref 6)] [] h314 from ⟨by decide, by decide, ?_⟩)
        rw [xw_i1]
        have g1 := sp_line_lt e319
        have hx : sp_all (tt T sz) (m + 1) s = sp_all (tt T sz) m t318 := by simp only [sp_all, sp_b, cond_true, cond_false, e2, e319]
        rw [hx] at hQ
        exact ih (i + 1) t318 h314 Q (by omega) (by omega) y320 hQ
theorem c_15_6 (hP : ex_P h) (hz : sz ≤ 1000) (hch : ∀ q, q < sz → 0 ≤ (T q).toInt ∧ (T q).toInt ≤ 126) (l1 : h.1 1 1 = nI sz) (l2 : ∀ q, q < sz → h.1 2 q = T q) (hQ : ∀ h1, cfin h 6 T sz (sp_canton (tt T sz)) h1 → Q (some (.int (sp_ans (sp_canton (tt T sz))))) h1) : am_call am_cod 39 15 [.ref 3, .ref 6] h Q := by
  refine pz_call (n := 15) (nL := 4) (rt := (some .int)) (rows := am_r15) (d := 38) (by decide +kernel) (by decide +kernel) rfl (by funext pc; rfl) (ex_175 hP) (by exact Nat.le_of_ble_eq_true rfl) ?_
  refine am_goX 2 (show am_rc h 6 0 ∧ 0 ≤ 8 ∧ h.2.2.2.2 + am_al 16 ≤ 175 ∧ am_call am_cod 38 16 [.ref 6] h (fun vv h' => pz_S 4 (some .int) am_r15 38 Q 4 [(0, .ref 3), (1, .ref 6)] (vv.toList ++ []) h') from ⟨Or.inl ⟨by decide, ex_6 hP⟩, by decide, ex_lim hP rfl, am_call.up (c_16_6 hP ?_) (by decide)⟩)
  refine am_goX 2 (show am_sh (cl_h_6 h) 3 = some (1, 0) ∧ pz_S 4 (some .int) am_r15 38 Q 8 [(0, .ref 3), (1, .ref 6)] [am_rf ((cl_h_6 h).2.2.1 3 0)] (cl_h_6 h) from ⟨ex_3 hP, ?_⟩)
  rw [ex_r3_0 (h := cl_h_6 h) hP]
  refine am_goX 1 (show am_rc (cl_h_6 h) 1 7 ∧ 0 ≤ 8 ∧ (cl_h_6 h).2.2.2.2 + am_al 17 ≤ 175 ∧ am_call am_cod 38 17 [.ref 1] (cl_h_6 h) (fun vv h' => pz_S 4 (some .int) am_r15 38 Q 11 [(0, .ref 3), (1, .ref 6)] (vv.toList ++ []) h') from ⟨Or.inl ⟨by decide, ex_1 hP⟩, by decide, ex_lim hP rfl, am_call.up (c_begin (T := T) (sz := sz) hP hz hch (by unfold cl_h_6; rw [em_wn _ _ (by omega), em_wn _ _ (by omega), em_wn _ _ (by omega), em_wn _ _ (by omega), em_wn _ _ (by omega), em_wn _ _ (by omega)]; exact l1) (fun q hq => by unfold cl_h_6; rw [em_wn _ _ (by omega), em_wn _ _ (by omega), em_wn _ _ (by omega), em_wn _ _ (by omega), em_wn _ _ (by omega), em_wn _ _ (by omega)]; exact l2 q hq) (fun h1 t f => ?_)) (by decide)⟩)
  have l := cl_c_6 hz hch t f
  refine am_goX 4 (show 2 < 4 ∧ 3 < 4 ∧ pz_S 4 (some .int) am_r15 38 Q 15 [(3, .int (Int32.ofInt 0)), (2, .int (Int32.ofInt 1)), (0, .ref 3), (1, .ref 6)] [] h1 from ⟨by decide, by decide, ?_⟩)
  exact c_15l_6 1001 0 (0, sp_C0) h1 Q (by dsimp only; omega) (Nat.zero_le _) l hQ
end
