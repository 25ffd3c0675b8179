/-! THE CLASS'S LAW, EXACTLY -/
theorem ct_wI {h : am_H} {sz a o k : Nat} {T : Nat → Int32} {v : Int32} (l : c_t T sz a h) (ho : ¬ o = 1 ∧ ¬ o = 2) : c_t T sz a (am_wI h o k v) := by
  obtain ⟨l0, l1, l2, l3, l4, l5, l6, l7, l8, l9, l10⟩ := l
  refine ⟨l0, ?_, fun q hq => ?_, ?_, l4, l5, ?_, ?_, ?_, l9, ?_⟩
  · rw [em_wn h _ (by omega)]; exact l1
  · rw [em_wn h _ (by omega)]; exact l2 q hq
  · rw [em_wn h _ (by omega)]; exact l3
  · rw [em_wn h _ (by omega)]; exact l6
  · rw [em_wn h _ (by omega)]; exact l7
  · rw [em_wn h _ (by omega)]; exact l8
  · rw [em_wn h _ (by omega)]; exact l10
theorem ct_wL {h : am_H} {sz a o k : Nat} {T : Nat → Int32} {v : Int64} (l : c_t T sz a h) (ho : ¬ o = 1) : c_t T sz a (am_wL h o k v) := by
  obtain ⟨l0, l1, l2, l3, l4, l5, l6, l7, l8, l9, l10⟩ := l
  refine ⟨l0, l1, l2, l3, l4, l5, l6, l7, l8, ?_, l10⟩
  rw [ex_ln (by omega)]
  exact l9
theorem cq_wI {h h0 : am_H} {c o k : Nat} {v : Int32} (l : c_q c h0 h) (ho : c ≤ o ∧ o ≤ c + 10) : c_q c h0 (am_wI h o k v) := ⟨l.1, fun o' k' hn => ⟨by
  rw [em_wn h _ (fun z => hn (Or.inr (by omega)))]
  exact (l.2 o' k' hn).1, (l.2 o' k' hn).2⟩⟩
theorem cq_wL {h h0 : am_H} {c o k : Nat} {v : Int64} (l : c_q c h0 h) (ho : c ≤ o ∧ o ≤ c + 10) : c_q c h0 (am_wL h o k v) := ⟨l.1, fun o' k' hn => ⟨(l.2 o' k' hn).1, (ex_ln (fun z => hn (Or.inr (by omega)))).trans (l.2 o' k' hn).2⟩⟩
theorem cr_em {h h0 : am_H} {c sz a : Nat} {T : Nat → Int32} {C : sp_C} {x : Int32} (hc : 2 < c) (l : cr h0 c T sz (a, C) h) (hn : C.2.2.2.2.1 < a) : cr h0 c T sz (a, sp_em C x) (am_wI (am_wI h (c + 9) C.2.2.2.2.1 x) (c + 8) 2 (nI (C.2.2.2.2.1 + 1))) := by
  have hz := l.1.1.2.1
  have h4 := l.1.2.2.2.2.1
  have h5 := l.1.2.2.2.2.2.1
  obtain ⟨l1, ⟨⟨a1, a2, a3⟩, ⟨b1, b2, b3⟩, ⟨d1, d2, d3⟩, ⟨e1, e2, e3, e4⟩⟩, l3, l4⟩ := l
  have w : ∀ o k, ¬ o = c + 8 → ¬ o = c + 9 → (am_wI (am_wI h (c + 9) C.2.2.2.2.1 x) (c + 8) 2 (nI (C.2.2.2.2.1 + 1))).1 o k = h.1 o k := fun o k h1 h2 => by
    rw [em_wn _ _ (by omega), em_wn _ _ (by omega)]
  refine ⟨ct_wI (ct_wI l1 (by omega)) (by omega), ⟨⟨?_, a2, fun i hi => ⟨(a3 i hi).1, ?_, ?_⟩⟩, ⟨?_, b2, fun i hi => ⟨(b3 i hi).1, ?_, ?_, ?_⟩⟩, ⟨?_, ?_, d3⟩, ⟨?_, ?_, ?_, fun i hi => ?_⟩⟩, cq_wI (cq_wI l3 (by omega)) (by omega), ?_⟩
  · rw [w _ _ (by omega) (by omega)]; exact a1
  · rw [w _ _ (by omega) (by omega)]; exact (a3 i hi).2.1
  · rw [w _ _ (by omega) (by omega)]; exact (a3 i hi).2.2
  · rw [w _ _ (by omega) (by omega)]; exact b1
  · rw [w _ _ (by omega) (by omega)]; exact (b3 i hi).2.1
  · rw [w _ _ (by omega) (by omega)]; exact (b3 i hi).2.2.1
  · rw [w _ _ (by omega) (by omega)]; exact (b3 i hi).2.2.2
  · rw [w _ _ (by omega) (by omega)]; exact d1
  · rw [w _ _ (by omega) (by omega)]; exact d2
  · rw [w _ _ (by omega) (by omega)]; exact e1
  · exact em_we _ _ _ _
  · show C.2.2.2.2.1 + 1 ≤ 1000
    have h4 : a ≤ _ := h4
    have h5 : tk_pl T sz a ≤ sz := h5
    omega
  · show _ = (if i = C.2.2.2.2.1 then x else C.2.2.2.2.2 i)
    rw [em_wn _ _ (by omega)]
    have hi : i < C.2.2.2.2.1 + 1 := hi
    by_cases ei : i = C.2.2.2.2.1
    · rw [if_pos ei, ei]
      exact em_we _ _ _ _
    · rw [if_neg ei, em_wn _ _ (by omega)]
      exact e4 i (show i < C.2.2.2.2.1 by omega)
  · show C.2.2.2.2.1 + 1 ≤ a
    omega
theorem cx_w {h h0 : am_H} {c k : Nat} {F x : Int32} (hc : 2 < c) (l : cx h0 c F h) (hk : k < 1000) : cx h0 c F (am_wI (am_wI h (c + 9) k x) (c + 8) 2 (nI (k + 1))) :=
  ⟨l.1, ⟨by rw [em_wn _ _ (by omega), em_wn _ _ (by omega)]; exact l.2.1.1, l.2.1.2⟩, cq_wI (cq_wI l.2.2.1 (by omega)) (by omega), k + 1, by omega, em_we _ _ _ _⟩
/-- a reader of the law that does what the spec says -/
def lw_c (h0 : am_H) (c : Nat) (T : Nat → Int32) (sz d n : Nat) (dep : Int32) (f : sp_S → sp_R) : Prop := ∀ (s : sp_S) (h : am_H) (Q : am_Q), cr h0 c T sz s h → (∀ v h1, cres h0 c T sz (f s) v h1 → Q v h1) → am_call am_cod d n [.ref 4, .ref (c + 8), .int dep] h Q
theorem lw_up {h0 : am_H} {c sz d d' n : Nat} {T : Nat → Int32} {dep : Int32} {f : sp_S → sp_R} (k : lw_c h0 c T sz d n dep f) (hd : d ≤ d') : lw_c h0 c T sz d' n dep f := fun s h Q l q => (k s h Q l q).up hd
theorem cr_a {h h0 : am_H} {c sz : Nat} {T : Nat → Int32} {s : sp_S} (l : cr h0 c T sz s h) : s.1 ≤ sz ∧ sz ≤ 1000 := by
  have h4 := l.1.2.2.2.2.1
  have h5 := l.1.2.2.2.2.2.1
  exact ⟨Nat.le_trans h4 h5, l.1.1.2.1⟩
theorem cr_lt {h h0 : am_H} {c sz : Nat} {T : Nat → Int32} {s : sp_S} (l : cr h0 c T sz s h) (hn : ¬ (tt T sz s.1).1 = 0) : s.2.2.2.2.2.1 < 1000 := by
  have h1 : tk_pl T sz s.1 < sz := kz_lt hn
  have h2 := l.1.2.2.2.2.1
  have h3 := l.1.1.2.1
  have h4 := l.2.2.2
  omega
theorem i1000 {i : Nat} (hi : i < 1000) : ¬ (Int16.ofInt 1000).toInt32 ≤ nI i := by
  show ¬ nI 1000 ≤ nI i
  rw [nI_leI (by omega) (by omega)]
  omega
/-- a code is laid ahead of the step -/
def cr1 (h0 : am_H) (c : Nat) (T : Nat → Int32) (sz a : Nat) (C : sp_C) (h : am_H) : Prop := c_t T sz a h ∧ c_c c C h ∧ c_q c h0 h ∧ C.2.2.2.2.1 ≤ a + 1
theorem cr1_em {h h0 : am_H} {c sz : Nat} {T : Nat → Int32} {s : sp_S} {x : Int32} (hc : 2 < c) (l : cr h0 c T sz s h) (hn : s.2.2.2.2.2.1 < 1000) : cr1 h0 c T sz s.1 (sp_em s.2 x) (am_wI (am_wI h (c + 9) s.2.2.2.2.2.1 x) (c + 8) 2 (nI (s.2.2.2.2.2.1 + 1))) := by
  obtain ⟨l1, ⟨⟨a1, a2, a3⟩, ⟨b1, b2, b3⟩, ⟨d1, d2, d3⟩, ⟨e1, e2, e3, e4⟩⟩, l3, l4⟩ := l
  have w : ∀ o k, ¬ o = c + 8 → ¬ o = c + 9 → (am_wI (am_wI h (c + 9) s.2.2.2.2.2.1 x) (c + 8) 2 (nI (s.2.2.2.2.2.1 + 1))).1 o k = h.1 o k := fun o k h1 h2 => by
    rw [em_wn _ _ (by omega), em_wn _ _ (by omega)]
  refine ⟨ct_wI (ct_wI l1 (by omega)) (by omega), ⟨⟨?_, a2, fun i hi => ⟨(a3 i hi).1, ?_, ?_⟩⟩, ⟨?_, b2, fun i hi => ⟨(b3 i hi).1, ?_, ?_, ?_⟩⟩, ⟨?_, ?_, d3⟩, ⟨?_, ?_, ?_, fun i hi => ?_⟩⟩, cq_wI (cq_wI l3 (by omega)) (by omega), ?_⟩
  · rw [w _ _ (by omega) (by omega)]; exact a1
  · rw [w _ _ (by omega) (by omega)]; exact (a3 i hi).2.1
  · rw [w _ _ (by omega) (by omega)]; exact (a3 i hi).2.2
  · rw [w _ _ (by omega) (by omega)]; exact b1
  · rw [w _ _ (by omega) (by omega)]; exact (b3 i hi).2.1
  · rw [w _ _ (by omega) (by omega)]; exact (b3 i hi).2.2.1
  · rw [w _ _ (by omega) (by omega)]; exact (b3 i hi).2.2.2
  · rw [w _ _ (by omega) (by omega)]; exact d1
  · rw [w _ _ (by omega) (by omega)]; exact d2
  · rw [w _ _ (by omega) (by omega)]; exact e1
  · exact em_we _ _ _ _
  · show s.2.2.2.2.2.1 + 1 ≤ 1000
    omega
  · show _ = (if i = s.2.2.2.2.2.1 then x else s.2.2.2.2.2.2 i)
    rw [em_wn _ _ (by omega)]
    have hi : i < s.2.2.2.2.2.1 + 1 := hi
    by_cases ei : i = s.2.2.2.2.2.1
    · rw [if_pos ei, ei]
      exact em_we _ _ _ _
    · rw [if_neg ei, em_wn _ _ (by omega)]
      exact e4 i (by omega)
  · show s.2.2.2.2.2.1 + 1 ≤ s.1 + 1
    omega
theorem cr_em2 {h h1 h0 : am_H} {c sz a : Nat} {T : Nat → Int32} {C : sp_C} (hc : 1 < c) (l : cr1 h0 c T sz a C h) (t : c_t T sz (a + 1) h1) (f : fr1 h h1) : cr h0 c T sz (a + 1, C) h1 := ⟨t, c_c_fr hc l.2.1 f, c_q_fr l.2.2.1 f, l.2.2.2⟩
theorem c_fan {τ : sp_T} {a : Nat} (e : ¬ sp_fa τ a = 0) : ¬ (τ a).1 = 0 := by
  intro z
  apply e
  have k : sp_k τ a 1 = false := decide_eq_false (by rw [z]; decide)
  unfold sp_fa sp_w
  rw [k]
  rfl
variable {h h0 : am_H} {sz a d : Nat} {T : Nat → Int32} {Q : am_Q} {s : sp_S} {p : sp_S → sp_R} {dep : Int32}
theorem ex_4 {h : am_H} (hP : ex_P h) : am_sh h 4 = some (4, 0) := (ex_so hP (by decide +kernel)).2
theorem ex_14 {h : am_H} (hP : ex_P h) : am_sh h 14 = some (3, 0) := (ex_so hP (by decide +kernel)).2
theorem ex_15 {h : am_H} (hP : ex_P h) : am_sh h 15 = some (13, 1000) := (ex_so hP (by decide +kernel)).2
theorem ex_w15 {h : am_H} (hP : ex_P h) : am_so h 15 = some (13, 1000) := (ex_so hP (by decide +kernel)).1
theorem ex_r4_0 {h : am_H} (hP : ex_P h) : h.2.2.1 4 0 = some 1 := hP.2 4 0 1 (by decide +kernel)
theorem ex_r14_0 {h : am_H} (hP : ex_P h) : h.2.2.1 14 0 = some 15 := hP.2 14 0 15 (by decide +kernel)
theorem c_add_6 {x : Int32} {C : sp_C} (l : cr h0 6 T sz (a, C) h) (hn : C.2.2.2.2.1 < a) (hQ : ∀ h1, cr h0 6 T sz (a, sp_em C x) h1 → Q none h1) : am_call am_cod 1 77 [.ref 14, .int x] h Q := by
  have hP := c_P l.1
  have ha := cr_a l
  have e2 : h.1 14 2 = nI C.2.2.2.2.1 := l.2.1.2.2.2.2.1
  have hk : C.2.2.2.2.1 < 1000 := by
    have h1 : a ≤ sz := ha.1
    omega
  refine pz_call (n := 77) (nL := 2) (rt := none) (rows := am_r77) (d := 0) (by decide +kernel) (by decide +kernel) rfl (by funext pc; rfl) (ex_175 hP) (by exact Nat.le_of_ble_eq_true rfl) ?_
  refine am_goX 3 (show am_sh h 14 = some (3, 0) ∧ pz_S 2 none am_r77 0 Q 7 [(0, .ref 14), (1, .int x)] [.int (Int16.ofInt 1000).toInt32, .int (h.1 14 2)] h from ⟨ex_14 hP, ?_⟩)
  rw [e2]
  refine am_goX 1 (show ((Int16.ofInt 1000).toInt32 ≤ (nI C.2.2.2.2.1) → pz_S 2 none am_r77 0 Q 30 [(0, .ref 14), (1, .int x)] [] h) ∧ (¬ ((Int16.ofInt 1000).toInt32 ≤ (nI C.2.2.2.2.1)) → pz_S 2 none am_r77 0 Q 10 [(0, .ref 14), (1, .int x)] [] h) from ⟨fun hz => absurd hz (i1000 hk), fun _ => ?_⟩)
  refine am_goX 2 (show am_sh h 14 = some (3, 0) ∧ pz_S 2 none am_r77 0 Q 14 [(0, .ref 14), (1, .int x)] [am_rf (h.2.2.1 14 0)] h from ⟨ex_14 hP, ?_⟩)
  rw [ex_r14_0 hP]
  refine am_goX 4 (show am_sh h 14 = some (3, 0) ∧ ∃ jj nn : Nat, am_so h 15 = some (13, nn) ∧ jj < nn ∧ (h.1 14 2) = nI jj ∧ pz_S 2 none am_r77 0 Q 20 [(0, .ref 14), (1, .int x)] [] (am_wI h 15 jj (x)) from ⟨ex_14 hP, C.2.2.2.2.1, 1000, ex_w15 hP, hk, e2, ?_⟩)
  refine am_goX 6 (show (Value.ref 14).category = 1 ∧ am_sh (am_wI h 15 (C.2.2.2.2.1) (x)) 14 = some (3, 0) ∧ am_sh (am_wI h 15 (C.2.2.2.2.1) (x)) 14 = some (3, 0) ∧ narrow (am_fty 3 2) (.int ((((am_wI h 15 (C.2.2.2.2.1) (x)).1 14 2) + (Int32.ofInt 1)))) = .int ((((am_wI h 15 (C.2.2.2.2.1) (x)).1 14 2) + (Int32.ofInt 1))) ∧ fits (am_fty 3 2) (.int ((((am_wI h 15 (C.2.2.2.2.1) (x)).1 14 2) + (Int32.ofInt 1)))) = true ∧ pz_S 2 none am_r77 0 Q 30 [(0, .ref 14), (1, .int x)] [] (am_wI (am_wI h 15 (C.2.2.2.2.1) (x)) 14 2 ((((am_wI h 15 (C.2.2.2.2.1) (x)).1 14 2) + (Int32.ofInt 1)))) from ⟨rfl, ex_14 hP, ex_14 hP, rfl, rfl, ?_⟩)
  rw [em_wn h _ (by omega), e2, xw_i1]
  exact am_goX 1 (show (none : Option FieldType) = none ∧ (am_wI (am_wI h 15 C.2.2.2.2.1 x) 14 2 (nI (C.2.2.2.2.1 + 1))).2.2.2.2 = 175 ∧ _ from ⟨rfl, ex_175 hP, hQ _ (cr_em (c := 6) (by decide) l hn)⟩)
theorem c_addx_6 {x F : Int32} (l : cx h0 6 F h) (hQ : ∀ h1, cx h0 6 F h1 → Q none h1) : am_call am_cod 1 77 [.ref 14, .int x] h Q := by
  have hP := l.1
  obtain ⟨k, hk0, e2⟩ := l.2.2.2
  have e2 : h.1 14 2 = nI k := e2
  refine pz_call (n := 77) (nL := 2) (rt := none) (rows := am_r77) (d := 0) (by decide +kernel) (by decide +kernel) rfl (by funext pc; rfl) (ex_175 hP) (by exact Nat.le_of_ble_eq_true rfl) ?_
  refine am_goX 3 (show am_sh h 14 = some (3, 0) ∧ pz_S 2 none am_r77 0 Q 7 [(0, .ref 14), (1, .int x)] [.int (Int16.ofInt 1000).toInt32, .int (h.1 14 2)] h from ⟨ex_14 hP, ?_⟩)
  rw [e2]
  refine am_goX 1 (show ((Int16.ofInt 1000).toInt32 ≤ (nI k) → pz_S 2 none am_r77 0 Q 30 [(0, .ref 14), (1, .int x)] [] h) ∧ (¬ ((Int16.ofInt 1000).toInt32 ≤ (nI k)) → pz_S 2 none am_r77 0 Q 10 [(0, .ref 14), (1, .int x)] [] h) from ⟨fun hc => ?_, fun hc => ?_⟩)
  · exact am_goX 1 (show (none : Option FieldType) = none ∧ h.2.2.2.2 = 175 ∧ _ from ⟨rfl, ex_175 hP, hQ _ l⟩)
  have hk : k < 1000 := by
    have hc1 : ¬ nI 1000 ≤ nI k := hc
    rw [nI_leI (by omega) (by omega)] at hc1
    omega
  clear hc
  refine am_goX 2 (show am_sh h 14 = some (3, 0) ∧ pz_S 2 none am_r77 0 Q 14 [(0, .ref 14), (1, .int x)] [am_rf (h.2.2.1 14 0)] h from ⟨ex_14 hP, ?_⟩)
  rw [ex_r14_0 hP]
  refine am_goX 4 (show am_sh h 14 = some (3, 0) ∧ ∃ jj nn : Nat, am_so h 15 = some (13, nn) ∧ jj < nn ∧ (h.1 14 2) = nI jj ∧ pz_S 2 none am_r77 0 Q 20 [(0, .ref 14), (1, .int x)] [] (am_wI h 15 jj (x)) from ⟨ex_14 hP, k, 1000, ex_w15 hP, hk, e2, ?_⟩)
  refine am_goX 6 (show (Value.ref 14).category = 1 ∧ am_sh (am_wI h 15 (k) (x)) 14 = some (3, 0) ∧ am_sh (am_wI h 15 (k) (x)) 14 = some (3, 0) ∧ narrow (am_fty 3 2) (.int ((((am_wI h 15 (k) (x)).1 14 2) + (Int32.ofInt 1)))) = .int ((((am_wI h 15 (k) (x)).1 14 2) + (Int32.ofInt 1))) ∧ fits (am_fty 3 2) (.int ((((am_wI h 15 (k) (x)).1 14 2) + (Int32.ofInt 1)))) = true ∧ pz_S 2 none am_r77 0 Q 30 [(0, .ref 14), (1, .int x)] [] (am_wI (am_wI h 15 (k) (x)) 14 2 ((((am_wI h 15 (k) (x)).1 14 2) + (Int32.ofInt 1)))) from ⟨rfl, ex_14 hP, ex_14 hP, rfl, rfl, ?_⟩)
  rw [em_wn h _ (by omega), e2, xw_i1]
  exact am_goX 1 (show (none : Option FieldType) = none ∧ (am_wI (am_wI h 15 k x) 14 2 (nI (k + 1))).2.2.2.2 = 175 ∧ _ from ⟨rfl, ex_175 hP, hQ _ (cx_w (c := 6) (by decide) l hk)⟩)
theorem c_fact_6 (l : cr h0 6 T sz s h) (hQ : Q (some (.int (sp_fa (tt T sz) s.1))) h) : am_call am_cod 6 76 [.ref 4] h Q := by
  have hP := c_P l.1
  unfold sp_fa at hQ
  refine pz_call (n := 76) (nL := 1) (rt := (some .int)) (rows := am_r76) (d := 5) (by decide +kernel) (by decide +kernel) rfl (by funext pc; rfl) (ex_175 hP) (by exact Nat.le_of_ble_eq_true rfl) ?_
  refine am_goX 2 (show am_sh h 4 = some (4, 0) ∧ pz_S 1 (some .int) am_r76 5 Q 4 [(0, .ref 4)] [am_rf (h.2.2.1 4 0)] h from ⟨ex_4 (c_P l.1), ?_⟩)
  rw [ex_r4_0 (c_P l.1)]
  refine am_goX 2 (show am_rc h 1 7 ∧ 0 ≤ 8 ∧ h.2.2.2.2 + am_al 44 ≤ 175 ∧ am_call am_cod 5 44 [.ref 1, .ref (4000000 + 14)] h (fun vv h' => pz_S 1 (some .int) am_r76 5 Q 9 [(0, .ref 4)] (vv.toList ++ []) h') from ⟨Or.inl ⟨by decide, ex_1 (c_P l.1)⟩, by decide, ex_lim (c_P l.1) rfl, am_call.up (c_isw (by decide) wq_14 l.1 ?_) (by omega)⟩)
  cases e1 : sp_w (tt T sz) s.1 20763 with
  | true =>
    refine am_goX 1 (show ((pz_b (true)) = 0 → pz_S 1 (some .int) am_r76 5 Q 14 [(0, .ref 4)] [] h) ∧ (¬ ((pz_b (true)) = 0) → pz_S 1 (some .int) am_r76 5 Q 12 [(0, .ref 4)] [] h) from ⟨fun hz => absurd hz (by decide), fun _ => ?_⟩)
    refine am_goX 1 (show pz_S 1 (some .int) am_r76 5 Q 13 [(0, .ref 4)] [.int (Int32.ofInt (-1))] h from ?_)
    simp only [e1, cond_true, cond_false] at hQ
    exact am_goX 1 (show (∃ ty, (some .int) = some ty ∧ narrow ty (.int ((Int32.ofInt (-1)))) = .int ((Int32.ofInt (-1)))) ∧ h.2.2.2.2 = 175 ∧ _ from ⟨⟨.int, rfl, rfl⟩, ex_175 (c_P l.1), hQ⟩)
  | false =>
    refine am_goX 1 (show ((pz_b (false)) = 0 → pz_S 1 (some .int) am_r76 5 Q 14 [(0, .ref 4)] [] h) ∧ (¬ ((pz_b (false)) = 0) → pz_S 1 (some .int) am_r76 5 Q 12 [(0, .ref 4)] [] h) from ⟨fun _ => ?_, fun hz => absurd (by decide) hz⟩)
    refine am_goX 2 (show am_sh h 4 = some (4, 0) ∧ pz_S 1 (some .int) am_r76 5 Q 18 [(0, .ref 4)] [am_rf (h.2.2.1 4 0)] h from ⟨ex_4 (c_P l.1), ?_⟩)
    rw [ex_r4_0 (c_P l.1)]
    refine am_goX 2 (show am_rc h 1 7 ∧ 0 ≤ 8 ∧ h.2.2.2.2 + am_al 44 ≤ 175 ∧ am_call am_cod 5 44 [.ref 1, .ref (4000000 + 15)] h (fun vv h' => pz_S 1 (some .int) am_r76 5 Q 23 [(0, .ref 4)] (vv.toList ++ []) h') from ⟨Or.inl ⟨by decide, ex_1 (c_P l.1)⟩, by decide, ex_lim (c_P l.1) rfl, am_call.up (c_isw (by decide) wq_15 l.1 ?_) (by omega)⟩)
    cases e2 : sp_w (tt T sz) s.1 1172060 with
    | true =>
      refine am_goX 1 (show ((pz_b (true)) = 0 → pz_S 1 (some .int) am_r76 5 Q 29 [(0, .ref 4)] [] h) ∧ (¬ ((pz_b (true)) = 0) → pz_S 1 (some .int) am_r76 5 Q 26 [(0, .ref 4)] [] h) from ⟨fun hz => absurd hz (by decide), fun _ => ?_⟩)
      refine am_goX 1 (show pz_S 1 (some .int) am_r76 5 Q 28 [(0, .ref 4)] [.int (Int8.ofInt (-2)).toInt32] h from ?_)
      simp only [e1, e2, cond_true, cond_false] at hQ
      exact am_goX 1 (show (∃ ty, (some .int) = some ty ∧ narrow ty (.int ((Int8.ofInt (-2)).toInt32)) = .int ((Int8.ofInt (-2)).toInt32)) ∧ h.2.2.2.2 = 175 ∧ _ from ⟨⟨.int, rfl, rfl⟩, ex_175 (c_P l.1), hQ⟩)
    | false =>
      refine am_goX 1 (show ((pz_b (false)) = 0 → pz_S 1 (some .int) am_r76 5 Q 29 [(0, .ref 4)] [] h) ∧ (¬ ((pz_b (false)) = 0) → pz_S 1 (some .int) am_r76 5 Q 26 [(0, .ref 4)] [] h) from ⟨fun _ => ?_, fun hz => absurd (by decide) hz⟩)
      refine am_goX 2 (show am_sh h 4 = some (4, 0) ∧ pz_S 1 (some .int) am_r76 5 Q 33 [(0, .ref 4)] [am_rf (h.2.2.1 4 0)] h from ⟨ex_4 (c_P l.1), ?_⟩)
      rw [ex_r4_0 (c_P l.1)]
      refine am_goX 2 (show am_rc h 1 7 ∧ 0 ≤ 8 ∧ h.2.2.2.2 + am_al 44 ≤ 175 ∧ am_call am_cod 5 44 [.ref 1, .ref (4000000 + 16)] h (fun vv h' => pz_S 1 (some .int) am_r76 5 Q 38 [(0, .ref 4)] (vv.toList ++ []) h') from ⟨Or.inl ⟨by decide, ex_1 (c_P l.1)⟩, by decide, ex_lim (c_P l.1) rfl, am_call.up (c_isw (by decide) wq_16 l.1 ?_) (by omega)⟩)
      cases e3 : sp_w (tt T sz) s.1 18002 with
      | true =>
        refine am_goX 1 (show ((pz_b (true)) = 0 → pz_S 1 (some .int) am_r76 5 Q 44 [(0, .ref 4)] [] h) ∧ (¬ ((pz_b (true)) = 0) → pz_S 1 (some .int) am_r76 5 Q 41 [(0, .ref 4)] [] h) from ⟨fun hz => absurd hz (by decide), fun _ => ?_⟩)
        refine am_goX 1 (show pz_S 1 (some .int) am_r76 5 Q 43 [(0, .ref 4)] [.int (Int8.ofInt (-3)).toInt32] h from ?_)
        simp only [e1, e2, e3, cond_true, cond_false] at hQ
        exact am_goX 1 (show (∃ ty, (some .int) = some ty ∧ narrow ty (.int ((Int8.ofInt (-3)).toInt32)) = .int ((Int8.ofInt (-3)).toInt32)) ∧ h.2.2.2.2 = 175 ∧ _ from ⟨⟨.int, rfl, rfl⟩, ex_175 (c_P l.1), hQ⟩)
      | false =>
        refine am_goX 1 (show ((pz_b (false)) = 0 → pz_S 1 (some .int) am_r76 5 Q 44 [(0, .ref 4)] [] h) ∧ (¬ ((pz_b (false)) = 0) → pz_S 1 (some .int) am_r76 5 Q 41 [(0, .ref 4)] [] h) from ⟨fun _ => ?_, fun hz => absurd (by decide) hz⟩)
        refine am_goX 2 (show am_sh h 4 = some (4, 0) ∧ pz_S 1 (some .int) am_r76 5 Q 48 [(0, .ref 4)] [am_rf (h.2.2.1 4 0)] h from ⟨ex_4 (c_P l.1), ?_⟩)
        rw [ex_r4_0 (c_P l.1)]
        refine am_goX 2 (show am_rc h 1 7 ∧ 0 ≤ 8 ∧ h.2.2.2.2 + am_al 44 ≤ 175 ∧ am_call am_cod 5 44 [.ref 1, .ref (4000000 + 17)] h (fun vv h' => pz_S 1 (some .int) am_r76 5 Q 53 [(0, .ref 4)] (vv.toList ++ []) h') from ⟨Or.inl ⟨by decide, ex_1 (c_P l.1)⟩, by decide, ex_lim (c_P l.1) rfl, am_call.up (c_isw (by decide) wq_17 l.1 ?_) (by omega)⟩)
        cases e4 : sp_w (tt T sz) s.1 43523993 with
        | true =>
          refine am_goX 1 (show ((pz_b (true)) = 0 → pz_S 1 (some .int) am_r76 5 Q 61 [(0, .ref 4)] [] h) ∧ (¬ ((pz_b (true)) = 0) → pz_S 1 (some .int) am_r76 5 Q 56 [(0, .ref 4)] [] h) from ⟨fun hz => absurd hz (by decide), fun _ => ?_⟩)
          refine am_goX 2 (show pz_S 1 (some .int) am_r76 5 Q 62 [(0, .ref 4)] [.int (Int8.ofInt (-4)).toInt32] h from ?_)
          simp only [e1, e2, e3, e4, cond_true, cond_false] at hQ
          exact am_goX 1 (show (∃ ty, (some .int) = some ty ∧ narrow ty (.int ((Int8.ofInt (-4)).toInt32)) = .int ((Int8.ofInt (-4)).toInt32)) ∧ h.2.2.2.2 = 175 ∧ _ from ⟨⟨.int, rfl, rfl⟩, ex_175 (c_P l.1), hQ⟩)
        | false =>
          refine am_goX 1 (show ((pz_b (false)) = 0 → pz_S 1 (some .int) am_r76 5 Q 61 [(0, .ref 4)] [] h) ∧ (¬ ((pz_b (false)) = 0) → pz_S 1 (some .int) am_r76 5 Q 56 [(0, .ref 4)] [] h) from ⟨fun _ => ?_, fun hz => absurd (by decide) hz⟩)
          refine am_goX 1 (show pz_S 1 (some .int) am_r76 5 Q 62 [(0, .ref 4)] [.int (Int32.ofInt 0)] h from ?_)
          simp only [e1, e2, e3, e4, cond_true, cond_false] at hQ
          exact am_goX 1 (show (∃ ty, (some .int) = some ty ∧ narrow ty (.int ((Int32.ofInt 0))) = .int ((Int32.ofInt 0))) ∧ h.2.2.2.2 = 175 ∧ _ from ⟨⟨.int, rfl, rfl⟩, ex_175 (c_P l.1), hQ⟩)
theorem c_74l_6 (hd : 6 ≤ d) (ks : lw_c h0 6 T sz d 75 dep (p)) (hok : sp_ok (p)) : ∀ (m i : Nat) (s : sp_S) (h : am_H) (Q : am_Q), sz < s.1 + m → i + 1 ≤ s.1 → cr h0 6 T sz s h → (∀ v h1, cres h0 6 T sz (sp_pL (tt T sz) p m s) v h1 → Q v h1) → pz_S 5 (some .boolean) am_r74 d Q 10 [(4, .int (nI i)), (3, .int 1), (0, .ref 4), (1, .ref 14), (2, .int dep)] [] h := by
  intro m
  induction m with
  | zero =>
    intro i s h Q hm hi l hQ
    have := (cr_a l).1
    omega
  | succ m ih =>
    intro i s h Q hm hi l hQ
    have ha := cr_a l
    refine am_goX 2 (show (1 = 0 → pz_S 5 (some .boolean) am_r74 d Q 62 [(4, .int (nI i)), (3, .int 1), (0, .ref 4), (1, .ref 14), (2, .int dep)] [] h) ∧ (¬ (1 = 0) → pz_S 5 (some .boolean) am_r74 d Q 14 [(4, .int (nI i)), (3, .int 1), (0, .ref 4), (1, .ref 14), (2, .int dep)] [] h) from ⟨fun hz => absurd hz (by decide), fun _ => ?_⟩)
    refine am_goX 3 (show ((Int16.ofInt 1000).toInt32 ≤ (nI i) → pz_S 5 (some .boolean) am_r74 d Q 62 [(4, .int (nI i)), (3, .int 1), (0, .ref 4), (1, .ref 14), (2, .int dep)] [] h) ∧ (¬ ((Int16.ofInt 1000).toInt32 ≤ (nI i)) → pz_S 5 (some .boolean) am_r74 d Q 22 [(4, .int (nI i)), (3, .int 1), (0, .ref 4), (1, .ref 14), (2, .int dep)] [] h) from ⟨fun hz => absurd hz (i1000 (by omega)), fun _ => ?_⟩)
    refine am_goX 2 (show am_sh h 4 = some (4, 0) ∧ pz_S 5 (some .boolean) am_r74 d Q 26 [(4, .int (nI i)), (3, .int 1), (0, .ref 4), (1, .ref 14), (2, .int dep)] [am_rf (h.2.2.1 4 0)] h from ⟨ex_4 (c_P l.1), ?_⟩)
    rw [ex_r4_0 (c_P l.1)]
    refine am_goX 2 (show am_rc h 1 7 ∧ 0 ≤ 8 ∧ h.2.2.2.2 + am_al 62 ≤ 175 ∧ am_call am_cod d 62 [.ref 1, .int (Int8.ofInt 42).toInt32] h (fun vv h' => pz_S 5 (some .boolean) am_r74 d Q 31 [(4, .int (nI i)), (3, .int 1), (0, .ref 4), (1, .ref 14), (2, .int dep)] (vv.toList ++ []) h') from ⟨Or.inl ⟨by decide, ex_1 (c_P l.1)⟩, by decide, ex_lim (c_P l.1) rfl, am_call.up (c_iss l.1 ?_) (by omega)⟩)
    cases e5 : sp_s (tt T sz) s.1 (Int8.ofInt 42).toInt32 with
    | true =>
      refine am_goX 1 (show (¬ (pz_b (true)) = 0 → pz_S 5 (some .boolean) am_r74 d Q 36 [(4, .int (nI i)), (3, .int 1), (0, .ref 4), (1, .ref 14), (2, .int dep)] [] h) ∧ (¬ ¬ (pz_b (true)) = 0 → pz_S 5 (some .boolean) am_r74 d Q 34 [(4, .int (nI i)), (3, .int 1), (0, .ref 4), (1, .ref 14), (2, .int dep)] [] h) from ⟨fun _ => ?_, fun hz => absurd (by decide) hz⟩)
      refine am_goX 2 (show am_sh h 4 = some (4, 0) ∧ pz_S 5 (some .boolean) am_r74 d Q 40 [(4, .int (nI i)), (3, .int 1), (0, .ref 4), (1, .ref 14), (2, .int dep)] [am_rf (h.2.2.1 4 0)] h from ⟨ex_4 (c_P l.1), ?_⟩)
      rw [ex_r4_0 (c_P l.1)]
      refine am_goX 1 (show am_rc h 1 7 ∧ 0 ≤ 8 ∧ h.2.2.2.2 + am_al 18 ≤ 175 ∧ am_call am_cod d 18 [.ref 1] h (fun vv h' => pz_S 5 (some .boolean) am_r74 d Q 43 [(4, .int (nI i)), (3, .int 1), (0, .ref 4), (1, .ref 14), (2, .int dep)] (vv.toList ++ []) h') from ⟨Or.inl ⟨by decide, ex_1 (c_P l.1)⟩, by decide, ex_lim (c_P l.1) rfl, am_call.up (c_step l.1 (sp_sn e5) (fun h6 m7 f8 => ?_)) (by omega)⟩)
      have l9 : cr h0 6 T sz ((s.1 + 1), s.2) h6 := cr_fr (a := s.1) (C := s.2) (by decide) l m7 (Nat.le_succ _) f8
      refine am_goX 4 (show am_rc h6 4 4 ∧ 0 ≤ 8 ∧ h6.2.2.2.2 + am_al 75 ≤ 175 ∧ am_call am_cod d 75 [.ref 4, .ref 14, .int dep] h6 (fun vv h' => pz_S 5 (some .boolean) am_r74 d Q 49 [(4, .int (nI i)), (3, .int 1), (0, .ref 4), (1, .ref 14), (2, .int dep)] (vv.toList ++ []) h') from ⟨Or.inl ⟨by decide, ex_4 (c_P l9.1)⟩, by decide, ex_lim (c_P l9.1) rfl, ks _ _ _ l9 (fun v10 h11 x12 => ?_)⟩)
      rcases cres_cs x12 with ⟨F14, e16, rfl, y17⟩ | ⟨t15, e16, rfl, y17⟩
      ·
        refine am_goX 4 (show 3 < 5 ∧ am_rc h11 14 3 ∧ 0 ≤ 8 ∧ h11.2.2.2.2 + am_al 77 ≤ 175 ∧ am_call am_cod d 77 [.ref 14, .int (Int8.ofInt (-12)).toInt32] h11 (fun vv h' => pz_S 5 (some .boolean) am_r74 d Q 56 [(3, .int 0), (4, .int (nI i)), (0, .ref 4), (1, .ref 14), (2, .int dep)] (vv.toList ++ []) h') from ⟨by decide, Or.inl ⟨by decide, ex_14 y17.1⟩, by decide, ex_lim y17.1 rfl, am_call.up (c_addx_6 y17 (fun h18 y19 => ?_)) (by omega)⟩)
        refine am_goX 4 (show 4 < 5 ∧ (0 = 0 → pz_S 5 (some .boolean) am_r74 d Q 62 [(4, .int ((nI i) + Int32.ofInt 1)), (3, .int 0), (0, .ref 4), (1, .ref 14), (2, .int dep)] [] h18) ∧ (¬ (0 = 0) → pz_S 5 (some .boolean) am_r74 d Q 14 [(4, .int ((nI i) + Int32.ofInt 1)), (3, .int 0), (0, .ref 4), (1, .ref 14), (2, .int dep)] [] h18) from ⟨by decide, fun _ => ?_, fun hz => absurd (by decide) hz⟩)
        exact am_goX 2 (show (∃ ty, (some .boolean) = some ty ∧ narrow ty (.int (0)) = .int (0)) ∧ h18.2.2.2.2 = 175 ∧ _ from ⟨⟨.boolean, rfl, rfl⟩, ex_175 y19.1, hQ _ _ (cres_inl (F := F14) (by simp only [sp_pL, sp_b, sp_f, cond_true, cond_false, e5, e16]) rfl y19)⟩)
      ·
        refine am_goX 4 (show 3 < 5 ∧ am_rc h11 14 3 ∧ 0 ≤ 8 ∧ h11.2.2.2.2 + am_al 77 ≤ 175 ∧ am_call am_cod d 77 [.ref 14, .int (Int8.ofInt (-12)).toInt32] h11 (fun vv h' => pz_S 5 (some .boolean) am_r74 d Q 56 [(3, .int 1), (4, .int (nI i)), (0, .ref 4), (1, .ref 14), (2, .int dep)] (vv.toList ++ []) h') from ⟨by decide, Or.inl ⟨by decide, ex_14 (c_P y17.1)⟩, by decide, ex_lim (c_P y17.1) rfl, am_call.up (c_add_6 (a := t15.1) (C := t15.2) y17 (by
            have h7 := hok _ _ e16
            have h8 := l.2.2.2
            unfold sp_le at h7
            dsimp only at h7
            omega) (fun h20 l21 => ?_)) (by omega)⟩)
        refine am_goX 2 (show 4 < 5 ∧ pz_S 5 (some .boolean) am_r74 d Q 10 [(4, .int ((nI i) + Int32.ofInt 1)), (3, .int 1), (0, .ref 4), (1, .ref 14), (2, .int dep)] [] h20 from ⟨by decide, ?_⟩)
        rw [xw_i1]
        have hx : sp_pL (tt T sz) p (m + 1) s = sp_pL (tt T sz) p m (t15.1, sp_em t15.2 ((Int8.ofInt (-12)).toInt32)) := by simp only [sp_pL, sp_b, cond_true, cond_false, e5, e16]
        have h7 := hok _ _ e16
        unfold sp_le at h7
        dsimp only at h7
        exact ih (i + 1) (t15.1, sp_em t15.2 ((Int8.ofInt (-12)).toInt32)) h20 Q (by dsimp only; omega) (by dsimp only; omega) l21 (fun v h1 q => hQ v h1 (by rw [hx]; exact q))
    | false =>
      refine am_goX 1 (show (¬ (pz_b (false)) = 0 → pz_S 5 (some .boolean) am_r74 d Q 36 [(4, .int (nI i)), (3, .int 1), (0, .ref 4), (1, .ref 14), (2, .int dep)] [] h) ∧ (¬ ¬ (pz_b (false)) = 0 → pz_S 5 (some .boolean) am_r74 d Q 34 [(4, .int (nI i)), (3, .int 1), (0, .ref 4), (1, .ref 14), (2, .int dep)] [] h) from ⟨fun hz => absurd hz (by decide), fun _ => ?_⟩)
      exact am_goX 2 (show (∃ ty, (some .boolean) = some ty ∧ narrow ty (.int ((Int32.ofInt 1))) = .int ((Int32.ofInt 1))) ∧ h.2.2.2.2 = 175 ∧ _ from ⟨⟨.boolean, rfl, rfl⟩, ex_175 (c_P l.1), hQ _ _ (cres_inr (s' := s) (by simp only [sp_pL, sp_b, sp_f, cond_true, cond_false, e5]) rfl l)⟩)
theorem c_74_6 (hd : 6 ≤ d) (ks : lw_c h0 6 T sz d 75 dep (p)) (hok : sp_ok (p)) : lw_c h0 6 T sz (d + 1) 74 dep (sp_p (tt T sz) p) := by
  intro s h Q l hQ
  have hP := c_P l.1
  have ha := cr_a l
  refine pz_call (n := 74) (nL := 5) (rt := (some .boolean)) (rows := am_r74) (d := d) (by decide +kernel) (by decide +kernel) rfl (by funext pc; rfl) (ex_175 hP) (by exact Nat.le_of_ble_eq_true rfl) ?_
  refine am_goX 4 (show am_rc h 4 4 ∧ 0 ≤ 8 ∧ h.2.2.2.2 + am_al 75 ≤ 175 ∧ am_call am_cod d 75 [.ref 4, .ref 14, .int dep] h (fun vv h' => pz_S 5 (some .boolean) am_r74 d Q 6 [(0, .ref 4), (1, .ref 14), (2, .int dep)] (vv.toList ++ []) h') from ⟨Or.inl ⟨by decide, ex_4 (c_P l.1)⟩, by decide, ex_lim (c_P l.1) rfl, ks _ _ _ l (fun v22 h23 x24 => ?_)⟩)
  rcases cres_cs x24 with ⟨F26, e28, rfl, y29⟩ | ⟨t27, e28, rfl, y29⟩
  ·
    refine am_goX 5 (show 3 < 5 ∧ 4 < 5 ∧ (0 = 0 → pz_S 5 (some .boolean) am_r74 d Q 62 [(4, .int (Int32.ofInt 0)), (3, .int 0), (0, .ref 4), (1, .ref 14), (2, .int dep)] [] h23) ∧ (¬ (0 = 0) → pz_S 5 (some .boolean) am_r74 d Q 14 [(4, .int (Int32.ofInt 0)), (3, .int 0), (0, .ref 4), (1, .ref 14), (2, .int dep)] [] h23) from ⟨by decide, by decide, fun _ => ?_, fun hz => absurd (by decide) hz⟩)
    exact am_goX 2 (show (∃ ty, (some .boolean) = some ty ∧ narrow ty (.int (0)) = .int (0)) ∧ h23.2.2.2.2 = 175 ∧ _ from ⟨⟨.boolean, rfl, rfl⟩, ex_175 y29.1, hQ _ _ (cres_inl (F := F26) (by simp only [sp_p, sp_b, sp_f, cond_true, cond_false, e28]) rfl y29)⟩)
  ·
    refine am_goX 3 (show 3 < 5 ∧ 4 < 5 ∧ pz_S 5 (some .boolean) am_r74 d Q 10 [(4, .int (Int32.ofInt 0)), (3, .int 1), (0, .ref 4), (1, .ref 14), (2, .int dep)] [] h23 from ⟨by decide, by decide, ?_⟩)
    have h7 := hok _ _ e28
    unfold sp_le at h7
    exact c_74l_6 hd ks hok 1001 0 t27 h23 Q (by omega) (by omega) y29 (fun v h1 q => hQ v h1 (by unfold sp_p; rw [e28]; exact q))
theorem c_73l_6 (hd : 6 ≤ d) (ks : lw_c h0 6 T sz d 74 dep (sp_p (tt T sz) p)) (hok : sp_ok (sp_p (tt T sz) p)) : ∀ (m i : Nat) (s : sp_S) (h : am_H) (Q : am_Q) (y5 : Int32), sz < s.1 + m → i + 1 ≤ s.1 → cr h0 6 T sz s h → (∀ v h1, cres h0 6 T sz (sp_sL (tt T sz) p m s) v h1 → Q v h1) → pz_S 6 (some .boolean) am_r73 d Q 10 [(4, .int (nI i)), (3, .int 1), (5, .int y5), (0, .ref 4), (1, .ref 14), (2, .int dep)] [] h := by
  intro m
  induction m with
  | zero =>
    intro i s h Q y5 hm hi l hQ
    have := (cr_a l).1
    omega
  | succ m ih =>
    intro i s h Q y5 hm hi l hQ
    have ha := cr_a l
    refine am_goX 2 (show (1 = 0 → pz_S 6 (some .boolean) am_r73 d Q 92 [(4, .int (nI i)), (3, .int 1), (5, .int y5), (0, .ref 4), (1, .ref 14), (2, .int dep)] [] h) ∧ (¬ (1 = 0) → pz_S 6 (some .boolean) am_r73 d Q 14 [(4, .int (nI i)), (3, .int 1), (5, .int y5), (0, .ref 4), (1, .ref 14), (2, .int dep)] [] h) from ⟨fun hz => absurd hz (by decide), fun _ => ?_⟩)
    refine am_goX 3 (show ((Int16.ofInt 1000).toInt32 ≤ (nI i) → pz_S 6 (some .boolean) am_r73 d Q 92 [(4, .int (nI i)), (3, .int 1), (5, .int y5), (0, .ref 4), (1, .ref 14), (2, .int dep)] [] h) ∧ (¬ ((Int16.ofInt 1000).toInt32 ≤ (nI i)) → pz_S 6 (some .boolean) am_r73 d Q 22 [(4, .int (nI i)), (3, .int 1), (5, .int y5), (0, .ref 4), (1, .ref 14), (2, .int dep)] [] h) from ⟨fun hz => absurd hz (i1000 (by omega)), fun _ => ?_⟩)
    refine am_goX 2 (show am_sh h 4 = some (4, 0) ∧ pz_S 6 (some .boolean) am_r73 d Q 26 [(4, .int (nI i)), (3, .int 1), (5, .int y5), (0, .ref 4), (1, .ref 14), (2, .int dep)] [am_rf (h.2.2.1 4 0)] h from ⟨ex_4 (c_P l.1), ?_⟩)
    rw [ex_r4_0 (c_P l.1)]
    refine am_goX 2 (show am_rc h 1 7 ∧ 0 ≤ 8 ∧ h.2.2.2.2 + am_al 62 ≤ 175 ∧ am_call am_cod d 62 [.ref 1, .int (Int8.ofInt 43).toInt32] h (fun vv h' => pz_S 6 (some .boolean) am_r73 d Q 31 [(4, .int (nI i)), (3, .int 1), (5, .int y5), (0, .ref 4), (1, .ref 14), (2, .int dep)] (vv.toList ++ []) h') from ⟨Or.inl ⟨by decide, ex_1 (c_P l.1)⟩, by decide, ex_lim (c_P l.1) rfl, am_call.up (c_iss l.1 ?_) (by omega)⟩)
    cases e30 : sp_s (tt T sz) s.1 (Int8.ofInt 43).toInt32 with
    | true =>
      refine am_goX 1 (show ((pz_b (true)) = 0 → pz_S 6 (some .boolean) am_r73 d Q 39 [(4, .int (nI i)), (3, .int 1), (5, .int y5), (0, .ref 4), (1, .ref 14), (2, .int dep)] [] h) ∧ (¬ ((pz_b (true)) = 0) → pz_S 6 (some .boolean) am_r73 d Q 34 [(4, .int (nI i)), (3, .int 1), (5, .int y5), (0, .ref 4), (1, .ref 14), (2, .int dep)] [] h) from ⟨fun hz => absurd hz (by decide), fun _ => ?_⟩)
      refine am_goX 5 (show 5 < 6 ∧ (¬ (Int8.ofInt (-10)).toInt32 = 0 → pz_S 6 (some .boolean) am_r73 d Q 66 [(5, .int (Int8.ofInt (-10)).toInt32), (4, .int (nI i)), (3, .int 1), (0, .ref 4), (1, .ref 14), (2, .int dep)] [] h) ∧ (¬ ¬ (Int8.ofInt (-10)).toInt32 = 0 → pz_S 6 (some .boolean) am_r73 d Q 64 [(5, .int (Int8.ofInt (-10)).toInt32), (4, .int (nI i)), (3, .int 1), (0, .ref 4), (1, .ref 14), (2, .int dep)] [] h) from ⟨by decide, fun _ => ?_, fun hz => absurd (by decide) hz⟩)
      refine am_goX 2 (show am_sh h 4 = some (4, 0) ∧ pz_S 6 (some .boolean) am_r73 d Q 70 [(5, .int (Int8.ofInt (-10)).toInt32), (4, .int (nI i)), (3, .int 1), (0, .ref 4), (1, .ref 14), (2, .int dep)] [am_rf (h.2.2.1 4 0)] h from ⟨ex_4 (c_P l.1), ?_⟩)
      rw [ex_r4_0 (c_P l.1)]
      refine am_goX 1 (show am_rc h 1 7 ∧ 0 ≤ 8 ∧ h.2.2.2.2 + am_al 18 ≤ 175 ∧ am_call am_cod d 18 [.ref 1] h (fun vv h' => pz_S 6 (some .boolean) am_r73 d Q 73 [(5, .int (Int8.ofInt (-10)).toInt32), (4, .int (nI i)), (3, .int 1), (0, .ref 4), (1, .ref 14), (2, .int dep)] (vv.toList ++ []) h') from ⟨Or.inl ⟨by decide, ex_1 (c_P l.1)⟩, by decide, ex_lim (c_P l.1) rfl, am_call.up (c_step l.1 (sp_sn e30) (fun h31 m32 f33 => ?_)) (by omega)⟩)
      have l34 : cr h0 6 T sz ((s.1 + 1), s.2) h31 := cr_fr (a := s.1) (C := s.2) (by decide) l m32 (Nat.le_succ _) f33
      refine am_goX 4 (show am_rc h31 4 4 ∧ 0 ≤ 8 ∧ h31.2.2.2.2 + am_al 74 ≤ 175 ∧ am_call am_cod d 74 [.ref 4, .ref 14, .int dep] h31 (fun vv h' => pz_S 6 (some .boolean) am_r73 d Q 79 [(5, .int (Int8.ofInt (-10)).toInt32), (4, .int (nI i)), (3, .int 1), (0, .ref 4), (1, .ref 14), (2, .int dep)] (vv.toList ++ []) h') from ⟨Or.inl ⟨by decide, ex_4 (c_P l34.1)⟩, by decide, ex_lim (c_P l34.1) rfl, ks _ _ _ l34 (fun v35 h36 x37 => ?_)⟩)
      rcases cres_cs x37 with ⟨F39, e41, rfl, y42⟩ | ⟨t40, e41, rfl, y42⟩
      ·
        refine am_goX 4 (show 3 < 6 ∧ am_rc h36 14 3 ∧ 0 ≤ 8 ∧ h36.2.2.2.2 + am_al 77 ≤ 175 ∧ am_call am_cod d 77 [.ref 14, .int (Int8.ofInt (-10)).toInt32] h36 (fun vv h' => pz_S 6 (some .boolean) am_r73 d Q 86 [(3, .int 0), (5, .int (Int8.ofInt (-10)).toInt32), (4, .int (nI i)), (0, .ref 4), (1, .ref 14), (2, .int dep)] (vv.toList ++ []) h') from ⟨by decide, Or.inl ⟨by decide, ex_14 y42.1⟩, by decide, ex_lim y42.1 rfl, am_call.up (c_addx_6 y42 (fun h43 y44 => ?_)) (by omega)⟩)
        refine am_goX 4 (show 4 < 6 ∧ (0 = 0 → pz_S 6 (some .boolean) am_r73 d Q 92 [(4, .int ((nI i) + Int32.ofInt 1)), (3, .int 0), (5, .int (Int8.ofInt (-10)).toInt32), (0, .ref 4), (1, .ref 14), (2, .int dep)] [] h43) ∧ (¬ (0 = 0) → pz_S 6 (some .boolean) am_r73 d Q 14 [(4, .int ((nI i) + Int32.ofInt 1)), (3, .int 0), (5, .int (Int8.ofInt (-10)).toInt32), (0, .ref 4), (1, .ref 14), (2, .int dep)] [] h43) from ⟨by decide, fun _ => ?_, fun hz => absurd (by decide) hz⟩)
        exact am_goX 2 (show (∃ ty, (some .boolean) = some ty ∧ narrow ty (.int (0)) = .int (0)) ∧ h43.2.2.2.2 = 175 ∧ _ from ⟨⟨.boolean, rfl, rfl⟩, ex_175 y44.1, hQ _ _ (cres_inl (F := F39) (by simp only [sp_sL, sp_b, sp_f, cond_true, cond_false, e30, e41]) rfl y44)⟩)
      ·
        refine am_goX 4 (show 3 < 6 ∧ am_rc h36 14 3 ∧ 0 ≤ 8 ∧ h36.2.2.2.2 + am_al 77 ≤ 175 ∧ am_call am_cod d 77 [.ref 14, .int (Int8.ofInt (-10)).toInt32] h36 (fun vv h' => pz_S 6 (some .boolean) am_r73 d Q 86 [(3, .int 1), (5, .int (Int8.ofInt (-10)).toInt32), (4, .int (nI i)), (0, .ref 4), (1, .ref 14), (2, .int dep)] (vv.toList ++ []) h') from ⟨by decide, Or.inl ⟨by decide, ex_14 (c_P y42.1)⟩, by decide, ex_lim (c_P y42.1) rfl, am_call.up (c_add_6 (a := t40.1) (C := t40.2) y42 (by
            have h7 := hok _ _ e41
            have h8 := l.2.2.2
            unfold sp_le at h7
            dsimp only at h7
            omega) (fun h45 l46 => ?_)) (by omega)⟩)
        refine am_goX 2 (show 4 < 6 ∧ pz_S 6 (some .boolean) am_r73 d Q 10 [(4, .int ((nI i) + Int32.ofInt 1)), (3, .int 1), (5, .int (Int8.ofInt (-10)).toInt32), (0, .ref 4), (1, .ref 14), (2, .int dep)] [] h45 from ⟨by decide, ?_⟩)
        rw [xw_i1]
        have hx : sp_sL (tt T sz) p (m + 1) s = sp_sL (tt T sz) p m (t40.1, sp_em t40.2 ((Int8.ofInt (-10)).toInt32)) := by simp only [sp_sL, sp_b, cond_true, cond_false, e30, e41]
        have h7 := hok _ _ e41
        unfold sp_le at h7
        dsimp only at h7
        exact ih (i + 1) (t40.1, sp_em t40.2 ((Int8.ofInt (-10)).toInt32)) h45 Q ((Int8.ofInt (-10)).toInt32) (by dsimp only; omega) (by dsimp only; omega) l46 (fun v h1 q => hQ v h1 (by rw [hx]; exact q))
    | false =>
      refine am_goX 1 (show ((pz_b (false)) = 0 → pz_S 6 (some .boolean) am_r73 d Q 39 [(4, .int (nI i)), (3, .int 1), (5, .int y5), (0, .ref 4), (1, .ref 14), (2, .int dep)] [] h) ∧ (¬ ((pz_b (false)) = 0) → pz_S 6 (some .boolean) am_r73 d Q 34 [(4, .int (nI i)), (3, .int 1), (5, .int y5), (0, .ref 4), (1, .ref 14), (2, .int dep)] [] h) from ⟨fun _ => ?_, fun hz => absurd (by decide) hz⟩)
      refine am_goX 2 (show am_sh h 4 = some (4, 0) ∧ pz_S 6 (some .boolean) am_r73 d Q 43 [(4, .int (nI i)), (3, .int 1), (5, .int y5), (0, .ref 4), (1, .ref 14), (2, .int dep)] [am_rf (h.2.2.1 4 0)] h from ⟨ex_4 (c_P l.1), ?_⟩)
      rw [ex_r4_0 (c_P l.1)]
      refine am_goX 2 (show am_rc h 1 7 ∧ 0 ≤ 8 ∧ h.2.2.2.2 + am_al 62 ≤ 175 ∧ am_call am_cod d 62 [.ref 1, .int (Int8.ofInt 45).toInt32] h (fun vv h' => pz_S 6 (some .boolean) am_r73 d Q 48 [(4, .int (nI i)), (3, .int 1), (5, .int y5), (0, .ref 4), (1, .ref 14), (2, .int dep)] (vv.toList ++ []) h') from ⟨Or.inl ⟨by decide, ex_1 (c_P l.1)⟩, by decide, ex_lim (c_P l.1) rfl, am_call.up (c_iss l.1 ?_) (by omega)⟩)
      cases e47 : sp_s (tt T sz) s.1 (Int8.ofInt 45).toInt32 with
      | true =>
        refine am_goX 1 (show ((pz_b (true)) = 0 → pz_S 6 (some .boolean) am_r73 d Q 56 [(4, .int (nI i)), (3, .int 1), (5, .int y5), (0, .ref 4), (1, .ref 14), (2, .int dep)] [] h) ∧ (¬ ((pz_b (true)) = 0) → pz_S 6 (some .boolean) am_r73 d Q 51 [(4, .int (nI i)), (3, .int 1), (5, .int y5), (0, .ref 4), (1, .ref 14), (2, .int dep)] [] h) from ⟨fun hz => absurd hz (by decide), fun _ => ?_⟩)
        refine am_goX 5 (show 5 < 6 ∧ (¬ (Int8.ofInt (-11)).toInt32 = 0 → pz_S 6 (some .boolean) am_r73 d Q 66 [(5, .int (Int8.ofInt (-11)).toInt32), (4, .int (nI i)), (3, .int 1), (0, .ref 4), (1, .ref 14), (2, .int dep)] [] h) ∧ (¬ ¬ (Int8.ofInt (-11)).toInt32 = 0 → pz_S 6 (some .boolean) am_r73 d Q 64 [(5, .int (Int8.ofInt (-11)).toInt32), (4, .int (nI i)), (3, .int 1), (0, .ref 4), (1, .ref 14), (2, .int dep)] [] h) from ⟨by decide, fun _ => ?_, fun hz => absurd (by decide) hz⟩)
        refine am_goX 2 (show am_sh h 4 = some (4, 0) ∧ pz_S 6 (some .boolean) am_r73 d Q 70 [(5, .int (Int8.ofInt (-11)).toInt32), (4, .int (nI i)), (3, .int 1), (0, .ref 4), (1, .ref 14), (2, .int dep)] [am_rf (h.2.2.1 4 0)] h from ⟨ex_4 (c_P l.1), ?_⟩)
        rw [ex_r4_0 (c_P l.1)]
        refine am_goX 1 (show am_rc h 1 7 ∧ 0 ≤ 8 ∧ h.2.2.2.2 + am_al 18 ≤ 175 ∧ am_call am_cod d 18 [.ref 1] h (fun vv h' => pz_S 6 (some .boolean) am_r73 d Q 73 [(5, .int (Int8.ofInt (-11)).toInt32), (4, .int (nI i)), (3, .int 1), (0, .ref 4), (1, .ref 14), (2, .int dep)] (vv.toList ++ []) h') from ⟨Or.inl ⟨by decide, ex_1 (c_P l.1)⟩, by decide, ex_lim (c_P l.1) rfl, am_call.up (c_step l.1 (sp_sn e47) (fun h48 m49 f50 => ?_)) (by omega)⟩)
        have l51 : cr h0 6 T sz ((s.1 + 1), s.2) h48 := cr_fr (a := s.1) (C := s.2) (by decide) l m49 (Nat.le_succ _) f50
        refine am_goX 4 (show am_rc h48 4 4 ∧ 0 ≤ 8 ∧ h48.2.2.2.2 + am_al 74 ≤ 175 ∧ am_call am_cod d 74 [.ref 4, .ref 14, .int dep] h48 (fun vv h' => pz_S 6 (some .boolean) am_r73 d Q 79 [(5, .int (Int8.ofInt (-11)).toInt32), (4, .int (nI i)), (3, .int 1), (0, .ref 4), (1, .ref 14), (2, .int dep)] (vv.toList ++ []) h') from ⟨Or.inl ⟨by decide, ex_4 (c_P l51.1)⟩, by decide, ex_lim (c_P l51.1) rfl, ks _ _ _ l51 (fun v52 h53 x54 => ?_)⟩)
        rcases cres_cs x54 with ⟨F56, e58, rfl, y59⟩ | ⟨t57, e58, rfl, y59⟩
        ·
          refine am_goX 4 (show 3 < 6 ∧ am_rc h53 14 3 ∧ 0 ≤ 8 ∧ h53.2.2.2.2 + am_al 77 ≤ 175 ∧ am_call am_cod d 77 [.ref 14, .int (Int8.ofInt (-11)).toInt32] h53 (fun vv h' => pz_S 6 (some .boolean) am_r73 d Q 86 [(3, .int 0), (5, .int (Int8.ofInt (-11)).toInt32), (4, .int (nI i)), (0, .ref 4), (1, .ref 14), (2, .int dep)] (vv.toList ++ []) h') from ⟨by decide, Or.inl ⟨by decide, ex_14 y59.1⟩, by decide, ex_lim y59.1 rfl, am_call.up (c_addx_6 y59 (fun h60 y61 => ?_)) (by omega)⟩)
          refine am_goX 4 (show 4 < 6 ∧ (0 = 0 → pz_S 6 (some .boolean) am_r73 d Q 92 [(4, .int ((nI i) + Int32.ofInt 1)), (3, .int 0), (5, .int (Int8.ofInt (-11)).toInt32), (0, .ref 4), (1, .ref 14), (2, .int dep)] [] h60) ∧ (¬ (0 = 0) → pz_S 6 (some .boolean) am_r73 d Q 14 [(4, .int ((nI i) + Int32.ofInt 1)), (3, .int 0), (5, .int (Int8.ofInt (-11)).toInt32), (0, .ref 4), (1, .ref 14), (2, .int dep)] [] h60) from ⟨by decide, fun _ => ?_, fun hz => absurd (by decide) hz⟩)
          exact am_goX 2 (show (∃ ty, (some .boolean) = some ty ∧ narrow ty (.int (0)) = .int (0)) ∧ h60.2.2.2.2 = 175 ∧ _ from ⟨⟨.boolean, rfl, rfl⟩, ex_175 y61.1, hQ _ _ (cres_inl (F := F56) (by simp only [sp_sL, sp_b, sp_f, cond_true, cond_false, e30, e47, e58]) rfl y61)⟩)
        ·
          refine am_goX 4 (show 3 < 6 ∧ am_rc h53 14 3 ∧ 0 ≤ 8 ∧ h53.2.2.2.2 + am_al 77 ≤ 175 ∧ am_call am_cod d 77 [.ref 14, .int (Int8.ofInt (-11)).toInt32] h53 (fun vv h' => pz_S 6 (some .boolean) am_r73 d Q 86 [(3, .int 1), (5, .int (Int8.ofInt (-11)).toInt32), (4, .int (nI i)), (0, .ref 4), (1, .ref 14), (2, .int dep)] (vv.toList ++ []) h') from ⟨by decide, Or.inl ⟨by decide, ex_14 (c_P y59.1)⟩, by decide, ex_lim (c_P y59.1) rfl, am_call.up (c_add_6 (a := t57.1) (C := t57.2) y59 (by
              have h7 := hok _ _ e58
              have h8 := l.2.2.2
              unfold sp_le at h7
              dsimp only at h7
              omega) (fun h62 l63 => ?_)) (by omega)⟩)
          refine am_goX 2 (show 4 < 6 ∧ pz_S 6 (some .boolean) am_r73 d Q 10 [(4, .int ((nI i) + Int32.ofInt 1)), (3, .int 1), (5, .int (Int8.ofInt (-11)).toInt32), (0, .ref 4), (1, .ref 14), (2, .int dep)] [] h62 from ⟨by decide, ?_⟩)
          rw [xw_i1]
          have hx : sp_sL (tt T sz) p (m + 1) s = sp_sL (tt T sz) p m (t57.1, sp_em t57.2 ((Int8.ofInt (-11)).toInt32)) := by simp only [sp_sL, sp_b, cond_true, cond_false, e30, e47, e58]
          have h7 := hok _ _ e58
          unfold sp_le at h7
          dsimp only at h7
          exact ih (i + 1) (t57.1, sp_em t57.2 ((Int8.ofInt (-11)).toInt32)) h62 Q ((Int8.ofInt (-11)).toInt32) (by dsimp only; omega) (by dsimp only; omega) l63 (fun v h1 q => hQ v h1 (by rw [hx]; exact q))
      | false =>
        refine am_goX 1 (show ((pz_b (false)) = 0 → pz_S 6 (some .boolean) am_r73 d Q 56 [(4, .int (nI i)), (3, .int 1), (5, .int y5), (0, .ref 4), (1, .ref 14), (2, .int dep)] [] h) ∧ (¬ ((pz_b (false)) = 0) → pz_S 6 (some .boolean) am_r73 d Q 51 [(4, .int (nI i)), (3, .int 1), (5, .int y5), (0, .ref 4), (1, .ref 14), (2, .int dep)] [] h) from ⟨fun _ => ?_, fun hz => absurd (by decide) hz⟩)
        refine am_goX 4 (show 5 < 6 ∧ (¬ (Int32.ofInt 0) = 0 → pz_S 6 (some .boolean) am_r73 d Q 66 [(5, .int (Int32.ofInt 0)), (4, .int (nI i)), (3, .int 1), (0, .ref 4), (1, .ref 14), (2, .int dep)] [] h) ∧ (¬ ¬ (Int32.ofInt 0) = 0 → pz_S 6 (some .boolean) am_r73 d Q 64 [(5, .int (Int32.ofInt 0)), (4, .int (nI i)), (3, .int 1), (0, .ref 4), (1, .ref 14), (2, .int dep)] [] h) from ⟨by decide, fun hz => absurd hz (by decide), fun _ => ?_⟩)
        exact am_goX 2 (show (∃ ty, (some .boolean) = some ty ∧ narrow ty (.int ((Int32.ofInt 1))) = .int ((Int32.ofInt 1))) ∧ h.2.2.2.2 = 175 ∧ _ from ⟨⟨.boolean, rfl, rfl⟩, ex_175 (c_P l.1), hQ _ _ (cres_inr (s' := s) (by simp only [sp_sL, sp_b, sp_f, cond_true, cond_false, e30, e47]) rfl l)⟩)
theorem c_73_6 (hd : 6 ≤ d) (ks : lw_c h0 6 T sz d 74 dep (sp_p (tt T sz) p)) (hok : sp_ok (sp_p (tt T sz) p)) : lw_c h0 6 T sz (d + 1) 73 dep (sp_su (tt T sz) p) := by
  intro s h Q l hQ
  have hP := c_P l.1
  have ha := cr_a l
  refine pz_call (n := 73) (nL := 6) (rt := (some .boolean)) (rows := am_r73) (d := d) (by decide +kernel) (by decide +kernel) rfl (by funext pc; rfl) (ex_175 hP) (by exact Nat.le_of_ble_eq_true rfl) ?_
  refine am_goX 4 (show am_rc h 4 4 ∧ 0 ≤ 8 ∧ h.2.2.2.2 + am_al 74 ≤ 175 ∧ am_call am_cod d 74 [.ref 4, .ref 14, .int dep] h (fun vv h' => pz_S 6 (some .boolean) am_r73 d Q 6 [(0, .ref 4), (1, .ref 14), (2, .int dep)] (vv.toList ++ []) h') from ⟨Or.inl ⟨by decide, ex_4 (c_P l.1)⟩, by decide, ex_lim (c_P l.1) rfl, ks _ _ _ l (fun v64 h65 x66 => ?_)⟩)
  rcases cres_cs x66 with ⟨F68, e70, rfl, y71⟩ | ⟨t69, e70, rfl, y71⟩
  ·
    refine am_goX 5 (show 3 < 6 ∧ 4 < 6 ∧ (0 = 0 → pz_S 6 (some .boolean) am_r73 d Q 92 [(4, .int (Int32.ofInt 0)), (3, .int 0), (0, .ref 4), (1, .ref 14), (2, .int dep)] [] h65) ∧ (¬ (0 = 0) → pz_S 6 (some .boolean) am_r73 d Q 14 [(4, .int (Int32.ofInt 0)), (3, .int 0), (0, .ref 4), (1, .ref 14), (2, .int dep)] [] h65) from ⟨by decide, by decide, fun _ => ?_, fun hz => absurd (by decide) hz⟩)
    exact am_goX 2 (show (∃ ty, (some .boolean) = some ty ∧ narrow ty (.int (0)) = .int (0)) ∧ h65.2.2.2.2 = 175 ∧ _ from ⟨⟨.boolean, rfl, rfl⟩, ex_175 y71.1, hQ _ _ (cres_inl (F := F68) (by simp only [sp_su, sp_b, sp_f, cond_true, cond_false, e70]) rfl y71)⟩)
  ·
    refine am_goX 3 (show 3 < 6 ∧ 4 < 6 ∧ pz_S 6 (some .boolean) am_r73 d Q 10 [(4, .int (Int32.ofInt 0)), (3, .int 1), (0, .ref 4), (1, .ref 14), (2, .int dep)] [] h65 from ⟨by decide, by decide, ?_⟩)
    have h7 := hok _ _ e70
    unfold sp_le at h7
    have ha := cr_a y71
    have h8 := l.2.2.2
    refine am_goX 2 (show (1 = 0 → pz_S 6 (some .boolean) am_r73 d Q 92 [(4, .int (nI 0)), (3, .int 1), (0, .ref 4), (1, .ref 14), (2, .int dep)] [] h65) ∧ (¬ (1 = 0) → pz_S 6 (some .boolean) am_r73 d Q 14 [(4, .int (nI 0)), (3, .int 1), (0, .ref 4), (1, .ref 14), (2, .int dep)] [] h65) from ⟨fun hz => absurd hz (by decide), fun _ => ?_⟩)
    refine am_goX 3 (show ((Int16.ofInt 1000).toInt32 ≤ (nI 0) → pz_S 6 (some .boolean) am_r73 d Q 92 [(4, .int (nI 0)), (3, .int 1), (0, .ref 4), (1, .ref 14), (2, .int dep)] [] h65) ∧ (¬ ((Int16.ofInt 1000).toInt32 ≤ (nI 0)) → pz_S 6 (some .boolean) am_r73 d Q 22 [(4, .int (nI 0)), (3, .int 1), (0, .ref 4), (1, .ref 14), (2, .int dep)] [] h65) from ⟨fun hz => absurd hz (i1000 (by omega)), fun _ => ?_⟩)
    refine am_goX 2 (show am_sh h65 4 = some (4, 0) ∧ pz_S 6 (some .boolean) am_r73 d Q 26 [(4, .int (nI 0)), (3, .int 1), (0, .ref 4), (1, .ref 14), (2, .int dep)] [am_rf (h65.2.2.1 4 0)] h65 from ⟨ex_4 (c_P y71.1), ?_⟩)
    rw [ex_r4_0 (c_P y71.1)]
    refine am_goX 2 (show am_rc h65 1 7 ∧ 0 ≤ 8 ∧ h65.2.2.2.2 + am_al 62 ≤ 175 ∧ am_call am_cod d 62 [.ref 1, .int (Int8.ofInt 43).toInt32] h65 (fun vv h' => pz_S 6 (some .boolean) am_r73 d Q 31 [(4, .int (nI 0)), (3, .int 1), (0, .ref 4), (1, .ref 14), (2, .int dep)] (vv.toList ++ []) h') from ⟨Or.inl ⟨by decide, ex_1 (c_P y71.1)⟩, by decide, ex_lim (c_P y71.1) rfl, am_call.up (c_iss y71.1 ?_) (by omega)⟩)
    cases e72 : sp_s (tt T sz) t69.1 (Int8.ofInt 43).toInt32 with
    | true =>
      refine am_goX 1 (show ((pz_b (true)) = 0 → pz_S 6 (some .boolean) am_r73 d Q 39 [(4, .int (nI 0)), (3, .int 1), (0, .ref 4), (1, .ref 14), (2, .int dep)] [] h65) ∧ (¬ ((pz_b (true)) = 0) → pz_S 6 (some .boolean) am_r73 d Q 34 [(4, .int (nI 0)), (3, .int 1), (0, .ref 4), (1, .ref 14), (2, .int dep)] [] h65) from ⟨fun hz => absurd hz (by decide), fun _ => ?_⟩)
      refine am_goX 5 (show 5 < 6 ∧ (¬ (Int8.ofInt (-10)).toInt32 = 0 → pz_S 6 (some .boolean) am_r73 d Q 66 [(5, .int (Int8.ofInt (-10)).toInt32), (4, .int (nI 0)), (3, .int 1), (0, .ref 4), (1, .ref 14), (2, .int dep)] [] h65) ∧ (¬ ¬ (Int8.ofInt (-10)).toInt32 = 0 → pz_S 6 (some .boolean) am_r73 d Q 64 [(5, .int (Int8.ofInt (-10)).toInt32), (4, .int (nI 0)), (3, .int 1), (0, .ref 4), (1, .ref 14), (2, .int dep)] [] h65) from ⟨by decide, fun _ => ?_, fun hz => absurd (by decide) hz⟩)
      refine am_goX 2 (show am_sh h65 4 = some (4, 0) ∧ pz_S 6 (some .boolean) am_r73 d Q 70 [(5, .int (Int8.ofInt (-10)).toInt32), (4, .int (nI 0)), (3, .int 1), (0, .ref 4), (1, .ref 14), (2, .int dep)] [am_rf (h65.2.2.1 4 0)] h65 from ⟨ex_4 (c_P y71.1), ?_⟩)
      rw [ex_r4_0 (c_P y71.1)]
      refine am_goX 1 (show am_rc h65 1 7 ∧ 0 ≤ 8 ∧ h65.2.2.2.2 + am_al 18 ≤ 175 ∧ am_call am_cod d 18 [.ref 1] h65 (fun vv h' => pz_S 6 (some .boolean) am_r73 d Q 73 [(5, .int (Int8.ofInt (-10)).toInt32), (4, .int (nI 0)), (3, .int 1), (0, .ref 4), (1, .ref 14), (2, .int dep)] (vv.toList ++ []) h') from ⟨Or.inl ⟨by decide, ex_1 (c_P y71.1)⟩, by decide, ex_lim (c_P y71.1) rfl, am_call.up (c_step y71.1 (sp_sn e72) (fun h73 m74 f75 => ?_)) (by omega)⟩)
      have l76 : cr h0 6 T sz ((t69.1 + 1), t69.2) h73 := cr_fr (a := t69.1) (C := t69.2) (by decide) y71 m74 (Nat.le_succ _) f75
      refine am_goX 4 (show am_rc h73 4 4 ∧ 0 ≤ 8 ∧ h73.2.2.2.2 + am_al 74 ≤ 175 ∧ am_call am_cod d 74 [.ref 4, .ref 14, .int dep] h73 (fun vv h' => pz_S 6 (some .boolean) am_r73 d Q 79 [(5, .int (Int8.ofInt (-10)).toInt32), (4, .int (nI 0)), (3, .int 1), (0, .ref 4), (1, .ref 14), (2, .int dep)] (vv.toList ++ []) h') from ⟨Or.inl ⟨by decide, ex_4 (c_P l76.1)⟩, by decide, ex_lim (c_P l76.1) rfl, ks _ _ _ l76 (fun v77 h78 x79 => ?_)⟩)
      rcases cres_cs x79 with ⟨F81, e83, rfl, y84⟩ | ⟨t82, e83, rfl, y84⟩
      ·
        refine am_goX 4 (show 3 < 6 ∧ am_rc h78 14 3 ∧ 0 ≤ 8 ∧ h78.2.2.2.2 + am_al 77 ≤ 175 ∧ am_call am_cod d 77 [.ref 14, .int (Int8.ofInt (-10)).toInt32] h78 (fun vv h' => pz_S 6 (some .boolean) am_r73 d Q 86 [(3, .int 0), (5, .int (Int8.ofInt (-10)).toInt32), (4, .int (nI 0)), (0, .ref 4), (1, .ref 14), (2, .int dep)] (vv.toList ++ []) h') from ⟨by decide, Or.inl ⟨by decide, ex_14 y84.1⟩, by decide, ex_lim y84.1 rfl, am_call.up (c_addx_6 y84 (fun h85 y86 => ?_)) (by omega)⟩)
        refine am_goX 4 (show 4 < 6 ∧ (0 = 0 → pz_S 6 (some .boolean) am_r73 d Q 92 [(4, .int ((nI 0) + Int32.ofInt 1)), (3, .int 0), (5, .int (Int8.ofInt (-10)).toInt32), (0, .ref 4), (1, .ref 14), (2, .int dep)] [] h85) ∧ (¬ (0 = 0) → pz_S 6 (some .boolean) am_r73 d Q 14 [(4, .int ((nI 0) + Int32.ofInt 1)), (3, .int 0), (5, .int (Int8.ofInt (-10)).toInt32), (0, .ref 4), (1, .ref 14), (2, .int dep)] [] h85) from ⟨by decide, fun _ => ?_, fun hz => absurd (by decide) hz⟩)
        exact am_goX 2 (show (∃ ty, (some .boolean) = some ty ∧ narrow ty (.int (0)) = .int (0)) ∧ h85.2.2.2.2 = 175 ∧ _ from ⟨⟨.boolean, rfl, rfl⟩, ex_175 y86.1, hQ _ _ (cres_inl (F := F81) (by simp only [sp_su, sp_sL_1, sp_b, sp_f, cond_true, cond_false, e70, e72, e83]) rfl y86)⟩)
      ·
        refine am_goX 4 (show 3 < 6 ∧ am_rc h78 14 3 ∧ 0 ≤ 8 ∧ h78.2.2.2.2 + am_al 77 ≤ 175 ∧ am_call am_cod d 77 [.ref 14, .int (Int8.ofInt (-10)).toInt32] h78 (fun vv h' => pz_S 6 (some .boolean) am_r73 d Q 86 [(3, .int 1), (5, .int (Int8.ofInt (-10)).toInt32), (4, .int (nI 0)), (0, .ref 4), (1, .ref 14), (2, .int dep)] (vv.toList ++ []) h') from ⟨by decide, Or.inl ⟨by decide, ex_14 (c_P y84.1)⟩, by decide, ex_lim (c_P y84.1) rfl, am_call.up (c_add_6 (a := t82.1) (C := t82.2) y84 (by
            have h7 := hok _ _ e83
            have h8 := y71.2.2.2
            unfold sp_le at h7
            dsimp only at h7
            omega) (fun h87 l88 => ?_)) (by omega)⟩)
        refine am_goX 2 (show 4 < 6 ∧ pz_S 6 (some .boolean) am_r73 d Q 10 [(4, .int ((nI 0) + Int32.ofInt 1)), (3, .int 1), (5, .int (Int8.ofInt (-10)).toInt32), (0, .ref 4), (1, .ref 14), (2, .int dep)] [] h87 from ⟨by decide, ?_⟩)
        rw [xw_i1]
        have hx : sp_sL (tt T sz) p 1001 t69 = sp_sL (tt T sz) p 1000 (t82.1, sp_em t82.2 ((Int8.ofInt (-10)).toInt32)) := by simp only [sp_sL_1, sp_b, cond_true, cond_false, e70, e72, e83]
        have h7 := hok _ _ e83
        unfold sp_le at h7
        dsimp only at h7
        exact c_73l_6 hd ks hok 1000 (0 + 1) (t82.1, sp_em t82.2 ((Int8.ofInt (-10)).toInt32)) h87 Q ((Int8.ofInt (-10)).toInt32) (by dsimp only; omega) (by dsimp only; omega) l88 (fun v h1 q => hQ v h1 (by unfold sp_su; rw [e70]; show cres _ _ _ _ (sp_sL (tt T sz) p 1001 t69) _ _; rw [hx]; exact q))
    | false =>
      refine am_goX 1 (show ((pz_b (false)) = 0 → pz_S 6 (some .boolean) am_r73 d Q 39 [(4, .int (nI 0)), (3, .int 1), (0, .ref 4), (1, .ref 14), (2, .int dep)] [] h65) ∧ (¬ ((pz_b (false)) = 0) → pz_S 6 (some .boolean) am_r73 d Q 34 [(4, .int (nI 0)), (3, .int 1), (0, .ref 4), (1, .ref 14), (2, .int dep)] [] h65) from ⟨fun _ => ?_, fun hz => absurd (by decide) hz⟩)
      refine am_goX 2 (show am_sh h65 4 = some (4, 0) ∧ pz_S 6 (some .boolean) am_r73 d Q 43 [(4, .int (nI 0)), (3, .int 1), (0, .ref 4), (1, .ref 14), (2, .int dep)] [am_rf (h65.2.2.1 4 0)] h65 from ⟨ex_4 (c_P y71.1), ?_⟩)
      rw [ex_r4_0 (c_P y71.1)]
      refine am_goX 2 (show am_rc h65 1 7 ∧ 0 ≤ 8 ∧ h65.2.2.2.2 + am_al 62 ≤ 175 ∧ am_call am_cod d 62 [.ref 1, .int (Int8.ofInt 45).toInt32] h65 (fun vv h' => pz_S 6 (some .boolean) am_r73 d Q 48 [(4, .int (nI 0)), (3, .int 1), (0, .ref 4), (1, .ref 14), (2, .int dep)] (vv.toList ++ []) h') from ⟨Or.inl ⟨by decide, ex_1 (c_P y71.1)⟩, by decide, ex_lim (c_P y71.1) rfl, am_call.up (c_iss y71.1 ?_) (by omega)⟩)
      cases e89 : sp_s (tt T sz) t69.1 (Int8.ofInt 45).toInt32 with
      | true =>
        refine am_goX 1 (show ((pz_b (true)) = 0 → pz_S 6 (some .boolean) am_r73 d Q 56 [(4, .int (nI 0)), (3, .int 1), (0, .ref 4), (1, .ref 14), (2, .int dep)] [] h65) ∧ (¬ ((pz_b (true)) = 0) → pz_S 6 (some .boolean) am_r73 d Q 51 [(4, .int (nI 0)), (3, .int 1), (0, .ref 4), (1, .ref 14), (2, .int dep)] [] h65) from ⟨fun hz => absurd hz (by decide), fun _ => ?_⟩)
        refine am_goX 5 (show 5 < 6 ∧ (¬ (Int8.ofInt (-11)).toInt32 = 0 → pz_S 6 (some .boolean) am_r73 d Q 66 [(5, .int (Int8.ofInt (-11)).toInt32), (4, .int (nI 0)), (3, .int 1), (0, .ref 4), (1, .ref 14), (2, .int dep)] [] h65) ∧ (¬ ¬ (Int8.ofInt (-11)).toInt32 = 0 → pz_S 6 (some .boolean) am_r73 d Q 64 [(5, .int (Int8.ofInt (-11)).toInt32), (4, .int (nI 0)), (3, .int 1), (0, .ref 4), (1, .ref 14), (2, .int dep)] [] h65) from ⟨by decide, fun _ => ?_, fun hz => absurd (by decide) hz⟩)
        refine am_goX 2 (show am_sh h65 4 = some (4, 0) ∧ pz_S 6 (some .boolean) am_r73 d Q 70 [(5, .int (Int8.ofInt (-11)).toInt32), (4, .int (nI 0)), (3, .int 1), (0, .ref 4), (1, .ref 14), (2, .int dep)] [am_rf (h65.2.2.1 4 0)] h65 from ⟨ex_4 (c_P y71.1), ?_⟩)
        rw [ex_r4_0 (c_P y71.1)]
        refine am_goX 1 (show am_rc h65 1 7 ∧ 0 ≤ 8 ∧ h65.2.2.2.2 + am_al 18 ≤ 175 ∧ am_call am_cod d 18 [.ref 1] h65 (fun vv h' => pz_S 6 (some .boolean) am_r73 d Q 73 [(5, .int (Int8.ofInt (-11)).toInt32), (4, .int (nI 0)), (3, .int 1), (0, .ref 4), (1, .ref 14), (2, .int dep)] (vv.toList ++ []) h') from ⟨Or.inl ⟨by decide, ex_1 (c_P y71.1)⟩, by decide, ex_lim (c_P y71.1) rfl, am_call.up (c_step y71.1 (sp_sn e89) (fun h90 m91 f92 => ?_)) (by omega)⟩)
        have l93 : cr h0 6 T sz ((t69.1 + 1), t69.2) h90 := cr_fr (a := t69.1) (C := t69.2) (by decide) y71 m91 (Nat.le_succ _) f92
        refine am_goX 4 (show am_rc h90 4 4 ∧ 0 ≤ 8 ∧ h90.2.2.2.2 + am_al 74 ≤ 175 ∧ am_call am_cod d 74 [.ref 4, .ref 14, .int dep] h90 (fun vv h' => pz_S 6 (some .boolean) am_r73 d Q 79 [(5, .int (Int8.ofInt (-11)).toInt32), (4, .int (nI 0)), (3, .int 1), (0, .ref 4), (1, .ref 14), (2, .int dep)] (vv.toList ++ []) h') from ⟨Or.inl ⟨by decide, ex_4 (c_P l93.1)⟩, by decide, ex_lim (c_P l93.1) rfl, ks _ _ _ l93 (fun v94 h95 x96 => ?_)⟩)
        rcases cres_cs x96 with ⟨F98, e100, rfl, y101⟩ | ⟨t99, e100, rfl, y101⟩
        ·
          refine am_goX 4 (show 3 < 6 ∧ am_rc h95 14 3 ∧ 0 ≤ 8 ∧ h95.2.2.2.2 + am_al 77 ≤ 175 ∧ am_call am_cod d 77 [.ref 14, .int (Int8.ofInt (-11)).toInt32] h95 (fun vv h' => pz_S 6 (some .boolean) am_r73 d Q 86 [(3, .int 0), (5, .int (Int8.ofInt (-11)).toInt32), (4, .int (nI 0)), (0, .ref 4), (1, .ref 14), (2, .int dep)] (vv.toList ++ []) h') from ⟨by decide, Or.inl ⟨by decide, ex_14 y101.1⟩, by decide, ex_lim y101.1 rfl, am_call.up (c_addx_6 y101 (fun h102 y103 => ?_)) (by omega)⟩)
          refine am_goX 4 (show 4 < 6 ∧ (0 = 0 → pz_S 6 (some .boolean) am_r73 d Q 92 [(4, .int ((nI 0) + Int32.ofInt 1)), (3, .int 0), (5, .int (Int8.ofInt (-11)).toInt32), (0, .ref 4), (1, .ref 14), (2, .int dep)] [] h102) ∧ (¬ (0 = 0) → pz_S 6 (some .boolean) am_r73 d Q 14 [(4, .int ((nI 0) + Int32.ofInt 1)), (3, .int 0), (5, .int (Int8.ofInt (-11)).toInt32), (0, .ref 4), (1, .ref 14), (2, .int dep)] [] h102) from ⟨by decide, fun _ => ?_, fun hz => absurd (by decide) hz⟩)
          exact am_goX 2 (show (∃ ty, (some .boolean) = some ty ∧ narrow ty (.int (0)) = .int (0)) ∧ h102.2.2.2.2 = 175 ∧ _ from ⟨⟨.boolean, rfl, rfl⟩, ex_175 y103.1, hQ _ _ (cres_inl (F := F98) (by simp only [sp_su, sp_sL_1, sp_b, sp_f, cond_true, cond_false, e70, e72, e89, e100]) rfl y103)⟩)
        ·
          refine am_goX 4 (show 3 < 6 ∧ am_rc h95 14 3 ∧ 0 ≤ 8 ∧ h95.2.2.2.2 + am_al 77 ≤ 175 ∧ am_call am_cod d 77 [.ref 14, .int (Int8.ofInt (-11)).toInt32] h95 (fun vv h' => pz_S 6 (some .boolean) am_r73 d Q 86 [(3, .int 1), (5, .int (Int8.ofInt (-11)).toInt32), (4, .int (nI 0)), (0, .ref 4), (1, .ref 14), (2, .int dep)] (vv.toList ++ []) h') from ⟨by decide, Or.inl ⟨by decide, ex_14 (c_P y101.1)⟩, by decide, ex_lim (c_P y101.1) rfl, am_call.up (c_add_6 (a := t99.1) (C := t99.2) y101 (by
              have h7 := hok _ _ e100
              have h8 := y71.2.2.2
              unfold sp_le at h7
              dsimp only at h7
              omega) (fun h104 l105 => ?_)) (by omega)⟩)
          refine am_goX 2 (show 4 < 6 ∧ pz_S 6 (some .boolean) am_r73 d Q 10 [(4, .int ((nI 0) + Int32.ofInt 1)), (3, .int 1), (5, .int (Int8.ofInt (-11)).toInt32), (0, .ref 4), (1, .ref 14), (2, .int dep)] [] h104 from ⟨by decide, ?_⟩)
          rw [xw_i1]
          have hx : sp_sL (tt T sz) p 1001 t69 = sp_sL (tt T sz) p 1000 (t99.1, sp_em t99.2 ((Int8.ofInt (-11)).toInt32)) := by simp only [sp_sL_1, sp_b, cond_true, cond_false, e70, e72, e89, e100]
          have h7 := hok _ _ e100
          unfold sp_le at h7
          dsimp only at h7
          exact c_73l_6 hd ks hok 1000 (0 + 1) (t99.1, sp_em t99.2 ((Int8.ofInt (-11)).toInt32)) h104 Q ((Int8.ofInt (-11)).toInt32) (by dsimp only; omega) (by dsimp only; omega) l105 (fun v h1 q => hQ v h1 (by unfold sp_su; rw [e70]; show cres _ _ _ _ (sp_sL (tt T sz) p 1001 t69) _ _; rw [hx]; exact q))
      | false =>
        refine am_goX 1 (show ((pz_b (false)) = 0 → pz_S 6 (some .boolean) am_r73 d Q 56 [(4, .int (nI 0)), (3, .int 1), (0, .ref 4), (1, .ref 14), (2, .int dep)] [] h65) ∧ (¬ ((pz_b (false)) = 0) → pz_S 6 (some .boolean) am_r73 d Q 51 [(4, .int (nI 0)), (3, .int 1), (0, .ref 4), (1, .ref 14), (2, .int dep)] [] h65) from ⟨fun _ => ?_, fun hz => absurd (by decide) hz⟩)
        refine am_goX 4 (show 5 < 6 ∧ (¬ (Int32.ofInt 0) = 0 → pz_S 6 (some .boolean) am_r73 d Q 66 [(5, .int (Int32.ofInt 0)), (4, .int (nI 0)), (3, .int 1), (0, .ref 4), (1, .ref 14), (2, .int dep)] [] h65) ∧ (¬ ¬ (Int32.ofInt 0) = 0 → pz_S 6 (some .boolean) am_r73 d Q 64 [(5, .int (Int32.ofInt 0)), (4, .int (nI 0)), (3, .int 1), (0, .ref 4), (1, .ref 14), (2, .int dep)] [] h65) from ⟨by decide, fun hz => absurd hz (by decide), fun _ => ?_⟩)
        exact am_goX 2 (show (∃ ty, (some .boolean) = some ty ∧ narrow ty (.int ((Int32.ofInt 1))) = .int ((Int32.ofInt 1))) ∧ h65.2.2.2.2 = 175 ∧ _ from ⟨⟨.boolean, rfl, rfl⟩, ex_175 (c_P y71.1), hQ _ _ (cres_inr (s' := t69) (by simp only [sp_su, sp_sL_1, sp_b, sp_f, cond_true, cond_false, e70, e72, e89]) rfl y71)⟩)
theorem c_72_6 (hd : 6 ≤ d) (ks : lw_c h0 6 T sz d 73 dep (sp_su (tt T sz) p)) (hok : sp_ok (sp_su (tt T sz) p)) : lw_c h0 6 T sz (d + 1) 72 dep (sp_te (tt T sz) p) := by
  intro s h Q l hQ
  have hP := c_P l.1
  refine pz_call (n := 72) (nL := 5) (rt := (some .boolean)) (rows := am_r72) (d := d) (by decide +kernel) (by decide +kernel) rfl (by funext pc; rfl) (ex_175 hP) (by exact Nat.le_of_ble_eq_true rfl) ?_
  refine am_goX 4 (show am_rc h 4 4 ∧ 0 ≤ 8 ∧ h.2.2.2.2 + am_al 73 ≤ 175 ∧ am_call am_cod d 73 [.ref 4, .ref 14, .int dep] h (fun vv h' => pz_S 5 (some .boolean) am_r72 d Q 6 [(0, .ref 4), (1, .ref 14), (2, .int dep)] (vv.toList ++ []) h') from ⟨Or.inl ⟨by decide, ex_4 (c_P l.1)⟩, by decide, ex_lim (c_P l.1) rfl, ks _ _ _ l (fun v106 h107 x108 => ?_)⟩)
  rcases cres_cs x108 with ⟨F110, e112, rfl, y113⟩ | ⟨t111, e112, rfl, y113⟩
  ·
    refine am_goX 1 (show (¬ 0 = 0 → pz_S 5 (some .boolean) am_r72 d Q 11 [(0, .ref 4), (1, .ref 14), (2, .int dep)] [] h107) ∧ (¬ ¬ 0 = 0 → pz_S 5 (some .boolean) am_r72 d Q 9 [(0, .ref 4), (1, .ref 14), (2, .int dep)] [] h107) from ⟨fun hz => absurd hz (by decide), fun _ => ?_⟩)
    exact am_goX 2 (show (∃ ty, (some .boolean) = some ty ∧ narrow ty (.int ((Int32.ofInt 0))) = .int ((Int32.ofInt 0))) ∧ h107.2.2.2.2 = 175 ∧ _ from ⟨⟨.boolean, rfl, rfl⟩, ex_175 y113.1, hQ _ _ (cres_inl (F := F110) (by simp only [sp_te, sp_b, sp_f, cond_true, cond_false, e112]) rfl y113)⟩)
  ·
    refine am_goX 1 (show (¬ 1 = 0 → pz_S 5 (some .boolean) am_r72 d Q 11 [(0, .ref 4), (1, .ref 14), (2, .int dep)] [] h107) ∧ (¬ ¬ 1 = 0 → pz_S 5 (some .boolean) am_r72 d Q 9 [(0, .ref 4), (1, .ref 14), (2, .int dep)] [] h107) from ⟨fun _ => ?_, fun hz => absurd (by decide) hz⟩)
    refine am_goX 2 (show am_sh h107 4 = some (4, 0) ∧ pz_S 5 (some .boolean) am_r72 d Q 15 [(0, .ref 4), (1, .ref 14), (2, .int dep)] [am_rf (h107.2.2.1 4 0)] h107 from ⟨ex_4 (c_P y113.1), ?_⟩)
    rw [ex_r4_0 (c_P y113.1)]
    refine am_goX 2 (show am_rc h107 1 7 ∧ 0 ≤ 8 ∧ h107.2.2.2.2 + am_al 62 ≤ 175 ∧ am_call am_cod d 62 [.ref 1, .int (Int8.ofInt 60).toInt32] h107 (fun vv h' => pz_S 5 (some .boolean) am_r72 d Q 20 [(0, .ref 4), (1, .ref 14), (2, .int dep)] (vv.toList ++ []) h') from ⟨Or.inl ⟨by decide, ex_1 (c_P y113.1)⟩, by decide, ex_lim (c_P y113.1) rfl, am_call.up (c_iss y113.1 ?_) (by omega)⟩)
    cases e114 : sp_s (tt T sz) t111.1 (Int8.ofInt 60).toInt32 with
    | true =>
      refine am_goX 1 (show ((pz_b (true)) = 0 → pz_S 5 (some .boolean) am_r72 d Q 28 [(0, .ref 4), (1, .ref 14), (2, .int dep)] [] h107) ∧ (¬ ((pz_b (true)) = 0) → pz_S 5 (some .boolean) am_r72 d Q 23 [(0, .ref 4), (1, .ref 14), (2, .int dep)] [] h107) from ⟨fun hz => absurd hz (by decide), fun _ => ?_⟩)
      refine am_goX 5 (show 3 < 5 ∧ (¬ (Int8.ofInt (-8)).toInt32 = 0 → pz_S 5 (some .boolean) am_r72 d Q 53 [(3, .int (Int8.ofInt (-8)).toInt32), (0, .ref 4), (1, .ref 14), (2, .int dep)] [] h107) ∧ (¬ ¬ (Int8.ofInt (-8)).toInt32 = 0 → pz_S 5 (some .boolean) am_r72 d Q 51 [(3, .int (Int8.ofInt (-8)).toInt32), (0, .ref 4), (1, .ref 14), (2, .int dep)] [] h107) from ⟨by decide, fun _ => ?_, fun hz => absurd (by decide) hz⟩)
      refine am_goX 2 (show am_sh h107 4 = some (4, 0) ∧ pz_S 5 (some .boolean) am_r72 d Q 57 [(3, .int (Int8.ofInt (-8)).toInt32), (0, .ref 4), (1, .ref 14), (2, .int dep)] [am_rf (h107.2.2.1 4 0)] h107 from ⟨ex_4 (c_P y113.1), ?_⟩)
      rw [ex_r4_0 (c_P y113.1)]
      refine am_goX 1 (show am_rc h107 1 7 ∧ 0 ≤ 8 ∧ h107.2.2.2.2 + am_al 18 ≤ 175 ∧ am_call am_cod d 18 [.ref 1] h107 (fun vv h' => pz_S 5 (some .boolean) am_r72 d Q 60 [(3, .int (Int8.ofInt (-8)).toInt32), (0, .ref 4), (1, .ref 14), (2, .int dep)] (vv.toList ++ []) h') from ⟨Or.inl ⟨by decide, ex_1 (c_P y113.1)⟩, by decide, ex_lim (c_P y113.1) rfl, am_call.up (c_step y113.1 (sp_sn e114) (fun h115 m116 f117 => ?_)) (by omega)⟩)
      have l118 : cr h0 6 T sz ((t111.1 + 1), t111.2) h115 := cr_fr (a := t111.1) (C := t111.2) (by decide) y113 m116 (Nat.le_succ _) f117
      refine am_goX 4 (show am_rc h115 4 4 ∧ 0 ≤ 8 ∧ h115.2.2.2.2 + am_al 73 ≤ 175 ∧ am_call am_cod d 73 [.ref 4, .ref 14, .int dep] h115 (fun vv h' => pz_S 5 (some .boolean) am_r72 d Q 66 [(3, .int (Int8.ofInt (-8)).toInt32), (0, .ref 4), (1, .ref 14), (2, .int dep)] (vv.toList ++ []) h') from ⟨Or.inl ⟨by decide, ex_4 (c_P l118.1)⟩, by decide, ex_lim (c_P l118.1) rfl, ks _ _ _ l118 (fun v119 h120 x121 => ?_)⟩)
      rcases cres_cs x121 with ⟨F123, e125, rfl, y126⟩ | ⟨t124, e125, rfl, y126⟩
      ·
        refine am_goX 4 (show 4 < 5 ∧ am_rc h120 14 3 ∧ 0 ≤ 8 ∧ h120.2.2.2.2 + am_al 77 ≤ 175 ∧ am_call am_cod d 77 [.ref 14, .int (Int8.ofInt (-8)).toInt32] h120 (fun vv h' => pz_S 5 (some .boolean) am_r72 d Q 73 [(4, .int 0), (3, .int (Int8.ofInt (-8)).toInt32), (0, .ref 4), (1, .ref 14), (2, .int dep)] (vv.toList ++ []) h') from ⟨by decide, Or.inl ⟨by decide, ex_14 y126.1⟩, by decide, ex_lim y126.1 rfl, am_call.up (c_addx_6 y126 (fun h127 y128 => ?_)) (by omega)⟩)
        exact am_goX 2 (show (∃ ty, (some .boolean) = some ty ∧ narrow ty (.int (0)) = .int (0)) ∧ h127.2.2.2.2 = 175 ∧ _ from ⟨⟨.boolean, rfl, rfl⟩, ex_175 y128.1, hQ _ _ (cres_inl (F := F123) (by simp only [sp_te, sp_b, sp_f, cond_true, cond_false, e112, e114, e125]) rfl y128)⟩)
      ·
        refine am_goX 4 (show 4 < 5 ∧ am_rc h120 14 3 ∧ 0 ≤ 8 ∧ h120.2.2.2.2 + am_al 77 ≤ 175 ∧ am_call am_cod d 77 [.ref 14, .int (Int8.ofInt (-8)).toInt32] h120 (fun vv h' => pz_S 5 (some .boolean) am_r72 d Q 73 [(4, .int 1), (3, .int (Int8.ofInt (-8)).toInt32), (0, .ref 4), (1, .ref 14), (2, .int dep)] (vv.toList ++ []) h') from ⟨by decide, Or.inl ⟨by decide, ex_14 (c_P y126.1)⟩, by decide, ex_lim (c_P y126.1) rfl, am_call.up (c_add_6 (a := t124.1) (C := t124.2) y126 (by
            have h7 := hok _ _ e125
            have h6 := hok _ _ e112
            have h8 := l.2.2.2
            unfold sp_le at h6 h7
            dsimp only at h6 h7
            omega) (fun h129 l130 => ?_)) (by omega)⟩)
        exact am_goX 2 (show (∃ ty, (some .boolean) = some ty ∧ narrow ty (.int (1)) = .int (1)) ∧ h129.2.2.2.2 = 175 ∧ _ from ⟨⟨.boolean, rfl, rfl⟩, ex_175 (c_P l130.1), hQ _ _ (cres_inr (s' := (t124.1, sp_em t124.2 ((Int8.ofInt (-8)).toInt32))) (by simp only [sp_te, sp_b, sp_f, cond_true, cond_false, e112, e114, e125]) rfl l130)⟩)
    | false =>
      refine am_goX 1 (show ((pz_b (false)) = 0 → pz_S 5 (some .boolean) am_r72 d Q 28 [(0, .ref 4), (1, .ref 14), (2, .int dep)] [] h107) ∧ (¬ ((pz_b (false)) = 0) → pz_S 5 (some .boolean) am_r72 d Q 23 [(0, .ref 4), (1, .ref 14), (2, .int dep)] [] h107) from ⟨fun _ => ?_, fun hz => absurd (by decide) hz⟩)
      refine am_goX 2 (show am_sh h107 4 = some (4, 0) ∧ pz_S 5 (some .boolean) am_r72 d Q 32 [(0, .ref 4), (1, .ref 14), (2, .int dep)] [am_rf (h107.2.2.1 4 0)] h107 from ⟨ex_4 (c_P y113.1), ?_⟩)
      rw [ex_r4_0 (c_P y113.1)]
      refine am_goX 2 (show am_rc h107 1 7 ∧ 0 ≤ 8 ∧ h107.2.2.2.2 + am_al 62 ≤ 175 ∧ am_call am_cod d 62 [.ref 1, .int (Int8.ofInt 61).toInt32] h107 (fun vv h' => pz_S 5 (some .boolean) am_r72 d Q 37 [(0, .ref 4), (1, .ref 14), (2, .int dep)] (vv.toList ++ []) h') from ⟨Or.inl ⟨by decide, ex_1 (c_P y113.1)⟩, by decide, ex_lim (c_P y113.1) rfl, am_call.up (c_iss y113.1 ?_) (by omega)⟩)
      cases e131 : sp_s (tt T sz) t111.1 (Int8.ofInt 61).toInt32 with
      | true =>
        refine am_goX 1 (show ((pz_b (true)) = 0 → pz_S 5 (some .boolean) am_r72 d Q 45 [(0, .ref 4), (1, .ref 14), (2, .int dep)] [] h107) ∧ (¬ ((pz_b (true)) = 0) → pz_S 5 (some .boolean) am_r72 d Q 40 [(0, .ref 4), (1, .ref 14), (2, .int dep)] [] h107) from ⟨fun hz => absurd hz (by decide), fun _ => ?_⟩)
        refine am_goX 5 (show 3 < 5 ∧ (¬ (Int8.ofInt (-9)).toInt32 = 0 → pz_S 5 (some .boolean) am_r72 d Q 53 [(3, .int (Int8.ofInt (-9)).toInt32), (0, .ref 4), (1, .ref 14), (2, .int dep)] [] h107) ∧ (¬ ¬ (Int8.ofInt (-9)).toInt32 = 0 → pz_S 5 (some .boolean) am_r72 d Q 51 [(3, .int (Int8.ofInt (-9)).toInt32), (0, .ref 4), (1, .ref 14), (2, .int dep)] [] h107) from ⟨by decide, fun _ => ?_, fun hz => absurd (by decide) hz⟩)
        refine am_goX 2 (show am_sh h107 4 = some (4, 0) ∧ pz_S 5 (some .boolean) am_r72 d Q 57 [(3, .int (Int8.ofInt (-9)).toInt32), (0, .ref 4), (1, .ref 14), (2, .int dep)] [am_rf (h107.2.2.1 4 0)] h107 from ⟨ex_4 (c_P y113.1), ?_⟩)
        rw [ex_r4_0 (c_P y113.1)]
        refine am_goX 1 (show am_rc h107 1 7 ∧ 0 ≤ 8 ∧ h107.2.2.2.2 + am_al 18 ≤ 175 ∧ am_call am_cod d 18 [.ref 1] h107 (fun vv h' => pz_S 5 (some .boolean) am_r72 d Q 60 [(3, .int (Int8.ofInt (-9)).toInt32), (0, .ref 4), (1, .ref 14), (2, .int dep)] (vv.toList ++ []) h') from ⟨Or.inl ⟨by decide, ex_1 (c_P y113.1)⟩, by decide, ex_lim (c_P y113.1) rfl, am_call.up (c_step y113.1 (sp_sn e131) (fun h132 m133 f134 => ?_)) (by omega)⟩)
        have l135 : cr h0 6 T sz ((t111.1 + 1), t111.2) h132 := cr_fr (a := t111.1) (C := t111.2) (by decide) y113 m133 (Nat.le_succ _) f134
        refine am_goX 4 (show am_rc h132 4 4 ∧ 0 ≤ 8 ∧ h132.2.2.2.2 + am_al 73 ≤ 175 ∧ am_call am_cod d 73 [.ref 4, .ref 14, .int dep] h132 (fun vv h' => pz_S 5 (some .boolean) am_r72 d Q 66 [(3, .int (Int8.ofInt (-9)).toInt32), (0, .ref 4), (1, .ref 14), (2, .int dep)] (vv.toList ++ []) h') from ⟨Or.inl ⟨by decide, ex_4 (c_P l135.1)⟩, by decide, ex_lim (c_P l135.1) rfl, ks _ _ _ l135 (fun v136 h137 x138 => ?_)⟩)
        rcases cres_cs x138 with ⟨F140, e142, rfl, y143⟩ | ⟨t141, e142, rfl, y143⟩
        ·
          refine am_goX 4 (show 4 < 5 ∧ am_rc h137 14 3 ∧ 0 ≤ 8 ∧ h137.2.2.2.2 + am_al 77 ≤ 175 ∧ am_call am_cod d 77 [.ref 14, .int (Int8.ofInt (-9)).toInt32] h137 (fun vv h' => pz_S 5 (some .boolean) am_r72 d Q 73 [(4, .int 0), (3, .int (Int8.ofInt (-9)).toInt32), (0, .ref 4), (1, .ref 14), (2, .int dep)] (vv.toList ++ []) h') from ⟨by decide, Or.inl ⟨by decide, ex_14 y143.1⟩, by decide, ex_lim y143.1 rfl, am_call.up (c_addx_6 y143 (fun h144 y145 => ?_)) (by omega)⟩)
          exact am_goX 2 (show (∃ ty, (some .boolean) = some ty ∧ narrow ty (.int (0)) = .int (0)) ∧ h144.2.2.2.2 = 175 ∧ _ from ⟨⟨.boolean, rfl, rfl⟩, ex_175 y145.1, hQ _ _ (cres_inl (F := F140) (by simp only [sp_te, sp_b, sp_f, cond_true, cond_false, e112, e114, e131, e142]) rfl y145)⟩)
        ·
          refine am_goX 4 (show 4 < 5 ∧ am_rc h137 14 3 ∧ 0 ≤ 8 ∧ h137.2.2.2.2 + am_al 77 ≤ 175 ∧ am_call am_cod d 77 [.ref 14, .int (Int8.ofInt (-9)).toInt32] h137 (fun vv h' => pz_S 5 (some .boolean) am_r72 d Q 73 [(4, .int 1), (3, .int (Int8.ofInt (-9)).toInt32), (0, .ref 4), (1, .ref 14), (2, .int dep)] (vv.toList ++ []) h') from ⟨by decide, Or.inl ⟨by decide, ex_14 (c_P y143.1)⟩, by decide, ex_lim (c_P y143.1) rfl, am_call.up (c_add_6 (a := t141.1) (C := t141.2) y143 (by
              have h7 := hok _ _ e142
              have h6 := hok _ _ e112
              have h8 := l.2.2.2
              unfold sp_le at h6 h7
              dsimp only at h6 h7
              omega) (fun h146 l147 => ?_)) (by omega)⟩)
          exact am_goX 2 (show (∃ ty, (some .boolean) = some ty ∧ narrow ty (.int (1)) = .int (1)) ∧ h146.2.2.2.2 = 175 ∧ _ from ⟨⟨.boolean, rfl, rfl⟩, ex_175 (c_P l147.1), hQ _ _ (cres_inr (s' := (t141.1, sp_em t141.2 ((Int8.ofInt (-9)).toInt32))) (by simp only [sp_te, sp_b, sp_f, cond_true, cond_false, e112, e114, e131, e142]) rfl l147)⟩)
      | false =>
        refine am_goX 1 (show ((pz_b (false)) = 0 → pz_S 5 (some .boolean) am_r72 d Q 45 [(0, .ref 4), (1, .ref 14), (2, .int dep)] [] h107) ∧ (¬ ((pz_b (false)) = 0) → pz_S 5 (some .boolean) am_r72 d Q 40 [(0, .ref 4), (1, .ref 14), (2, .int dep)] [] h107) from ⟨fun _ => ?_, fun hz => absurd (by decide) hz⟩)
        refine am_goX 4 (show 3 < 5 ∧ (¬ (Int32.ofInt 0) = 0 → pz_S 5 (some .boolean) am_r72 d Q 53 [(3, .int (Int32.ofInt 0)), (0, .ref 4), (1, .ref 14), (2, .int dep)] [] h107) ∧ (¬ ¬ (Int32.ofInt 0) = 0 → pz_S 5 (some .boolean) am_r72 d Q 51 [(3, .int (Int32.ofInt 0)), (0, .ref 4), (1, .ref 14), (2, .int dep)] [] h107) from ⟨by decide, fun hz => absurd hz (by decide), fun _ => ?_⟩)
        exact am_goX 2 (show (∃ ty, (some .boolean) = some ty ∧ narrow ty (.int ((Int32.ofInt 1))) = .int ((Int32.ofInt 1))) ∧ h107.2.2.2.2 = 175 ∧ _ from ⟨⟨.boolean, rfl, rfl⟩, ex_175 (c_P y113.1), hQ _ _ (cres_inr (s' := t111) (by simp only [sp_te, sp_b, sp_f, cond_true, cond_false, e112, e114, e131]) rfl y113)⟩)
theorem c_71l_6 (hd : 6 ≤ d) (ks : lw_c h0 6 T sz d 72 dep (sp_te (tt T sz) p)) (hok : sp_ok (sp_te (tt T sz) p)) : ∀ (m i : Nat) (s : sp_S) (h : am_H) (Q : am_Q) (y5 : Int32), sz < s.1 + m → i + 1 ≤ s.1 → cr h0 6 T sz s h → (∀ v h1, cres h0 6 T sz (sp_wL (tt T sz) p m s) v h1 → Q v h1) → pz_S 6 (some .boolean) am_r71 d Q 10 [(4, .int (nI i)), (3, .int 1), (5, .int y5), (0, .ref 4), (1, .ref 14), (2, .int dep)] [] h := by
  intro m
  induction m with
  | zero =>
    intro i s h Q y5 hm hi l hQ
    have := (cr_a l).1
    omega
  | succ m ih =>
    intro i s h Q y5 hm hi l hQ
    have ha := cr_a l
    refine am_goX 2 (show (1 = 0 → pz_S 6 (some .boolean) am_r71 d Q 92 [(4, .int (nI i)), (3, .int 1), (5, .int y5), (0, .ref 4), (1, .ref 14), (2, .int dep)] [] h) ∧ (¬ (1 = 0) → pz_S 6 (some .boolean) am_r71 d Q 14 [(4, .int (nI i)), (3, .int 1), (5, .int y5), (0, .ref 4), (1, .ref 14), (2, .int dep)] [] h) from ⟨fun hz => absurd hz (by decide), fun _ => ?_⟩)
    refine am_goX 3 (show ((Int16.ofInt 1000).toInt32 ≤ (nI i) → pz_S 6 (some .boolean) am_r71 d Q 92 [(4, .int (nI i)), (3, .int 1), (5, .int y5), (0, .ref 4), (1, .ref 14), (2, .int dep)] [] h) ∧ (¬ ((Int16.ofInt 1000).toInt32 ≤ (nI i)) → pz_S 6 (some .boolean) am_r71 d Q 22 [(4, .int (nI i)), (3, .int 1), (5, .int y5), (0, .ref 4), (1, .ref 14), (2, .int dep)] [] h) from ⟨fun hz => absurd hz (i1000 (by omega)), fun _ => ?_⟩)
    refine am_goX 2 (show am_sh h 4 = some (4, 0) ∧ pz_S 6 (some .boolean) am_r71 d Q 26 [(4, .int (nI i)), (3, .int 1), (5, .int y5), (0, .ref 4), (1, .ref 14), (2, .int dep)] [am_rf (h.2.2.1 4 0)] h from ⟨ex_4 (c_P l.1), ?_⟩)
    rw [ex_r4_0 (c_P l.1)]
    refine am_goX 2 (show am_rc h 1 7 ∧ 0 ≤ 8 ∧ h.2.2.2.2 + am_al 44 ≤ 175 ∧ am_call am_cod d 44 [.ref 1, .ref (4000000 + 19)] h (fun vv h' => pz_S 6 (some .boolean) am_r71 d Q 31 [(4, .int (nI i)), (3, .int 1), (5, .int y5), (0, .ref 4), (1, .ref 14), (2, .int dep)] (vv.toList ++ []) h') from ⟨Or.inl ⟨by decide, ex_1 (c_P l.1)⟩, by decide, ex_lim (c_P l.1) rfl, am_call.up (c_isw (by decide) wq_19 l.1 ?_) (by omega)⟩)
    cases e148 : sp_w (tt T sz) s.1 1891 with
    | true =>
      refine am_goX 1 (show ((pz_b (true)) = 0 → pz_S 6 (some .boolean) am_r71 d Q 39 [(4, .int (nI i)), (3, .int 1), (5, .int y5), (0, .ref 4), (1, .ref 14), (2, .int dep)] [] h) ∧ (¬ ((pz_b (true)) = 0) → pz_S 6 (some .boolean) am_r71 d Q 34 [(4, .int (nI i)), (3, .int 1), (5, .int y5), (0, .ref 4), (1, .ref 14), (2, .int dep)] [] h) from ⟨fun hz => absurd hz (by decide), fun _ => ?_⟩)
      refine am_goX 5 (show 5 < 6 ∧ (¬ (Int8.ofInt (-6)).toInt32 = 0 → pz_S 6 (some .boolean) am_r71 d Q 66 [(5, .int (Int8.ofInt (-6)).toInt32), (4, .int (nI i)), (3, .int 1), (0, .ref 4), (1, .ref 14), (2, .int dep)] [] h) ∧ (¬ ¬ (Int8.ofInt (-6)).toInt32 = 0 → pz_S 6 (some .boolean) am_r71 d Q 64 [(5, .int (Int8.ofInt (-6)).toInt32), (4, .int (nI i)), (3, .int 1), (0, .ref 4), (1, .ref 14), (2, .int dep)] [] h) from ⟨by decide, fun _ => ?_, fun hz => absurd (by decide) hz⟩)
      refine am_goX 2 (show am_sh h 4 = some (4, 0) ∧ pz_S 6 (some .boolean) am_r71 d Q 70 [(5, .int (Int8.ofInt (-6)).toInt32), (4, .int (nI i)), (3, .int 1), (0, .ref 4), (1, .ref 14), (2, .int dep)] [am_rf (h.2.2.1 4 0)] h from ⟨ex_4 (c_P l.1), ?_⟩)
      rw [ex_r4_0 (c_P l.1)]
      refine am_goX 1 (show am_rc h 1 7 ∧ 0 ≤ 8 ∧ h.2.2.2.2 + am_al 18 ≤ 175 ∧ am_call am_cod d 18 [.ref 1] h (fun vv h' => pz_S 6 (some .boolean) am_r71 d Q 73 [(5, .int (Int8.ofInt (-6)).toInt32), (4, .int (nI i)), (3, .int 1), (0, .ref 4), (1, .ref 14), (2, .int dep)] (vv.toList ++ []) h') from ⟨Or.inl ⟨by decide, ex_1 (c_P l.1)⟩, by decide, ex_lim (c_P l.1) rfl, am_call.up (c_step l.1 (sp_wn e148) (fun h149 m150 f151 => ?_)) (by omega)⟩)
      have l152 : cr h0 6 T sz ((s.1 + 1), s.2) h149 := cr_fr (a := s.1) (C := s.2) (by decide) l m150 (Nat.le_succ _) f151
      refine am_goX 4 (show am_rc h149 4 4 ∧ 0 ≤ 8 ∧ h149.2.2.2.2 + am_al 72 ≤ 175 ∧ am_call am_cod d 72 [.ref 4, .ref 14, .int dep] h149 (fun vv h' => pz_S 6 (some .boolean) am_r71 d Q 79 [(5, .int (Int8.ofInt (-6)).toInt32), (4, .int (nI i)), (3, .int 1), (0, .ref 4), (1, .ref 14), (2, .int dep)] (vv.toList ++ []) h') from ⟨Or.inl ⟨by decide, ex_4 (c_P l152.1)⟩, by decide, ex_lim (c_P l152.1) rfl, ks _ _ _ l152 (fun v153 h154 x155 => ?_)⟩)
      rcases cres_cs x155 with ⟨F157, e159, rfl, y160⟩ | ⟨t158, e159, rfl, y160⟩
      ·
        refine am_goX 4 (show 3 < 6 ∧ am_rc h154 14 3 ∧ 0 ≤ 8 ∧ h154.2.2.2.2 + am_al 77 ≤ 175 ∧ am_call am_cod d 77 [.ref 14, .int (Int8.ofInt (-6)).toInt32] h154 (fun vv h' => pz_S 6 (some .boolean) am_r71 d Q 86 [(3, .int 0), (5, .int (Int8.ofInt (-6)).toInt32), (4, .int (nI i)), (0, .ref 4), (1, .ref 14), (2, .int dep)] (vv.toList ++ []) h') from ⟨by decide, Or.inl ⟨by decide, ex_14 y160.1⟩, by decide, ex_lim y160.1 rfl, am_call.up (c_addx_6 y160 (fun h161 y162 => ?_)) (by omega)⟩)
        refine am_goX 4 (show 4 < 6 ∧ (0 = 0 → pz_S 6 (some .boolean) am_r71 d Q 92 [(4, .int ((nI i) + Int32.ofInt 1)), (3, .int 0), (5, .int (Int8.ofInt (-6)).toInt32), (0, .ref 4), (1, .ref 14), (2, .int dep)] [] h161) ∧ (¬ (0 = 0) → pz_S 6 (some .boolean) am_r71 d Q 14 [(4, .int ((nI i) + Int32.ofInt 1)), (3, .int 0), (5, .int (Int8.ofInt (-6)).toInt32), (0, .ref 4), (1, .ref 14), (2, .int dep)] [] h161) from ⟨by decide, fun _ => ?_, fun hz => absurd (by decide) hz⟩)
        exact am_goX 2 (show (∃ ty, (some .boolean) = some ty ∧ narrow ty (.int (0)) = .int (0)) ∧ h161.2.2.2.2 = 175 ∧ _ from ⟨⟨.boolean, rfl, rfl⟩, ex_175 y162.1, hQ _ _ (cres_inl (F := F157) (by simp only [sp_wL, sp_b, sp_f, cond_true, cond_false, e148, e159]) rfl y162)⟩)
      ·
        refine am_goX 4 (show 3 < 6 ∧ am_rc h154 14 3 ∧ 0 ≤ 8 ∧ h154.2.2.2.2 + am_al 77 ≤ 175 ∧ am_call am_cod d 77 [.ref 14, .int (Int8.ofInt (-6)).toInt32] h154 (fun vv h' => pz_S 6 (some .boolean) am_r71 d Q 86 [(3, .int 1), (5, .int (Int8.ofInt (-6)).toInt32), (4, .int (nI i)), (0, .ref 4), (1, .ref 14), (2, .int dep)] (vv.toList ++ []) h') from ⟨by decide, Or.inl ⟨by decide, ex_14 (c_P y160.1)⟩, by decide, ex_lim (c_P y160.1) rfl, am_call.up (c_add_6 (a := t158.1) (C := t158.2) y160 (by
            have h7 := hok _ _ e159
            have h8 := l.2.2.2
            unfold sp_le at h7
            dsimp only at h7
            omega) (fun h163 l164 => ?_)) (by omega)⟩)
        refine am_goX 2 (show 4 < 6 ∧ pz_S 6 (some .boolean) am_r71 d Q 10 [(4, .int ((nI i) + Int32.ofInt 1)), (3, .int 1), (5, .int (Int8.ofInt (-6)).toInt32), (0, .ref 4), (1, .ref 14), (2, .int dep)] [] h163 from ⟨by decide, ?_⟩)
        rw [xw_i1]
        have hx : sp_wL (tt T sz) p (m + 1) s = sp_wL (tt T sz) p m (t158.1, sp_em t158.2 ((Int8.ofInt (-6)).toInt32)) := by simp only [sp_wL, sp_b, cond_true, cond_false, e148, e159]
        have h7 := hok _ _ e159
        unfold sp_le at h7
        dsimp only at h7
        exact ih (i + 1) (t158.1, sp_em t158.2 ((Int8.ofInt (-6)).toInt32)) h163 Q ((Int8.ofInt (-6)).toInt32) (by dsimp only; omega) (by dsimp only; omega) l164 (fun v h1 q => hQ v h1 (by rw [hx]; exact q))
    | false =>
      refine am_goX 1 (show ((pz_b (false)) = 0 → pz_S 6 (some .boolean) am_r71 d Q 39 [(4, .int (nI i)), (3, .int 1), (5, .int y5), (0, .ref 4), (1, .ref 14), (2, .int dep)] [] h) ∧ (¬ ((pz_b (false)) = 0) → pz_S 6 (some .boolean) am_r71 d Q 34 [(4, .int (nI i)), (3, .int 1), (5, .int y5), (0, .ref 4), (1, .ref 14), (2, .int dep)] [] h) from ⟨fun _ => ?_, fun hz => absurd (by decide) hz⟩)
      refine am_goX 2 (show am_sh h 4 = some (4, 0) ∧ pz_S 6 (some .boolean) am_r71 d Q 43 [(4, .int (nI i)), (3, .int 1), (5, .int y5), (0, .ref 4), (1, .ref 14), (2, .int dep)] [am_rf (h.2.2.1 4 0)] h from ⟨ex_4 (c_P l.1), ?_⟩)
      rw [ex_r4_0 (c_P l.1)]
      refine am_goX 2 (show am_rc h 1 7 ∧ 0 ≤ 8 ∧ h.2.2.2.2 + am_al 44 ≤ 175 ∧ am_call am_cod d 44 [.ref 1, .ref (4000000 + 20)] h (fun vv h' => pz_S 6 (some .boolean) am_r71 d Q 48 [(4, .int (nI i)), (3, .int 1), (5, .int y5), (0, .ref 4), (1, .ref 14), (2, .int dep)] (vv.toList ++ []) h') from ⟨Or.inl ⟨by decide, ex_1 (c_P l.1)⟩, by decide, ex_lim (c_P l.1) rfl, am_call.up (c_isw (by decide) wq_20 l.1 ?_) (by omega)⟩)
      cases e165 : sp_w (tt T sz) s.1 573 with
      | true =>
        refine am_goX 1 (show ((pz_b (true)) = 0 → pz_S 6 (some .boolean) am_r71 d Q 56 [(4, .int (nI i)), (3, .int 1), (5, .int y5), (0, .ref 4), (1, .ref 14), (2, .int dep)] [] h) ∧ (¬ ((pz_b (true)) = 0) → pz_S 6 (some .boolean) am_r71 d Q 51 [(4, .int (nI i)), (3, .int 1), (5, .int y5), (0, .ref 4), (1, .ref 14), (2, .int dep)] [] h) from ⟨fun hz => absurd hz (by decide), fun _ => ?_⟩)
        refine am_goX 5 (show 5 < 6 ∧ (¬ (Int8.ofInt (-7)).toInt32 = 0 → pz_S 6 (some .boolean) am_r71 d Q 66 [(5, .int (Int8.ofInt (-7)).toInt32), (4, .int (nI i)), (3, .int 1), (0, .ref 4), (1, .ref 14), (2, .int dep)] [] h) ∧ (¬ ¬ (Int8.ofInt (-7)).toInt32 = 0 → pz_S 6 (some .boolean) am_r71 d Q 64 [(5, .int (Int8.ofInt (-7)).toInt32), (4, .int (nI i)), (3, .int 1), (0, .ref 4), (1, .ref 14), (2, .int dep)] [] h) from ⟨by decide, fun _ => ?_, fun hz => absurd (by decide) hz⟩)
        refine am_goX 2 (show am_sh h 4 = some (4, 0) ∧ pz_S 6 (some .boolean) am_r71 d Q 70 [(5, .int (Int8.ofInt (-7)).toInt32), (4, .int (nI i)), (3, .int 1), (0, .ref 4), (1, .ref 14), (2, .int dep)] [am_rf (h.2.2.1 4 0)] h from ⟨ex_4 (c_P l.1), ?_⟩)
        rw [ex_r4_0 (c_P l.1)]
        refine am_goX 1 (show am_rc h 1 7 ∧ 0 ≤ 8 ∧ h.2.2.2.2 + am_al 18 ≤ 175 ∧ am_call am_cod d 18 [.ref 1] h (fun vv h' => pz_S 6 (some .boolean) am_r71 d Q 73 [(5, .int (Int8.ofInt (-7)).toInt32), (4, .int (nI i)), (3, .int 1), (0, .ref 4), (1, .ref 14), (2, .int dep)] (vv.toList ++ []) h') from ⟨Or.inl ⟨by decide, ex_1 (c_P l.1)⟩, by decide, ex_lim (c_P l.1) rfl, am_call.up (c_step l.1 (sp_wn e165) (fun h166 m167 f168 => ?_)) (by omega)⟩)
        have l169 : cr h0 6 T sz ((s.1 + 1), s.2) h166 := cr_fr (a := s.1) (C := s.2) (by decide) l m167 (Nat.le_succ _) f168
        refine am_goX 4 (show am_rc h166 4 4 ∧ 0 ≤ 8 ∧ h166.2.2.2.2 + am_al 72 ≤ 175 ∧ am_call am_cod d 72 [.ref 4, .ref 14, .int dep] h166 (fun vv h' => pz_S 6 (some .boolean) am_r71 d Q 79 [(5, .int (Int8.ofInt (-7)).toInt32), (4, .int (nI i)), (3, .int 1), (0, .ref 4), (1, .ref 14), (2, .int dep)] (vv.toList ++ []) h') from ⟨Or.inl ⟨by decide, ex_4 (c_P l169.1)⟩, by decide, ex_lim (c_P l169.1) rfl, ks _ _ _ l169 (fun v170 h171 x172 => ?_)⟩)
        rcases cres_cs x172 with ⟨F174, e176, rfl, y177⟩ | ⟨t175, e176, rfl, y177⟩
        ·
          refine am_goX 4 (show 3 < 6 ∧ am_rc h171 14 3 ∧ 0 ≤ 8 ∧ h171.2.2.2.2 + am_al 77 ≤ 175 ∧ am_call am_cod d 77 [.ref 14, .int (Int8.ofInt (-7)).toInt32] h171 (fun vv h' => pz_S 6 (some .boolean) am_r71 d Q 86 [(3, .int 0), (5, .int (Int8.ofInt (-7)).toInt32), (4, .int (nI i)), (0, .ref 4), (1, .ref 14), (2, .int dep)] (vv.toList ++ []) h') from ⟨by decide, Or.inl ⟨by decide, ex_14 y177.1⟩, by decide, ex_lim y177.1 rfl, am_call.up (c_addx_6 y177 (fun h178 y179 => ?_)) (by omega)⟩)
          refine am_goX 4 (show 4 < 6 ∧ (0 = 0 → pz_S 6 (some .boolean) am_r71 d Q 92 [(4, .int ((nI i) + Int32.ofInt 1)), (3, .int 0), (5, .int (Int8.ofInt (-7)).toInt32), (0, .ref 4), (1, .ref 14), (2, .int dep)] [] h178) ∧ (¬ (0 = 0) → pz_S 6 (some .boolean) am_r71 d Q 14 [(4, .int ((nI i) + Int32.ofInt 1)), (3, .int 0), (5, .int (Int8.ofInt (-7)).toInt32), (0, .ref 4), (1, .ref 14), (2, .int dep)] [] h178) from ⟨by decide, fun _ => ?_, fun hz => absurd (by decide) hz⟩)
          exact am_goX 2 (show (∃ ty, (some .boolean) = some ty ∧ narrow ty (.int (0)) = .int (0)) ∧ h178.2.2.2.2 = 175 ∧ _ from ⟨⟨.boolean, rfl, rfl⟩, ex_175 y179.1, hQ _ _ (cres_inl (F := F174) (by simp only [sp_wL, sp_b, sp_f, cond_true, cond_false, e148, e165, e176]) rfl y179)⟩)
        ·
          refine am_goX 4 (show 3 < 6 ∧ am_rc h171 14 3 ∧ 0 ≤ 8 ∧ h171.2.2.2.2 + am_al 77 ≤ 175 ∧ am_call am_cod d 77 [.ref 14, .int (Int8.ofInt (-7)).toInt32] h171 (fun vv h' => pz_S 6 (some .boolean) am_r71 d Q 86 [(3, .int 1), (5, .int (Int8.ofInt (-7)).toInt32), (4, .int (nI i)), (0, .ref 4), (1, .ref 14), (2, .int dep)] (vv.toList ++ []) h') from ⟨by decide, Or.inl ⟨by decide, ex_14 (c_P y177.1)⟩, by decide, ex_lim (c_P y177.1) rfl, am_call.up (c_add_6 (a := t175.1) (C := t175.2) y177 (by
              have h7 := hok _ _ e176
              have h8 := l.2.2.2
              unfold sp_le at h7
              dsimp only at h7
              omega) (fun h180 l181 => ?_)) (by omega)⟩)
          refine am_goX 2 (show 4 < 6 ∧ pz_S 6 (some .boolean) am_r71 d Q 10 [(4, .int ((nI i) + Int32.ofInt 1)), (3, .int 1), (5, .int (Int8.ofInt (-7)).toInt32), (0, .ref 4), (1, .ref 14), (2, .int dep)] [] h180 from ⟨by decide, ?_⟩)
          rw [xw_i1]
          have hx : sp_wL (tt T sz) p (m + 1) s = sp_wL (tt T sz) p m (t175.1, sp_em t175.2 ((Int8.ofInt (-7)).toInt32)) := by simp only [sp_wL, sp_b, cond_true, cond_false, e148, e165, e176]
          have h7 := hok _ _ e176
          unfold sp_le at h7
          dsimp only at h7
          exact ih (i + 1) (t175.1, sp_em t175.2 ((Int8.ofInt (-7)).toInt32)) h180 Q ((Int8.ofInt (-7)).toInt32) (by dsimp only; omega) (by dsimp only; omega) l181 (fun v h1 q => hQ v h1 (by rw [hx]; exact q))
      | false =>
        refine am_goX 1 (show ((pz_b (false)) = 0 → pz_S 6 (some .boolean) am_r71 d Q 56 [(4, .int (nI i)), (3, .int 1), (5, .int y5), (0, .ref 4), (1, .ref 14), (2, .int dep)] [] h) ∧ (¬ ((pz_b (false)) = 0) → pz_S 6 (some .boolean) am_r71 d Q 51 [(4, .int (nI i)), (3, .int 1), (5, .int y5), (0, .ref 4), (1, .ref 14), (2, .int dep)] [] h) from ⟨fun _ => ?_, fun hz => absurd (by decide) hz⟩)
        refine am_goX 4 (show 5 < 6 ∧ (¬ (Int32.ofInt 0) = 0 → pz_S 6 (some .boolean) am_r71 d Q 66 [(5, .int (Int32.ofInt 0)), (4, .int (nI i)), (3, .int 1), (0, .ref 4), (1, .ref 14), (2, .int dep)] [] h) ∧ (¬ ¬ (Int32.ofInt 0) = 0 → pz_S 6 (some .boolean) am_r71 d Q 64 [(5, .int (Int32.ofInt 0)), (4, .int (nI i)), (3, .int 1), (0, .ref 4), (1, .ref 14), (2, .int dep)] [] h) from ⟨by decide, fun hz => absurd hz (by decide), fun _ => ?_⟩)
        exact am_goX 2 (show (∃ ty, (some .boolean) = some ty ∧ narrow ty (.int ((Int32.ofInt 1))) = .int ((Int32.ofInt 1))) ∧ h.2.2.2.2 = 175 ∧ _ from ⟨⟨.boolean, rfl, rfl⟩, ex_175 (c_P l.1), hQ _ _ (cres_inr (s' := s) (by simp only [sp_wL, sp_b, sp_f, cond_true, cond_false, e148, e165]) rfl l)⟩)
theorem c_71_6 (hd : 6 ≤ d) (ks : lw_c h0 6 T sz d 72 dep (sp_te (tt T sz) p)) (hok : sp_ok (sp_te (tt T sz) p)) : lw_c h0 6 T sz (d + 1) 71 dep (sp_wh (tt T sz) p) := by
  intro s h Q l hQ
  have hP := c_P l.1
  have ha := cr_a l
  refine pz_call (n := 71) (nL := 6) (rt := (some .boolean)) (rows := am_r71) (d := d) (by decide +kernel) (by decide +kernel) rfl (by funext pc; rfl) (ex_175 hP) (by exact Nat.le_of_ble_eq_true rfl) ?_
  refine am_goX 4 (show am_rc h 4 4 ∧ 0 ≤ 8 ∧ h.2.2.2.2 + am_al 72 ≤ 175 ∧ am_call am_cod d 72 [.ref 4, .ref 14, .int dep] h (fun vv h' => pz_S 6 (some .boolean) am_r71 d Q 6 [(0, .ref 4), (1, .ref 14), (2, .int dep)] (vv.toList ++ []) h') from ⟨Or.inl ⟨by decide, ex_4 (c_P l.1)⟩, by decide, ex_lim (c_P l.1) rfl, ks _ _ _ l (fun v182 h183 x184 => ?_)⟩)
  rcases cres_cs x184 with ⟨F186, e188, rfl, y189⟩ | ⟨t187, e188, rfl, y189⟩
  ·
    refine am_goX 5 (show 3 < 6 ∧ 4 < 6 ∧ (0 = 0 → pz_S 6 (some .boolean) am_r71 d Q 92 [(4, .int (Int32.ofInt 0)), (3, .int 0), (0, .ref 4), (1, .ref 14), (2, .int dep)] [] h183) ∧ (¬ (0 = 0) → pz_S 6 (some .boolean) am_r71 d Q 14 [(4, .int (Int32.ofInt 0)), (3, .int 0), (0, .ref 4), (1, .ref 14), (2, .int dep)] [] h183) from ⟨by decide, by decide, fun _ => ?_, fun hz => absurd (by decide) hz⟩)
    exact am_goX 2 (show (∃ ty, (some .boolean) = some ty ∧ narrow ty (.int (0)) = .int (0)) ∧ h183.2.2.2.2 = 175 ∧ _ from ⟨⟨.boolean, rfl, rfl⟩, ex_175 y189.1, hQ _ _ (cres_inl (F := F186) (by simp only [sp_wh, sp_b, sp_f, cond_true, cond_false, e188]) rfl y189)⟩)
  ·
    refine am_goX 3 (show 3 < 6 ∧ 4 < 6 ∧ pz_S 6 (some .boolean) am_r71 d Q 10 [(4, .int (Int32.ofInt 0)), (3, .int 1), (0, .ref 4), (1, .ref 14), (2, .int dep)] [] h183 from ⟨by decide, by decide, ?_⟩)
    have h7 := hok _ _ e188
    unfold sp_le at h7
    have ha := cr_a y189
    have h8 := l.2.2.2
    refine am_goX 2 (show (1 = 0 → pz_S 6 (some .boolean) am_r71 d Q 92 [(4, .int (nI 0)), (3, .int 1), (0, .ref 4), (1, .ref 14), (2, .int dep)] [] h183) ∧ (¬ (1 = 0) → pz_S 6 (some .boolean) am_r71 d Q 14 [(4, .int (nI 0)), (3, .int 1), (0, .ref 4), (1, .ref 14), (2, .int dep)] [] h183) from ⟨fun hz => absurd hz (by decide), fun _ => ?_⟩)
    refine am_goX 3 (show ((Int16.ofInt 1000).toInt32 ≤ (nI 0) → pz_S 6 (some .boolean) am_r71 d Q 92 [(4, .int (nI 0)), (3, .int 1), (0, .ref 4), (1, .ref 14), (2, .int dep)] [] h183) ∧ (¬ ((Int16.ofInt 1000).toInt32 ≤ (nI 0)) → pz_S 6 (some .boolean) am_r71 d Q 22 [(4, .int (nI 0)), (3, .int 1), (0, .ref 4), (1, .ref 14), (2, .int dep)] [] h183) from ⟨fun hz => absurd hz (i1000 (by omega)), fun _ => ?_⟩)
    refine am_goX 2 (show am_sh h183 4 = some (4, 0) ∧ pz_S 6 (some .boolean) am_r71 d Q 26 [(4, .int (nI 0)), (3, .int 1), (0, .ref 4), (1, .ref 14), (2, .int dep)] [am_rf (h183.2.2.1 4 0)] h183 from ⟨ex_4 (c_P y189.1), ?_⟩)
    rw [ex_r4_0 (c_P y189.1)]
    refine am_goX 2 (show am_rc h183 1 7 ∧ 0 ≤ 8 ∧ h183.2.2.2.2 + am_al 44 ≤ 175 ∧ am_call am_cod d 44 [.ref 1, .ref (4000000 + 19)] h183 (fun vv h' => pz_S 6 (some .boolean) am_r71 d Q 31 [(4, .int (nI 0)), (3, .int 1), (0, .ref 4), (1, .ref 14), (2, .int dep)] (vv.toList ++ []) h') from ⟨Or.inl ⟨by decide, ex_1 (c_P y189.1)⟩, by decide, ex_lim (c_P y189.1) rfl, am_call.up (c_isw (by decide) wq_19 y189.1 ?_) (by omega)⟩)
    cases e190 : sp_w (tt T sz) t187.1 1891 with
    | true =>
      refine am_goX 1 (show ((pz_b (true)) = 0 → pz_S 6 (some .boolean) am_r71 d Q 39 [(4, .int (nI 0)), (3, .int 1), (0, .ref 4), (1, .ref 14), (2, .int dep)] [] h183) ∧ (¬ ((pz_b (true)) = 0) → pz_S 6 (some .boolean) am_r71 d Q 34 [(4, .int (nI 0)), (3, .int 1), (0, .ref 4), (1, .ref 14), (2, .int dep)] [] h183) from ⟨fun hz => absurd hz (by decide), fun _ => ?_⟩)
      refine am_goX 5 (show 5 < 6 ∧ (¬ (Int8.ofInt (-6)).toInt32 = 0 → pz_S 6 (some .boolean) am_r71 d Q 66 [(5, .int (Int8.ofInt (-6)).toInt32), (4, .int (nI 0)), (3, .int 1), (0, .ref 4), (1, .ref 14), (2, .int dep)] [] h183) ∧ (¬ ¬ (Int8.ofInt (-6)).toInt32 = 0 → pz_S 6 (some .boolean) am_r71 d Q 64 [(5, .int (Int8.ofInt (-6)).toInt32), (4, .int (nI 0)), (3, .int 1), (0, .ref 4), (1, .ref 14), (2, .int dep)] [] h183) from ⟨by decide, fun _ => ?_, fun hz => absurd (by decide) hz⟩)
      refine am_goX 2 (show am_sh h183 4 = some (4, 0) ∧ pz_S 6 (some .boolean) am_r71 d Q 70 [(5, .int (Int8.ofInt (-6)).toInt32), (4, .int (nI 0)), (3, .int 1), (0, .ref 4), (1, .ref 14), (2, .int dep)] [am_rf (h183.2.2.1 4 0)] h183 from ⟨ex_4 (c_P y189.1), ?_⟩)
      rw [ex_r4_0 (c_P y189.1)]
      refine am_goX 1 (show am_rc h183 1 7 ∧ 0 ≤ 8 ∧ h183.2.2.2.2 + am_al 18 ≤ 175 ∧ am_call am_cod d 18 [.ref 1] h183 (fun vv h' => pz_S 6 (some .boolean) am_r71 d Q 73 [(5, .int (Int8.ofInt (-6)).toInt32), (4, .int (nI 0)), (3, .int 1), (0, .ref 4), (1, .ref 14), (2, .int dep)] (vv.toList ++ []) h') from ⟨Or.inl ⟨by decide, ex_1 (c_P y189.1)⟩, by decide, ex_lim (c_P y189.1) rfl, am_call.up (c_step y189.1 (sp_wn e190) (fun h191 m192 f193 => ?_)) (by omega)⟩)
      have l194 : cr h0 6 T sz ((t187.1 + 1), t187.2) h191 := cr_fr (a := t187.1) (C := t187.2) (by decide) y189 m192 (Nat.le_succ _) f193
      refine am_goX 4 (show am_rc h191 4 4 ∧ 0 ≤ 8 ∧ h191.2.2.2.2 + am_al 72 ≤ 175 ∧ am_call am_cod d 72 [.ref 4, .ref 14, .int dep] h191 (fun vv h' => pz_S 6 (some .boolean) am_r71 d Q 79 [(5, .int (Int8.ofInt (-6)).toInt32), (4, .int (nI 0)), (3, .int 1), (0, .ref 4), (1, .ref 14), (2, .int dep)] (vv.toList ++ []) h') from ⟨Or.inl ⟨by decide, ex_4 (c_P l194.1)⟩, by decide, ex_lim (c_P l194.1) rfl, ks _ _ _ l194 (fun v195 h196 x197 => ?_)⟩)
      rcases cres_cs x197 with ⟨F199, e201, rfl, y202⟩ | ⟨t200, e201, rfl, y202⟩
      ·
        refine am_goX 4 (show 3 < 6 ∧ am_rc h196 14 3 ∧ 0 ≤ 8 ∧ h196.2.2.2.2 + am_al 77 ≤ 175 ∧ am_call am_cod d 77 [.ref 14, .int (Int8.ofInt (-6)).toInt32] h196 (fun vv h' => pz_S 6 (some .boolean) am_r71 d Q 86 [(3, .int 0), (5, .int (Int8.ofInt (-6)).toInt32), (4, .int (nI 0)), (0, .ref 4), (1, .ref 14), (2, .int dep)] (vv.toList ++ []) h') from ⟨by decide, Or.inl ⟨by decide, ex_14 y202.1⟩, by decide, ex_lim y202.1 rfl, am_call.up (c_addx_6 y202 (fun h203 y204 => ?_)) (by omega)⟩)
        refine am_goX 4 (show 4 < 6 ∧ (0 = 0 → pz_S 6 (some .boolean) am_r71 d Q 92 [(4, .int ((nI 0) + Int32.ofInt 1)), (3, .int 0), (5, .int (Int8.ofInt (-6)).toInt32), (0, .ref 4), (1, .ref 14), (2, .int dep)] [] h203) ∧ (¬ (0 = 0) → pz_S 6 (some .boolean) am_r71 d Q 14 [(4, .int ((nI 0) + Int32.ofInt 1)), (3, .int 0), (5, .int (Int8.ofInt (-6)).toInt32), (0, .ref 4), (1, .ref 14), (2, .int dep)] [] h203) from ⟨by decide, fun _ => ?_, fun hz => absurd (by decide) hz⟩)
        exact am_goX 2 (show (∃ ty, (some .boolean) = some ty ∧ narrow ty (.int (0)) = .int (0)) ∧ h203.2.2.2.2 = 175 ∧ _ from ⟨⟨.boolean, rfl, rfl⟩, ex_175 y204.1, hQ _ _ (cres_inl (F := F199) (by simp only [sp_wh, sp_wL_1, sp_b, sp_f, cond_true, cond_false, e188, e190, e201]) rfl y204)⟩)
      ·
        refine am_goX 4 (show 3 < 6 ∧ am_rc h196 14 3 ∧ 0 ≤ 8 ∧ h196.2.2.2.2 + am_al 77 ≤ 175 ∧ am_call am_cod d 77 [.ref 14, .int (Int8.ofInt (-6)).toInt32] h196 (fun vv h' => pz_S 6 (some .boolean) am_r71 d Q 86 [(3, .int 1), (5, .int (Int8.ofInt (-6)).toInt32), (4, .int (nI 0)), (0, .ref 4), (1, .ref 14), (2, .int dep)] (vv.toList ++ []) h') from ⟨by decide, Or.inl ⟨by decide, ex_14 (c_P y202.1)⟩, by decide, ex_lim (c_P y202.1) rfl, am_call.up (c_add_6 (a := t200.1) (C := t200.2) y202 (by
            have h7 := hok _ _ e201
            have h8 := y189.2.2.2
            unfold sp_le at h7
            dsimp only at h7
            omega) (fun h205 l206 => ?_)) (by omega)⟩)
        refine am_goX 2 (show 4 < 6 ∧ pz_S 6 (some .boolean) am_r71 d Q 10 [(4, .int ((nI 0) + Int32.ofInt 1)), (3, .int 1), (5, .int (Int8.ofInt (-6)).toInt32), (0, .ref 4), (1, .ref 14), (2, .int dep)] [] h205 from ⟨by decide, ?_⟩)
        rw [xw_i1]
        have hx : sp_wL (tt T sz) p 1001 t187 = sp_wL (tt T sz) p 1000 (t200.1, sp_em t200.2 ((Int8.ofInt (-6)).toInt32)) := by simp only [sp_wL_1, sp_b, cond_true, cond_false, e188, e190, e201]
        have h7 := hok _ _ e201
        unfold sp_le at h7
        dsimp only at h7
        exact c_71l_6 hd ks hok 1000 (0 + 1) (t200.1, sp_em t200.2 ((Int8.ofInt (-6)).toInt32)) h205 Q ((Int8.ofInt (-6)).toInt32) (by dsimp only; omega) (by dsimp only; omega) l206 (fun v h1 q => hQ v h1 (by unfold sp_wh; rw [e188]; show cres _ _ _ _ (sp_wL (tt T sz) p 1001 t187) _ _; rw [hx]; exact q))
    | false =>
      refine am_goX 1 (show ((pz_b (false)) = 0 → pz_S 6 (some .boolean) am_r71 d Q 39 [(4, .int (nI 0)), (3, .int 1), (0, .ref 4), (1, .ref 14), (2, .int dep)] [] h183) ∧ (¬ ((pz_b (false)) = 0) → pz_S 6 (some .boolean) am_r71 d Q 34 [(4, .int (nI 0)), (3, .int 1), (0, .ref 4), (1, .ref 14), (2, .int dep)] [] h183) from ⟨fun _ => ?_, fun hz => absurd (by decide) hz⟩)
      refine am_goX 2 (show am_sh h183 4 = some (4, 0) ∧ pz_S 6 (some .boolean) am_r71 d Q 43 [(4, .int (nI 0)), (3, .int 1), (0, .ref 4), (1, .ref 14), (2, .int dep)] [am_rf (h183.2.2.1 4 0)] h183 from ⟨ex_4 (c_P y189.1), ?_⟩)
      rw [ex_r4_0 (c_P y189.1)]
      refine am_goX 2 (show am_rc h183 1 7 ∧ 0 ≤ 8 ∧ h183.2.2.2.2 + am_al 44 ≤ 175 ∧ am_call am_cod d 44 [.ref 1, .ref (4000000 + 20)] h183 (fun vv h' => pz_S 6 (some .boolean) am_r71 d Q 48 [(4, .int (nI 0)), (3, .int 1), (0, .ref 4), (1, .ref 14), (2, .int dep)] (vv.toList ++ []) h') from ⟨Or.inl ⟨by decide, ex_1 (c_P y189.1)⟩, by decide, ex_lim (c_P y189.1) rfl, am_call.up (c_isw (by decide) wq_20 y189.1 ?_) (by omega)⟩)
      cases e207 : sp_w (tt T sz) t187.1 573 with
      | true =>
        refine am_goX 1 (show ((pz_b (true)) = 0 → pz_S 6 (some .boolean) am_r71 d Q 56 [(4, .int (nI 0)), (3, .int 1), (0, .ref 4), (1, .ref 14), (2, .int dep)] [] h183) ∧ (¬ ((pz_b (true)) = 0) → pz_S 6 (some .boolean) am_r71 d Q 51 [(4, .int (nI 0)), (3, .int 1), (0, .ref 4), (1, .ref 14), (2, .int dep)] [] h183) from ⟨fun hz => absurd hz (by decide), fun _ => ?_⟩)
        refine am_goX 5 (show 5 < 6 ∧ (¬ (Int8.ofInt (-7)).toInt32 = 0 → pz_S 6 (some .boolean) am_r71 d Q 66 [(5, .int (Int8.ofInt (-7)).toInt32), (4, .int (nI 0)), (3, .int 1), (0, .ref 4), (1, .ref 14), (2, .int dep)] [] h183) ∧ (¬ ¬ (Int8.ofInt (-7)).toInt32 = 0 → pz_S 6 (some .boolean) am_r71 d Q 64 [(5, .int (Int8.ofInt (-7)).toInt32), (4, .int (nI 0)), (3, .int 1), (0, .ref 4), (1, .ref 14), (2, .int dep)] [] h183) from ⟨by decide, fun _ => ?_, fun hz => absurd (by decide) hz⟩)
        refine am_goX 2 (show am_sh h183 4 = some (4, 0) ∧ pz_S 6 (some .boolean) am_r71 d Q 70 [(5, .int (Int8.ofInt (-7)).toInt32), (4, .int (nI 0)), (3, .int 1), (0, .ref 4), (1, .ref 14), (2, .int dep)] [am_rf (h183.2.2.1 4 0)] h183 from ⟨ex_4 (c_P y189.1), ?_⟩)
        rw [ex_r4_0 (c_P y189.1)]
        refine am_goX 1 (show am_rc h183 1 7 ∧ 0 ≤ 8 ∧ h183.2.2.2.2 + am_al 18 ≤ 175 ∧ am_call am_cod d 18 [.ref 1] h183 (fun vv h' => pz_S 6 (some .boolean) am_r71 d Q 73 [(5, .int (Int8.ofInt (-7)).toInt32), (4, .int (nI 0)), (3, .int 1), (0, .ref 4), (1, .ref 14), (2, .int dep)] (vv.toList ++ []) h') from ⟨Or.inl ⟨by decide, ex_1 (c_P y189.1)⟩, by decide, ex_lim (c_P y189.1) rfl, am_call.up (c_step y189.1 (sp_wn e207) (fun h208 m209 f210 => ?_)) (by omega)⟩)
        have l211 : cr h0 6 T sz ((t187.1 + 1), t187.2) h208 := cr_fr (a := t187.1) (C := t187.2) (by decide) y189 m209 (Nat.le_succ _) f210
        refine am_goX 4 (show am_rc h208 4 4 ∧ 0 ≤ 8 ∧ h208.2.2.2.2 + am_al 72 ≤ 175 ∧ am_call am_cod d 72 [.ref 4, .ref 14, .int dep] h208 (fun vv h' => pz_S 6 (some .boolean) am_r71 d Q 79 [(5, .int (Int8.ofInt (-7)).toInt32), (4, .int (nI 0)), (3, .int 1), (0, .ref 4), (1, .ref 14), (2, .int dep)] (vv.toList ++ []) h') from ⟨Or.inl ⟨by decide, ex_4 (c_P l211.1)⟩, by decide, ex_lim (c_P l211.1) rfl, ks _ _ _ l211 (fun v212 h213 x214 => ?_)⟩)
        rcases cres_cs x214 with ⟨F216, e218, rfl, y219⟩ | ⟨t217, e218, rfl, y219⟩
        ·
          refine am_goX 4 (show 3 < 6 ∧ am_rc h213 14 3 ∧ 0 ≤ 8 ∧ h213.2.2.2.2 + am_al 77 ≤ 175 ∧ am_call am_cod d 77 [.ref 14, .int (Int8.ofInt (-7)).toInt32] h213 (fun vv h' => pz_S 6 (some .boolean) am_r71 d Q 86 [(3, .int 0), (5, .int (Int8.ofInt (-7)).toInt32), (4, .int (nI 0)), (0, .ref 4), (1, .ref 14), (2, .int dep)] (vv.toList ++ []) h') from ⟨by decide, Or.inl ⟨by decide, ex_14 y219.1⟩, by decide, ex_lim y219.1 rfl, am_call.up (c_addx_6 y219 (fun h220 y221 => ?_)) (by omega)⟩)
          refine am_goX 4 (show 4 < 6 ∧ (0 = 0 → pz_S 6 (some .boolean) am_r71 d Q 92 [(4, .int ((nI 0) + Int32.ofInt 1)), (3, .int 0), (5, .int (Int8.ofInt (-7)).toInt32), (0, .ref 4), (1, .ref 14), (2, .int dep)] [] h220) ∧ (¬ (0 = 0) → pz_S 6 (some .boolean) am_r71 d Q 14 [(4, .int ((nI 0) + Int32.ofInt 1)), (3, .int 0), (5, .int (Int8.ofInt (-7)).toInt32), (0, .ref 4), (1, .ref 14), (2, .int dep)] [] h220) from ⟨by decide, fun _ => ?_, fun hz => absurd (by decide) hz⟩)
          exact am_goX 2 (show (∃ ty, (some .boolean) = some ty ∧ narrow ty (.int (0)) = .int (0)) ∧ h220.2.2.2.2 = 175 ∧ _ from ⟨⟨.boolean, rfl, rfl⟩, ex_175 y221.1, hQ _ _ (cres_inl (F := F216) (by simp only [sp_wh, sp_wL_1, sp_b, sp_f, cond_true, cond_false, e188, e190, e207, e218]) rfl y221)⟩)
        ·
          refine am_goX 4 (show 3 < 6 ∧ am_rc h213 14 3 ∧ 0 ≤ 8 ∧ h213.2.2.2.2 + am_al 77 ≤ 175 ∧ am_call am_cod d 77 [.ref 14, .int (Int8.ofInt (-7)).toInt32] h213 (fun vv h' => pz_S 6 (some .boolean) am_r71 d Q 86 [(3, .int 1), (5, .int (Int8.ofInt (-7)).toInt32), (4, .int (nI 0)), (0, .ref 4), (1, .ref 14), (2, .int dep)] (vv.toList ++ []) h') from ⟨by decide, Or.inl ⟨by decide, ex_14 (c_P y219.1)⟩, by decide, ex_lim (c_P y219.1) rfl, am_call.up (c_add_6 (a := t217.1) (C := t217.2) y219 (by
              have h7 := hok _ _ e218
              have h8 := y189.2.2.2
              unfold sp_le at h7
              dsimp only at h7
              omega) (fun h222 l223 => ?_)) (by omega)⟩)
          refine am_goX 2 (show 4 < 6 ∧ pz_S 6 (some .boolean) am_r71 d Q 10 [(4, .int ((nI 0) + Int32.ofInt 1)), (3, .int 1), (5, .int (Int8.ofInt (-7)).toInt32), (0, .ref 4), (1, .ref 14), (2, .int dep)] [] h222 from ⟨by decide, ?_⟩)
          rw [xw_i1]
          have hx : sp_wL (tt T sz) p 1001 t187 = sp_wL (tt T sz) p 1000 (t217.1, sp_em t217.2 ((Int8.ofInt (-7)).toInt32)) := by simp only [sp_wL_1, sp_b, cond_true, cond_false, e188, e190, e207, e218]
          have h7 := hok _ _ e218
          unfold sp_le at h7
          dsimp only at h7
          exact c_71l_6 hd ks hok 1000 (0 + 1) (t217.1, sp_em t217.2 ((Int8.ofInt (-7)).toInt32)) h222 Q ((Int8.ofInt (-7)).toInt32) (by dsimp only; omega) (by dsimp only; omega) l223 (fun v h1 q => hQ v h1 (by unfold sp_wh; rw [e188]; show cres _ _ _ _ (sp_wL (tt T sz) p 1001 t187) _ _; rw [hx]; exact q))
      | false =>
        refine am_goX 1 (show ((pz_b (false)) = 0 → pz_S 6 (some .boolean) am_r71 d Q 56 [(4, .int (nI 0)), (3, .int 1), (0, .ref 4), (1, .ref 14), (2, .int dep)] [] h183) ∧ (¬ ((pz_b (false)) = 0) → pz_S 6 (some .boolean) am_r71 d Q 51 [(4, .int (nI 0)), (3, .int 1), (0, .ref 4), (1, .ref 14), (2, .int dep)] [] h183) from ⟨fun _ => ?_, fun hz => absurd (by decide) hz⟩)
        refine am_goX 4 (show 5 < 6 ∧ (¬ (Int32.ofInt 0) = 0 → pz_S 6 (some .boolean) am_r71 d Q 66 [(5, .int (Int32.ofInt 0)), (4, .int (nI 0)), (3, .int 1), (0, .ref 4), (1, .ref 14), (2, .int dep)] [] h183) ∧ (¬ ¬ (Int32.ofInt 0) = 0 → pz_S 6 (some .boolean) am_r71 d Q 64 [(5, .int (Int32.ofInt 0)), (4, .int (nI 0)), (3, .int 1), (0, .ref 4), (1, .ref 14), (2, .int dep)] [] h183) from ⟨by decide, fun hz => absurd hz (by decide), fun _ => ?_⟩)
        exact am_goX 2 (show (∃ ty, (some .boolean) = some ty ∧ narrow ty (.int ((Int32.ofInt 1))) = .int ((Int32.ofInt 1))) ∧ h183.2.2.2.2 = 175 ∧ _ from ⟨⟨.boolean, rfl, rfl⟩, ex_175 (c_P y189.1), hQ _ _ (cres_inr (s' := t187) (by simp only [sp_wh, sp_wL_1, sp_b, sp_f, cond_true, cond_false, e188, e190, e207]) rfl y189)⟩)
theorem c_addn_6 {x : Int32} (l : cr h0 6 T sz s h) (hlt : s.2.2.2.2.2.1 < 1000) (hQ : ∀ h1, cr1 h0 6 T sz s.1 (sp_em s.2 x) h1 → Q none h1) : am_call am_cod 1 77 [.ref 14, .int x] h Q := by
  have hP := c_P l.1
  have e2 : h.1 14 2 = nI s.2.2.2.2.2.1 := l.2.1.2.2.2.2.1
  refine pz_call (n := 77) (nL := 2) (rt := none) (rows := am_r77) (d := 0) (by decide +kernel) (by decide +kernel) rfl (by funext pc; rfl) (ex_175 hP) (by exact Nat.le_of_ble_eq_true rfl) ?_
  refine am_goX 3 (show am_sh h 14 = some (3, 0) ∧ pz_S 2 none am_r77 0 Q 7 [(0, .ref 14), (1, .int x)] [.int (Int16.ofInt 1000).toInt32, .int (h.1 14 2)] h from ⟨ex_14 hP, ?_⟩)
  rw [e2]
  refine am_goX 1 (show ((Int16.ofInt 1000).toInt32 ≤ (nI s.2.2.2.2.2.1) → pz_S 2 none am_r77 0 Q 30 [(0, .ref 14), (1, .int x)] [] h) ∧ (¬ ((Int16.ofInt 1000).toInt32 ≤ (nI s.2.2.2.2.2.1)) → pz_S 2 none am_r77 0 Q 10 [(0, .ref 14), (1, .int x)] [] h) from ⟨fun hz => absurd hz (i1000 hlt), fun _ => ?_⟩)
  refine am_goX 2 (show am_sh h 14 = some (3, 0) ∧ pz_S 2 none am_r77 0 Q 14 [(0, .ref 14), (1, .int x)] [am_rf (h.2.2.1 14 0)] h from ⟨ex_14 hP, ?_⟩)
  rw [ex_r14_0 hP]
  refine am_goX 4 (show am_sh h 14 = some (3, 0) ∧ ∃ jj nn : Nat, am_so h 15 = some (13, nn) ∧ jj < nn ∧ (h.1 14 2) = nI jj ∧ pz_S 2 none am_r77 0 Q 20 [(0, .ref 14), (1, .int x)] [] (am_wI h 15 jj (x)) from ⟨ex_14 hP, s.2.2.2.2.2.1, 1000, ex_w15 hP, hlt, e2, ?_⟩)
  refine am_goX 6 (show (Value.ref 14).category = 1 ∧ am_sh (am_wI h 15 (s.2.2.2.2.2.1) (x)) 14 = some (3, 0) ∧ am_sh (am_wI h 15 (s.2.2.2.2.2.1) (x)) 14 = some (3, 0) ∧ narrow (am_fty 3 2) (.int ((((am_wI h 15 (s.2.2.2.2.2.1) (x)).1 14 2) + (Int32.ofInt 1)))) = .int ((((am_wI h 15 (s.2.2.2.2.2.1) (x)).1 14 2) + (Int32.ofInt 1))) ∧ fits (am_fty 3 2) (.int ((((am_wI h 15 (s.2.2.2.2.2.1) (x)).1 14 2) + (Int32.ofInt 1)))) = true ∧ pz_S 2 none am_r77 0 Q 30 [(0, .ref 14), (1, .int x)] [] (am_wI (am_wI h 15 (s.2.2.2.2.2.1) (x)) 14 2 ((((am_wI h 15 (s.2.2.2.2.2.1) (x)).1 14 2) + (Int32.ofInt 1)))) from ⟨rfl, ex_14 hP, ex_14 hP, rfl, rfl, ?_⟩)
  rw [em_wn h _ (by omega), e2, xw_i1]
  exact am_goX 1 (show (none : Option FieldType) = none ∧ (am_wI (am_wI h 15 s.2.2.2.2.2.1 x) 14 2 (nI (s.2.2.2.2.2.1 + 1))).2.2.2.2 = 175 ∧ _ from ⟨rfl, ex_175 hP, hQ _ (cr1_em (c := 6) (by decide) l hlt)⟩)
theorem c_75z_6 {r : Nat} (hd : 6 ≤ d) (hdp : dep = Int32.ofInt 5) : lw_c h0 6 T sz (d + 1) 75 dep (sp_pt (tt T sz) 0) := by
  intro s h Q l hQ
  have hP := c_P l.1
  have hk := ck_2 T sz s.1
  refine pz_call (n := 75) (nL := 7) (rt := (some .boolean)) (rows := am_r75) (d := d) (by decide +kernel) (by decide +kernel) rfl (by funext pc; rfl) (ex_175 hP) (by exact Nat.le_of_ble_eq_true rfl) ?_
  refine am_goX 2 (show am_rc h 4 4 ∧ 0 ≤ 8 ∧ h.2.2.2.2 + am_al 76 ≤ 175 ∧ am_call am_cod d 76 [.ref 4] h (fun vv h' => pz_S 7 (some .boolean) am_r75 d Q 4 [(0, .ref 4), (1, .ref 14), (2, .int dep)] (vv.toList ++ []) h') from ⟨Or.inl ⟨by decide, ex_4 (c_P l.1)⟩, by decide, ex_lim (c_P l.1) rfl, am_call.up (c_fact_6 l ?_) (by omega)⟩)
  refine am_goX 3 (show 3 < 7 ∧ am_sh h 4 = some (4, 0) ∧ pz_S 7 (some .boolean) am_r75 d Q 9 [(3, .int (sp_fa (tt T sz) s.1)), (0, .ref 4), (1, .ref 14), (2, .int dep)] [am_rf (h.2.2.1 4 0)] h from ⟨by decide, ex_4 (c_P l.1), ?_⟩)
  rw [ex_r4_0 (c_P l.1)]
  refine am_goX 2 (show am_sh h 1 = some (7, 0) ∧ pz_S 7 (some .boolean) am_r75 d Q 13 [(3, .int (sp_fa (tt T sz) s.1)), (0, .ref 4), (1, .ref 14), (2, .int dep)] [.int (Int32.ofInt 2), .int (h.1 1 2)] h from ⟨ex_1 (c_P l.1), ?_⟩)
  rw [c_kd l.1]
  refine am_goX 1 (show (¬ (ck (tt T sz s.1).1) = (Int32.ofInt 2) → pz_S 7 (some .boolean) am_r75 d Q 20 [(3, .int (sp_fa (tt T sz) s.1)), (0, .ref 4), (1, .ref 14), (2, .int dep)] [] h) ∧ (¬ ¬ (ck (tt T sz s.1).1) = (Int32.ofInt 2) → pz_S 7 (some .boolean) am_r75 d Q 16 [(3, .int (sp_fa (tt T sz) s.1)), (0, .ref 4), (1, .ref 14), (2, .int dep)] [] h) from ⟨fun hc => ?_, fun hc => ?_⟩)
  ·
    have e2 : sp_k (tt T sz) s.1 2 = false := by rw [← hk]; exact decide_eq_false hc
    clear hc
    refine am_goX 4 (show 4 < 7 ∧ am_sh h 4 = some (4, 0) ∧ pz_S 7 (some .boolean) am_r75 d Q 27 [(4, .int (Int32.ofInt 0)), (3, .int (sp_fa (tt T sz) s.1)), (0, .ref 4), (1, .ref 14), (2, .int dep)] [am_rf (h.2.2.1 4 0)] h from ⟨by decide, ex_4 (c_P l.1), ?_⟩)
    rw [ex_r4_0 (c_P l.1)]
    refine am_goX 2 (show am_rc h 1 7 ∧ 0 ≤ 8 ∧ h.2.2.2.2 + am_al 44 ≤ 175 ∧ am_call am_cod d 44 [.ref 1, .ref (4000000 + 18)] h (fun vv h' => pz_S 7 (some .boolean) am_r75 d Q 32 [(4, .int (Int32.ofInt 0)), (3, .int (sp_fa (tt T sz) s.1)), (0, .ref 4), (1, .ref 14), (2, .int dep)] (vv.toList ++ []) h') from ⟨Or.inl ⟨by decide, ex_1 (c_P l.1)⟩, by decide, ex_lim (c_P l.1) rfl, am_call.up (c_isw (by decide) wq_18 l.1 ?_) (by omega)⟩)
    refine am_goX 3 (show 5 < 7 ∧ (¬ (sp_fa (tt T sz) s.1) = 0 → pz_S 7 (some .boolean) am_r75 d Q 69 [(5, .int (pz_b (sp_w (tt T sz) s.1 19741))), (4, .int (Int32.ofInt 0)), (3, .int (sp_fa (tt T sz) s.1)), (0, .ref 4), (1, .ref 14), (2, .int dep)] [] h) ∧ (¬ ¬ (sp_fa (tt T sz) s.1) = 0 → pz_S 7 (some .boolean) am_r75 d Q 38 [(5, .int (pz_b (sp_w (tt T sz) s.1 19741))), (4, .int (Int32.ofInt 0)), (3, .int (sp_fa (tt T sz) s.1)), (0, .ref 4), (1, .ref 14), (2, .int dep)] [] h) from ⟨by decide, fun hc => ?_, fun hc => ?_⟩)
    ·
      have e3n : ¬ sp_fa (tt T sz) s.1 = 0 := hc
      have e3 : decide (sp_fa (tt T sz) s.1 = 0) = false := decide_eq_false e3n
      clear hc
      refine am_goX 3 (show (dep < (Int32.ofInt 5) → pz_S 7 (some .boolean) am_r75 d Q 83 [(5, .int (pz_b (sp_w (tt T sz) s.1 19741))), (4, .int (Int32.ofInt 0)), (3, .int (sp_fa (tt T sz) s.1)), (0, .ref 4), (1, .ref 14), (2, .int dep)] [] h) ∧ (¬ (dep < (Int32.ofInt 5)) → pz_S 7 (some .boolean) am_r75 d Q 74 [(5, .int (pz_b (sp_w (tt T sz) s.1 19741))), (4, .int (Int32.ofInt 0)), (3, .int (sp_fa (tt T sz) s.1)), (0, .ref 4), (1, .ref 14), (2, .int dep)] [] h) from ⟨fun hz => absurd hz (by rw [hdp]; decide), fun _ => ?_⟩)
      refine am_goX 2 (show am_sh h 4 = some (4, 0) ∧ pz_S 7 (some .boolean) am_r75 d Q 78 [(5, .int (pz_b (sp_w (tt T sz) s.1 19741))), (4, .int (Int32.ofInt 0)), (3, .int (sp_fa (tt T sz) s.1)), (0, .ref 4), (1, .ref 14), (2, .int dep)] [am_rf (h.2.2.1 4 0)] h from ⟨ex_4 (c_P l.1), ?_⟩)
      rw [ex_r4_0 (c_P l.1)]
      refine am_goX 2 (show am_rc h 1 7 ∧ 0 ≤ 8 ∧ h.2.2.2.2 + am_al 52 ≤ 175 ∧ am_call am_cod d 52 [.ref 1, .int (Int32.ofInt 5)] h (fun vv h' => pz_S 7 (some .boolean) am_r75 d Q 82 [(5, .int (pz_b (sp_w (tt T sz) s.1 19741))), (4, .int (Int32.ofInt 0)), (3, .int (sp_fa (tt T sz) s.1)), (0, .ref 4), (1, .ref 14), (2, .int dep)] (vv.toList ++ []) h') from ⟨Or.inl ⟨by decide, ex_1 (c_P l.1)⟩, by decide, ex_lim (c_P l.1) rfl, am_call.up (c_refuse l.1 ?_) (by omega)⟩)
      have x224 := cr_x (s := s) (k := (Int32.ofInt 5)) (by decide) l (by decide)
      exact am_goX 1 (show (∃ ty, (some .boolean) = some ty ∧ narrow ty (.int ((Int32.ofInt 0))) = .int ((Int32.ofInt 0))) ∧ (am_wI h 1 7 (sp_ft (tt T sz) s.1 (Int32.ofInt 5))).2.2.2.2 = 175 ∧ _ from ⟨⟨.boolean, rfl, rfl⟩, ex_175 x224.1, hQ _ _ (cres_inl (F := sp_ft (tt T sz) s.1 (Int32.ofInt 5)) (by simp only [sp_pt, sp_b, sp_f, cond_true, cond_false, e2, e3, Bool.and_true, Bool.and_false, Bool.true_and, Bool.false_and, Bool.not_true, Bool.not_false]) rfl x224)⟩)
    ·
      have e3a : sp_fa (tt T sz) s.1 = 0 := Decidable.not_not.mp hc
      have e3 : decide (sp_fa (tt T sz) s.1 = 0) = true := decide_eq_true e3a
      clear hc
      refine am_goX 2 (show (¬ (Int32.ofInt 0) = 0 → pz_S 7 (some .boolean) am_r75 d Q 69 [(5, .int (pz_b (sp_w (tt T sz) s.1 19741))), (4, .int (Int32.ofInt 0)), (3, .int (sp_fa (tt T sz) s.1)), (0, .ref 4), (1, .ref 14), (2, .int dep)] [] h) ∧ (¬ ¬ (Int32.ofInt 0) = 0 → pz_S 7 (some .boolean) am_r75 d Q 43 [(5, .int (pz_b (sp_w (tt T sz) s.1 19741))), (4, .int (Int32.ofInt 0)), (3, .int (sp_fa (tt T sz) s.1)), (0, .ref 4), (1, .ref 14), (2, .int dep)] [] h) from ⟨fun hz => absurd hz (by decide), fun _ => ?_⟩)
      refine am_goX 1 (show pz_S 7 (some .boolean) am_r75 d Q 45 [(5, .int (pz_b (sp_w (tt T sz) s.1 19741))), (4, .int (Int32.ofInt 0)), (3, .int (sp_fa (tt T sz) s.1)), (0, .ref 4), (1, .ref 14), (2, .int dep)] [.int (pz_b (sp_w (tt T sz) s.1 19741))] h from ?_)
      cases e225 : sp_w (tt T sz) s.1 19741 with
      | true =>
        refine am_goX 1 (show (¬ (pz_b (true)) = 0 → pz_S 7 (some .boolean) am_r75 d Q 69 [(5, .int (pz_b (true))), (4, .int (Int32.ofInt 0)), (3, .int (sp_fa (tt T sz) s.1)), (0, .ref 4), (1, .ref 14), (2, .int dep)] [] h) ∧ (¬ ¬ (pz_b (true)) = 0 → pz_S 7 (some .boolean) am_r75 d Q 48 [(5, .int (pz_b (true))), (4, .int (Int32.ofInt 0)), (3, .int (sp_fa (tt T sz) s.1)), (0, .ref 4), (1, .ref 14), (2, .int dep)] [] h) from ⟨fun _ => ?_, fun hz => absurd (by decide) hz⟩)
        refine am_goX 3 (show (dep < (Int32.ofInt 5) → pz_S 7 (some .boolean) am_r75 d Q 83 [(5, .int (pz_b (true))), (4, .int (Int32.ofInt 0)), (3, .int (sp_fa (tt T sz) s.1)), (0, .ref 4), (1, .ref 14), (2, .int dep)] [] h) ∧ (¬ (dep < (Int32.ofInt 5)) → pz_S 7 (some .boolean) am_r75 d Q 74 [(5, .int (pz_b (true))), (4, .int (Int32.ofInt 0)), (3, .int (sp_fa (tt T sz) s.1)), (0, .ref 4), (1, .ref 14), (2, .int dep)] [] h) from ⟨fun hz => absurd hz (by rw [hdp]; decide), fun _ => ?_⟩)
        refine am_goX 2 (show am_sh h 4 = some (4, 0) ∧ pz_S 7 (some .boolean) am_r75 d Q 78 [(5, .int (pz_b (true))), (4, .int (Int32.ofInt 0)), (3, .int (sp_fa (tt T sz) s.1)), (0, .ref 4), (1, .ref 14), (2, .int dep)] [am_rf (h.2.2.1 4 0)] h from ⟨ex_4 (c_P l.1), ?_⟩)
        rw [ex_r4_0 (c_P l.1)]
        refine am_goX 2 (show am_rc h 1 7 ∧ 0 ≤ 8 ∧ h.2.2.2.2 + am_al 52 ≤ 175 ∧ am_call am_cod d 52 [.ref 1, .int (Int32.ofInt 5)] h (fun vv h' => pz_S 7 (some .boolean) am_r75 d Q 82 [(5, .int (pz_b (true))), (4, .int (Int32.ofInt 0)), (3, .int (sp_fa (tt T sz) s.1)), (0, .ref 4), (1, .ref 14), (2, .int dep)] (vv.toList ++ []) h') from ⟨Or.inl ⟨by decide, ex_1 (c_P l.1)⟩, by decide, ex_lim (c_P l.1) rfl, am_call.up (c_refuse l.1 ?_) (by omega)⟩)
        have x226 := cr_x (s := s) (k := (Int32.ofInt 5)) (by decide) l (by decide)
        exact am_goX 1 (show (∃ ty, (some .boolean) = some ty ∧ narrow ty (.int ((Int32.ofInt 0))) = .int ((Int32.ofInt 0))) ∧ (am_wI h 1 7 (sp_ft (tt T sz) s.1 (Int32.ofInt 5))).2.2.2.2 = 175 ∧ _ from ⟨⟨.boolean, rfl, rfl⟩, ex_175 x226.1, hQ _ _ (cres_inl (F := sp_ft (tt T sz) s.1 (Int32.ofInt 5)) (by simp only [sp_pt, sp_b, sp_f, cond_true, cond_false, e2, e3, e225, Bool.and_true, Bool.and_false, Bool.true_and, Bool.false_and, Bool.not_true, Bool.not_false]) rfl x226)⟩)
      | false =>
        refine am_goX 1 (show (¬ (pz_b (false)) = 0 → pz_S 7 (some .boolean) am_r75 d Q 69 [(5, .int (pz_b (false))), (4, .int (Int32.ofInt 0)), (3, .int (sp_fa (tt T sz) s.1)), (0, .ref 4), (1, .ref 14), (2, .int dep)] [] h) ∧ (¬ ¬ (pz_b (false)) = 0 → pz_S 7 (some .boolean) am_r75 d Q 48 [(5, .int (pz_b (false))), (4, .int (Int32.ofInt 0)), (3, .int (sp_fa (tt T sz) s.1)), (0, .ref 4), (1, .ref 14), (2, .int dep)] [] h) from ⟨fun hz => absurd hz (by decide), fun _ => ?_⟩)
        refine am_goX 2 (show am_sh h 4 = some (4, 0) ∧ pz_S 7 (some .boolean) am_r75 d Q 52 [(5, .int (pz_b (false))), (4, .int (Int32.ofInt 0)), (3, .int (sp_fa (tt T sz) s.1)), (0, .ref 4), (1, .ref 14), (2, .int dep)] [am_rf (h.2.2.1 4 0)] h from ⟨ex_4 (c_P l.1), ?_⟩)
        rw [ex_r4_0 (c_P l.1)]
        refine am_goX 2 (show am_rc h 1 7 ∧ 0 ≤ 8 ∧ h.2.2.2.2 + am_al 62 ≤ 175 ∧ am_call am_cod d 62 [.ref 1, .int (Int8.ofInt 40).toInt32] h (fun vv h' => pz_S 7 (some .boolean) am_r75 d Q 57 [(5, .int (pz_b (false))), (4, .int (Int32.ofInt 0)), (3, .int (sp_fa (tt T sz) s.1)), (0, .ref 4), (1, .ref 14), (2, .int dep)] (vv.toList ++ []) h') from ⟨Or.inl ⟨by decide, ex_1 (c_P l.1)⟩, by decide, ex_lim (c_P l.1) rfl, am_call.up (c_iss l.1 ?_) (by omega)⟩)
        cases e227 : sp_s (tt T sz) s.1 (Int8.ofInt 40).toInt32 with
        | true =>
          refine am_goX 1 (show (¬ (pz_b (true)) = 0 → pz_S 7 (some .boolean) am_r75 d Q 69 [(5, .int (pz_b (false))), (4, .int (Int32.ofInt 0)), (3, .int (sp_fa (tt T sz) s.1)), (0, .ref 4), (1, .ref 14), (2, .int dep)] [] h) ∧ (¬ ¬ (pz_b (true)) = 0 → pz_S 7 (some .boolean) am_r75 d Q 60 [(5, .int (pz_b (false))), (4, .int (Int32.ofInt 0)), (3, .int (sp_fa (tt T sz) s.1)), (0, .ref 4), (1, .ref 14), (2, .int dep)] [] h) from ⟨fun _ => ?_, fun hz => absurd (by decide) hz⟩)
          refine am_goX 3 (show (dep < (Int32.ofInt 5) → pz_S 7 (some .boolean) am_r75 d Q 83 [(5, .int (pz_b (false))), (4, .int (Int32.ofInt 0)), (3, .int (sp_fa (tt T sz) s.1)), (0, .ref 4), (1, .ref 14), (2, .int dep)] [] h) ∧ (¬ (dep < (Int32.ofInt 5)) → pz_S 7 (some .boolean) am_r75 d Q 74 [(5, .int (pz_b (false))), (4, .int (Int32.ofInt 0)), (3, .int (sp_fa (tt T sz) s.1)), (0, .ref 4), (1, .ref 14), (2, .int dep)] [] h) from ⟨fun hz => absurd hz (by rw [hdp]; decide), fun _ => ?_⟩)
          refine am_goX 2 (show am_sh h 4 = some (4, 0) ∧ pz_S 7 (some .boolean) am_r75 d Q 78 [(5, .int (pz_b (false))), (4, .int (Int32.ofInt 0)), (3, .int (sp_fa (tt T sz) s.1)), (0, .ref 4), (1, .ref 14), (2, .int dep)] [am_rf (h.2.2.1 4 0)] h from ⟨ex_4 (c_P l.1), ?_⟩)
          rw [ex_r4_0 (c_P l.1)]
          refine am_goX 2 (show am_rc h 1 7 ∧ 0 ≤ 8 ∧ h.2.2.2.2 + am_al 52 ≤ 175 ∧ am_call am_cod d 52 [.ref 1, .int (Int32.ofInt 5)] h (fun vv h' => pz_S 7 (some .boolean) am_r75 d Q 82 [(5, .int (pz_b (false))), (4, .int (Int32.ofInt 0)), (3, .int (sp_fa (tt T sz) s.1)), (0, .ref 4), (1, .ref 14), (2, .int dep)] (vv.toList ++ []) h') from ⟨Or.inl ⟨by decide, ex_1 (c_P l.1)⟩, by decide, ex_lim (c_P l.1) rfl, am_call.up (c_refuse l.1 ?_) (by omega)⟩)
          have x228 := cr_x (s := s) (k := (Int32.ofInt 5)) (by decide) l (by decide)
          exact am_goX 1 (show (∃ ty, (some .boolean) = some ty ∧ narrow ty (.int ((Int32.ofInt 0))) = .int ((Int32.ofInt 0))) ∧ (am_wI h 1 7 (sp_ft (tt T sz) s.1 (Int32.ofInt 5))).2.2.2.2 = 175 ∧ _ from ⟨⟨.boolean, rfl, rfl⟩, ex_175 x228.1, hQ _ _ (cres_inl (F := sp_ft (tt T sz) s.1 (Int32.ofInt 5)) (by simp only [sp_pt, sp_b, sp_f, cond_true, cond_false, e2, e3, e225, e227, Bool.and_true, Bool.and_false, Bool.true_and, Bool.false_and, Bool.not_true, Bool.not_false]) rfl x228)⟩)
        | false =>
          refine am_goX 1 (show (¬ (pz_b (false)) = 0 → pz_S 7 (some .boolean) am_r75 d Q 69 [(5, .int (pz_b (false))), (4, .int (Int32.ofInt 0)), (3, .int (sp_fa (tt T sz) s.1)), (0, .ref 4), (1, .ref 14), (2, .int dep)] [] h) ∧ (¬ ¬ (pz_b (false)) = 0 → pz_S 7 (some .boolean) am_r75 d Q 60 [(5, .int (pz_b (false))), (4, .int (Int32.ofInt 0)), (3, .int (sp_fa (tt T sz) s.1)), (0, .ref 4), (1, .ref 14), (2, .int dep)] [] h) from ⟨fun hz => absurd hz (by decide), fun _ => ?_⟩)
          refine am_goX 2 (show am_sh h 4 = some (4, 0) ∧ pz_S 7 (some .boolean) am_r75 d Q 64 [(5, .int (pz_b (false))), (4, .int (Int32.ofInt 0)), (3, .int (sp_fa (tt T sz) s.1)), (0, .ref 4), (1, .ref 14), (2, .int dep)] [am_rf (h.2.2.1 4 0)] h from ⟨ex_4 (c_P l.1), ?_⟩)
          rw [ex_r4_0 (c_P l.1)]
          refine am_goX 2 (show am_rc h 1 7 ∧ 0 ≤ 8 ∧ h.2.2.2.2 + am_al 52 ≤ 175 ∧ am_call am_cod d 52 [.ref 1, .int (Int32.ofInt 1)] h (fun vv h' => pz_S 7 (some .boolean) am_r75 d Q 68 [(5, .int (pz_b (false))), (4, .int (Int32.ofInt 0)), (3, .int (sp_fa (tt T sz) s.1)), (0, .ref 4), (1, .ref 14), (2, .int dep)] (vv.toList ++ []) h') from ⟨Or.inl ⟨by decide, ex_1 (c_P l.1)⟩, by decide, ex_lim (c_P l.1) rfl, am_call.up (c_refuse l.1 ?_) (by omega)⟩)
          have x229 := cr_x (s := s) (k := (Int32.ofInt 1)) (by decide) l (by decide)
          exact am_goX 1 (show (∃ ty, (some .boolean) = some ty ∧ narrow ty (.int ((Int32.ofInt 0))) = .int ((Int32.ofInt 0))) ∧ (am_wI h 1 7 (sp_ft (tt T sz) s.1 (Int32.ofInt 1))).2.2.2.2 = 175 ∧ _ from ⟨⟨.boolean, rfl, rfl⟩, ex_175 x229.1, hQ _ _ (cres_inl (F := sp_ft (tt T sz) s.1 (Int32.ofInt 1)) (by simp only [sp_pt, sp_b, sp_f, cond_true, cond_false, e2, e3, e225, e227, Bool.and_true, Bool.and_false, Bool.true_and, Bool.false_and, Bool.not_true, Bool.not_false]) rfl x229)⟩)
  ·
    have e2 : sp_k (tt T sz) s.1 2 = true := by rw [← hk]; exact decide_eq_true (Decidable.not_not.mp hc)
    clear hc
    refine am_goX 5 (show 4 < 7 ∧ am_sh h 4 = some (4, 0) ∧ pz_S 7 (some .boolean) am_r75 d Q 27 [(4, .int (Int32.ofInt 1)), (3, .int (sp_fa (tt T sz) s.1)), (0, .ref 4), (1, .ref 14), (2, .int dep)] [am_rf (h.2.2.1 4 0)] h from ⟨by decide, ex_4 (c_P l.1), ?_⟩)
    rw [ex_r4_0 (c_P l.1)]
    refine am_goX 2 (show am_rc h 1 7 ∧ 0 ≤ 8 ∧ h.2.2.2.2 + am_al 44 ≤ 175 ∧ am_call am_cod d 44 [.ref 1, .ref (4000000 + 18)] h (fun vv h' => pz_S 7 (some .boolean) am_r75 d Q 32 [(4, .int (Int32.ofInt 1)), (3, .int (sp_fa (tt T sz) s.1)), (0, .ref 4), (1, .ref 14), (2, .int dep)] (vv.toList ++ []) h') from ⟨Or.inl ⟨by decide, ex_1 (c_P l.1)⟩, by decide, ex_lim (c_P l.1) rfl, am_call.up (c_isw (by decide) wq_18 l.1 ?_) (by omega)⟩)
    refine am_goX 3 (show 5 < 7 ∧ (¬ (sp_fa (tt T sz) s.1) = 0 → pz_S 7 (some .boolean) am_r75 d Q 69 [(5, .int (pz_b (sp_w (tt T sz) s.1 19741))), (4, .int (Int32.ofInt 1)), (3, .int (sp_fa (tt T sz) s.1)), (0, .ref 4), (1, .ref 14), (2, .int dep)] [] h) ∧ (¬ ¬ (sp_fa (tt T sz) s.1) = 0 → pz_S 7 (some .boolean) am_r75 d Q 38 [(5, .int (pz_b (sp_w (tt T sz) s.1 19741))), (4, .int (Int32.ofInt 1)), (3, .int (sp_fa (tt T sz) s.1)), (0, .ref 4), (1, .ref 14), (2, .int dep)] [] h) from ⟨by decide, fun hc => ?_, fun hc => ?_⟩)
    ·
      have e3n : ¬ sp_fa (tt T sz) s.1 = 0 := hc
      have e3 : decide (sp_fa (tt T sz) s.1 = 0) = false := decide_eq_false e3n
      clear hc
      refine am_goX 3 (show (dep < (Int32.ofInt 5) → pz_S 7 (some .boolean) am_r75 d Q 83 [(5, .int (pz_b (sp_w (tt T sz) s.1 19741))), (4, .int (Int32.ofInt 1)), (3, .int (sp_fa (tt T sz) s.1)), (0, .ref 4), (1, .ref 14), (2, .int dep)] [] h) ∧ (¬ (dep < (Int32.ofInt 5)) → pz_S 7 (some .boolean) am_r75 d Q 74 [(5, .int (pz_b (sp_w (tt T sz) s.1 19741))), (4, .int (Int32.ofInt 1)), (3, .int (sp_fa (tt T sz) s.1)), (0, .ref 4), (1, .ref 14), (2, .int dep)] [] h) from ⟨fun hz => absurd hz (by rw [hdp]; decide), fun _ => ?_⟩)
      refine am_goX 2 (show am_sh h 4 = some (4, 0) ∧ pz_S 7 (some .boolean) am_r75 d Q 78 [(5, .int (pz_b (sp_w (tt T sz) s.1 19741))), (4, .int (Int32.ofInt 1)), (3, .int (sp_fa (tt T sz) s.1)), (0, .ref 4), (1, .ref 14), (2, .int dep)] [am_rf (h.2.2.1 4 0)] h from ⟨ex_4 (c_P l.1), ?_⟩)
      rw [ex_r4_0 (c_P l.1)]
      refine am_goX 2 (show am_rc h 1 7 ∧ 0 ≤ 8 ∧ h.2.2.2.2 + am_al 52 ≤ 175 ∧ am_call am_cod d 52 [.ref 1, .int (Int32.ofInt 5)] h (fun vv h' => pz_S 7 (some .boolean) am_r75 d Q 82 [(5, .int (pz_b (sp_w (tt T sz) s.1 19741))), (4, .int (Int32.ofInt 1)), (3, .int (sp_fa (tt T sz) s.1)), (0, .ref 4), (1, .ref 14), (2, .int dep)] (vv.toList ++ []) h') from ⟨Or.inl ⟨by decide, ex_1 (c_P l.1)⟩, by decide, ex_lim (c_P l.1) rfl, am_call.up (c_refuse l.1 ?_) (by omega)⟩)
      have x230 := cr_x (s := s) (k := (Int32.ofInt 5)) (by decide) l (by decide)
      exact am_goX 1 (show (∃ ty, (some .boolean) = some ty ∧ narrow ty (.int ((Int32.ofInt 0))) = .int ((Int32.ofInt 0))) ∧ (am_wI h 1 7 (sp_ft (tt T sz) s.1 (Int32.ofInt 5))).2.2.2.2 = 175 ∧ _ from ⟨⟨.boolean, rfl, rfl⟩, ex_175 x230.1, hQ _ _ (cres_inl (F := sp_ft (tt T sz) s.1 (Int32.ofInt 5)) (by simp only [sp_pt, sp_b, sp_f, cond_true, cond_false, e2, e3, Bool.and_true, Bool.and_false, Bool.true_and, Bool.false_and, Bool.not_true, Bool.not_false]) rfl x230)⟩)
    ·
      have e3a : sp_fa (tt T sz) s.1 = 0 := Decidable.not_not.mp hc
      have e3 : decide (sp_fa (tt T sz) s.1 = 0) = true := decide_eq_true e3a
      clear hc
      refine am_goX 2 (show (¬ (Int32.ofInt 1) = 0 → pz_S 7 (some .boolean) am_r75 d Q 69 [(5, .int (pz_b (sp_w (tt T sz) s.1 19741))), (4, .int (Int32.ofInt 1)), (3, .int (sp_fa (tt T sz) s.1)), (0, .ref 4), (1, .ref 14), (2, .int dep)] [] h) ∧ (¬ ¬ (Int32.ofInt 1) = 0 → pz_S 7 (some .boolean) am_r75 d Q 43 [(5, .int (pz_b (sp_w (tt T sz) s.1 19741))), (4, .int (Int32.ofInt 1)), (3, .int (sp_fa (tt T sz) s.1)), (0, .ref 4), (1, .ref 14), (2, .int dep)] [] h) from ⟨fun _ => ?_, fun hz => absurd (by decide) hz⟩)
      refine am_goX 3 (show (dep < (Int32.ofInt 5) → pz_S 7 (some .boolean) am_r75 d Q 83 [(5, .int (pz_b (sp_w (tt T sz) s.1 19741))), (4, .int (Int32.ofInt 1)), (3, .int (sp_fa (tt T sz) s.1)), (0, .ref 4), (1, .ref 14), (2, .int dep)] [] h) ∧ (¬ (dep < (Int32.ofInt 5)) → pz_S 7 (some .boolean) am_r75 d Q 74 [(5, .int (pz_b (sp_w (tt T sz) s.1 19741))), (4, .int (Int32.ofInt 1)), (3, .int (sp_fa (tt T sz) s.1)), (0, .ref 4), (1, .ref 14), (2, .int dep)] [] h) from ⟨fun hz => absurd hz (by rw [hdp]; decide), fun _ => ?_⟩)
      refine am_goX 2 (show am_sh h 4 = some (4, 0) ∧ pz_S 7 (some .boolean) am_r75 d Q 78 [(5, .int (pz_b (sp_w (tt T sz) s.1 19741))), (4, .int (Int32.ofInt 1)), (3, .int (sp_fa (tt T sz) s.1)), (0, .ref 4), (1, .ref 14), (2, .int dep)] [am_rf (h.2.2.1 4 0)] h from ⟨ex_4 (c_P l.1), ?_⟩)
      rw [ex_r4_0 (c_P l.1)]
      refine am_goX 2 (show am_rc h 1 7 ∧ 0 ≤ 8 ∧ h.2.2.2.2 + am_al 52 ≤ 175 ∧ am_call am_cod d 52 [.ref 1, .int (Int32.ofInt 5)] h (fun vv h' => pz_S 7 (some .boolean) am_r75 d Q 82 [(5, .int (pz_b (sp_w (tt T sz) s.1 19741))), (4, .int (Int32.ofInt 1)), (3, .int (sp_fa (tt T sz) s.1)), (0, .ref 4), (1, .ref 14), (2, .int dep)] (vv.toList ++ []) h') from ⟨Or.inl ⟨by decide, ex_1 (c_P l.1)⟩, by decide, ex_lim (c_P l.1) rfl, am_call.up (c_refuse l.1 ?_) (by omega)⟩)
      have x231 := cr_x (s := s) (k := (Int32.ofInt 5)) (by decide) l (by decide)
      exact am_goX 1 (show (∃ ty, (some .boolean) = some ty ∧ narrow ty (.int ((Int32.ofInt 0))) = .int ((Int32.ofInt 0))) ∧ (am_wI h 1 7 (sp_ft (tt T sz) s.1 (Int32.ofInt 5))).2.2.2.2 = 175 ∧ _ from ⟨⟨.boolean, rfl, rfl⟩, ex_175 x231.1, hQ _ _ (cres_inl (F := sp_ft (tt T sz) s.1 (Int32.ofInt 5)) (by simp only [sp_pt, sp_b, sp_f, cond_true, cond_false, e2, e3, Bool.and_true, Bool.and_false, Bool.true_and, Bool.false_and, Bool.not_true, Bool.not_false]) rfl x231)⟩)
theorem c_75s_6 {r : Nat} (hd : 6 ≤ d) (hdp : dep < Int32.ofInt 5) (k75 : lw_c h0 6 T sz d 75 (dep + Int32.ofInt 1) (sp_pt (tt T sz) r)) (k71 : lw_c h0 6 T sz d 71 (dep + Int32.ofInt 1) (sp_wh (tt T sz) (sp_pt (tt T sz) r))) : lw_c h0 6 T sz (d + 1) 75 dep (sp_pt (tt T sz) (r + 1)) := by
  intro s h Q l hQ
  have hP := c_P l.1
  have hk := ck_2 T sz s.1
  refine pz_call (n := 75) (nL := 7) (rt := (some .boolean)) (rows := am_r75) (d := d) (by decide +kernel) (by decide +kernel) rfl (by funext pc; rfl) (ex_175 hP) (by exact Nat.le_of_ble_eq_true rfl) ?_
  refine am_goX 2 (show am_rc h 4 4 ∧ 0 ≤ 8 ∧ h.2.2.2.2 + am_al 76 ≤ 175 ∧ am_call am_cod d 76 [.ref 4] h (fun vv h' => pz_S 7 (some .boolean) am_r75 d Q 4 [(0, .ref 4), (1, .ref 14), (2, .int dep)] (vv.toList ++ []) h') from ⟨Or.inl ⟨by decide, ex_4 (c_P l.1)⟩, by decide, ex_lim (c_P l.1) rfl, am_call.up (c_fact_6 l ?_) (by omega)⟩)
  refine am_goX 3 (show 3 < 7 ∧ am_sh h 4 = some (4, 0) ∧ pz_S 7 (some .boolean) am_r75 d Q 9 [(3, .int (sp_fa (tt T sz) s.1)), (0, .ref 4), (1, .ref 14), (2, .int dep)] [am_rf (h.2.2.1 4 0)] h from ⟨by decide, ex_4 (c_P l.1), ?_⟩)
  rw [ex_r4_0 (c_P l.1)]
  refine am_goX 2 (show am_sh h 1 = some (7, 0) ∧ pz_S 7 (some .boolean) am_r75 d Q 13 [(3, .int (sp_fa (tt T sz) s.1)), (0, .ref 4), (1, .ref 14), (2, .int dep)] [.int (Int32.ofInt 2), .int (h.1 1 2)] h from ⟨ex_1 (c_P l.1), ?_⟩)
  rw [c_kd l.1]
  refine am_goX 1 (show (¬ (ck (tt T sz s.1).1) = (Int32.ofInt 2) → pz_S 7 (some .boolean) am_r75 d Q 20 [(3, .int (sp_fa (tt T sz) s.1)), (0, .ref 4), (1, .ref 14), (2, .int dep)] [] h) ∧ (¬ ¬ (ck (tt T sz s.1).1) = (Int32.ofInt 2) → pz_S 7 (some .boolean) am_r75 d Q 16 [(3, .int (sp_fa (tt T sz) s.1)), (0, .ref 4), (1, .ref 14), (2, .int dep)] [] h) from ⟨fun hc => ?_, fun hc => ?_⟩)
  ·
    have e2 : sp_k (tt T sz) s.1 2 = false := by rw [← hk]; exact decide_eq_false hc
    clear hc
    refine am_goX 4 (show 4 < 7 ∧ am_sh h 4 = some (4, 0) ∧ pz_S 7 (some .boolean) am_r75 d Q 27 [(4, .int (Int32.ofInt 0)), (3, .int (sp_fa (tt T sz) s.1)), (0, .ref 4), (1, .ref 14), (2, .int dep)] [am_rf (h.2.2.1 4 0)] h from ⟨by decide, ex_4 (c_P l.1), ?_⟩)
    rw [ex_r4_0 (c_P l.1)]
    refine am_goX 2 (show am_rc h 1 7 ∧ 0 ≤ 8 ∧ h.2.2.2.2 + am_al 44 ≤ 175 ∧ am_call am_cod d 44 [.ref 1, .ref (4000000 + 18)] h (fun vv h' => pz_S 7 (some .boolean) am_r75 d Q 32 [(4, .int (Int32.ofInt 0)), (3, .int (sp_fa (tt T sz) s.1)), (0, .ref 4), (1, .ref 14), (2, .int dep)] (vv.toList ++ []) h') from ⟨Or.inl ⟨by decide, ex_1 (c_P l.1)⟩, by decide, ex_lim (c_P l.1) rfl, am_call.up (c_isw (by decide) wq_18 l.1 ?_) (by omega)⟩)
    refine am_goX 3 (show 5 < 7 ∧ (¬ (sp_fa (tt T sz) s.1) = 0 → pz_S 7 (some .boolean) am_r75 d Q 69 [(5, .int (pz_b (sp_w (tt T sz) s.1 19741))), (4, .int (Int32.ofInt 0)), (3, .int (sp_fa (tt T sz) s.1)), (0, .ref 4), (1, .ref 14), (2, .int dep)] [] h) ∧ (¬ ¬ (sp_fa (tt T sz) s.1) = 0 → pz_S 7 (some .boolean) am_r75 d Q 38 [(5, .int (pz_b (sp_w (tt T sz) s.1 19741))), (4, .int (Int32.ofInt 0)), (3, .int (sp_fa (tt T sz) s.1)), (0, .ref 4), (1, .ref 14), (2, .int dep)] [] h) from ⟨by decide, fun hc => ?_, fun hc => ?_⟩)
    ·
      have e3n : ¬ sp_fa (tt T sz) s.1 = 0 := hc
      have e3 : decide (sp_fa (tt T sz) s.1 = 0) = false := decide_eq_false e3n
      clear hc
      refine am_goX 3 (show (dep < (Int32.ofInt 5) → pz_S 7 (some .boolean) am_r75 d Q 83 [(5, .int (pz_b (sp_w (tt T sz) s.1 19741))), (4, .int (Int32.ofInt 0)), (3, .int (sp_fa (tt T sz) s.1)), (0, .ref 4), (1, .ref 14), (2, .int dep)] [] h) ∧ (¬ (dep < (Int32.ofInt 5)) → pz_S 7 (some .boolean) am_r75 d Q 74 [(5, .int (pz_b (sp_w (tt T sz) s.1 19741))), (4, .int (Int32.ofInt 0)), (3, .int (sp_fa (tt T sz) s.1)), (0, .ref 4), (1, .ref 14), (2, .int dep)] [] h) from ⟨fun _ => ?_, fun hz => absurd hdp hz⟩)
      refine am_goX 2 (show (¬ (Int32.ofInt 0) = 0 → pz_S 7 (some .boolean) am_r75 d Q 92 [(5, .int (pz_b (sp_w (tt T sz) s.1 19741))), (4, .int (Int32.ofInt 0)), (3, .int (sp_fa (tt T sz) s.1)), (0, .ref 4), (1, .ref 14), (2, .int dep)] [] h) ∧ (¬ ¬ (Int32.ofInt 0) = 0 → pz_S 7 (some .boolean) am_r75 d Q 88 [(5, .int (pz_b (sp_w (tt T sz) s.1 19741))), (4, .int (Int32.ofInt 0)), (3, .int (sp_fa (tt T sz) s.1)), (0, .ref 4), (1, .ref 14), (2, .int dep)] [] h) from ⟨fun hz => absurd hz (by decide), fun _ => ?_⟩)
      refine am_goX 2 (show ((sp_fa (tt T sz) s.1) = 0 → pz_S 7 (some .boolean) am_r75 d Q 121 [(5, .int (pz_b (sp_w (tt T sz) s.1 19741))), (4, .int (Int32.ofInt 0)), (3, .int (sp_fa (tt T sz) s.1)), (0, .ref 4), (1, .ref 14), (2, .int dep)] [] h) ∧ (¬ ((sp_fa (tt T sz) s.1) = 0) → pz_S 7 (some .boolean) am_r75 d Q 92 [(5, .int (pz_b (sp_w (tt T sz) s.1 19741))), (4, .int (Int32.ofInt 0)), (3, .int (sp_fa (tt T sz) s.1)), (0, .ref 4), (1, .ref 14), (2, .int dep)] [] h) from ⟨fun hz => absurd hz e3n, fun _ => ?_⟩)
      refine am_goX 3 (show ((Int32.ofInt 0) = 0 → pz_S 7 (some .boolean) am_r75 d Q 108 [(5, .int (pz_b (sp_w (tt T sz) s.1 19741))), (4, .int (Int32.ofInt 0)), (3, .int (sp_fa (tt T sz) s.1)), (0, .ref 4), (1, .ref 14), (2, .int dep)] [.ref 14] h) ∧ (¬ ((Int32.ofInt 0) = 0) → pz_S 7 (some .boolean) am_r75 d Q 98 [(5, .int (pz_b (sp_w (tt T sz) s.1 19741))), (4, .int (Int32.ofInt 0)), (3, .int (sp_fa (tt T sz) s.1)), (0, .ref 4), (1, .ref 14), (2, .int dep)] [.ref 14] h) from ⟨fun _ => ?_, fun hz => absurd (by decide) hz⟩)
      refine am_goX 2 (show am_rc h 14 3 ∧ 0 ≤ 8 ∧ h.2.2.2.2 + am_al 77 ≤ 175 ∧ am_call am_cod d 77 [.ref 14, .int (sp_fa (tt T sz) s.1)] h (fun vv h' => pz_S 7 (some .boolean) am_r75 d Q 112 [(5, .int (pz_b (sp_w (tt T sz) s.1 19741))), (4, .int (Int32.ofInt 0)), (3, .int (sp_fa (tt T sz) s.1)), (0, .ref 4), (1, .ref 14), (2, .int dep)] (vv.toList ++ []) h') from ⟨Or.inl ⟨by decide, ex_14 (c_P l.1)⟩, by decide, ex_lim (c_P l.1) rfl, am_call.up (c_addn_6 l (cr_lt l (c_fan e3n)) (fun h232 m233 => ?_)) (by omega)⟩)
      refine am_goX 2 (show am_sh h232 4 = some (4, 0) ∧ pz_S 7 (some .boolean) am_r75 d Q 116 [(5, .int (pz_b (sp_w (tt T sz) s.1 19741))), (4, .int (Int32.ofInt 0)), (3, .int (sp_fa (tt T sz) s.1)), (0, .ref 4), (1, .ref 14), (2, .int dep)] [am_rf (h232.2.2.1 4 0)] h232 from ⟨ex_4 (c_P m233.1), ?_⟩)
      rw [ex_r4_0 (c_P m233.1)]
      refine am_goX 1 (show am_rc h232 1 7 ∧ 0 ≤ 8 ∧ h232.2.2.2.2 + am_al 18 ≤ 175 ∧ am_call am_cod d 18 [.ref 1] h232 (fun vv h' => pz_S 7 (some .boolean) am_r75 d Q 119 [(5, .int (pz_b (sp_w (tt T sz) s.1 19741))), (4, .int (Int32.ofInt 0)), (3, .int (sp_fa (tt T sz) s.1)), (0, .ref 4), (1, .ref 14), (2, .int dep)] (vv.toList ++ []) h') from ⟨Or.inl ⟨by decide, ex_1 (c_P m233.1)⟩, by decide, ex_lim (c_P m233.1) rfl, am_call.up (c_step m233.1 (c_fan e3n) (fun h234 m235 f236 => ?_)) (by omega)⟩)
      have l237 := cr_em2 (by decide) m233 m235 f236
      exact am_goX 2 (show (∃ ty, (some .boolean) = some ty ∧ narrow ty (.int ((Int32.ofInt 1))) = .int ((Int32.ofInt 1))) ∧ h234.2.2.2.2 = 175 ∧ _ from ⟨⟨.boolean, rfl, rfl⟩, ex_175 (c_P l237.1), hQ _ _ (cres_inr (s' := (s.1 + 1, sp_em s.2 (sp_fa (tt T sz) s.1))) (by simp only [sp_pt, sp_b, sp_f, cond_true, cond_false, e2, e3, Bool.and_true, Bool.and_false, Bool.true_and, Bool.false_and, Bool.not_true, Bool.not_false]) rfl l237)⟩)
    ·
      have e3a : sp_fa (tt T sz) s.1 = 0 := Decidable.not_not.mp hc
      have e3 : decide (sp_fa (tt T sz) s.1 = 0) = true := decide_eq_true e3a
      clear hc
      refine am_goX 2 (show (¬ (Int32.ofInt 0) = 0 → pz_S 7 (some .boolean) am_r75 d Q 69 [(5, .int (pz_b (sp_w (tt T sz) s.1 19741))), (4, .int (Int32.ofInt 0)), (3, .int (sp_fa (tt T sz) s.1)), (0, .ref 4), (1, .ref 14), (2, .int dep)] [] h) ∧ (¬ ¬ (Int32.ofInt 0) = 0 → pz_S 7 (some .boolean) am_r75 d Q 43 [(5, .int (pz_b (sp_w (tt T sz) s.1 19741))), (4, .int (Int32.ofInt 0)), (3, .int (sp_fa (tt T sz) s.1)), (0, .ref 4), (1, .ref 14), (2, .int dep)] [] h) from ⟨fun hz => absurd hz (by decide), fun _ => ?_⟩)
      refine am_goX 1 (show pz_S 7 (some .boolean) am_r75 d Q 45 [(5, .int (pz_b (sp_w (tt T sz) s.1 19741))), (4, .int (Int32.ofInt 0)), (3, .int (sp_fa (tt T sz) s.1)), (0, .ref 4), (1, .ref 14), (2, .int dep)] [.int (pz_b (sp_w (tt T sz) s.1 19741))] h from ?_)
      cases e238 : sp_w (tt T sz) s.1 19741 with
      | true =>
        refine am_goX 1 (show (¬ (pz_b (true)) = 0 → pz_S 7 (some .boolean) am_r75 d Q 69 [(5, .int (pz_b (true))), (4, .int (Int32.ofInt 0)), (3, .int (sp_fa (tt T sz) s.1)), (0, .ref 4), (1, .ref 14), (2, .int dep)] [] h) ∧ (¬ ¬ (pz_b (true)) = 0 → pz_S 7 (some .boolean) am_r75 d Q 48 [(5, .int (pz_b (true))), (4, .int (Int32.ofInt 0)), (3, .int (sp_fa (tt T sz) s.1)), (0, .ref 4), (1, .ref 14), (2, .int dep)] [] h) from ⟨fun _ => ?_, fun hz => absurd (by decide) hz⟩)
        refine am_goX 3 (show (dep < (Int32.ofInt 5) → pz_S 7 (some .boolean) am_r75 d Q 83 [(5, .int (pz_b (true))), (4, .int (Int32.ofInt 0)), (3, .int (sp_fa (tt T sz) s.1)), (0, .ref 4), (1, .ref 14), (2, .int dep)] [] h) ∧ (¬ (dep < (Int32.ofInt 5)) → pz_S 7 (some .boolean) am_r75 d Q 74 [(5, .int (pz_b (true))), (4, .int (Int32.ofInt 0)), (3, .int (sp_fa (tt T sz) s.1)), (0, .ref 4), (1, .ref 14), (2, .int dep)] [] h) from ⟨fun _ => ?_, fun hz => absurd hdp hz⟩)
        refine am_goX 2 (show (¬ (Int32.ofInt 0) = 0 → pz_S 7 (some .boolean) am_r75 d Q 92 [(5, .int (pz_b (true))), (4, .int (Int32.ofInt 0)), (3, .int (sp_fa (tt T sz) s.1)), (0, .ref 4), (1, .ref 14), (2, .int dep)] [] h) ∧ (¬ ¬ (Int32.ofInt 0) = 0 → pz_S 7 (some .boolean) am_r75 d Q 88 [(5, .int (pz_b (true))), (4, .int (Int32.ofInt 0)), (3, .int (sp_fa (tt T sz) s.1)), (0, .ref 4), (1, .ref 14), (2, .int dep)] [] h) from ⟨fun hz => absurd hz (by decide), fun _ => ?_⟩)
        refine am_goX 2 (show ((sp_fa (tt T sz) s.1) = 0 → pz_S 7 (some .boolean) am_r75 d Q 121 [(5, .int (pz_b (true))), (4, .int (Int32.ofInt 0)), (3, .int (sp_fa (tt T sz) s.1)), (0, .ref 4), (1, .ref 14), (2, .int dep)] [] h) ∧ (¬ ((sp_fa (tt T sz) s.1) = 0) → pz_S 7 (some .boolean) am_r75 d Q 92 [(5, .int (pz_b (true))), (4, .int (Int32.ofInt 0)), (3, .int (sp_fa (tt T sz) s.1)), (0, .ref 4), (1, .ref 14), (2, .int dep)] [] h) from ⟨fun _ => ?_, fun hz => absurd e3a hz⟩)
        refine am_goX 2 (show am_sh h 4 = some (4, 0) ∧ pz_S 7 (some .boolean) am_r75 d Q 125 [(5, .int (pz_b (true))), (4, .int (Int32.ofInt 0)), (3, .int (sp_fa (tt T sz) s.1)), (0, .ref 4), (1, .ref 14), (2, .int dep)] [am_rf (h.2.2.1 4 0)] h from ⟨ex_4 (c_P l.1), ?_⟩)
        rw [ex_r4_0 (c_P l.1)]
        refine am_goX 1 (show am_rc h 1 7 ∧ 0 ≤ 8 ∧ h.2.2.2.2 + am_al 18 ≤ 175 ∧ am_call am_cod d 18 [.ref 1] h (fun vv h' => pz_S 7 (some .boolean) am_r75 d Q 128 [(5, .int (pz_b (true))), (4, .int (Int32.ofInt 0)), (3, .int (sp_fa (tt T sz) s.1)), (0, .ref 4), (1, .ref 14), (2, .int dep)] (vv.toList ++ []) h') from ⟨Or.inl ⟨by decide, ex_1 (c_P l.1)⟩, by decide, ex_lim (c_P l.1) rfl, am_call.up (c_step l.1 (sp_wn e238) (fun h239 m240 f241 => ?_)) (by omega)⟩)
        have l242 : cr h0 6 T sz ((s.1 + 1), s.2) h239 := cr_fr (a := s.1) (C := s.2) (by decide) l m240 (Nat.le_succ _) f241
        refine am_goX 2 (show ((pz_b (true)) = 0 → pz_S 7 (some .boolean) am_r75 d Q 152 [(5, .int (pz_b (true))), (4, .int (Int32.ofInt 0)), (3, .int (sp_fa (tt T sz) s.1)), (0, .ref 4), (1, .ref 14), (2, .int dep)] [] h239) ∧ (¬ ((pz_b (true)) = 0) → pz_S 7 (some .boolean) am_r75 d Q 133 [(5, .int (pz_b (true))), (4, .int (Int32.ofInt 0)), (3, .int (sp_fa (tt T sz) s.1)), (0, .ref 4), (1, .ref 14), (2, .int dep)] [] h239) from ⟨fun hz => absurd hz (by decide), fun _ => ?_⟩)
        refine am_goX 6 (show am_rc h239 4 4 ∧ 0 ≤ 8 ∧ h239.2.2.2.2 + am_al 75 ≤ 175 ∧ am_call am_cod d 75 [.ref 4, .ref 14, .int (dep + (Int32.ofInt 1))] h239 (fun vv h' => pz_S 7 (some .boolean) am_r75 d Q 141 [(5, .int (pz_b (true))), (4, .int (Int32.ofInt 0)), (3, .int (sp_fa (tt T sz) s.1)), (0, .ref 4), (1, .ref 14), (2, .int dep)] (vv.toList ++ []) h') from ⟨Or.inl ⟨by decide, ex_4 (c_P l242.1)⟩, by decide, ex_lim (c_P l242.1) rfl, k75 _ _ _ l242 (fun v243 h244 x245 => ?_)⟩)
        rcases cres_cs x245 with ⟨F247, e249, rfl, y250⟩ | ⟨t248, e249, rfl, y250⟩
        ·
          refine am_goX 4 (show 6 < 7 ∧ am_rc h244 14 3 ∧ 0 ≤ 8 ∧ h244.2.2.2.2 + am_al 77 ≤ 175 ∧ am_call am_cod d 77 [.ref 14, .int (Int8.ofInt (-5)).toInt32] h244 (fun vv h' => pz_S 7 (some .boolean) am_r75 d Q 149 [(6, .int 0), (5, .int (pz_b (true))), (4, .int (Int32.ofInt 0)), (3, .int (sp_fa (tt T sz) s.1)), (0, .ref 4), (1, .ref 14), (2, .int dep)] (vv.toList ++ []) h') from ⟨by decide, Or.inl ⟨by decide, ex_14 y250.1⟩, by decide, ex_lim y250.1 rfl, am_call.up (c_addx_6 y250 (fun h251 y252 => ?_)) (by omega)⟩)
          exact am_goX 2 (show (∃ ty, (some .boolean) = some ty ∧ narrow ty (.int (0)) = .int (0)) ∧ h251.2.2.2.2 = 175 ∧ _ from ⟨⟨.boolean, rfl, rfl⟩, ex_175 y252.1, hQ _ _ (cres_inl (F := F247) (by simp only [sp_pt, sp_b, sp_f, cond_true, cond_false, e2, e3, e238, e249, Bool.and_true, Bool.and_false, Bool.true_and, Bool.false_and, Bool.not_true, Bool.not_false]) rfl y252)⟩)
        ·
          refine am_goX 4 (show 6 < 7 ∧ am_rc h244 14 3 ∧ 0 ≤ 8 ∧ h244.2.2.2.2 + am_al 77 ≤ 175 ∧ am_call am_cod d 77 [.ref 14, .int (Int8.ofInt (-5)).toInt32] h244 (fun vv h' => pz_S 7 (some .boolean) am_r75 d Q 149 [(6, .int 1), (5, .int (pz_b (true))), (4, .int (Int32.ofInt 0)), (3, .int (sp_fa (tt T sz) s.1)), (0, .ref 4), (1, .ref 14), (2, .int dep)] (vv.toList ++ []) h') from ⟨by decide, Or.inl ⟨by decide, ex_14 (c_P y250.1)⟩, by decide, ex_lim (c_P y250.1) rfl, am_call.up (c_add_6 (a := t248.1) (C := t248.2) y250 (by
              have h7 := sp_pt_ok r _ _ e249
              have h8 := l.2.2.2
              unfold sp_le at h7
              dsimp only at h7
              omega) (fun h253 l254 => ?_)) (by omega)⟩)
          exact am_goX 2 (show (∃ ty, (some .boolean) = some ty ∧ narrow ty (.int (1)) = .int (1)) ∧ h253.2.2.2.2 = 175 ∧ _ from ⟨⟨.boolean, rfl, rfl⟩, ex_175 (c_P l254.1), hQ _ _ (cres_inr (s' := (t248.1, sp_em t248.2 ((Int8.ofInt (-5)).toInt32))) (by simp only [sp_pt, sp_b, sp_f, cond_true, cond_false, e2, e3, e238, e249, Bool.and_true, Bool.and_false, Bool.true_and, Bool.false_and, Bool.not_true, Bool.not_false]) rfl l254)⟩)
      | false =>
        refine am_goX 1 (show (¬ (pz_b (false)) = 0 → pz_S 7 (some .boolean) am_r75 d Q 69 [(5, .int (pz_b (false))), (4, .int (Int32.ofInt 0)), (3, .int (sp_fa (tt T sz) s.1)), (0, .ref 4), (1, .ref 14), (2, .int dep)] [] h) ∧ (¬ ¬ (pz_b (false)) = 0 → pz_S 7 (some .boolean) am_r75 d Q 48 [(5, .int (pz_b (false))), (4, .int (Int32.ofInt 0)), (3, .int (sp_fa (tt T sz) s.1)), (0, .ref 4), (1, .ref 14), (2, .int dep)] [] h) from ⟨fun hz => absurd hz (by decide), fun _ => ?_⟩)
        refine am_goX 2 (show am_sh h 4 = some (4, 0) ∧ pz_S 7 (some .boolean) am_r75 d Q 52 [(5, .int (pz_b (false))), (4, .int (Int32.ofInt 0)), (3, .int (sp_fa (tt T sz) s.1)), (0, .ref 4), (1, .ref 14), (2, .int dep)] [am_rf (h.2.2.1 4 0)] h from ⟨ex_4 (c_P l.1), ?_⟩)
        rw [ex_r4_0 (c_P l.1)]
        refine am_goX 2 (show am_rc h 1 7 ∧ 0 ≤ 8 ∧ h.2.2.2.2 + am_al 62 ≤ 175 ∧ am_call am_cod d 62 [.ref 1, .int (Int8.ofInt 40).toInt32] h (fun vv h' => pz_S 7 (some .boolean) am_r75 d Q 57 [(5, .int (pz_b (false))), (4, .int (Int32.ofInt 0)), (3, .int (sp_fa (tt T sz) s.1)), (0, .ref 4), (1, .ref 14), (2, .int dep)] (vv.toList ++ []) h') from ⟨Or.inl ⟨by decide, ex_1 (c_P l.1)⟩, by decide, ex_lim (c_P l.1) rfl, am_call.up (c_iss l.1 ?_) (by omega)⟩)
        cases e255 : sp_s (tt T sz) s.1 (Int8.ofInt 40).toInt32 with
        | true =>
          refine am_goX 1 (show (¬ (pz_b (true)) = 0 → pz_S 7 (some .boolean) am_r75 d Q 69 [(5, .int (pz_b (false))), (4, .int (Int32.ofInt 0)), (3, .int (sp_fa (tt T sz) s.1)), (0, .ref 4), (1, .ref 14), (2, .int dep)] [] h) ∧ (¬ ¬ (pz_b (true)) = 0 → pz_S 7 (some .boolean) am_r75 d Q 60 [(5, .int (pz_b (false))), (4, .int (Int32.ofInt 0)), (3, .int (sp_fa (tt T sz) s.1)), (0, .ref 4), (1, .ref 14), (2, .int dep)] [] h) from ⟨fun _ => ?_, fun hz => absurd (by decide) hz⟩)
          refine am_goX 3 (show (dep < (Int32.ofInt 5) → pz_S 7 (some .boolean) am_r75 d Q 83 [(5, .int (pz_b (false))), (4, .int (Int32.ofInt 0)), (3, .int (sp_fa (tt T sz) s.1)), (0, .ref 4), (1, .ref 14), (2, .int dep)] [] h) ∧ (¬ (dep < (Int32.ofInt 5)) → pz_S 7 (some .boolean) am_r75 d Q 74 [(5, .int (pz_b (false))), (4, .int (Int32.ofInt 0)), (3, .int (sp_fa (tt T sz) s.1)), (0, .ref 4), (1, .ref 14), (2, .int dep)] [] h) from ⟨fun _ => ?_, fun hz => absurd hdp hz⟩)
          refine am_goX 2 (show (¬ (Int32.ofInt 0) = 0 → pz_S 7 (some .boolean) am_r75 d Q 92 [(5, .int (pz_b (false))), (4, .int (Int32.ofInt 0)), (3, .int (sp_fa (tt T sz) s.1)), (0, .ref 4), (1, .ref 14), (2, .int dep)] [] h) ∧ (¬ ¬ (Int32.ofInt 0) = 0 → pz_S 7 (some .boolean) am_r75 d Q 88 [(5, .int (pz_b (false))), (4, .int (Int32.ofInt 0)), (3, .int (sp_fa (tt T sz) s.1)), (0, .ref 4), (1, .ref 14), (2, .int dep)] [] h) from ⟨fun hz => absurd hz (by decide), fun _ => ?_⟩)
          refine am_goX 2 (show ((sp_fa (tt T sz) s.1) = 0 → pz_S 7 (some .boolean) am_r75 d Q 121 [(5, .int (pz_b (false))), (4, .int (Int32.ofInt 0)), (3, .int (sp_fa (tt T sz) s.1)), (0, .ref 4), (1, .ref 14), (2, .int dep)] [] h) ∧ (¬ ((sp_fa (tt T sz) s.1) = 0) → pz_S 7 (some .boolean) am_r75 d Q 92 [(5, .int (pz_b (false))), (4, .int (Int32.ofInt 0)), (3, .int (sp_fa (tt T sz) s.1)), (0, .ref 4), (1, .ref 14), (2, .int dep)] [] h) from ⟨fun _ => ?_, fun hz => absurd e3a hz⟩)
          refine am_goX 2 (show am_sh h 4 = some (4, 0) ∧ pz_S 7 (some .boolean) am_r75 d Q 125 [(5, .int (pz_b (false))), (4, .int (Int32.ofInt 0)), (3, .int (sp_fa (tt T sz) s.1)), (0, .ref 4), (1, .ref 14), (2, .int dep)] [am_rf (h.2.2.1 4 0)] h from ⟨ex_4 (c_P l.1), ?_⟩)
          rw [ex_r4_0 (c_P l.1)]
          refine am_goX 1 (show am_rc h 1 7 ∧ 0 ≤ 8 ∧ h.2.2.2.2 + am_al 18 ≤ 175 ∧ am_call am_cod d 18 [.ref 1] h (fun vv h' => pz_S 7 (some .boolean) am_r75 d Q 128 [(5, .int (pz_b (false))), (4, .int (Int32.ofInt 0)), (3, .int (sp_fa (tt T sz) s.1)), (0, .ref 4), (1, .ref 14), (2, .int dep)] (vv.toList ++ []) h') from ⟨Or.inl ⟨by decide, ex_1 (c_P l.1)⟩, by decide, ex_lim (c_P l.1) rfl, am_call.up (c_step l.1 (sp_sn e255) (fun h256 m257 f258 => ?_)) (by omega)⟩)
          have l259 : cr h0 6 T sz ((s.1 + 1), s.2) h256 := cr_fr (a := s.1) (C := s.2) (by decide) l m257 (Nat.le_succ _) f258
          refine am_goX 2 (show ((pz_b (false)) = 0 → pz_S 7 (some .boolean) am_r75 d Q 152 [(5, .int (pz_b (false))), (4, .int (Int32.ofInt 0)), (3, .int (sp_fa (tt T sz) s.1)), (0, .ref 4), (1, .ref 14), (2, .int dep)] [] h256) ∧ (¬ ((pz_b (false)) = 0) → pz_S 7 (some .boolean) am_r75 d Q 133 [(5, .int (pz_b (false))), (4, .int (Int32.ofInt 0)), (3, .int (sp_fa (tt T sz) s.1)), (0, .ref 4), (1, .ref 14), (2, .int dep)] [] h256) from ⟨fun _ => ?_, fun hz => absurd (by decide) hz⟩)
          refine am_goX 6 (show am_rc h256 4 4 ∧ 0 ≤ 8 ∧ h256.2.2.2.2 + am_al 71 ≤ 175 ∧ am_call am_cod d 71 [.ref 4, .ref 14, .int (dep + (Int32.ofInt 1))] h256 (fun vv h' => pz_S 7 (some .boolean) am_r75 d Q 160 [(5, .int (pz_b (false))), (4, .int (Int32.ofInt 0)), (3, .int (sp_fa (tt T sz) s.1)), (0, .ref 4), (1, .ref 14), (2, .int dep)] (vv.toList ++ []) h') from ⟨Or.inl ⟨by decide, ex_4 (c_P l259.1)⟩, by decide, ex_lim (c_P l259.1) rfl, k71 _ _ _ l259 (fun v260 h261 x262 => ?_)⟩)
          rcases cres_cs x262 with ⟨F264, e266, rfl, y267⟩ | ⟨t265, e266, rfl, y267⟩
          ·
            refine am_goX 1 (show (0 = 0 → pz_S 7 (some .boolean) am_r75 d Q 179 [(5, .int (pz_b (false))), (4, .int (Int32.ofInt 0)), (3, .int (sp_fa (tt T sz) s.1)), (0, .ref 4), (1, .ref 14), (2, .int dep)] [] h261) ∧ (¬ (0 = 0) → pz_S 7 (some .boolean) am_r75 d Q 163 [(5, .int (pz_b (false))), (4, .int (Int32.ofInt 0)), (3, .int (sp_fa (tt T sz) s.1)), (0, .ref 4), (1, .ref 14), (2, .int dep)] [] h261) from ⟨fun _ => ?_, fun hz => absurd (by decide) hz⟩)
            exact am_goX 2 (show (∃ ty, (some .boolean) = some ty ∧ narrow ty (.int ((Int32.ofInt 0))) = .int ((Int32.ofInt 0))) ∧ h261.2.2.2.2 = 175 ∧ _ from ⟨⟨.boolean, rfl, rfl⟩, ex_175 y267.1, hQ _ _ (cres_inl (F := F264) (by simp only [sp_pt, sp_b, sp_f, cond_true, cond_false, e2, e3, e238, e255, e266, Bool.and_true, Bool.and_false, Bool.true_and, Bool.false_and, Bool.not_true, Bool.not_false]) rfl y267)⟩)
          ·
            refine am_goX 1 (show (1 = 0 → pz_S 7 (some .boolean) am_r75 d Q 179 [(5, .int (pz_b (false))), (4, .int (Int32.ofInt 0)), (3, .int (sp_fa (tt T sz) s.1)), (0, .ref 4), (1, .ref 14), (2, .int dep)] [] h261) ∧ (¬ (1 = 0) → pz_S 7 (some .boolean) am_r75 d Q 163 [(5, .int (pz_b (false))), (4, .int (Int32.ofInt 0)), (3, .int (sp_fa (tt T sz) s.1)), (0, .ref 4), (1, .ref 14), (2, .int dep)] [] h261) from ⟨fun hz => absurd hz (by decide), fun _ => ?_⟩)
            refine am_goX 2 (show am_sh h261 4 = some (4, 0) ∧ pz_S 7 (some .boolean) am_r75 d Q 167 [(5, .int (pz_b (false))), (4, .int (Int32.ofInt 0)), (3, .int (sp_fa (tt T sz) s.1)), (0, .ref 4), (1, .ref 14), (2, .int dep)] [am_rf (h261.2.2.1 4 0)] h261 from ⟨ex_4 (c_P y267.1), ?_⟩)
            rw [ex_r4_0 (c_P y267.1)]
            refine am_goX 2 (show am_rc h261 1 7 ∧ 0 ≤ 8 ∧ h261.2.2.2.2 + am_al 61 ≤ 175 ∧ am_call am_cod d 61 [.ref 1, .int (Int8.ofInt 41).toInt32] h261 (fun vv h' => pz_S 7 (some .boolean) am_r75 d Q 172 [(5, .int (pz_b (false))), (4, .int (Int32.ofInt 0)), (3, .int (sp_fa (tt T sz) s.1)), (0, .ref 4), (1, .ref 14), (2, .int dep)] (vv.toList ++ []) h') from ⟨Or.inl ⟨by decide, ex_1 (c_P y267.1)⟩, by decide, ex_lim (c_P y267.1) rfl, am_call.up (c_tS (s := t265) (by decide) y267 (fun v268 h269 x270 f271 => ?_)) (by omega)⟩)
            rcases cres_cs x270 with ⟨F272, e274, rfl, y275⟩ | ⟨t273, e274, rfl, y275⟩
            ·
              refine am_goX 1 (show (0 = 0 → pz_S 7 (some .boolean) am_r75 d Q 179 [(5, .int (pz_b (false))), (4, .int (Int32.ofInt 0)), (3, .int (sp_fa (tt T sz) s.1)), (0, .ref 4), (1, .ref 14), (2, .int dep)] [] h269) ∧ (¬ (0 = 0) → pz_S 7 (some .boolean) am_r75 d Q 175 [(5, .int (pz_b (false))), (4, .int (Int32.ofInt 0)), (3, .int (sp_fa (tt T sz) s.1)), (0, .ref 4), (1, .ref 14), (2, .int dep)] [] h269) from ⟨fun _ => ?_, fun hz => absurd (by decide) hz⟩)
              exact am_goX 2 (show (∃ ty, (some .boolean) = some ty ∧ narrow ty (.int ((Int32.ofInt 0))) = .int ((Int32.ofInt 0))) ∧ h269.2.2.2.2 = 175 ∧ _ from ⟨⟨.boolean, rfl, rfl⟩, ex_175 y275.1, hQ _ _ (cres_inl (F := F272) (by simp only [sp_pt, sp_b, sp_f, cond_true, cond_false, e2, e3, e238, e255, e266, e274, Bool.and_true, Bool.and_false, Bool.true_and, Bool.false_and, Bool.not_true, Bool.not_false]) rfl y275)⟩)
            ·
              refine am_goX 1 (show (1 = 0 → pz_S 7 (some .boolean) am_r75 d Q 179 [(5, .int (pz_b (false))), (4, .int (Int32.ofInt 0)), (3, .int (sp_fa (tt T sz) s.1)), (0, .ref 4), (1, .ref 14), (2, .int dep)] [] h269) ∧ (¬ (1 = 0) → pz_S 7 (some .boolean) am_r75 d Q 175 [(5, .int (pz_b (false))), (4, .int (Int32.ofInt 0)), (3, .int (sp_fa (tt T sz) s.1)), (0, .ref 4), (1, .ref 14), (2, .int dep)] [] h269) from ⟨fun hz => absurd hz (by decide), fun _ => ?_⟩)
              exact am_goX 3 (show (∃ ty, (some .boolean) = some ty ∧ narrow ty (.int ((Int32.ofInt 1))) = .int ((Int32.ofInt 1))) ∧ h269.2.2.2.2 = 175 ∧ _ from ⟨⟨.boolean, rfl, rfl⟩, ex_175 (c_P y275.1), hQ _ _ (cres_inr (s' := t273) (by simp only [sp_pt, sp_b, sp_f, cond_true, cond_false, e2, e3, e238, e255, e266, e274, Bool.and_true, Bool.and_false, Bool.true_and, Bool.false_and, Bool.not_true, Bool.not_false]) rfl y275)⟩)
        | false =>
          refine am_goX 1 (show (¬ (pz_b (false)) = 0 → pz_S 7 (some .boolean) am_r75 d Q 69 [(5, .int (pz_b (false))), (4, .int (Int32.ofInt 0)), (3, .int (sp_fa (tt T sz) s.1)), (0, .ref 4), (1, .ref 14), (2, .int dep)] [] h) ∧ (¬ ¬ (pz_b (false)) = 0 → pz_S 7 (some .boolean) am_r75 d Q 60 [(5, .int (pz_b (false))), (4, .int (Int32.ofInt 0)), (3, .int (sp_fa (tt T sz) s.1)), (0, .ref 4), (1, .ref 14), (2, .int dep)] [] h) from ⟨fun hz => absurd hz (by decide), fun _ => ?_⟩)
          refine am_goX 2 (show am_sh h 4 = some (4, 0) ∧ pz_S 7 (some .boolean) am_r75 d Q 64 [(5, .int (pz_b (false))), (4, .int (Int32.ofInt 0)), (3, .int (sp_fa (tt T sz) s.1)), (0, .ref 4), (1, .ref 14), (2, .int dep)] [am_rf (h.2.2.1 4 0)] h from ⟨ex_4 (c_P l.1), ?_⟩)
          rw [ex_r4_0 (c_P l.1)]
          refine am_goX 2 (show am_rc h 1 7 ∧ 0 ≤ 8 ∧ h.2.2.2.2 + am_al 52 ≤ 175 ∧ am_call am_cod d 52 [.ref 1, .int (Int32.ofInt 1)] h (fun vv h' => pz_S 7 (some .boolean) am_r75 d Q 68 [(5, .int (pz_b (false))), (4, .int (Int32.ofInt 0)), (3, .int (sp_fa (tt T sz) s.1)), (0, .ref 4), (1, .ref 14), (2, .int dep)] (vv.toList ++ []) h') from ⟨Or.inl ⟨by decide, ex_1 (c_P l.1)⟩, by decide, ex_lim (c_P l.1) rfl, am_call.up (c_refuse l.1 ?_) (by omega)⟩)
          have x276 := cr_x (s := s) (k := (Int32.ofInt 1)) (by decide) l (by decide)
          exact am_goX 1 (show (∃ ty, (some .boolean) = some ty ∧ narrow ty (.int ((Int32.ofInt 0))) = .int ((Int32.ofInt 0))) ∧ (am_wI h 1 7 (sp_ft (tt T sz) s.1 (Int32.ofInt 1))).2.2.2.2 = 175 ∧ _ from ⟨⟨.boolean, rfl, rfl⟩, ex_175 x276.1, hQ _ _ (cres_inl (F := sp_ft (tt T sz) s.1 (Int32.ofInt 1)) (by simp only [sp_pt, sp_b, sp_f, cond_true, cond_false, e2, e3, e238, e255, Bool.and_true, Bool.and_false, Bool.true_and, Bool.false_and, Bool.not_true, Bool.not_false]) rfl x276)⟩)
  ·
    have e2 : sp_k (tt T sz) s.1 2 = true := by rw [← hk]; exact decide_eq_true (Decidable.not_not.mp hc)
    clear hc
    refine am_goX 5 (show 4 < 7 ∧ am_sh h 4 = some (4, 0) ∧ pz_S 7 (some .boolean) am_r75 d Q 27 [(4, .int (Int32.ofInt 1)), (3, .int (sp_fa (tt T sz) s.1)), (0, .ref 4), (1, .ref 14), (2, .int dep)] [am_rf (h.2.2.1 4 0)] h from ⟨by decide, ex_4 (c_P l.1), ?_⟩)
    rw [ex_r4_0 (c_P l.1)]
    refine am_goX 2 (show am_rc h 1 7 ∧ 0 ≤ 8 ∧ h.2.2.2.2 + am_al 44 ≤ 175 ∧ am_call am_cod d 44 [.ref 1, .ref (4000000 + 18)] h (fun vv h' => pz_S 7 (some .boolean) am_r75 d Q 32 [(4, .int (Int32.ofInt 1)), (3, .int (sp_fa (tt T sz) s.1)), (0, .ref 4), (1, .ref 14), (2, .int dep)] (vv.toList ++ []) h') from ⟨Or.inl ⟨by decide, ex_1 (c_P l.1)⟩, by decide, ex_lim (c_P l.1) rfl, am_call.up (c_isw (by decide) wq_18 l.1 ?_) (by omega)⟩)
    refine am_goX 3 (show 5 < 7 ∧ (¬ (sp_fa (tt T sz) s.1) = 0 → pz_S 7 (some .boolean) am_r75 d Q 69 [(5, .int (pz_b (sp_w (tt T sz) s.1 19741))), (4, .int (Int32.ofInt 1)), (3, .int (sp_fa (tt T sz) s.1)), (0, .ref 4), (1, .ref 14), (2, .int dep)] [] h) ∧ (¬ ¬ (sp_fa (tt T sz) s.1) = 0 → pz_S 7 (some .boolean) am_r75 d Q 38 [(5, .int (pz_b (sp_w (tt T sz) s.1 19741))), (4, .int (Int32.ofInt 1)), (3, .int (sp_fa (tt T sz) s.1)), (0, .ref 4), (1, .ref 14), (2, .int dep)] [] h) from ⟨by decide, fun hc => ?_, fun hc => ?_⟩)
    ·
      have e3n : ¬ sp_fa (tt T sz) s.1 = 0 := hc
      have e3 : decide (sp_fa (tt T sz) s.1 = 0) = false := decide_eq_false e3n
      clear hc
      refine am_goX 3 (show (dep < (Int32.ofInt 5) → pz_S 7 (some .boolean) am_r75 d Q 83 [(5, .int (pz_b (sp_w (tt T sz) s.1 19741))), (4, .int (Int32.ofInt 1)), (3, .int (sp_fa (tt T sz) s.1)), (0, .ref 4), (1, .ref 14), (2, .int dep)] [] h) ∧ (¬ (dep < (Int32.ofInt 5)) → pz_S 7 (some .boolean) am_r75 d Q 74 [(5, .int (pz_b (sp_w (tt T sz) s.1 19741))), (4, .int (Int32.ofInt 1)), (3, .int (sp_fa (tt T sz) s.1)), (0, .ref 4), (1, .ref 14), (2, .int dep)] [] h) from ⟨fun _ => ?_, fun hz => absurd hdp hz⟩)
      refine am_goX 2 (show (¬ (Int32.ofInt 1) = 0 → pz_S 7 (some .boolean) am_r75 d Q 92 [(5, .int (pz_b (sp_w (tt T sz) s.1 19741))), (4, .int (Int32.ofInt 1)), (3, .int (sp_fa (tt T sz) s.1)), (0, .ref 4), (1, .ref 14), (2, .int dep)] [] h) ∧ (¬ ¬ (Int32.ofInt 1) = 0 → pz_S 7 (some .boolean) am_r75 d Q 88 [(5, .int (pz_b (sp_w (tt T sz) s.1 19741))), (4, .int (Int32.ofInt 1)), (3, .int (sp_fa (tt T sz) s.1)), (0, .ref 4), (1, .ref 14), (2, .int dep)] [] h) from ⟨fun _ => ?_, fun hz => absurd (by decide) hz⟩)
      refine am_goX 3 (show ((Int32.ofInt 1) = 0 → pz_S 7 (some .boolean) am_r75 d Q 108 [(5, .int (pz_b (sp_w (tt T sz) s.1 19741))), (4, .int (Int32.ofInt 1)), (3, .int (sp_fa (tt T sz) s.1)), (0, .ref 4), (1, .ref 14), (2, .int dep)] [.ref 14] h) ∧ (¬ ((Int32.ofInt 1) = 0) → pz_S 7 (some .boolean) am_r75 d Q 98 [(5, .int (pz_b (sp_w (tt T sz) s.1 19741))), (4, .int (Int32.ofInt 1)), (3, .int (sp_fa (tt T sz) s.1)), (0, .ref 4), (1, .ref 14), (2, .int dep)] [.ref 14] h) from ⟨fun hz => absurd hz (by decide), fun _ => ?_⟩)
      refine am_goX 2 (show am_sh h 4 = some (4, 0) ∧ pz_S 7 (some .boolean) am_r75 d Q 102 [(5, .int (pz_b (sp_w (tt T sz) s.1 19741))), (4, .int (Int32.ofInt 1)), (3, .int (sp_fa (tt T sz) s.1)), (0, .ref 4), (1, .ref 14), (2, .int dep)] [am_rf (h.2.2.1 4 0), .ref 14] h from ⟨ex_4 (c_P l.1), ?_⟩)
      rw [ex_r4_0 (c_P l.1)]
      refine am_goX 2 (show am_sh h 1 = some (7, 0) ∧ pz_S 7 (some .boolean) am_r75 d Q 109 [(5, .int (pz_b (sp_w (tt T sz) s.1 19741))), (4, .int (Int32.ofInt 1)), (3, .int (sp_fa (tt T sz) s.1)), (0, .ref 4), (1, .ref 14), (2, .int dep)] [.int (h.1 1 6), .ref 14] h from ⟨ex_1 (c_P l.1), ?_⟩)
      rw [c_nv l.1 e2]
      refine am_goX 1 (show am_rc h 14 3 ∧ 0 ≤ 8 ∧ h.2.2.2.2 + am_al 77 ≤ 175 ∧ am_call am_cod d 77 [.ref 14, .int (sp_v (tt T sz) s.1)] h (fun vv h' => pz_S 7 (some .boolean) am_r75 d Q 112 [(5, .int (pz_b (sp_w (tt T sz) s.1 19741))), (4, .int (Int32.ofInt 1)), (3, .int (sp_fa (tt T sz) s.1)), (0, .ref 4), (1, .ref 14), (2, .int dep)] (vv.toList ++ []) h') from ⟨Or.inl ⟨by decide, ex_14 (c_P l.1)⟩, by decide, ex_lim (c_P l.1) rfl, am_call.up (c_addn_6 l (cr_lt l (c_fan e3n)) (fun h277 m278 => ?_)) (by omega)⟩)
      refine am_goX 2 (show am_sh h277 4 = some (4, 0) ∧ pz_S 7 (some .boolean) am_r75 d Q 116 [(5, .int (pz_b (sp_w (tt T sz) s.1 19741))), (4, .int (Int32.ofInt 1)), (3, .int (sp_fa (tt T sz) s.1)), (0, .ref 4), (1, .ref 14), (2, .int dep)] [am_rf (h277.2.2.1 4 0)] h277 from ⟨ex_4 (c_P m278.1), ?_⟩)
      rw [ex_r4_0 (c_P m278.1)]
      refine am_goX 1 (show am_rc h277 1 7 ∧ 0 ≤ 8 ∧ h277.2.2.2.2 + am_al 18 ≤ 175 ∧ am_call am_cod d 18 [.ref 1] h277 (fun vv h' => pz_S 7 (some .boolean) am_r75 d Q 119 [(5, .int (pz_b (sp_w (tt T sz) s.1 19741))), (4, .int (Int32.ofInt 1)), (3, .int (sp_fa (tt T sz) s.1)), (0, .ref 4), (1, .ref 14), (2, .int dep)] (vv.toList ++ []) h') from ⟨Or.inl ⟨by decide, ex_1 (c_P m278.1)⟩, by decide, ex_lim (c_P m278.1) rfl, am_call.up (c_step m278.1 (c_fan e3n) (fun h279 m280 f281 => ?_)) (by omega)⟩)
      have l282 := cr_em2 (by decide) m278 m280 f281
      exact am_goX 2 (show (∃ ty, (some .boolean) = some ty ∧ narrow ty (.int ((Int32.ofInt 1))) = .int ((Int32.ofInt 1))) ∧ h279.2.2.2.2 = 175 ∧ _ from ⟨⟨.boolean, rfl, rfl⟩, ex_175 (c_P l282.1), hQ _ _ (cres_inr (s' := (s.1 + 1, sp_em s.2 (sp_v (tt T sz) s.1))) (by simp only [sp_pt, sp_b, sp_f, cond_true, cond_false, e2, e3, Bool.and_true, Bool.and_false, Bool.true_and, Bool.false_and, Bool.not_true, Bool.not_false]) rfl l282)⟩)
    ·
      have e3a : sp_fa (tt T sz) s.1 = 0 := Decidable.not_not.mp hc
      have e3 : decide (sp_fa (tt T sz) s.1 = 0) = true := decide_eq_true e3a
      clear hc
      refine am_goX 2 (show (¬ (Int32.ofInt 1) = 0 → pz_S 7 (some .boolean) am_r75 d Q 69 [(5, .int (pz_b (sp_w (tt T sz) s.1 19741))), (4, .int (Int32.ofInt 1)), (3, .int (sp_fa (tt T sz) s.1)), (0, .ref 4), (1, .ref 14), (2, .int dep)] [] h) ∧ (¬ ¬ (Int32.ofInt 1) = 0 → pz_S 7 (some .boolean) am_r75 d Q 43 [(5, .int (pz_b (sp_w (tt T sz) s.1 19741))), (4, .int (Int32.ofInt 1)), (3, .int (sp_fa (tt T sz) s.1)), (0, .ref 4), (1, .ref 14), (2, .int dep)] [] h) from ⟨fun _ => ?_, fun hz => absurd (by decide) hz⟩)
      refine am_goX 3 (show (dep < (Int32.ofInt 5) → pz_S 7 (some .boolean) am_r75 d Q 83 [(5, .int (pz_b (sp_w (tt T sz) s.1 19741))), (4, .int (Int32.ofInt 1)), (3, .int (sp_fa (tt T sz) s.1)), (0, .ref 4), (1, .ref 14), (2, .int dep)] [] h) ∧ (¬ (dep < (Int32.ofInt 5)) → pz_S 7 (some .boolean) am_r75 d Q 74 [(5, .int (pz_b (sp_w (tt T sz) s.1 19741))), (4, .int (Int32.ofInt 1)), (3, .int (sp_fa (tt T sz) s.1)), (0, .ref 4), (1, .ref 14), (2, .int dep)] [] h) from ⟨fun _ => ?_, fun hz => absurd hdp hz⟩)
      refine am_goX 2 (show (¬ (Int32.ofInt 1) = 0 → pz_S 7 (some .boolean) am_r75 d Q 92 [(5, .int (pz_b (sp_w (tt T sz) s.1 19741))), (4, .int (Int32.ofInt 1)), (3, .int (sp_fa (tt T sz) s.1)), (0, .ref 4), (1, .ref 14), (2, .int dep)] [] h) ∧ (¬ ¬ (Int32.ofInt 1) = 0 → pz_S 7 (some .boolean) am_r75 d Q 88 [(5, .int (pz_b (sp_w (tt T sz) s.1 19741))), (4, .int (Int32.ofInt 1)), (3, .int (sp_fa (tt T sz) s.1)), (0, .ref 4), (1, .ref 14), (2, .int dep)] [] h) from ⟨fun _ => ?_, fun hz => absurd (by decide) hz⟩)
      refine am_goX 3 (show ((Int32.ofInt 1) = 0 → pz_S 7 (some .boolean) am_r75 d Q 108 [(5, .int (pz_b (sp_w (tt T sz) s.1 19741))), (4, .int (Int32.ofInt 1)), (3, .int (sp_fa (tt T sz) s.1)), (0, .ref 4), (1, .ref 14), (2, .int dep)] [.ref 14] h) ∧ (¬ ((Int32.ofInt 1) = 0) → pz_S 7 (some .boolean) am_r75 d Q 98 [(5, .int (pz_b (sp_w (tt T sz) s.1 19741))), (4, .int (Int32.ofInt 1)), (3, .int (sp_fa (tt T sz) s.1)), (0, .ref 4), (1, .ref 14), (2, .int dep)] [.ref 14] h) from ⟨fun hz => absurd hz (by decide), fun _ => ?_⟩)
      refine am_goX 2 (show am_sh h 4 = some (4, 0) ∧ pz_S 7 (some .boolean) am_r75 d Q 102 [(5, .int (pz_b (sp_w (tt T sz) s.1 19741))), (4, .int (Int32.ofInt 1)), (3, .int (sp_fa (tt T sz) s.1)), (0, .ref 4), (1, .ref 14), (2, .int dep)] [am_rf (h.2.2.1 4 0), .ref 14] h from ⟨ex_4 (c_P l.1), ?_⟩)
      rw [ex_r4_0 (c_P l.1)]
      refine am_goX 2 (show am_sh h 1 = some (7, 0) ∧ pz_S 7 (some .boolean) am_r75 d Q 109 [(5, .int (pz_b (sp_w (tt T sz) s.1 19741))), (4, .int (Int32.ofInt 1)), (3, .int (sp_fa (tt T sz) s.1)), (0, .ref 4), (1, .ref 14), (2, .int dep)] [.int (h.1 1 6), .ref 14] h from ⟨ex_1 (c_P l.1), ?_⟩)
      rw [c_nv l.1 e2]
      refine am_goX 1 (show am_rc h 14 3 ∧ 0 ≤ 8 ∧ h.2.2.2.2 + am_al 77 ≤ 175 ∧ am_call am_cod d 77 [.ref 14, .int (sp_v (tt T sz) s.1)] h (fun vv h' => pz_S 7 (some .boolean) am_r75 d Q 112 [(5, .int (pz_b (sp_w (tt T sz) s.1 19741))), (4, .int (Int32.ofInt 1)), (3, .int (sp_fa (tt T sz) s.1)), (0, .ref 4), (1, .ref 14), (2, .int dep)] (vv.toList ++ []) h') from ⟨Or.inl ⟨by decide, ex_14 (c_P l.1)⟩, by decide, ex_lim (c_P l.1) rfl, am_call.up (c_addn_6 l (cr_lt l (sp_kn (by decide) e2)) (fun h283 m284 => ?_)) (by omega)⟩)
      refine am_goX 2 (show am_sh h283 4 = some (4, 0) ∧ pz_S 7 (some .boolean) am_r75 d Q 116 [(5, .int (pz_b (sp_w (tt T sz) s.1 19741))), (4, .int (Int32.ofInt 1)), (3, .int (sp_fa (tt T sz) s.1)), (0, .ref 4), (1, .ref 14), (2, .int dep)] [am_rf (h283.2.2.1 4 0)] h283 from ⟨ex_4 (c_P m284.1), ?_⟩)
      rw [ex_r4_0 (c_P m284.1)]
      refine am_goX 1 (show am_rc h283 1 7 ∧ 0 ≤ 8 ∧ h283.2.2.2.2 + am_al 18 ≤ 175 ∧ am_call am_cod d 18 [.ref 1] h283 (fun vv h' => pz_S 7 (some .boolean) am_r75 d Q 119 [(5, .int (pz_b (sp_w (tt T sz) s.1 19741))), (4, .int (Int32.ofInt 1)), (3, .int (sp_fa (tt T sz) s.1)), (0, .ref 4), (1, .ref 14), (2, .int dep)] (vv.toList ++ []) h') from ⟨Or.inl ⟨by decide, ex_1 (c_P m284.1)⟩, by decide, ex_lim (c_P m284.1) rfl, am_call.up (c_step m284.1 (sp_kn (by decide) e2) (fun h285 m286 f287 => ?_)) (by omega)⟩)
      have l288 := cr_em2 (by decide) m284 m286 f287
      exact am_goX 2 (show (∃ ty, (some .boolean) = some ty ∧ narrow ty (.int ((Int32.ofInt 1))) = .int ((Int32.ofInt 1))) ∧ h285.2.2.2.2 = 175 ∧ _ from ⟨⟨.boolean, rfl, rfl⟩, ex_175 (c_P l288.1), hQ _ _ (cres_inr (s' := (s.1 + 1, sp_em s.2 (sp_v (tt T sz) s.1))) (by simp only [sp_pt, sp_b, sp_f, cond_true, cond_false, e2, e3, Bool.and_true, Bool.and_false, Bool.true_and, Bool.false_and, Bool.not_true, Bool.not_false]) rfl l288)⟩)
theorem c_law_6 (hsz : 0 < sz ∨ True) : ∀ (r : Nat) (dep : Int32), r ≤ 5 → dep = Int32.ofInt (5 - r) → lw_c h0 6 T sz (7 + 5 * r) 75 dep (sp_pt (tt T sz) r) ∧ lw_c h0 6 T sz (11 + 5 * r) 71 dep (sp_wh (tt T sz) (sp_pt (tt T sz) r)) := by
  have up : ∀ (r : Nat) (dep : Int32) (d : Nat), 6 ≤ d → lw_c h0 6 T sz d 75 dep (sp_pt (tt T sz) r) → lw_c h0 6 T sz (d + 1 + 1 + 1 + 1) 71 dep (sp_wh (tt T sz) (sp_pt (tt T sz) r)) := fun r dep d hd k =>
    c_71_6 (by omega) (c_72_6 (by omega) (c_73_6 (by omega) (c_74_6 hd k (sp_pt_ok r)) (sp_p_ok (sp_pt_ok r))) (sp_su_ok (sp_pt_ok r))) (sp_te_ok (sp_pt_ok r))
  intro r
  induction r with
  | zero =>
    intro dep _ e
    have k : lw_c h0 6 T sz 7 75 dep (sp_pt (tt T sz) 0) := c_75z_6 (r := 0) (d := 6) (by omega) e
    exact ⟨k, up 0 dep 7 (by omega) k⟩
  | succ r ih =>
    intro dep hr e
    obtain ⟨i1, i2⟩ := ih (dep + Int32.ofInt 1) (by omega) (by
      rw [e, ← Int32.ofInt_add]
      congr 1
      omega)
    have hlt : dep < Int32.ofInt 5 := by
      rw [e]
      have h5 : r = 0 ∨ r = 1 ∨ r = 2 ∨ r = 3 ∨ r = 4 := by omega
      rcases h5 with rfl | rfl | rfl | rfl | rfl <;> decide
    have k : lw_c h0 6 T sz (7 + 5 * (r + 1)) 75 dep (sp_pt (tt T sz) (r + 1)) := lw_up (c_75s_6 (d := 11 + 5 * r) (by omega) hlt (lw_up i1 (by omega)) i2) (by omega)
    exact ⟨k, lw_up (up (r + 1) dep (7 + 5 * (r + 1)) (by omega) k) (by omega)⟩
