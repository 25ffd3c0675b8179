/-! WEEK OF THE REFERENCE, EXACTLY -/
/-- the reference's number of an act -/
def rwh (k : Int32) : Int32 := bif decide (k = 0) then 0 else bif decide (k = 1) then 2 else 1
def rkW (W : sw_W) (h : am_H) : Prop := W.1 ≤ 40 ∧ ∀ i, i < W.1 → h.1 167 (125 + 3 * i) = rwh (W.2.1 i) ∧ h.1 167 (126 + 3 * i) = W.2.2.1 i ∧ h.1 167 (127 + 3 * i) = W.2.2.2 i
/-- the week told -/
def rkV (W : sw_W) (h : am_H) : Prop := h.1 167 0 = nI W.1 ∧ W.1 ≤ 40 ∧ ∀ i, i < W.1 → h.1 167 (1 + 3 * i) = rwh (W.2.1 i) ∧ h.1 167 (2 + 3 * i) = W.2.2.1 i ∧ h.1 167 (3 + 3 * i) = W.2.2.2 i
def wkq (h0 h : am_H) : Prop := h.2.2 = h0.2.2 ∧ ∀ o k, ¬ ((o = 154 ∧ (k = 7 ∨ k = 8)) ∨ (o = 167 ∧ 125 ≤ k)) → h.1 o k = h0.1 o k ∧ h.2.1 o k = h0.2.1 o k
def wkv (h0 h : am_H) : Prop := h.2.2 = h0.2.2 ∧ ∀ o k, ¬ ((o = 154 ∧ (k = 7 ∨ k = 8)) ∨ o = 167) → h.1 o k = h0.1 o k ∧ h.2.1 o k = h0.2.1 o k
variable {h h0 g h1 : am_H} {z N a c o k : Nat} {τ : sp_T} {C : sp_C} {s : sp_S} {F v : Int32} {Q : am_Q} {W : sw_W}
theorem wkq_q (l : wkq h0 h) (q : rkq h h1) : wkq h0 h1 := ⟨q.1.trans l.1, fun o k hn => ⟨(q.2 o k (by omega)).1.trans (l.2 o k hn).1, (q.2 o k (by omega)).2.trans (l.2 o k hn).2⟩⟩
theorem wkq_w (ho : (o = 154 ∧ k = 7) ∨ (o = 167 ∧ 125 ≤ k)) (l : wkq h0 h) : wkq h0 (am_wI h o k v) := ⟨l.1, fun o' k' hn => ⟨(em_wn _ _ (by omega)).trans (l.2 o' k' hn).1, (l.2 o' k' hn).2⟩⟩
theorem rkW_q (r : rkW W h) (q : rkq h h1) : rkW W h1 := ⟨r.1, fun i hi => by
  rw [(q.2 167 (125 + 3 * i) (by omega)).1, (q.2 167 (126 + 3 * i) (by omega)).1, (q.2 167 (127 + 3 * i) (by omega)).1]
  exact r.2 i hi⟩
theorem rkW_w (ho : o = 154 ∨ (o = 167 ∧ 125 + 3 * W.1 ≤ k)) (r : rkW W h) : rkW W (am_wI h o k v) := ⟨r.1, fun i hi => by
  rw [em_wn _ _ (by omega), em_wn _ _ (by omega), em_wn _ _ (by omega)]
  exact r.2 i hi⟩
theorem rk_b (l : rk g z τ N s h) : rk h z τ N s h := ⟨l.1, l.2.1, ⟨rfl, fun _ _ _ => ⟨rfl, rfl⟩⟩, l.2.2.2⟩
theorem rk_w7 (l : rk g z τ N s h) : rk (am_wI h 167 k v) z τ N s (am_wI h 167 k v) := by
  obtain ⟨⟨l1, ⟨l2, l3⟩, l4⟩, ⟨c1, c2, c3⟩, l5, l6⟩ := l
  refine ⟨⟨rt_w (by omega) l1, ⟨?_, l3⟩, ?_⟩, ⟨c1, c2, rkN_w (by omega) c3⟩, ⟨rfl, fun _ _ _ => ⟨rfl, rfl⟩⟩, l6⟩
  · rw [em_wn _ _ (by omega)]; exact l2
  · rw [em_wn _ _ (by omega)]; exact l4
theorem rkx_w7 (x : rkx g F c h) : rkx (am_wI h 167 k v) F c (am_wI h 167 k v) := ⟨x.1, ⟨(em_wn _ _ (by omega)).trans x.2.1.1, x.2.1.2⟩, ⟨rfl, fun _ _ _ => ⟨rfl, rfl⟩⟩⟩
theorem rkW_ad {kd p lt : Int32} (r : rkW W h) (hn : W.1 < 40) (x1 : h.1 167 (125 + 3 * W.1) = rwh kd) (x2 : h.1 167 (126 + 3 * W.1) = p) (x3 : h.1 167 (127 + 3 * W.1) = lt) : rkW (sw_ad W kd p lt) h := by
  refine ⟨(show W.1 + 1 ≤ 40 by omega), fun i hi => ?_⟩
  have hi : i < W.1 + 1 := hi
  show _ = rwh (if i = W.1 then kd else W.2.1 i) ∧ _ = (if i = W.1 then p else W.2.2.1 i) ∧ _ = (if i = W.1 then lt else W.2.2.2 i)
  by_cases ei : i = W.1
  · rw [if_pos ei, if_pos ei, if_pos ei, ei]
    exact ⟨x1, x2, x3⟩
  · rw [if_neg ei, if_neg ei, if_neg ei]
    exact r.2 i (show i < W.1 by omega)
theorem sw_1 {w w' : Int64} (e : sp_w τ a w = true) (hw : ¬ w = w') : sp_w τ a w' = false := by
  have h1 := (Bool.and_eq_true _ _ ▸ e : _ ∧ _)
  unfold sp_w
  rw [h1.1, decide_eq_false (fun z => hw ((of_decide_eq_true h1.2).symm.trans z))]
  rfl
theorem sw_rw (τ : sp_T) (a : Nat) : (sw_act τ a = none ∧ sp_w τ a 17003 = false ∧ wq τ a 8 2 = Int32.ofInt (-1)) ∨ (¬ (τ a).1 = 0 ∧ ((sw_act τ a = some 0 ∧ sp_w τ a 17003 = false ∧ wq τ a 8 2 = nI 0) ∨ (sw_act τ a = some 1 ∧ sp_w τ a 17003 = true) ∨ (sw_act τ a = some 2 ∧ sp_w τ a 17003 = false ∧ wq τ a 8 2 = nI 1))) := by
  unfold sw_act
  rcases wq_v τ a 8 2 (by decide) with ⟨e, n⟩ | ⟨j, hj, e, t⟩
  · have n0 : sp_w τ a 5538 = false := n 0 (by decide)
    have n1 : sp_w τ a 2083 = false := n 1 (by decide)
    cases e1 : sp_w τ a 17003 with
    | true => exact Or.inr ⟨sp_wn e1, Or.inr (Or.inl ⟨by rw [n0]; rfl, rfl⟩)⟩
    | false => exact Or.inl ⟨by rw [n0, n1]; rfl, rfl, e⟩
  · have w : j = 0 ∨ j = 1 := by omega
    rcases w with rfl | rfl
    · have n0 : sp_w τ a 5538 = true := t
      exact Or.inr ⟨sp_wn n0, Or.inl ⟨by rw [n0]; rfl, sw_1 n0 (by decide), e⟩⟩
    · have n0 : sp_w τ a 2083 = true := t
      exact Or.inr ⟨sp_wn n0, Or.inr (Or.inr ⟨by rw [sw_1 n0 (show ¬ (2083 : Int64) = 5538 by decide), sw_1 n0 (show ¬ (2083 : Int64) = 17003 by decide), n0]; rfl, sw_1 n0 (by decide), e⟩)⟩
theorem lt_F (e : sp_tN τ (Int32.ofInt 0) (Int32.ofInt 4) (a, C) = .inl F) : sw_lt τ a = .inl F := by
  unfold sp_tN at e
  unfold sw_lt
  dsimp only at e
  cases e1 : sp_k τ a 2 with
  | false =>
    rw [e1] at e
    exact congrArg Sum.inl (Sum.inl.inj e)
  | true =>
    rw [e1] at e
    cases e2 : sp_in τ a (Int32.ofInt 0) (Int32.ofInt 4) with
    | true =>
      rw [e2] at e
      cases e
    | false =>
      rw [e2] at e
      exact congrArg Sum.inl (Sum.inl.inj e)
theorem lt_S {t : sp_S} (e : sp_tN τ (Int32.ofInt 0) (Int32.ofInt 4) (a, C) = .inr t) : sw_lt τ a = .inr (sp_v τ a) := by
  obtain ⟨_, e1, e2⟩ := sp_tN_inr e
  unfold sw_lt
  rw [show sp_k τ a 2 = true from e1, show sp_in τ a (Int32.ofInt 0) (Int32.ofInt 4) = true from e2]
  rfl
theorem pn_F (e : tq_p τ (a, C) = .inl F) : sw_pn τ (C.1.1, C.1.2.1) a = .inl F := by
  unfold tq_p at e
  unfold sw_pn
  dsimp only at e
  cases e1 : sp_n τ a with
  | false =>
    rw [e1] at e
    exact congrArg Sum.inl (Sum.inl.inj e)
  | true =>
    rw [e1] at e
    show (match sp_pf C (τ a).2.1 with | none => Sum.inl (sp_ft τ a (Int32.ofInt 2)) | some p => Sum.inr p) = Sum.inl F
    cases e2 : sp_pf C (τ a).2.1 with
    | none =>
      rw [e2] at e
      exact congrArg Sum.inl (Sum.inl.inj e)
    | some p =>
      rw [e2] at e
      cases e
theorem pn_S {p : Nat} (e1 : sp_n τ a = true) (e2 : sp_pf C (τ a).2.1 = some p) : sw_pn τ (C.1.1, C.1.2.1) a = .inr p := by
  unfold sw_pn
  rw [e1]
  show (match sp_pf C (τ a).2.1 with | none => Sum.inl (sp_ft τ a (Int32.ofInt 2)) | some p => Sum.inr p) = Sum.inr p
  rw [e2]
theorem end_F {kd p lt : Int32} (e : sp_tS τ (Int8.ofInt 59).toInt32 (a, C) = .inl F) : sw_end τ W kd p lt a = .inl F := by
  unfold sp_tS at e
  unfold sw_end
  dsimp only at e
  cases e1 : sp_s τ a (Int8.ofInt 59).toInt32 with
  | true =>
    rw [e1] at e
    cases e
  | false =>
    rw [e1] at e
    exact congrArg Sum.inl (Sum.inl.inj e)
theorem end_S {kd p lt : Int32} {t : sp_S} (e : sp_tS τ (Int8.ofInt 59).toInt32 (a, C) = .inr t) : sw_end τ W kd p lt a = .inr (a + 1, sw_ad W kd p lt) := by
  unfold sp_tS at e
  unfold sw_end
  dsimp only at e
  cases e1 : sp_s τ a (Int8.ofInt 59).toInt32 with
  | true => rfl
  | false =>
    rw [e1] at e
    cases e
theorem n40 {n : Nat} (hn : n ≤ 40) : (nI n = (Int8.ofInt 40).toInt32) ↔ n = 40 := by
  refine ⟨fun e => nI_inj2 (by omega) (by decide) (e.trans (show (Int8.ofInt 40).toInt32 = nI 40 by decide)), fun e => by rw [e]; decide⟩

theorem k_219c {n : Nat} (hn : n ≤ 40) : ∀ (m j : Nat) (h : am_H), j + m = 3 * n → ex_P h → (∀ i, i < j → h.1 167 (1 + i) = h.1 167 (125 + i)) → (∀ h1, ex_P h1 → h1.2 = h.2 → (∀ o k, ¬ (o = 167 ∧ 1 ≤ k ∧ k < 125) → h1.1 o k = h.1 o k) → (∀ i, i < 3 * n → h1.1 167 (1 + i) = h.1 167 (125 + i)) → Q (some (.int (Int32.ofInt 0))) h1) → pz_S 4 (some .int) am_r219 5 Q 179 [(2, .int (nI j)), (1, .int (nI n)), (0, .ref 154)] [] h := by
  intro m
  induction m with
  | zero =>
    intro j h hj hP hc hQ
    refine am_goX 4 (show pz_S 4 (some .int) am_r219 5 Q 183 [(2, .int (nI j)), (1, .int (nI n)), (0, .ref 154)] [.int ((Int32.ofInt 3) * (nI n)), .int (nI j)] h from ?_)
    rw [show Int32.ofInt 3 * nI n = nI (3 * n) from nI_mul 3 _]
    refine am_goX 1 (show ((nI (3 * n)) ≤ (nI j) → pz_S 4 (some .int) am_r219 5 Q 209 [(2, .int (nI j)), (1, .int (nI n)), (0, .ref 154)] [] h) ∧ (¬ ((nI (3 * n)) ≤ (nI j)) → pz_S 4 (some .int) am_r219 5 Q 186 [(2, .int (nI j)), (1, .int (nI n)), (0, .ref 154)] [] h) from ⟨fun _ => ?_, fun hz => absurd (nI_le (by omega) (by omega)) hz⟩)
    exact am_goX 2 (show (∃ ty, (some .int) = some ty ∧ narrow ty (.int ((Int32.ofInt 0))) = .int ((Int32.ofInt 0))) ∧ h.2.2.2.2 = 175 ∧ _ from ⟨⟨.int, rfl, rfl⟩, ex_175 hP, hQ _ hP rfl (fun _ _ _ => rfl) (fun i hi => hc i (by omega))⟩)
  | succ m ih =>
    intro j h hj hP hc hQ
    refine am_goX 4 (show pz_S 4 (some .int) am_r219 5 Q 183 [(2, .int (nI j)), (1, .int (nI n)), (0, .ref 154)] [.int ((Int32.ofInt 3) * (nI n)), .int (nI j)] h from ?_)
    rw [show Int32.ofInt 3 * nI n = nI (3 * n) from nI_mul 3 _]
    refine am_goX 1 (show ((nI (3 * n)) ≤ (nI j) → pz_S 4 (some .int) am_r219 5 Q 209 [(2, .int (nI j)), (1, .int (nI n)), (0, .ref 154)] [] h) ∧ (¬ ((nI (3 * n)) ≤ (nI j)) → pz_S 4 (some .int) am_r219 5 Q 186 [(2, .int (nI j)), (1, .int (nI n)), (0, .ref 154)] [] h) from ⟨fun hz => absurd hz (by rw [nI_leI (by omega) (by omega)]; omega), fun _ => ?_⟩)
    refine am_goX 2 (show am_sh h 154 = some (11, 0) ∧ pz_S 4 (some .int) am_r219 5 Q 190 [(2, .int (nI j)), (1, .int (nI n)), (0, .ref 154)] [am_rf (h.2.2.1 154 21)] h from ⟨ex_154 hP, ?_⟩)
    rw [ex_r154_21 (h := h) hP]
    refine am_goX 5 (show am_sh h 154 = some (11, 0) ∧ pz_S 4 (some .int) am_r219 5 Q 197 [(2, .int (nI j)), (1, .int (nI n)), (0, .ref 154)] [am_rf (h.2.2.1 154 21), .int ((Int32.ofInt 1) + (nI j)), .ref 167] h from ⟨ex_154 hP, ?_⟩)
    rw [ex_r154_21 (h := h) hP]
    refine am_goX 4 (show ∃ jj nn : Nat, am_sh h 167 = some (13, nn) ∧ jj < nn ∧ ((Int8.ofInt 125).toInt32 + (nI j)) = nI jj ∧ pz_S 4 (some .int) am_r219 5 Q 202 [(2, .int (nI j)), (1, .int (nI n)), (0, .ref 154)] [.int (h.1 167 jj), .int ((Int32.ofInt 1) + (nI j)), .ref 167] h from ⟨(125 + j), 250, ex_167 hP, by omega, nI_add 125 _, ?_⟩)
    refine am_goX 1 (show ∃ jj nn : Nat, am_so h 167 = some (13, nn) ∧ jj < nn ∧ ((Int32.ofInt 1) + (nI j)) = nI jj ∧ pz_S 4 (some .int) am_r219 5 Q 203 [(2, .int (nI j)), (1, .int (nI n)), (0, .ref 154)] [] (am_wI h 167 jj ((h.1 167 (125 + j)))) from ⟨(1 + j), 250, ex_w167 hP, by omega, nI_add 1 _, ?_⟩)
    refine am_goX 2 (show 2 < 4 ∧ pz_S 4 (some .int) am_r219 5 Q 179 [(2, .int ((nI j) + Int32.ofInt 1)), (1, .int (nI n)), (0, .ref 154)] [] (am_wI h 167 (1 + j) ((h.1 167 (125 + j)))) from ⟨by decide, ?_⟩)
    rw [xw_i1]
    refine ih (j + 1) _ (by omega) hP (fun i hi => ?_) (fun h1 p1 p2 p3 p4 => hQ h1 p1 p2 (fun o k hn => by rw [p3 o k hn, em_wn _ _ (by omega)]) (fun i hi => by rw [p4 i hi, em_wn _ _ (by omega)]))
    by_cases ee : i = j
    · rw [ee, em_we, em_wn _ _ (by omega)]
    · rw [em_wn _ _ (by omega), em_wn _ _ (by omega)]
      exact hc i (by omega)
theorem k_219cx {y3 : Int32} {n : Nat} (hn : n ≤ 40) : ∀ (m j : Nat) (h : am_H), j + m = 3 * n → ex_P h → (∀ i, i < j → h.1 167 (1 + i) = h.1 167 (125 + i)) → (∀ h1, ex_P h1 → h1.2 = h.2 → (∀ o k, ¬ (o = 167 ∧ 1 ≤ k ∧ k < 125) → h1.1 o k = h.1 o k) → (∀ i, i < 3 * n → h1.1 167 (1 + i) = h.1 167 (125 + i)) → Q (some (.int (Int32.ofInt 0))) h1) → pz_S 4 (some .int) am_r219 5 Q 179 [(2, .int (nI j)), (1, .int (nI n)), (3, .int y3), (0, .ref 154)] [] h := by
  intro m
  induction m with
  | zero =>
    intro j h hj hP hc hQ
    refine am_goX 4 (show pz_S 4 (some .int) am_r219 5 Q 183 [(2, .int (nI j)), (1, .int (nI n)), (3, .int y3), (0, .ref 154)] [.int ((Int32.ofInt 3) * (nI n)), .int (nI j)] h from ?_)
    rw [show Int32.ofInt 3 * nI n = nI (3 * n) from nI_mul 3 _]
    refine am_goX 1 (show ((nI (3 * n)) ≤ (nI j) → pz_S 4 (some .int) am_r219 5 Q 209 [(2, .int (nI j)), (1, .int (nI n)), (3, .int y3), (0, .ref 154)] [] h) ∧ (¬ ((nI (3 * n)) ≤ (nI j)) → pz_S 4 (some .int) am_r219 5 Q 186 [(2, .int (nI j)), (1, .int (nI n)), (3, .int y3), (0, .ref 154)] [] h) from ⟨fun _ => ?_, fun hz => absurd (nI_le (by omega) (by omega)) hz⟩)
    exact am_goX 2 (show (∃ ty, (some .int) = some ty ∧ narrow ty (.int ((Int32.ofInt 0))) = .int ((Int32.ofInt 0))) ∧ h.2.2.2.2 = 175 ∧ _ from ⟨⟨.int, rfl, rfl⟩, ex_175 hP, hQ _ hP rfl (fun _ _ _ => rfl) (fun i hi => hc i (by omega))⟩)
  | succ m ih =>
    intro j h hj hP hc hQ
    refine am_goX 4 (show pz_S 4 (some .int) am_r219 5 Q 183 [(2, .int (nI j)), (1, .int (nI n)), (3, .int y3), (0, .ref 154)] [.int ((Int32.ofInt 3) * (nI n)), .int (nI j)] h from ?_)
    rw [show Int32.ofInt 3 * nI n = nI (3 * n) from nI_mul 3 _]
    refine am_goX 1 (show ((nI (3 * n)) ≤ (nI j) → pz_S 4 (some .int) am_r219 5 Q 209 [(2, .int (nI j)), (1, .int (nI n)), (3, .int y3), (0, .ref 154)] [] h) ∧ (¬ ((nI (3 * n)) ≤ (nI j)) → pz_S 4 (some .int) am_r219 5 Q 186 [(2, .int (nI j)), (1, .int (nI n)), (3, .int y3), (0, .ref 154)] [] h) from ⟨fun hz => absurd hz (by rw [nI_leI (by omega) (by omega)]; omega), fun _ => ?_⟩)
    refine am_goX 2 (show am_sh h 154 = some (11, 0) ∧ pz_S 4 (some .int) am_r219 5 Q 190 [(2, .int (nI j)), (1, .int (nI n)), (3, .int y3), (0, .ref 154)] [am_rf (h.2.2.1 154 21)] h from ⟨ex_154 hP, ?_⟩)
    rw [ex_r154_21 (h := h) hP]
    refine am_goX 5 (show am_sh h 154 = some (11, 0) ∧ pz_S 4 (some .int) am_r219 5 Q 197 [(2, .int (nI j)), (1, .int (nI n)), (3, .int y3), (0, .ref 154)] [am_rf (h.2.2.1 154 21), .int ((Int32.ofInt 1) + (nI j)), .ref 167] h from ⟨ex_154 hP, ?_⟩)
    rw [ex_r154_21 (h := h) hP]
    refine am_goX 4 (show ∃ jj nn : Nat, am_sh h 167 = some (13, nn) ∧ jj < nn ∧ ((Int8.ofInt 125).toInt32 + (nI j)) = nI jj ∧ pz_S 4 (some .int) am_r219 5 Q 202 [(2, .int (nI j)), (1, .int (nI n)), (3, .int y3), (0, .ref 154)] [.int (h.1 167 jj), .int ((Int32.ofInt 1) + (nI j)), .ref 167] h from ⟨(125 + j), 250, ex_167 hP, by omega, nI_add 125 _, ?_⟩)
    refine am_goX 1 (show ∃ jj nn : Nat, am_so h 167 = some (13, nn) ∧ jj < nn ∧ ((Int32.ofInt 1) + (nI j)) = nI jj ∧ pz_S 4 (some .int) am_r219 5 Q 203 [(2, .int (nI j)), (1, .int (nI n)), (3, .int y3), (0, .ref 154)] [] (am_wI h 167 jj ((h.1 167 (125 + j)))) from ⟨(1 + j), 250, ex_w167 hP, by omega, nI_add 1 _, ?_⟩)
    refine am_goX 2 (show 2 < 4 ∧ pz_S 4 (some .int) am_r219 5 Q 179 [(2, .int ((nI j) + Int32.ofInt 1)), (1, .int (nI n)), (3, .int y3), (0, .ref 154)] [] (am_wI h 167 (1 + j) ((h.1 167 (125 + j)))) from ⟨by decide, ?_⟩)
    rw [xw_i1]
    refine ih (j + 1) _ (by omega) hP (fun i hi => ?_) (fun h1 p1 p2 p3 p4 => hQ h1 p1 p2 (fun o k hn => by rw [p3 o k hn, em_wn _ _ (by omega)]) (fun i hi => by rw [p4 i hi, em_wn _ _ (by omega)]))
    by_cases ee : i = j
    · rw [ee, em_we, em_wn _ _ (by omega)]
    · rw [em_wn _ _ (by omega), em_wn _ _ (by omega)]
      exact hc i (by omega)
theorem rkV_c {h h1 : am_H} (r : rkW W h) (p3 : ∀ o k, ¬ (o = 167 ∧ 1 ≤ k ∧ k < 125) → h1.1 o k = (am_wI h 167 0 (nI W.1)).1 o k) (p4 : ∀ i, i < 3 * W.1 → h1.1 167 (1 + i) = (am_wI h 167 0 (nI W.1)).1 167 (125 + i)) : rkV W h1 := by
  have r1 := r.1
  refine ⟨?_, r.1, fun i hi => ?_⟩
  · rw [p3 167 0 (by omega), em_we]
  · have a1 := p4 (3 * i) (by omega)
    have a2 := p4 (3 * i + 1) (by omega)
    have a3 := p4 (3 * i + 2) (by omega)
    rw [em_wn _ _ (by omega)] at a1 a2 a3
    rw [show 2 + 3 * i = 1 + (3 * i + 1) by omega, show 3 + 3 * i = 1 + (3 * i + 2) by omega, a1, a2, a3, show 125 + (3 * i + 1) = 126 + 3 * i by omega, show 125 + (3 * i + 2) = 127 + 3 * i by omega]
    exact r.2 i hi
theorem k_219l : ∀ (m a : Nat) (W : sw_W) (y2 y3 : Int32) (h : am_H), N < a + m → rk h 0 τ N (a, C) h → rkW W h → wkq h0 h → (∀ F h1, sw_all τ (C.1.1, C.1.2.1) m (a, W) = .inl F → ex_P h1 → wkq h0 h1 → Q (some (.int F)) h1) → (∀ t h1, sw_all τ (C.1.1, C.1.2.1) m (a, W) = .inr t → ex_P h1 → rkV t.2 h1 → wkv h0 h1 → Q (some (.int (Int32.ofInt 0))) h1) → pz_S 4 (some .int) am_r219 5 Q 11 [(1, .int (nI W.1)), (3, .int y3), (2, .int y2), (0, .ref 154)] [] h := by
  intro m
  induction m with
  | zero =>
    intro a W y2 y3 h hm l r w hF hS
    have := (k_N l).1
    dsimp only at this
    omega
  | succ m ih =>
    intro a W y2 y3 h hm l r w hF hS
    refine am_goX 2 (show am_sh h 154 = some (11, 0) ∧ pz_S 4 (some .int) am_r219 5 Q 15 [(1, .int (nI W.1)), (3, .int y3), (2, .int y2), (0, .ref 154)] [.int (h.1 154 8)] h from ⟨ex_154 (k_P l), ?_⟩)
    rw [k_f l]
    refine am_goX 1 (show (¬ 0 = 0 → pz_S 4 (some .int) am_r219 5 Q 158 [(1, .int (nI W.1)), (3, .int y3), (2, .int y2), (0, .ref 154)] [] h) ∧ (¬ ¬ 0 = 0 → pz_S 4 (some .int) am_r219 5 Q 18 [(1, .int (nI W.1)), (3, .int y3), (2, .int y2), (0, .ref 154)] [] h) from ⟨fun hz => absurd hz (by decide), fun _ => ?_⟩)
    refine am_goX 2 (show am_sh h 154 = some (11, 0) ∧ pz_S 4 (some .int) am_r219 5 Q 22 [(1, .int (nI W.1)), (3, .int y3), (2, .int y2), (0, .ref 154)] [am_rf (h.2.2.1 154 4)] h from ⟨ex_154 (k_P l), ?_⟩)
    rw [ex_r154_4 (h := h) (k_P l)]
    refine am_goX 3 (show am_sh h 154 = some (11, 0) ∧ ∃ jj nn : Nat, am_sh h 156 = some (13, nn) ∧ jj < nn ∧ (h.1 154 7) = nI jj ∧ pz_S 4 (some .int) am_r219 5 Q 27 [(1, .int (nI W.1)), (3, .int y3), (2, .int y2), (0, .ref 154)] [.int (h.1 156 jj)] h from ⟨ex_154 (k_P l), a, 1002, ex_156 (k_P l), (by have := k_N l; dsimp only at this; omega), k_a l, ?_⟩)
    rw [show h.1 156 a = (τ a).1 from k_k l]
    cases e2 : sp_k τ a 0 with
    | true =>
      refine am_goX 1 (show ((τ a).1 = 0 → pz_S 4 (some .int) am_r219 5 Q 158 [(1, .int (nI W.1)), (3, .int y3), (2, .int y2), (0, .ref 154)] [] h) ∧ (¬ ((τ a).1 = 0) → pz_S 4 (some .int) am_r219 5 Q 30 [(1, .int (nI W.1)), (3, .int y3), (2, .int y2), (0, .ref 154)] [] h) from ⟨fun _ => ?_, fun hz => absurd (sp_kt e2) hz⟩)
      refine am_goX 2 (show am_sh h 154 = some (11, 0) ∧ pz_S 4 (some .int) am_r219 5 Q 162 [(1, .int (nI W.1)), (3, .int y3), (2, .int y2), (0, .ref 154)] [.int (h.1 154 8)] h from ⟨ex_154 (k_P l), ?_⟩)
      rw [k_f l]
      refine am_goX 1 (show (0 ≤ 0 → pz_S 4 (some .int) am_r219 5 Q 170 [(1, .int (nI W.1)), (3, .int y3), (2, .int y2), (0, .ref 154)] [] h) ∧ (¬ (0 ≤ 0) → pz_S 4 (some .int) am_r219 5 Q 165 [(1, .int (nI W.1)), (3, .int y3), (2, .int y2), (0, .ref 154)] [] h) from ⟨fun _ => ?_, fun hz => absurd (by decide) hz⟩)
      refine am_goX 2 (show am_sh h 154 = some (11, 0) ∧ pz_S 4 (some .int) am_r219 5 Q 174 [(1, .int (nI W.1)), (3, .int y3), (2, .int y2), (0, .ref 154)] [am_rf (h.2.2.1 154 21)] h from ⟨ex_154 (k_P l), ?_⟩)
      rw [ex_r154_21 (h := h) (k_P l)]
      refine am_goX 3 (show ∃ jj nn : Nat, am_so h 167 = some (13, nn) ∧ jj < nn ∧ (Int32.ofInt 0) = nI jj ∧ pz_S 4 (some .int) am_r219 5 Q 177 [(1, .int (nI W.1)), (3, .int y3), (2, .int y2), (0, .ref 154)] [] (am_wI h 167 jj ((nI W.1))) from ⟨0, 250, ex_w167 (k_P l), by decide, rfl, ?_⟩)
      refine am_goX 2 (show 2 < 4 ∧ pz_S 4 (some .int) am_r219 5 Q 179 [(2, .int (Int32.ofInt 0)), (1, .int (nI W.1)), (3, .int y3), (0, .ref 154)] [] (am_wI h 167 0 ((nI W.1))) from ⟨by decide, ?_⟩)
      have hPl : ex_P (am_wI h 167 0 (nI W.1)) := (k_P l : ex_P h)
      exact k_219cx r.1 (3 * W.1) 0 _ (Nat.zero_add _) hPl (fun i hi => absurd hi (Nat.not_lt_zero i)) (fun h1 p1 p2 p3 p4 => hS (a, W) h1 (by unfold sw_all; rw [e2]; rfl) p1 (rkV_c r p3 p4) ⟨(congrArg (fun q => q.2) p2).trans w.1, fun o k hn => ⟨(p3 o k (by omega)).trans ((em_wn _ _ (by omega)).trans (w.2 o k (by omega)).1), (congrFun (congrFun (congrArg (fun q => q.1) p2) o) k).trans (w.2 o k (by omega)).2⟩⟩)
    | false =>
      refine am_goX 1 (show ((τ a).1 = 0 → pz_S 4 (some .int) am_r219 5 Q 158 [(1, .int (nI W.1)), (3, .int y3), (2, .int y2), (0, .ref 154)] [] h) ∧ (¬ ((τ a).1 = 0) → pz_S 4 (some .int) am_r219 5 Q 30 [(1, .int (nI W.1)), (3, .int y3), (2, .int y2), (0, .ref 154)] [] h) from ⟨fun hz => absurd hz (of_decide_eq_false e2), fun _ => ?_⟩)
      refine am_goX 3 (show am_rc h 154 11 ∧ 0 ≤ 8 ∧ h.2.2.2.2 + am_al 195 ≤ 175 ∧ am_call am_cod 5 195 [.ref 154, .int (Int32.ofInt 1)] h (fun vv h' => pz_S 4 (some .int) am_r219 5 Q 35 [(1, .int (nI W.1)), (3, .int y3), (2, .int y2), (0, .ref 154)] (vv.toList ++ []) h') from ⟨Or.inl ⟨by decide, ex_154 (k_P l)⟩, by decide, ex_lim (k_P l) rfl, am_call.up (k_195 (w := 1) (W := 17003) (by decide) (by decide) (by decide) l ?_) (by decide)⟩)
      rcases sw_rw τ a with ⟨ea, ew, eq⟩ | ⟨hn, ⟨ea, ew, eq⟩ | ⟨ea, ew⟩ | ⟨ea, ew, eq⟩⟩
      ·
        rw [show sp_w τ (a, C).1 17003 = false from ew]
        refine am_goX 1 (show ((pz_b (false)) = 0 → pz_S 4 (some .int) am_r219 5 Q 42 [(1, .int (nI W.1)), (3, .int y3), (2, .int y2), (0, .ref 154)] [] h) ∧ (¬ ((pz_b (false)) = 0) → pz_S 4 (some .int) am_r219 5 Q 38 [(1, .int (nI W.1)), (3, .int y3), (2, .int y2), (0, .ref 154)] [] h) from ⟨fun _ => ?_, fun hz => absurd (by decide) hz⟩)
        refine am_goX 4 (show am_rc h 154 11 ∧ 0 ≤ 8 ∧ h.2.2.2.2 + am_al 199 ≤ 175 ∧ am_call am_cod 5 199 [.ref 154, .int (Int8.ofInt 8).toInt32, .int (Int32.ofInt 2)] h (fun vv h' => pz_S 4 (some .int) am_r219 5 Q 49 [(1, .int (nI W.1)), (3, .int y3), (2, .int y2), (0, .ref 154)] (vv.toList ++ []) h') from ⟨Or.inl ⟨by decide, ex_154 (k_P l)⟩, by decide, ex_lim (k_P l) rfl, am_call.up (k_199 (f := 8) (M := 2) (by decide) (by decide) (by decide) l ?_) (by decide)⟩)
        rw [show wq τ (a, C).1 8 2 = Int32.ofInt (-1) from eq]
        refine am_goX 3 (show 2 < 4 ∧ (0 ≤ (Int32.ofInt (-1)) → pz_S 4 (some .int) am_r219 5 Q 62 [(2, .int (Int32.ofInt (-1))), (1, .int (nI W.1)), (3, .int y3), (0, .ref 154)] [] h) ∧ (¬ (0 ≤ (Int32.ofInt (-1))) → pz_S 4 (some .int) am_r219 5 Q 54 [(2, .int (Int32.ofInt (-1))), (1, .int (nI W.1)), (3, .int y3), (0, .ref 154)] [] h) from ⟨by decide, fun hz => absurd hz (by decide), fun _ => ?_⟩)
        refine am_goX 3 (show am_rc h 154 11 ∧ 0 ≤ 8 ∧ h.2.2.2.2 + am_al 197 ≤ 175 ∧ am_call am_cod 5 197 [.ref 154, .int (Int32.ofInt 1)] h (fun vv h' => pz_S 4 (some .int) am_r219 5 Q 59 [(2, .int (Int32.ofInt (-1))), (1, .int (nI W.1)), (3, .int y3), (0, .ref 154)] (vv.toList ++ []) h') from ⟨Or.inl ⟨by decide, ex_154 (k_P l)⟩, by decide, ex_lim (k_P l) rfl, am_call.up (k_197 (k := Int32.ofInt 1) l ?_) (by decide)⟩)
        have x : rkx h (sp_ft τ a (Int32.ofInt 1)) (C.2.2.2.2.1 + 0) (am_wI h 154 8 (sp_ft τ a (Int32.ofInt 1))) := rk_x (s := (a, C)) l (by decide)
        generalize hFe : sp_ft τ a (Int32.ofInt 1) = F at x ⊢
        refine am_goX 4 (show am_rc (am_wI h 154 8 F) 154 11 ∧ 0 ≤ 8 ∧ (am_wI h 154 8 F).2.2.2.2 + am_al 218 ≤ 175 ∧ am_call am_cod 5 218 [.ref 154, .int (Int8.ofInt 59).toInt32] (am_wI h 154 8 F) (fun vv h' => pz_S 4 (some .int) am_r219 5 Q 155 [(2, .int (Int32.ofInt (-1))), (1, .int (nI W.1)), (3, .int y3), (0, .ref 154)] (vv.toList ++ []) h') from ⟨Or.inl ⟨by decide, ex_154 x.1⟩, by decide, ex_lim x.1 rfl, am_call.up (e_218 x ?_) (by decide)⟩)
        refine am_goX 3 (show am_sh (am_wI h 154 8 F) 154 = some (11, 0) ∧ pz_S 4 (some .int) am_r219 5 Q 15 [(2, .int (Int32.ofInt (-1))), (1, .int (nI W.1)), (3, .int y3), (0, .ref 154)] [.int ((am_wI h 154 8 F).1 154 8)] (am_wI h 154 8 F) from ⟨ex_154 x.1, ?_⟩)
        rw [x.2.1.1]
        refine am_goX 1 (show (¬ F = 0 → pz_S 4 (some .int) am_r219 5 Q 158 [(2, .int (Int32.ofInt (-1))), (1, .int (nI W.1)), (3, .int y3), (0, .ref 154)] [] (am_wI h 154 8 F)) ∧ (¬ ¬ F = 0 → pz_S 4 (some .int) am_r219 5 Q 18 [(2, .int (Int32.ofInt (-1))), (1, .int (nI W.1)), (3, .int y3), (0, .ref 154)] [] (am_wI h 154 8 F)) from ⟨fun _ => ?_, fun hz => absurd (rkx_ne x) hz⟩)
        refine am_goX 2 (show am_sh (am_wI h 154 8 F) 154 = some (11, 0) ∧ pz_S 4 (some .int) am_r219 5 Q 162 [(2, .int (Int32.ofInt (-1))), (1, .int (nI W.1)), (3, .int y3), (0, .ref 154)] [.int ((am_wI h 154 8 F).1 154 8)] (am_wI h 154 8 F) from ⟨ex_154 x.1, ?_⟩)
        rw [x.2.1.1]
        refine am_goX 1 (show (F ≤ 0 → pz_S 4 (some .int) am_r219 5 Q 170 [(2, .int (Int32.ofInt (-1))), (1, .int (nI W.1)), (3, .int y3), (0, .ref 154)] [] (am_wI h 154 8 F)) ∧ (¬ (F ≤ 0) → pz_S 4 (some .int) am_r219 5 Q 165 [(2, .int (Int32.ofInt (-1))), (1, .int (nI W.1)), (3, .int y3), (0, .ref 154)] [] (am_wI h 154 8 F)) from ⟨fun hz => absurd hz (rkx_le x), fun _ => ?_⟩)
        refine am_goX 2 (show am_sh (am_wI h 154 8 F) 154 = some (11, 0) ∧ pz_S 4 (some .int) am_r219 5 Q 169 [(2, .int (Int32.ofInt (-1))), (1, .int (nI W.1)), (3, .int y3), (0, .ref 154)] [.int ((am_wI h 154 8 F).1 154 8)] (am_wI h 154 8 F) from ⟨ex_154 x.1, ?_⟩)
        rw [x.2.1.1]
        exact am_goX 1 (show (∃ ty, (some .int) = some ty ∧ narrow ty (.int (F)) = .int (F)) ∧ (am_wI h 154 8 F).2.2.2.2 = 175 ∧ _ from ⟨⟨.int, rfl, rfl⟩, ex_175 x.1, hF F _ (by unfold sw_all; rw [e2, cond_false, show sw_line τ (C.1.1, C.1.2.1) (a, W) = .inl F from (by unfold sw_line; dsimp only; rw [ea, ← hFe])]) x.1 (wkq_q w x.2.2)⟩)
      ·
        rw [show sp_w τ (a, C).1 17003 = false from ew]
        refine am_goX 1 (show ((pz_b (false)) = 0 → pz_S 4 (some .int) am_r219 5 Q 42 [(1, .int (nI W.1)), (3, .int y3), (2, .int y2), (0, .ref 154)] [] h) ∧ (¬ ((pz_b (false)) = 0) → pz_S 4 (some .int) am_r219 5 Q 38 [(1, .int (nI W.1)), (3, .int y3), (2, .int y2), (0, .ref 154)] [] h) from ⟨fun _ => ?_, fun hz => absurd (by decide) hz⟩)
        refine am_goX 4 (show am_rc h 154 11 ∧ 0 ≤ 8 ∧ h.2.2.2.2 + am_al 199 ≤ 175 ∧ am_call am_cod 5 199 [.ref 154, .int (Int8.ofInt 8).toInt32, .int (Int32.ofInt 2)] h (fun vv h' => pz_S 4 (some .int) am_r219 5 Q 49 [(1, .int (nI W.1)), (3, .int y3), (2, .int y2), (0, .ref 154)] (vv.toList ++ []) h') from ⟨Or.inl ⟨by decide, ex_154 (k_P l)⟩, by decide, ex_lim (k_P l) rfl, am_call.up (k_199 (f := 8) (M := 2) (by decide) (by decide) (by decide) l ?_) (by decide)⟩)
        rw [show wq τ (a, C).1 8 2 = nI 0 from eq]
        refine am_goX 3 (show 2 < 4 ∧ (0 ≤ (nI 0) → pz_S 4 (some .int) am_r219 5 Q 62 [(2, .int (nI 0)), (1, .int (nI W.1)), (3, .int y3), (0, .ref 154)] [] h) ∧ (¬ (0 ≤ (nI 0)) → pz_S 4 (some .int) am_r219 5 Q 54 [(2, .int (nI 0)), (1, .int (nI W.1)), (3, .int y3), (0, .ref 154)] [] h) from ⟨by decide, fun _ => ?_, fun hz => absurd (by decide) hz⟩)
        refine am_goX 2 (show pz_S 4 (some .int) am_r219 5 Q 65 [(2, .int (nI 0)), (1, .int (nI W.1)), (3, .int y3), (0, .ref 154)] [.int (Int8.ofInt 40).toInt32, .int (nI W.1)] h from ?_)
        cases e3 : Nat.ble 40 W.1 with
        | true =>
          have e40 : W.1 = 40 := Nat.le_antisymm r.1 (Nat.le_of_ble_eq_true e3)
          refine am_goX 1 (show (¬ (nI W.1) = (Int8.ofInt 40).toInt32 → pz_S 4 (some .int) am_r219 5 Q 76 [(2, .int (nI 0)), (1, .int (nI W.1)), (3, .int y3), (0, .ref 154)] [] h) ∧ (¬ ¬ (nI W.1) = (Int8.ofInt 40).toInt32 → pz_S 4 (some .int) am_r219 5 Q 68 [(2, .int (nI 0)), (1, .int (nI W.1)), (3, .int y3), (0, .ref 154)] [] h) from ⟨fun hz => absurd hz (fun z => z ((n40 r.1).mpr e40)), fun _ => ?_⟩)
          refine am_goX 3 (show am_rc h 154 11 ∧ 0 ≤ 8 ∧ h.2.2.2.2 + am_al 197 ≤ 175 ∧ am_call am_cod 5 197 [.ref 154, .int (Int32.ofInt 5)] h (fun vv h' => pz_S 4 (some .int) am_r219 5 Q 73 [(2, .int (nI 0)), (1, .int (nI W.1)), (3, .int y3), (0, .ref 154)] (vv.toList ++ []) h') from ⟨Or.inl ⟨by decide, ex_154 (k_P l)⟩, by decide, ex_lim (k_P l) rfl, am_call.up (k_197 (k := Int32.ofInt 5) l ?_) (by decide)⟩)
          have x : rkx h (sp_ft τ a (Int32.ofInt 5)) (C.2.2.2.2.1 + 0) (am_wI h 154 8 (sp_ft τ a (Int32.ofInt 5))) := rk_x (s := (a, C)) l (by decide)
          generalize hFe : sp_ft τ a (Int32.ofInt 5) = F at x ⊢
          refine am_goX 4 (show am_rc (am_wI h 154 8 F) 154 11 ∧ 0 ≤ 8 ∧ (am_wI h 154 8 F).2.2.2.2 + am_al 218 ≤ 175 ∧ am_call am_cod 5 218 [.ref 154, .int (Int8.ofInt 59).toInt32] (am_wI h 154 8 F) (fun vv h' => pz_S 4 (some .int) am_r219 5 Q 155 [(2, .int (nI 0)), (1, .int (nI W.1)), (3, .int y3), (0, .ref 154)] (vv.toList ++ []) h') from ⟨Or.inl ⟨by decide, ex_154 x.1⟩, by decide, ex_lim x.1 rfl, am_call.up (e_218 x ?_) (by decide)⟩)
          refine am_goX 3 (show am_sh (am_wI h 154 8 F) 154 = some (11, 0) ∧ pz_S 4 (some .int) am_r219 5 Q 15 [(2, .int (nI 0)), (1, .int (nI W.1)), (3, .int y3), (0, .ref 154)] [.int ((am_wI h 154 8 F).1 154 8)] (am_wI h 154 8 F) from ⟨ex_154 x.1, ?_⟩)
          rw [x.2.1.1]
          refine am_goX 1 (show (¬ F = 0 → pz_S 4 (some .int) am_r219 5 Q 158 [(2, .int (nI 0)), (1, .int (nI W.1)), (3, .int y3), (0, .ref 154)] [] (am_wI h 154 8 F)) ∧ (¬ ¬ F = 0 → pz_S 4 (some .int) am_r219 5 Q 18 [(2, .int (nI 0)), (1, .int (nI W.1)), (3, .int y3), (0, .ref 154)] [] (am_wI h 154 8 F)) from ⟨fun _ => ?_, fun hz => absurd (rkx_ne x) hz⟩)
          refine am_goX 2 (show am_sh (am_wI h 154 8 F) 154 = some (11, 0) ∧ pz_S 4 (some .int) am_r219 5 Q 162 [(2, .int (nI 0)), (1, .int (nI W.1)), (3, .int y3), (0, .ref 154)] [.int ((am_wI h 154 8 F).1 154 8)] (am_wI h 154 8 F) from ⟨ex_154 x.1, ?_⟩)
          rw [x.2.1.1]
          refine am_goX 1 (show (F ≤ 0 → pz_S 4 (some .int) am_r219 5 Q 170 [(2, .int (nI 0)), (1, .int (nI W.1)), (3, .int y3), (0, .ref 154)] [] (am_wI h 154 8 F)) ∧ (¬ (F ≤ 0) → pz_S 4 (some .int) am_r219 5 Q 165 [(2, .int (nI 0)), (1, .int (nI W.1)), (3, .int y3), (0, .ref 154)] [] (am_wI h 154 8 F)) from ⟨fun hz => absurd hz (rkx_le x), fun _ => ?_⟩)
          refine am_goX 2 (show am_sh (am_wI h 154 8 F) 154 = some (11, 0) ∧ pz_S 4 (some .int) am_r219 5 Q 169 [(2, .int (nI 0)), (1, .int (nI W.1)), (3, .int y3), (0, .ref 154)] [.int ((am_wI h 154 8 F).1 154 8)] (am_wI h 154 8 F) from ⟨ex_154 x.1, ?_⟩)
          rw [x.2.1.1]
          exact am_goX 1 (show (∃ ty, (some .int) = some ty ∧ narrow ty (.int (F)) = .int (F)) ∧ (am_wI h 154 8 F).2.2.2.2 = 175 ∧ _ from ⟨⟨.int, rfl, rfl⟩, ex_175 x.1, hF F _ (by unfold sw_all; rw [e2, cond_false, show sw_line τ (C.1.1, C.1.2.1) (a, W) = .inl F from (by unfold sw_line; dsimp only; simp only [ea, e3, cond_true, ← hFe])]) x.1 (wkq_q w x.2.2)⟩)
        | false =>
          have hlt := j40n e3
          refine am_goX 1 (show (¬ (nI W.1) = (Int8.ofInt 40).toInt32 → pz_S 4 (some .int) am_r219 5 Q 76 [(2, .int (nI 0)), (1, .int (nI W.1)), (3, .int y3), (0, .ref 154)] [] h) ∧ (¬ ¬ (nI W.1) = (Int8.ofInt 40).toInt32 → pz_S 4 (some .int) am_r219 5 Q 68 [(2, .int (nI 0)), (1, .int (nI W.1)), (3, .int y3), (0, .ref 154)] [] h) from ⟨fun _ => ?_, fun hz => absurd (fun z => absurd ((n40 r.1).mp z) (by omega)) hz⟩)
          refine am_goX 6 (show (Value.ref 154).category = 1 ∧ am_sh h 154 = some (11, 0) ∧ am_sh h 154 = some (11, 0) ∧ narrow (am_fty 11 7) (.int (((h.1 154 7) + (Int32.ofInt 1)))) = .int (((h.1 154 7) + (Int32.ofInt 1))) ∧ fits (am_fty 11 7) (.int (((h.1 154 7) + (Int32.ofInt 1)))) = true ∧ pz_S 4 (some .int) am_r219 5 Q 86 [(2, .int (nI 0)), (1, .int (nI W.1)), (3, .int y3), (0, .ref 154)] [] (am_wI h 154 7 (((h.1 154 7) + (Int32.ofInt 1)))) from ⟨rfl, ex_154 (k_P l), ex_154 (k_P l), rfl, rfl, ?_⟩)
          rw [show h.1 154 7 = nI a from k_a l, xw_i1]
          have l1 : rk h 0 τ N (a + 1, C) (am_wI h 154 7 (nI (a + 1))) := rk_nx (a := a) (C := C) l hn
          have r1 : rkW W (am_wI h 154 7 (nI (a + 1))) := rkW_w (Or.inl rfl) r
          have w1 : wkq h0 (am_wI h 154 7 (nI (a + 1))) := wkq_w (Or.inl ⟨rfl, rfl⟩) w
          refine am_goX 6 (show 3 < 4 ∧ pz_S 4 (some .int) am_r219 5 Q 93 [(3, .int ((Int8.ofInt 125).toInt32 + ((Int32.ofInt 3) * (nI W.1)))), (2, .int (nI 0)), (1, .int (nI W.1)), (0, .ref 154)] [] (am_wI h 154 7 (nI (a + 1))) from ⟨by decide, ?_⟩)
          rw [show ((Int8.ofInt 125).toInt32 + ((Int32.ofInt 3) * (nI W.1))) = nI (125 + 3 * W.1) by rw [show Int32.ofInt 3 * nI W.1 = nI (3 * W.1) from nI_mul 3 _]; exact nI_add 125 _]
          refine am_goX 2 (show am_sh (am_wI h 154 7 (nI (a + 1))) 154 = some (11, 0) ∧ pz_S 4 (some .int) am_r219 5 Q 97 [(3, .int (nI (125 + 3 * W.1))), (2, .int (nI 0)), (1, .int (nI W.1)), (0, .ref 154)] [am_rf ((am_wI h 154 7 (nI (a + 1))).2.2.1 154 21)] (am_wI h 154 7 (nI (a + 1))) from ⟨ex_154 (k_P l1), ?_⟩)
          rw [ex_r154_21 (h := am_wI h 154 7 (nI (a + 1))) (k_P l1)]
          refine am_goX 3 (show ∃ jj nn : Nat, am_so (am_wI h 154 7 (nI (a + 1))) 167 = some (13, nn) ∧ jj < nn ∧ (nI (125 + 3 * W.1)) = nI jj ∧ pz_S 4 (some .int) am_r219 5 Q 100 [(3, .int (nI (125 + 3 * W.1))), (2, .int (nI 0)), (1, .int (nI W.1)), (0, .ref 154)] [] (am_wI (am_wI h 154 7 (nI (a + 1))) 167 jj ((nI 0))) from ⟨(125 + 3 * W.1), 250, ex_w167 (k_P l1), by omega, rfl, ?_⟩)
          have l2 := rk_w7 (k := 125 + 3 * W.1) (v := (nI 0)) l1
          have r2 := rkW_w (o := 167) (k := 125 + 3 * W.1) (v := (nI 0)) (Or.inr ⟨rfl, by omega⟩) r1
          have w2 := wkq_w (o := 167) (k := 125 + 3 * W.1) (v := (nI 0)) (Or.inr ⟨rfl, by omega⟩) w1
          have x1 : (am_wI (am_wI h 154 7 (nI (a + 1))) 167 (125 + 3 * W.1) ((nI 0))).1 167 (125 + 3 * W.1) = rwh 0 := (em_we _ _ _ _).trans (by decide)
          refine am_goX 2 (show am_sh (am_wI (am_wI h 154 7 (nI (a + 1))) 167 (125 + 3 * W.1) ((nI 0))) 154 = some (11, 0) ∧ pz_S 4 (some .int) am_r219 5 Q 104 [(3, .int (nI (125 + 3 * W.1))), (2, .int (nI 0)), (1, .int (nI W.1)), (0, .ref 154)] [am_rf ((am_wI (am_wI h 154 7 (nI (a + 1))) 167 (125 + 3 * W.1) ((nI 0))).2.2.1 154 21)] (am_wI (am_wI h 154 7 (nI (a + 1))) 167 (125 + 3 * W.1) ((nI 0))) from ⟨ex_154 (k_P l2), ?_⟩)
          rw [ex_r154_21 (h := am_wI (am_wI h 154 7 (nI (a + 1))) 167 (125 + 3 * W.1) ((nI 0))) (k_P l2)]
          refine am_goX 5 (show (¬ (nI 0) = 0 → pz_S 4 (some .int) am_r219 5 Q 115 [(3, .int (nI (125 + 3 * W.1))), (2, .int (nI 0)), (1, .int (nI W.1)), (0, .ref 154)] [.int ((nI (125 + 3 * W.1)) + (Int32.ofInt 1)), .ref 167] (am_wI (am_wI h 154 7 (nI (a + 1))) 167 (125 + 3 * W.1) ((nI 0)))) ∧ (¬ ¬ (nI 0) = 0 → pz_S 4 (some .int) am_r219 5 Q 111 [(3, .int (nI (125 + 3 * W.1))), (2, .int (nI 0)), (1, .int (nI W.1)), (0, .ref 154)] [.int ((nI (125 + 3 * W.1)) + (Int32.ofInt 1)), .ref 167] (am_wI (am_wI h 154 7 (nI (a + 1))) 167 (125 + 3 * W.1) ((nI 0)))) from ⟨fun hz => absurd hz (by decide), fun _ => ?_⟩)
          refine am_goX 3 (show ∃ jj nn : Nat, am_so (am_wI (am_wI h 154 7 (nI (a + 1))) 167 (125 + 3 * W.1) ((nI 0))) 167 = some (13, nn) ∧ jj < nn ∧ ((nI (125 + 3 * W.1)) + (Int32.ofInt 1)) = nI jj ∧ pz_S 4 (some .int) am_r219 5 Q 123 [(3, .int (nI (125 + 3 * W.1))), (2, .int (nI 0)), (1, .int (nI W.1)), (0, .ref 154)] [] (am_wI (am_wI (am_wI h 154 7 (nI (a + 1))) 167 (125 + 3 * W.1) ((nI 0))) 167 jj ((Int32.ofInt 0))) from ⟨(126 + 3 * W.1), 250, ex_w167 (k_P l2), by omega, (by rw [xw_i1]; congr 1; omega), ?_⟩)
          have l3 := rk_w7 (k := 126 + 3 * W.1) (v := (Int32.ofInt 0)) l2
          have r3 := rkW_w (o := 167) (k := 126 + 3 * W.1) (v := (Int32.ofInt 0)) (Or.inr ⟨rfl, by omega⟩) r2
          have w3 := wkq_w (o := 167) (k := 126 + 3 * W.1) (v := (Int32.ofInt 0)) (Or.inr ⟨rfl, by omega⟩) w2
          have x1 : (am_wI (am_wI (am_wI h 154 7 (nI (a + 1))) 167 (125 + 3 * W.1) ((nI 0))) 167 (126 + 3 * W.1) ((Int32.ofInt 0))).1 167 (125 + 3 * W.1) = _ := (em_wn _ _ (by omega)).trans x1
          have x2 : (am_wI (am_wI (am_wI h 154 7 (nI (a + 1))) 167 (125 + 3 * W.1) ((nI 0))) 167 (126 + 3 * W.1) ((Int32.ofInt 0))).1 167 (126 + 3 * W.1) = 0 := em_we _ _ _ _
          refine am_goX 2 (show am_sh (am_wI (am_wI (am_wI h 154 7 (nI (a + 1))) 167 (125 + 3 * W.1) ((nI 0))) 167 (126 + 3 * W.1) ((Int32.ofInt 0))) 154 = some (11, 0) ∧ pz_S 4 (some .int) am_r219 5 Q 127 [(3, .int (nI (125 + 3 * W.1))), (2, .int (nI 0)), (1, .int (nI W.1)), (0, .ref 154)] [am_rf ((am_wI (am_wI (am_wI h 154 7 (nI (a + 1))) 167 (125 + 3 * W.1) ((nI 0))) 167 (126 + 3 * W.1) ((Int32.ofInt 0))).2.2.1 154 21)] (am_wI (am_wI (am_wI h 154 7 (nI (a + 1))) 167 (125 + 3 * W.1) ((nI 0))) 167 (126 + 3 * W.1) ((Int32.ofInt 0))) from ⟨ex_154 (k_P l3), ?_⟩)
          rw [ex_r154_21 (h := am_wI (am_wI (am_wI h 154 7 (nI (a + 1))) 167 (125 + 3 * W.1) ((nI 0))) 167 (126 + 3 * W.1) ((Int32.ofInt 0))) (k_P l3)]
          refine am_goX 6 (show (¬ (nI 0) = (Int32.ofInt 2) → pz_S 4 (some .int) am_r219 5 Q 144 [(3, .int (nI (125 + 3 * W.1))), (2, .int (nI 0)), (1, .int (nI W.1)), (0, .ref 154)] [.int ((nI (125 + 3 * W.1)) + (Int32.ofInt 2)), .ref 167] (am_wI (am_wI (am_wI h 154 7 (nI (a + 1))) 167 (125 + 3 * W.1) ((nI 0))) 167 (126 + 3 * W.1) ((Int32.ofInt 0)))) ∧ (¬ ¬ (nI 0) = (Int32.ofInt 2) → pz_S 4 (some .int) am_r219 5 Q 135 [(3, .int (nI (125 + 3 * W.1))), (2, .int (nI 0)), (1, .int (nI W.1)), (0, .ref 154)] [.int ((nI (125 + 3 * W.1)) + (Int32.ofInt 2)), .ref 167] (am_wI (am_wI (am_wI h 154 7 (nI (a + 1))) 167 (125 + 3 * W.1) ((nI 0))) 167 (126 + 3 * W.1) ((Int32.ofInt 0)))) from ⟨fun _ => ?_, fun hz => absurd (by decide) hz⟩)
          refine am_goX 2 (show ∃ jj nn : Nat, am_so (am_wI (am_wI (am_wI h 154 7 (nI (a + 1))) 167 (125 + 3 * W.1) ((nI 0))) 167 (126 + 3 * W.1) ((Int32.ofInt 0))) 167 = some (13, nn) ∧ jj < nn ∧ ((nI (125 + 3 * W.1)) + (Int32.ofInt 2)) = nI jj ∧ pz_S 4 (some .int) am_r219 5 Q 146 [(3, .int (nI (125 + 3 * W.1))), (2, .int (nI 0)), (1, .int (nI W.1)), (0, .ref 154)] [] (am_wI (am_wI (am_wI (am_wI h 154 7 (nI (a + 1))) 167 (125 + 3 * W.1) ((nI 0))) 167 (126 + 3 * W.1) ((Int32.ofInt 0))) 167 jj ((Int32.ofInt 0))) from ⟨(127 + 3 * W.1), 250, ex_w167 (k_P l3), by omega, (by rw [show Int32.ofInt 2 = nI 2 from rfl, nI_add]; congr 1; omega), ?_⟩)
          have l4 := rk_w7 (k := 127 + 3 * W.1) (v := (Int32.ofInt 0)) l3
          have r4 := rkW_w (o := 167) (k := 127 + 3 * W.1) (v := (Int32.ofInt 0)) (Or.inr ⟨rfl, by omega⟩) r3
          have w4 := wkq_w (o := 167) (k := 127 + 3 * W.1) (v := (Int32.ofInt 0)) (Or.inr ⟨rfl, by omega⟩) w3
          have x1 : (am_wI (am_wI (am_wI (am_wI h 154 7 (nI (a + 1))) 167 (125 + 3 * W.1) ((nI 0))) 167 (126 + 3 * W.1) ((Int32.ofInt 0))) 167 (127 + 3 * W.1) ((Int32.ofInt 0))).1 167 (125 + 3 * W.1) = _ := (em_wn _ _ (by omega)).trans x1
          have x2 : (am_wI (am_wI (am_wI (am_wI h 154 7 (nI (a + 1))) 167 (125 + 3 * W.1) ((nI 0))) 167 (126 + 3 * W.1) ((Int32.ofInt 0))) 167 (127 + 3 * W.1) ((Int32.ofInt 0))).1 167 (126 + 3 * W.1) = _ := (em_wn _ _ (by omega)).trans x2
          have x3 : (am_wI (am_wI (am_wI (am_wI h 154 7 (nI (a + 1))) 167 (125 + 3 * W.1) ((nI 0))) 167 (126 + 3 * W.1) ((Int32.ofInt 0))) 167 (127 + 3 * W.1) ((Int32.ofInt 0))).1 167 (127 + 3 * W.1) = 0 := em_we _ _ _ _
          refine am_goX 4 (show 1 < 4 ∧ am_rc (am_wI (am_wI (am_wI (am_wI h 154 7 (nI (a + 1))) 167 (125 + 3 * W.1) ((nI 0))) 167 (126 + 3 * W.1) ((Int32.ofInt 0))) 167 (127 + 3 * W.1) ((Int32.ofInt 0))) 154 11 ∧ 0 ≤ 8 ∧ (am_wI (am_wI (am_wI (am_wI h 154 7 (nI (a + 1))) 167 (125 + 3 * W.1) ((nI 0))) 167 (126 + 3 * W.1) ((Int32.ofInt 0))) 167 (127 + 3 * W.1) ((Int32.ofInt 0))).2.2.2.2 + am_al 218 ≤ 175 ∧ am_call am_cod 5 218 [.ref 154, .int (Int8.ofInt 59).toInt32] (am_wI (am_wI (am_wI (am_wI h 154 7 (nI (a + 1))) 167 (125 + 3 * W.1) ((nI 0))) 167 (126 + 3 * W.1) ((Int32.ofInt 0))) 167 (127 + 3 * W.1) ((Int32.ofInt 0))) (fun vv h' => pz_S 4 (some .int) am_r219 5 Q 155 [(1, .int ((nI W.1) + Int32.ofInt 1)), (3, .int (nI (125 + 3 * W.1))), (2, .int (nI 0)), (0, .ref 154)] (vv.toList ++ []) h') from ⟨by decide, Or.inl ⟨by decide, ex_154 (k_P l4)⟩, by decide, ex_lim (k_P l4) rfl, am_call.up (k_218 (s := (a + 1, C)) l4 (fun F g3 e9 y => ?_) (fun g3 e9 l7 => ?_)) (by decide)⟩)
          ·
            refine am_goX 3 (show am_sh g3 154 = some (11, 0) ∧ pz_S 4 (some .int) am_r219 5 Q 15 [(1, .int ((nI W.1) + Int32.ofInt 1)), (3, .int (nI (125 + 3 * W.1))), (2, .int (nI 0)), (0, .ref 154)] [.int (g3.1 154 8)] g3 from ⟨ex_154 y.1, ?_⟩)
            rw [y.2.1.1]
            refine am_goX 1 (show (¬ F = 0 → pz_S 4 (some .int) am_r219 5 Q 158 [(1, .int ((nI W.1) + Int32.ofInt 1)), (3, .int (nI (125 + 3 * W.1))), (2, .int (nI 0)), (0, .ref 154)] [] g3) ∧ (¬ ¬ F = 0 → pz_S 4 (some .int) am_r219 5 Q 18 [(1, .int ((nI W.1) + Int32.ofInt 1)), (3, .int (nI (125 + 3 * W.1))), (2, .int (nI 0)), (0, .ref 154)] [] g3) from ⟨fun _ => ?_, fun hz => absurd (rkx_ne y) hz⟩)
            refine am_goX 2 (show am_sh g3 154 = some (11, 0) ∧ pz_S 4 (some .int) am_r219 5 Q 162 [(1, .int ((nI W.1) + Int32.ofInt 1)), (3, .int (nI (125 + 3 * W.1))), (2, .int (nI 0)), (0, .ref 154)] [.int (g3.1 154 8)] g3 from ⟨ex_154 y.1, ?_⟩)
            rw [y.2.1.1]
            refine am_goX 1 (show (F ≤ 0 → pz_S 4 (some .int) am_r219 5 Q 170 [(1, .int ((nI W.1) + Int32.ofInt 1)), (3, .int (nI (125 + 3 * W.1))), (2, .int (nI 0)), (0, .ref 154)] [] g3) ∧ (¬ (F ≤ 0) → pz_S 4 (some .int) am_r219 5 Q 165 [(1, .int ((nI W.1) + Int32.ofInt 1)), (3, .int (nI (125 + 3 * W.1))), (2, .int (nI 0)), (0, .ref 154)] [] g3) from ⟨fun hz => absurd hz (rkx_le y), fun _ => ?_⟩)
            refine am_goX 2 (show am_sh g3 154 = some (11, 0) ∧ pz_S 4 (some .int) am_r219 5 Q 169 [(1, .int ((nI W.1) + Int32.ofInt 1)), (3, .int (nI (125 + 3 * W.1))), (2, .int (nI 0)), (0, .ref 154)] [.int (g3.1 154 8)] g3 from ⟨ex_154 y.1, ?_⟩)
            rw [y.2.1.1]
            exact am_goX 1 (show (∃ ty, (some .int) = some ty ∧ narrow ty (.int (F)) = .int (F)) ∧ g3.2.2.2.2 = 175 ∧ _ from ⟨⟨.int, rfl, rfl⟩, ex_175 y.1, hF F _ (by unfold sw_all; rw [e2, cond_false, show sw_line τ (C.1.1, C.1.2.1) (a, W) = .inl F from (by unfold sw_line; dsimp only; simp only [ea, e3, show decide ((0 : Int32) = 0) = true from by decide, show decide ((0 : Int32) = 1) = false from by decide, decide_true, cond_true, cond_false, end_F e9])]) y.1 (wkq_q w4 y.2.2)⟩)
          ·
            have r8 := rkW_q r4 l7.2.2.1
            have w8 := wkq_q w4 l7.2.2.1
            have x1 := (l7.2.2.1.2 167 (125 + 3 * W.1) (by omega)).1.trans x1
            have x2 := (l7.2.2.1.2 167 (126 + 3 * W.1) (by omega)).1.trans x2
            have x3 := (l7.2.2.1.2 167 (127 + 3 * W.1) (by omega)).1.trans x3
            refine am_goX 1 (show pz_S 4 (some .int) am_r219 5 Q 11 [(1, .int ((nI W.1) + Int32.ofInt 1)), (3, .int (nI (125 + 3 * W.1))), (2, .int (nI 0)), (0, .ref 154)] [] g3 from ?_)
            rw [xw_i1]
            have hx : sw_all τ (C.1.1, C.1.2.1) (m + 1) (a, W) = sw_all τ (C.1.1, C.1.2.1) m (a + 1 + 1, sw_ad W 0 0 0) := by
              conv => lhs; unfold sw_all
              rw [e2, cond_false, show sw_line τ (C.1.1, C.1.2.1) (a, W) = .inr (a + 1 + 1, sw_ad W 0 0 0) from (by unfold sw_line; dsimp only; simp only [ea, e3, show decide ((0 : Int32) = 0) = true from by decide, show decide ((0 : Int32) = 1) = false from by decide, decide_true, cond_true, cond_false, end_S e9])]
            exact ih (a + 1 + 1) (sw_ad W 0 0 0) _ _ g3 (by omega) (rk_b l7) (rkW_ad r8 hlt x1 x2 x3) w8 (fun F h1 e => hF F h1 (hx.trans e)) (fun t h1 e => hS t h1 (hx.trans e))
      ·
        rw [show sp_w τ (a, C).1 17003 = true from ew]
        refine am_goX 1 (show ((pz_b (true)) = 0 → pz_S 4 (some .int) am_r219 5 Q 42 [(1, .int (nI W.1)), (3, .int y3), (2, .int y2), (0, .ref 154)] [] h) ∧ (¬ ((pz_b (true)) = 0) → pz_S 4 (some .int) am_r219 5 Q 38 [(1, .int (nI W.1)), (3, .int y3), (2, .int y2), (0, .ref 154)] [] h) from ⟨fun hz => absurd hz (by decide), fun _ => ?_⟩)
        refine am_goX 5 (show 2 < 4 ∧ (0 ≤ (Int32.ofInt 2) → pz_S 4 (some .int) am_r219 5 Q 62 [(2, .int (Int32.ofInt 2)), (1, .int (nI W.1)), (3, .int y3), (0, .ref 154)] [] h) ∧ (¬ (0 ≤ (Int32.ofInt 2)) → pz_S 4 (some .int) am_r219 5 Q 54 [(2, .int (Int32.ofInt 2)), (1, .int (nI W.1)), (3, .int y3), (0, .ref 154)] [] h) from ⟨by decide, fun _ => ?_, fun hz => absurd (by decide) hz⟩)
        refine am_goX 2 (show pz_S 4 (some .int) am_r219 5 Q 65 [(2, .int (Int32.ofInt 2)), (1, .int (nI W.1)), (3, .int y3), (0, .ref 154)] [.int (Int8.ofInt 40).toInt32, .int (nI W.1)] h from ?_)
        cases e3 : Nat.ble 40 W.1 with
        | true =>
          have e40 : W.1 = 40 := Nat.le_antisymm r.1 (Nat.le_of_ble_eq_true e3)
          refine am_goX 1 (show (¬ (nI W.1) = (Int8.ofInt 40).toInt32 → pz_S 4 (some .int) am_r219 5 Q 76 [(2, .int (Int32.ofInt 2)), (1, .int (nI W.1)), (3, .int y3), (0, .ref 154)] [] h) ∧ (¬ ¬ (nI W.1) = (Int8.ofInt 40).toInt32 → pz_S 4 (some .int) am_r219 5 Q 68 [(2, .int (Int32.ofInt 2)), (1, .int (nI W.1)), (3, .int y3), (0, .ref 154)] [] h) from ⟨fun hz => absurd hz (fun z => z ((n40 r.1).mpr e40)), fun _ => ?_⟩)
          refine am_goX 3 (show am_rc h 154 11 ∧ 0 ≤ 8 ∧ h.2.2.2.2 + am_al 197 ≤ 175 ∧ am_call am_cod 5 197 [.ref 154, .int (Int32.ofInt 5)] h (fun vv h' => pz_S 4 (some .int) am_r219 5 Q 73 [(2, .int (Int32.ofInt 2)), (1, .int (nI W.1)), (3, .int y3), (0, .ref 154)] (vv.toList ++ []) h') from ⟨Or.inl ⟨by decide, ex_154 (k_P l)⟩, by decide, ex_lim (k_P l) rfl, am_call.up (k_197 (k := Int32.ofInt 5) l ?_) (by decide)⟩)
          have x : rkx h (sp_ft τ a (Int32.ofInt 5)) (C.2.2.2.2.1 + 0) (am_wI h 154 8 (sp_ft τ a (Int32.ofInt 5))) := rk_x (s := (a, C)) l (by decide)
          generalize hFe : sp_ft τ a (Int32.ofInt 5) = F at x ⊢
          refine am_goX 4 (show am_rc (am_wI h 154 8 F) 154 11 ∧ 0 ≤ 8 ∧ (am_wI h 154 8 F).2.2.2.2 + am_al 218 ≤ 175 ∧ am_call am_cod 5 218 [.ref 154, .int (Int8.ofInt 59).toInt32] (am_wI h 154 8 F) (fun vv h' => pz_S 4 (some .int) am_r219 5 Q 155 [(2, .int (Int32.ofInt 2)), (1, .int (nI W.1)), (3, .int y3), (0, .ref 154)] (vv.toList ++ []) h') from ⟨Or.inl ⟨by decide, ex_154 x.1⟩, by decide, ex_lim x.1 rfl, am_call.up (e_218 x ?_) (by decide)⟩)
          refine am_goX 3 (show am_sh (am_wI h 154 8 F) 154 = some (11, 0) ∧ pz_S 4 (some .int) am_r219 5 Q 15 [(2, .int (Int32.ofInt 2)), (1, .int (nI W.1)), (3, .int y3), (0, .ref 154)] [.int ((am_wI h 154 8 F).1 154 8)] (am_wI h 154 8 F) from ⟨ex_154 x.1, ?_⟩)
          rw [x.2.1.1]
          refine am_goX 1 (show (¬ F = 0 → pz_S 4 (some .int) am_r219 5 Q 158 [(2, .int (Int32.ofInt 2)), (1, .int (nI W.1)), (3, .int y3), (0, .ref 154)] [] (am_wI h 154 8 F)) ∧ (¬ ¬ F = 0 → pz_S 4 (some .int) am_r219 5 Q 18 [(2, .int (Int32.ofInt 2)), (1, .int (nI W.1)), (3, .int y3), (0, .ref 154)] [] (am_wI h 154 8 F)) from ⟨fun _ => ?_, fun hz => absurd (rkx_ne x) hz⟩)
          refine am_goX 2 (show am_sh (am_wI h 154 8 F) 154 = some (11, 0) ∧ pz_S 4 (some .int) am_r219 5 Q 162 [(2, .int (Int32.ofInt 2)), (1, .int (nI W.1)), (3, .int y3), (0, .ref 154)] [.int ((am_wI h 154 8 F).1 154 8)] (am_wI h 154 8 F) from ⟨ex_154 x.1, ?_⟩)
          rw [x.2.1.1]
          refine am_goX 1 (show (F ≤ 0 → pz_S 4 (some .int) am_r219 5 Q 170 [(2, .int (Int32.ofInt 2)), (1, .int (nI W.1)), (3, .int y3), (0, .ref 154)] [] (am_wI h 154 8 F)) ∧ (¬ (F ≤ 0) → pz_S 4 (some .int) am_r219 5 Q 165 [(2, .int (Int32.ofInt 2)), (1, .int (nI W.1)), (3, .int y3), (0, .ref 154)] [] (am_wI h 154 8 F)) from ⟨fun hz => absurd hz (rkx_le x), fun _ => ?_⟩)
          refine am_goX 2 (show am_sh (am_wI h 154 8 F) 154 = some (11, 0) ∧ pz_S 4 (some .int) am_r219 5 Q 169 [(2, .int (Int32.ofInt 2)), (1, .int (nI W.1)), (3, .int y3), (0, .ref 154)] [.int ((am_wI h 154 8 F).1 154 8)] (am_wI h 154 8 F) from ⟨ex_154 x.1, ?_⟩)
          rw [x.2.1.1]
          exact am_goX 1 (show (∃ ty, (some .int) = some ty ∧ narrow ty (.int (F)) = .int (F)) ∧ (am_wI h 154 8 F).2.2.2.2 = 175 ∧ _ from ⟨⟨.int, rfl, rfl⟩, ex_175 x.1, hF F _ (by unfold sw_all; rw [e2, cond_false, show sw_line τ (C.1.1, C.1.2.1) (a, W) = .inl F from (by unfold sw_line; dsimp only; simp only [ea, e3, cond_true, ← hFe])]) x.1 (wkq_q w x.2.2)⟩)
        | false =>
          have hlt := j40n e3
          refine am_goX 1 (show (¬ (nI W.1) = (Int8.ofInt 40).toInt32 → pz_S 4 (some .int) am_r219 5 Q 76 [(2, .int (Int32.ofInt 2)), (1, .int (nI W.1)), (3, .int y3), (0, .ref 154)] [] h) ∧ (¬ ¬ (nI W.1) = (Int8.ofInt 40).toInt32 → pz_S 4 (some .int) am_r219 5 Q 68 [(2, .int (Int32.ofInt 2)), (1, .int (nI W.1)), (3, .int y3), (0, .ref 154)] [] h) from ⟨fun _ => ?_, fun hz => absurd (fun z => absurd ((n40 r.1).mp z) (by omega)) hz⟩)
          refine am_goX 6 (show (Value.ref 154).category = 1 ∧ am_sh h 154 = some (11, 0) ∧ am_sh h 154 = some (11, 0) ∧ narrow (am_fty 11 7) (.int (((h.1 154 7) + (Int32.ofInt 1)))) = .int (((h.1 154 7) + (Int32.ofInt 1))) ∧ fits (am_fty 11 7) (.int (((h.1 154 7) + (Int32.ofInt 1)))) = true ∧ pz_S 4 (some .int) am_r219 5 Q 86 [(2, .int (Int32.ofInt 2)), (1, .int (nI W.1)), (3, .int y3), (0, .ref 154)] [] (am_wI h 154 7 (((h.1 154 7) + (Int32.ofInt 1)))) from ⟨rfl, ex_154 (k_P l), ex_154 (k_P l), rfl, rfl, ?_⟩)
          rw [show h.1 154 7 = nI a from k_a l, xw_i1]
          have l1 : rk h 0 τ N (a + 1, C) (am_wI h 154 7 (nI (a + 1))) := rk_nx (a := a) (C := C) l hn
          have r1 : rkW W (am_wI h 154 7 (nI (a + 1))) := rkW_w (Or.inl rfl) r
          have w1 : wkq h0 (am_wI h 154 7 (nI (a + 1))) := wkq_w (Or.inl ⟨rfl, rfl⟩) w
          refine am_goX 6 (show 3 < 4 ∧ pz_S 4 (some .int) am_r219 5 Q 93 [(3, .int ((Int8.ofInt 125).toInt32 + ((Int32.ofInt 3) * (nI W.1)))), (2, .int (Int32.ofInt 2)), (1, .int (nI W.1)), (0, .ref 154)] [] (am_wI h 154 7 (nI (a + 1))) from ⟨by decide, ?_⟩)
          rw [show ((Int8.ofInt 125).toInt32 + ((Int32.ofInt 3) * (nI W.1))) = nI (125 + 3 * W.1) by rw [show Int32.ofInt 3 * nI W.1 = nI (3 * W.1) from nI_mul 3 _]; exact nI_add 125 _]
          refine am_goX 2 (show am_sh (am_wI h 154 7 (nI (a + 1))) 154 = some (11, 0) ∧ pz_S 4 (some .int) am_r219 5 Q 97 [(3, .int (nI (125 + 3 * W.1))), (2, .int (Int32.ofInt 2)), (1, .int (nI W.1)), (0, .ref 154)] [am_rf ((am_wI h 154 7 (nI (a + 1))).2.2.1 154 21)] (am_wI h 154 7 (nI (a + 1))) from ⟨ex_154 (k_P l1), ?_⟩)
          rw [ex_r154_21 (h := am_wI h 154 7 (nI (a + 1))) (k_P l1)]
          refine am_goX 3 (show ∃ jj nn : Nat, am_so (am_wI h 154 7 (nI (a + 1))) 167 = some (13, nn) ∧ jj < nn ∧ (nI (125 + 3 * W.1)) = nI jj ∧ pz_S 4 (some .int) am_r219 5 Q 100 [(3, .int (nI (125 + 3 * W.1))), (2, .int (Int32.ofInt 2)), (1, .int (nI W.1)), (0, .ref 154)] [] (am_wI (am_wI h 154 7 (nI (a + 1))) 167 jj ((Int32.ofInt 2))) from ⟨(125 + 3 * W.1), 250, ex_w167 (k_P l1), by omega, rfl, ?_⟩)
          have l2 := rk_w7 (k := 125 + 3 * W.1) (v := (Int32.ofInt 2)) l1
          have r2 := rkW_w (o := 167) (k := 125 + 3 * W.1) (v := (Int32.ofInt 2)) (Or.inr ⟨rfl, by omega⟩) r1
          have w2 := wkq_w (o := 167) (k := 125 + 3 * W.1) (v := (Int32.ofInt 2)) (Or.inr ⟨rfl, by omega⟩) w1
          have x1 : (am_wI (am_wI h 154 7 (nI (a + 1))) 167 (125 + 3 * W.1) ((Int32.ofInt 2))).1 167 (125 + 3 * W.1) = rwh 1 := (em_we _ _ _ _).trans (by decide)
          refine am_goX 2 (show am_sh (am_wI (am_wI h 154 7 (nI (a + 1))) 167 (125 + 3 * W.1) ((Int32.ofInt 2))) 154 = some (11, 0) ∧ pz_S 4 (some .int) am_r219 5 Q 104 [(3, .int (nI (125 + 3 * W.1))), (2, .int (Int32.ofInt 2)), (1, .int (nI W.1)), (0, .ref 154)] [am_rf ((am_wI (am_wI h 154 7 (nI (a + 1))) 167 (125 + 3 * W.1) ((Int32.ofInt 2))).2.2.1 154 21)] (am_wI (am_wI h 154 7 (nI (a + 1))) 167 (125 + 3 * W.1) ((Int32.ofInt 2))) from ⟨ex_154 (k_P l2), ?_⟩)
          rw [ex_r154_21 (h := am_wI (am_wI h 154 7 (nI (a + 1))) 167 (125 + 3 * W.1) ((Int32.ofInt 2))) (k_P l2)]
          refine am_goX 5 (show (¬ (Int32.ofInt 2) = 0 → pz_S 4 (some .int) am_r219 5 Q 115 [(3, .int (nI (125 + 3 * W.1))), (2, .int (Int32.ofInt 2)), (1, .int (nI W.1)), (0, .ref 154)] [.int ((nI (125 + 3 * W.1)) + (Int32.ofInt 1)), .ref 167] (am_wI (am_wI h 154 7 (nI (a + 1))) 167 (125 + 3 * W.1) ((Int32.ofInt 2)))) ∧ (¬ ¬ (Int32.ofInt 2) = 0 → pz_S 4 (some .int) am_r219 5 Q 111 [(3, .int (nI (125 + 3 * W.1))), (2, .int (Int32.ofInt 2)), (1, .int (nI W.1)), (0, .ref 154)] [.int ((nI (125 + 3 * W.1)) + (Int32.ofInt 1)), .ref 167] (am_wI (am_wI h 154 7 (nI (a + 1))) 167 (125 + 3 * W.1) ((Int32.ofInt 2)))) from ⟨fun _ => ?_, fun hz => absurd (by decide) hz⟩)
          refine am_goX 5 (show am_rc (am_wI (am_wI h 154 7 (nI (a + 1))) 167 (125 + 3 * W.1) ((Int32.ofInt 2))) 154 11 ∧ 2 ≤ 8 ∧ (am_wI (am_wI h 154 7 (nI (a + 1))) 167 (125 + 3 * W.1) ((Int32.ofInt 2))).2.2.2.2 + am_al 206 ≤ 175 ∧ am_call am_cod 5 206 [.ref 154, .int (Int32.ofInt 0), .int (Int32.ofInt 0), .int (Int32.ofInt 0)] (am_wI (am_wI h 154 7 (nI (a + 1))) 167 (125 + 3 * W.1) ((Int32.ofInt 2))) (fun vv h' => pz_S 4 (some .int) am_r219 5 Q 122 [(3, .int (nI (125 + 3 * W.1))), (2, .int (Int32.ofInt 2)), (1, .int (nI W.1)), (0, .ref 154)] (vv.toList ++ [.int ((nI (125 + 3 * W.1)) + (Int32.ofInt 1)), .ref 167]) h') from ⟨Or.inl ⟨by decide, ex_154 (k_P l2)⟩, by decide, ex_lim (k_P l2) rfl, am_call.up (k_206p (s := (a + 1, C)) l2 (fun F g1 e4 x => ?_) (fun p g1 e4 e5 l3 => ?_)) (by decide)⟩)
          ·
            have r3 := rkW_q r2 x.2.2
            have w3 := wkq_q w2 x.2.2
            refine am_goX 1 (show ∃ jj nn : Nat, am_so g1 167 = some (13, nn) ∧ jj < nn ∧ ((nI (125 + 3 * W.1)) + (Int32.ofInt 1)) = nI jj ∧ pz_S 4 (some .int) am_r219 5 Q 123 [(3, .int (nI (125 + 3 * W.1))), (2, .int (Int32.ofInt 2)), (1, .int (nI W.1)), (0, .ref 154)] [] (am_wI g1 167 jj ((Int32.ofInt 0))) from ⟨(126 + 3 * W.1), 250, ex_w167 x.1, by omega, (by rw [xw_i1]; congr 1; omega), ?_⟩)
            have x4 := rkx_w7 (k := 126 + 3 * W.1) (v := (Int32.ofInt 0)) x
            have r4 := rkW_w (o := 167) (k := 126 + 3 * W.1) (v := (Int32.ofInt 0)) (Or.inr ⟨rfl, by omega⟩) r3
            have w4 := wkq_w (o := 167) (k := 126 + 3 * W.1) (v := (Int32.ofInt 0)) (Or.inr ⟨rfl, by omega⟩) w3
            refine am_goX 2 (show am_sh (am_wI g1 167 (126 + 3 * W.1) ((Int32.ofInt 0))) 154 = some (11, 0) ∧ pz_S 4 (some .int) am_r219 5 Q 127 [(3, .int (nI (125 + 3 * W.1))), (2, .int (Int32.ofInt 2)), (1, .int (nI W.1)), (0, .ref 154)] [am_rf ((am_wI g1 167 (126 + 3 * W.1) ((Int32.ofInt 0))).2.2.1 154 21)] (am_wI g1 167 (126 + 3 * W.1) ((Int32.ofInt 0))) from ⟨ex_154 x4.1, ?_⟩)
            rw [ex_r154_21 (h := am_wI g1 167 (126 + 3 * W.1) ((Int32.ofInt 0))) x4.1]
            refine am_goX 6 (show (¬ (Int32.ofInt 2) = (Int32.ofInt 2) → pz_S 4 (some .int) am_r219 5 Q 144 [(3, .int (nI (125 + 3 * W.1))), (2, .int (Int32.ofInt 2)), (1, .int (nI W.1)), (0, .ref 154)] [.int ((nI (125 + 3 * W.1)) + (Int32.ofInt 2)), .ref 167] (am_wI g1 167 (126 + 3 * W.1) ((Int32.ofInt 0)))) ∧ (¬ ¬ (Int32.ofInt 2) = (Int32.ofInt 2) → pz_S 4 (some .int) am_r219 5 Q 135 [(3, .int (nI (125 + 3 * W.1))), (2, .int (Int32.ofInt 2)), (1, .int (nI W.1)), (0, .ref 154)] [.int ((nI (125 + 3 * W.1)) + (Int32.ofInt 2)), .ref 167] (am_wI g1 167 (126 + 3 * W.1) ((Int32.ofInt 0)))) from ⟨fun hz => absurd hz (by decide), fun _ => ?_⟩)
            refine am_goX 4 (show am_rc (am_wI g1 167 (126 + 3 * W.1) ((Int32.ofInt 0))) 154 11 ∧ 2 ≤ 8 ∧ (am_wI g1 167 (126 + 3 * W.1) ((Int32.ofInt 0))).2.2.2.2 + am_al 205 ≤ 175 ∧ am_call am_cod 5 205 [.ref 154, .int (Int32.ofInt 0), .int (Int32.ofInt 4)] (am_wI g1 167 (126 + 3 * W.1) ((Int32.ofInt 0))) (fun vv h' => pz_S 4 (some .int) am_r219 5 Q 141 [(3, .int (nI (125 + 3 * W.1))), (2, .int (Int32.ofInt 2)), (1, .int (nI W.1)), (0, .ref 154)] (vv.toList ++ [.int ((nI (125 + 3 * W.1)) + (Int32.ofInt 2)), .ref 167]) h') from ⟨Or.inl ⟨by decide, ex_154 x4.1⟩, by decide, ex_lim x4.1 rfl, am_call.up (e_205 x4 ?_) (by decide)⟩)
            refine am_goX 2 (show ∃ jj nn : Nat, am_so (am_wI g1 167 (126 + 3 * W.1) ((Int32.ofInt 0))) 167 = some (13, nn) ∧ jj < nn ∧ ((nI (125 + 3 * W.1)) + (Int32.ofInt 2)) = nI jj ∧ pz_S 4 (some .int) am_r219 5 Q 146 [(3, .int (nI (125 + 3 * W.1))), (2, .int (Int32.ofInt 2)), (1, .int (nI W.1)), (0, .ref 154)] [] (am_wI (am_wI g1 167 (126 + 3 * W.1) ((Int32.ofInt 0))) 167 jj ((Int32.ofInt 0))) from ⟨(127 + 3 * W.1), 250, ex_w167 x4.1, by omega, (by rw [show Int32.ofInt 2 = nI 2 from rfl, nI_add]; congr 1; omega), ?_⟩)
            have x5 := rkx_w7 (k := 127 + 3 * W.1) (v := (Int32.ofInt 0)) x4
            have r5 := rkW_w (o := 167) (k := 127 + 3 * W.1) (v := (Int32.ofInt 0)) (Or.inr ⟨rfl, by omega⟩) r4
            have w5 := wkq_w (o := 167) (k := 127 + 3 * W.1) (v := (Int32.ofInt 0)) (Or.inr ⟨rfl, by omega⟩) w4
            refine am_goX 4 (show 1 < 4 ∧ am_rc (am_wI (am_wI g1 167 (126 + 3 * W.1) ((Int32.ofInt 0))) 167 (127 + 3 * W.1) ((Int32.ofInt 0))) 154 11 ∧ 0 ≤ 8 ∧ (am_wI (am_wI g1 167 (126 + 3 * W.1) ((Int32.ofInt 0))) 167 (127 + 3 * W.1) ((Int32.ofInt 0))).2.2.2.2 + am_al 218 ≤ 175 ∧ am_call am_cod 5 218 [.ref 154, .int (Int8.ofInt 59).toInt32] (am_wI (am_wI g1 167 (126 + 3 * W.1) ((Int32.ofInt 0))) 167 (127 + 3 * W.1) ((Int32.ofInt 0))) (fun vv h' => pz_S 4 (some .int) am_r219 5 Q 155 [(1, .int ((nI W.1) + Int32.ofInt 1)), (3, .int (nI (125 + 3 * W.1))), (2, .int (Int32.ofInt 2)), (0, .ref 154)] (vv.toList ++ []) h') from ⟨by decide, Or.inl ⟨by decide, ex_154 x5.1⟩, by decide, ex_lim x5.1 rfl, am_call.up (e_218 x5 ?_) (by decide)⟩)
            refine am_goX 3 (show am_sh (am_wI (am_wI g1 167 (126 + 3 * W.1) ((Int32.ofInt 0))) 167 (127 + 3 * W.1) ((Int32.ofInt 0))) 154 = some (11, 0) ∧ pz_S 4 (some .int) am_r219 5 Q 15 [(1, .int ((nI W.1) + Int32.ofInt 1)), (3, .int (nI (125 + 3 * W.1))), (2, .int (Int32.ofInt 2)), (0, .ref 154)] [.int ((am_wI (am_wI g1 167 (126 + 3 * W.1) ((Int32.ofInt 0))) 167 (127 + 3 * W.1) ((Int32.ofInt 0))).1 154 8)] (am_wI (am_wI g1 167 (126 + 3 * W.1) ((Int32.ofInt 0))) 167 (127 + 3 * W.1) ((Int32.ofInt 0))) from ⟨ex_154 x5.1, ?_⟩)
            rw [x5.2.1.1]
            refine am_goX 1 (show (¬ F = 0 → pz_S 4 (some .int) am_r219 5 Q 158 [(1, .int ((nI W.1) + Int32.ofInt 1)), (3, .int (nI (125 + 3 * W.1))), (2, .int (Int32.ofInt 2)), (0, .ref 154)] [] (am_wI (am_wI g1 167 (126 + 3 * W.1) ((Int32.ofInt 0))) 167 (127 + 3 * W.1) ((Int32.ofInt 0)))) ∧ (¬ ¬ F = 0 → pz_S 4 (some .int) am_r219 5 Q 18 [(1, .int ((nI W.1) + Int32.ofInt 1)), (3, .int (nI (125 + 3 * W.1))), (2, .int (Int32.ofInt 2)), (0, .ref 154)] [] (am_wI (am_wI g1 167 (126 + 3 * W.1) ((Int32.ofInt 0))) 167 (127 + 3 * W.1) ((Int32.ofInt 0)))) from ⟨fun _ => ?_, fun hz => absurd (rkx_ne x5) hz⟩)
            refine am_goX 2 (show am_sh (am_wI (am_wI g1 167 (126 + 3 * W.1) ((Int32.ofInt 0))) 167 (127 + 3 * W.1) ((Int32.ofInt 0))) 154 = some (11, 0) ∧ pz_S 4 (some .int) am_r219 5 Q 162 [(1, .int ((nI W.1) + Int32.ofInt 1)), (3, .int (nI (125 + 3 * W.1))), (2, .int (Int32.ofInt 2)), (0, .ref 154)] [.int ((am_wI (am_wI g1 167 (126 + 3 * W.1) ((Int32.ofInt 0))) 167 (127 + 3 * W.1) ((Int32.ofInt 0))).1 154 8)] (am_wI (am_wI g1 167 (126 + 3 * W.1) ((Int32.ofInt 0))) 167 (127 + 3 * W.1) ((Int32.ofInt 0))) from ⟨ex_154 x5.1, ?_⟩)
            rw [x5.2.1.1]
            refine am_goX 1 (show (F ≤ 0 → pz_S 4 (some .int) am_r219 5 Q 170 [(1, .int ((nI W.1) + Int32.ofInt 1)), (3, .int (nI (125 + 3 * W.1))), (2, .int (Int32.ofInt 2)), (0, .ref 154)] [] (am_wI (am_wI g1 167 (126 + 3 * W.1) ((Int32.ofInt 0))) 167 (127 + 3 * W.1) ((Int32.ofInt 0)))) ∧ (¬ (F ≤ 0) → pz_S 4 (some .int) am_r219 5 Q 165 [(1, .int ((nI W.1) + Int32.ofInt 1)), (3, .int (nI (125 + 3 * W.1))), (2, .int (Int32.ofInt 2)), (0, .ref 154)] [] (am_wI (am_wI g1 167 (126 + 3 * W.1) ((Int32.ofInt 0))) 167 (127 + 3 * W.1) ((Int32.ofInt 0)))) from ⟨fun hz => absurd hz (rkx_le x5), fun _ => ?_⟩)
            refine am_goX 2 (show am_sh (am_wI (am_wI g1 167 (126 + 3 * W.1) ((Int32.ofInt 0))) 167 (127 + 3 * W.1) ((Int32.ofInt 0))) 154 = some (11, 0) ∧ pz_S 4 (some .int) am_r219 5 Q 169 [(1, .int ((nI W.1) + Int32.ofInt 1)), (3, .int (nI (125 + 3 * W.1))), (2, .int (Int32.ofInt 2)), (0, .ref 154)] [.int ((am_wI (am_wI g1 167 (126 + 3 * W.1) ((Int32.ofInt 0))) 167 (127 + 3 * W.1) ((Int32.ofInt 0))).1 154 8)] (am_wI (am_wI g1 167 (126 + 3 * W.1) ((Int32.ofInt 0))) 167 (127 + 3 * W.1) ((Int32.ofInt 0))) from ⟨ex_154 x5.1, ?_⟩)
            rw [x5.2.1.1]
            exact am_goX 1 (show (∃ ty, (some .int) = some ty ∧ narrow ty (.int (F)) = .int (F)) ∧ (am_wI (am_wI g1 167 (126 + 3 * W.1) ((Int32.ofInt 0))) 167 (127 + 3 * W.1) ((Int32.ofInt 0))).2.2.2.2 = 175 ∧ _ from ⟨⟨.int, rfl, rfl⟩, ex_175 x5.1, hF F _ (by unfold sw_all; rw [e2, cond_false, show sw_line τ (C.1.1, C.1.2.1) (a, W) = .inl F from (by unfold sw_line; dsimp only; simp only [ea, e3, show decide ((1 : Int32) = 0) = false from by decide, show decide ((1 : Int32) = 1) = true from by decide, decide_true, cond_true, cond_false, pn_F e4])]) x5.1 (w5)⟩)
          ·
            have r3 := rkW_q r2 l3.2.2.1
            have w3 := wkq_q w2 l3.2.2.1
            have x1 := (l3.2.2.1.2 167 (125 + 3 * W.1) (by omega)).1.trans x1
            refine am_goX 1 (show ∃ jj nn : Nat, am_so g1 167 = some (13, nn) ∧ jj < nn ∧ ((nI (125 + 3 * W.1)) + (Int32.ofInt 1)) = nI jj ∧ pz_S 4 (some .int) am_r219 5 Q 123 [(3, .int (nI (125 + 3 * W.1))), (2, .int (Int32.ofInt 2)), (1, .int (nI W.1)), (0, .ref 154)] [] (am_wI g1 167 jj ((nI p))) from ⟨(126 + 3 * W.1), 250, ex_w167 (k_P l3), by omega, (by rw [xw_i1]; congr 1; omega), ?_⟩)
            have l4 := rk_w7 (k := 126 + 3 * W.1) (v := (nI p)) l3
            have r4 := rkW_w (o := 167) (k := 126 + 3 * W.1) (v := (nI p)) (Or.inr ⟨rfl, by omega⟩) r3
            have w4 := wkq_w (o := 167) (k := 126 + 3 * W.1) (v := (nI p)) (Or.inr ⟨rfl, by omega⟩) w3
            have x1 : (am_wI g1 167 (126 + 3 * W.1) ((nI p))).1 167 (125 + 3 * W.1) = _ := (em_wn _ _ (by omega)).trans x1
            have x2 : (am_wI g1 167 (126 + 3 * W.1) ((nI p))).1 167 (126 + 3 * W.1) = nI p := em_we _ _ _ _
            refine am_goX 2 (show am_sh (am_wI g1 167 (126 + 3 * W.1) ((nI p))) 154 = some (11, 0) ∧ pz_S 4 (some .int) am_r219 5 Q 127 [(3, .int (nI (125 + 3 * W.1))), (2, .int (Int32.ofInt 2)), (1, .int (nI W.1)), (0, .ref 154)] [am_rf ((am_wI g1 167 (126 + 3 * W.1) ((nI p))).2.2.1 154 21)] (am_wI g1 167 (126 + 3 * W.1) ((nI p))) from ⟨ex_154 (k_P l4), ?_⟩)
            rw [ex_r154_21 (h := am_wI g1 167 (126 + 3 * W.1) ((nI p))) (k_P l4)]
            refine am_goX 6 (show (¬ (Int32.ofInt 2) = (Int32.ofInt 2) → pz_S 4 (some .int) am_r219 5 Q 144 [(3, .int (nI (125 + 3 * W.1))), (2, .int (Int32.ofInt 2)), (1, .int (nI W.1)), (0, .ref 154)] [.int ((nI (125 + 3 * W.1)) + (Int32.ofInt 2)), .ref 167] (am_wI g1 167 (126 + 3 * W.1) ((nI p)))) ∧ (¬ ¬ (Int32.ofInt 2) = (Int32.ofInt 2) → pz_S 4 (some .int) am_r219 5 Q 135 [(3, .int (nI (125 + 3 * W.1))), (2, .int (Int32.ofInt 2)), (1, .int (nI W.1)), (0, .ref 154)] [.int ((nI (125 + 3 * W.1)) + (Int32.ofInt 2)), .ref 167] (am_wI g1 167 (126 + 3 * W.1) ((nI p)))) from ⟨fun hz => absurd hz (by decide), fun _ => ?_⟩)
            refine am_goX 4 (show am_rc (am_wI g1 167 (126 + 3 * W.1) ((nI p))) 154 11 ∧ 2 ≤ 8 ∧ (am_wI g1 167 (126 + 3 * W.1) ((nI p))).2.2.2.2 + am_al 205 ≤ 175 ∧ am_call am_cod 5 205 [.ref 154, .int (Int32.ofInt 0), .int (Int32.ofInt 4)] (am_wI g1 167 (126 + 3 * W.1) ((nI p))) (fun vv h' => pz_S 4 (some .int) am_r219 5 Q 141 [(3, .int (nI (125 + 3 * W.1))), (2, .int (Int32.ofInt 2)), (1, .int (nI W.1)), (0, .ref 154)] (vv.toList ++ [.int ((nI (125 + 3 * W.1)) + (Int32.ofInt 2)), .ref 167]) h') from ⟨Or.inl ⟨by decide, ex_154 (k_P l4)⟩, by decide, ex_lim (k_P l4) rfl, am_call.up (k_205 (s := (a + 1 + 1, C)) l4 (fun F g2 e6 x => ?_) (fun g2 e6 l5 => ?_)) (by decide)⟩)
            ·
              have r5 := rkW_q r4 x.2.2
              have w5 := wkq_q w4 x.2.2
              refine am_goX 2 (show ∃ jj nn : Nat, am_so g2 167 = some (13, nn) ∧ jj < nn ∧ ((nI (125 + 3 * W.1)) + (Int32.ofInt 2)) = nI jj ∧ pz_S 4 (some .int) am_r219 5 Q 146 [(3, .int (nI (125 + 3 * W.1))), (2, .int (Int32.ofInt 2)), (1, .int (nI W.1)), (0, .ref 154)] [] (am_wI g2 167 jj ((Int32.ofInt 0))) from ⟨(127 + 3 * W.1), 250, ex_w167 x.1, by omega, (by rw [show Int32.ofInt 2 = nI 2 from rfl, nI_add]; congr 1; omega), ?_⟩)
              have x6 := rkx_w7 (k := 127 + 3 * W.1) (v := (Int32.ofInt 0)) x
              have r6 := rkW_w (o := 167) (k := 127 + 3 * W.1) (v := (Int32.ofInt 0)) (Or.inr ⟨rfl, by omega⟩) r5
              have w6 := wkq_w (o := 167) (k := 127 + 3 * W.1) (v := (Int32.ofInt 0)) (Or.inr ⟨rfl, by omega⟩) w5
              refine am_goX 4 (show 1 < 4 ∧ am_rc (am_wI g2 167 (127 + 3 * W.1) ((Int32.ofInt 0))) 154 11 ∧ 0 ≤ 8 ∧ (am_wI g2 167 (127 + 3 * W.1) ((Int32.ofInt 0))).2.2.2.2 + am_al 218 ≤ 175 ∧ am_call am_cod 5 218 [.ref 154, .int (Int8.ofInt 59).toInt32] (am_wI g2 167 (127 + 3 * W.1) ((Int32.ofInt 0))) (fun vv h' => pz_S 4 (some .int) am_r219 5 Q 155 [(1, .int ((nI W.1) + Int32.ofInt 1)), (3, .int (nI (125 + 3 * W.1))), (2, .int (Int32.ofInt 2)), (0, .ref 154)] (vv.toList ++ []) h') from ⟨by decide, Or.inl ⟨by decide, ex_154 x6.1⟩, by decide, ex_lim x6.1 rfl, am_call.up (e_218 x6 ?_) (by decide)⟩)
              refine am_goX 3 (show am_sh (am_wI g2 167 (127 + 3 * W.1) ((Int32.ofInt 0))) 154 = some (11, 0) ∧ pz_S 4 (some .int) am_r219 5 Q 15 [(1, .int ((nI W.1) + Int32.ofInt 1)), (3, .int (nI (125 + 3 * W.1))), (2, .int (Int32.ofInt 2)), (0, .ref 154)] [.int ((am_wI g2 167 (127 + 3 * W.1) ((Int32.ofInt 0))).1 154 8)] (am_wI g2 167 (127 + 3 * W.1) ((Int32.ofInt 0))) from ⟨ex_154 x6.1, ?_⟩)
              rw [x6.2.1.1]
              refine am_goX 1 (show (¬ F = 0 → pz_S 4 (some .int) am_r219 5 Q 158 [(1, .int ((nI W.1) + Int32.ofInt 1)), (3, .int (nI (125 + 3 * W.1))), (2, .int (Int32.ofInt 2)), (0, .ref 154)] [] (am_wI g2 167 (127 + 3 * W.1) ((Int32.ofInt 0)))) ∧ (¬ ¬ F = 0 → pz_S 4 (some .int) am_r219 5 Q 18 [(1, .int ((nI W.1) + Int32.ofInt 1)), (3, .int (nI (125 + 3 * W.1))), (2, .int (Int32.ofInt 2)), (0, .ref 154)] [] (am_wI g2 167 (127 + 3 * W.1) ((Int32.ofInt 0)))) from ⟨fun _ => ?_, fun hz => absurd (rkx_ne x6) hz⟩)
              refine am_goX 2 (show am_sh (am_wI g2 167 (127 + 3 * W.1) ((Int32.ofInt 0))) 154 = some (11, 0) ∧ pz_S 4 (some .int) am_r219 5 Q 162 [(1, .int ((nI W.1) + Int32.ofInt 1)), (3, .int (nI (125 + 3 * W.1))), (2, .int (Int32.ofInt 2)), (0, .ref 154)] [.int ((am_wI g2 167 (127 + 3 * W.1) ((Int32.ofInt 0))).1 154 8)] (am_wI g2 167 (127 + 3 * W.1) ((Int32.ofInt 0))) from ⟨ex_154 x6.1, ?_⟩)
              rw [x6.2.1.1]
              refine am_goX 1 (show (F ≤ 0 → pz_S 4 (some .int) am_r219 5 Q 170 [(1, .int ((nI W.1) + Int32.ofInt 1)), (3, .int (nI (125 + 3 * W.1))), (2, .int (Int32.ofInt 2)), (0, .ref 154)] [] (am_wI g2 167 (127 + 3 * W.1) ((Int32.ofInt 0)))) ∧ (¬ (F ≤ 0) → pz_S 4 (some .int) am_r219 5 Q 165 [(1, .int ((nI W.1) + Int32.ofInt 1)), (3, .int (nI (125 + 3 * W.1))), (2, .int (Int32.ofInt 2)), (0, .ref 154)] [] (am_wI g2 167 (127 + 3 * W.1) ((Int32.ofInt 0)))) from ⟨fun hz => absurd hz (rkx_le x6), fun _ => ?_⟩)
              refine am_goX 2 (show am_sh (am_wI g2 167 (127 + 3 * W.1) ((Int32.ofInt 0))) 154 = some (11, 0) ∧ pz_S 4 (some .int) am_r219 5 Q 169 [(1, .int ((nI W.1) + Int32.ofInt 1)), (3, .int (nI (125 + 3 * W.1))), (2, .int (Int32.ofInt 2)), (0, .ref 154)] [.int ((am_wI g2 167 (127 + 3 * W.1) ((Int32.ofInt 0))).1 154 8)] (am_wI g2 167 (127 + 3 * W.1) ((Int32.ofInt 0))) from ⟨ex_154 x6.1, ?_⟩)
              rw [x6.2.1.1]
              exact am_goX 1 (show (∃ ty, (some .int) = some ty ∧ narrow ty (.int (F)) = .int (F)) ∧ (am_wI g2 167 (127 + 3 * W.1) ((Int32.ofInt 0))).2.2.2.2 = 175 ∧ _ from ⟨⟨.int, rfl, rfl⟩, ex_175 x6.1, hF F _ (by unfold sw_all; rw [e2, cond_false, show sw_line τ (C.1.1, C.1.2.1) (a, W) = .inl F from (by unfold sw_line; dsimp only; simp only [ea, e3, show decide ((1 : Int32) = 0) = false from by decide, show decide ((1 : Int32) = 1) = true from by decide, decide_true, cond_true, cond_false, pn_S e4 e5, lt_F e6])]) x6.1 (w6)⟩)
            ·
              have r5 := rkW_q r4 l5.2.2.1
              have w5 := wkq_q w4 l5.2.2.1
              have x1 := (l5.2.2.1.2 167 (125 + 3 * W.1) (by omega)).1.trans x1
              have x2 := (l5.2.2.1.2 167 (126 + 3 * W.1) (by omega)).1.trans x2
              refine am_goX 2 (show ∃ jj nn : Nat, am_so g2 167 = some (13, nn) ∧ jj < nn ∧ ((nI (125 + 3 * W.1)) + (Int32.ofInt 2)) = nI jj ∧ pz_S 4 (some .int) am_r219 5 Q 146 [(3, .int (nI (125 + 3 * W.1))), (2, .int (Int32.ofInt 2)), (1, .int (nI W.1)), (0, .ref 154)] [] (am_wI g2 167 jj ((sp_v τ (a + 1 + 1)))) from ⟨(127 + 3 * W.1), 250, ex_w167 (k_P l5), by omega, (by rw [show Int32.ofInt 2 = nI 2 from rfl, nI_add]; congr 1; omega), ?_⟩)
              have l6 := rk_w7 (k := 127 + 3 * W.1) (v := (sp_v τ (a + 1 + 1))) l5
              have r6 := rkW_w (o := 167) (k := 127 + 3 * W.1) (v := (sp_v τ (a + 1 + 1))) (Or.inr ⟨rfl, by omega⟩) r5
              have w6 := wkq_w (o := 167) (k := 127 + 3 * W.1) (v := (sp_v τ (a + 1 + 1))) (Or.inr ⟨rfl, by omega⟩) w5
              have x1 : (am_wI g2 167 (127 + 3 * W.1) ((sp_v τ (a + 1 + 1)))).1 167 (125 + 3 * W.1) = _ := (em_wn _ _ (by omega)).trans x1
              have x2 : (am_wI g2 167 (127 + 3 * W.1) ((sp_v τ (a + 1 + 1)))).1 167 (126 + 3 * W.1) = _ := (em_wn _ _ (by omega)).trans x2
              have x3 : (am_wI g2 167 (127 + 3 * W.1) ((sp_v τ (a + 1 + 1)))).1 167 (127 + 3 * W.1) = sp_v τ (a + 1 + 1) := em_we _ _ _ _
              refine am_goX 4 (show 1 < 4 ∧ am_rc (am_wI g2 167 (127 + 3 * W.1) ((sp_v τ (a + 1 + 1)))) 154 11 ∧ 0 ≤ 8 ∧ (am_wI g2 167 (127 + 3 * W.1) ((sp_v τ (a + 1 + 1)))).2.2.2.2 + am_al 218 ≤ 175 ∧ am_call am_cod 5 218 [.ref 154, .int (Int8.ofInt 59).toInt32] (am_wI g2 167 (127 + 3 * W.1) ((sp_v τ (a + 1 + 1)))) (fun vv h' => pz_S 4 (some .int) am_r219 5 Q 155 [(1, .int ((nI W.1) + Int32.ofInt 1)), (3, .int (nI (125 + 3 * W.1))), (2, .int (Int32.ofInt 2)), (0, .ref 154)] (vv.toList ++ []) h') from ⟨by decide, Or.inl ⟨by decide, ex_154 (k_P l6)⟩, by decide, ex_lim (k_P l6) rfl, am_call.up (k_218 (s := (a + 1 + 1 + 1, C)) l6 (fun F g3 e9 y => ?_) (fun g3 e9 l7 => ?_)) (by decide)⟩)
              ·
                refine am_goX 3 (show am_sh g3 154 = some (11, 0) ∧ pz_S 4 (some .int) am_r219 5 Q 15 [(1, .int ((nI W.1) + Int32.ofInt 1)), (3, .int (nI (125 + 3 * W.1))), (2, .int (Int32.ofInt 2)), (0, .ref 154)] [.int (g3.1 154 8)] g3 from ⟨ex_154 y.1, ?_⟩)
                rw [y.2.1.1]
                refine am_goX 1 (show (¬ F = 0 → pz_S 4 (some .int) am_r219 5 Q 158 [(1, .int ((nI W.1) + Int32.ofInt 1)), (3, .int (nI (125 + 3 * W.1))), (2, .int (Int32.ofInt 2)), (0, .ref 154)] [] g3) ∧ (¬ ¬ F = 0 → pz_S 4 (some .int) am_r219 5 Q 18 [(1, .int ((nI W.1) + Int32.ofInt 1)), (3, .int (nI (125 + 3 * W.1))), (2, .int (Int32.ofInt 2)), (0, .ref 154)] [] g3) from ⟨fun _ => ?_, fun hz => absurd (rkx_ne y) hz⟩)
                refine am_goX 2 (show am_sh g3 154 = some (11, 0) ∧ pz_S 4 (some .int) am_r219 5 Q 162 [(1, .int ((nI W.1) + Int32.ofInt 1)), (3, .int (nI (125 + 3 * W.1))), (2, .int (Int32.ofInt 2)), (0, .ref 154)] [.int (g3.1 154 8)] g3 from ⟨ex_154 y.1, ?_⟩)
                rw [y.2.1.1]
                refine am_goX 1 (show (F ≤ 0 → pz_S 4 (some .int) am_r219 5 Q 170 [(1, .int ((nI W.1) + Int32.ofInt 1)), (3, .int (nI (125 + 3 * W.1))), (2, .int (Int32.ofInt 2)), (0, .ref 154)] [] g3) ∧ (¬ (F ≤ 0) → pz_S 4 (some .int) am_r219 5 Q 165 [(1, .int ((nI W.1) + Int32.ofInt 1)), (3, .int (nI (125 + 3 * W.1))), (2, .int (Int32.ofInt 2)), (0, .ref 154)] [] g3) from ⟨fun hz => absurd hz (rkx_le y), fun _ => ?_⟩)
                refine am_goX 2 (show am_sh g3 154 = some (11, 0) ∧ pz_S 4 (some .int) am_r219 5 Q 169 [(1, .int ((nI W.1) + Int32.ofInt 1)), (3, .int (nI (125 + 3 * W.1))), (2, .int (Int32.ofInt 2)), (0, .ref 154)] [.int (g3.1 154 8)] g3 from ⟨ex_154 y.1, ?_⟩)
                rw [y.2.1.1]
                exact am_goX 1 (show (∃ ty, (some .int) = some ty ∧ narrow ty (.int (F)) = .int (F)) ∧ g3.2.2.2.2 = 175 ∧ _ from ⟨⟨.int, rfl, rfl⟩, ex_175 y.1, hF F _ (by unfold sw_all; rw [e2, cond_false, show sw_line τ (C.1.1, C.1.2.1) (a, W) = .inl F from (by unfold sw_line; dsimp only; simp only [ea, e3, show decide ((1 : Int32) = 0) = false from by decide, show decide ((1 : Int32) = 1) = true from by decide, decide_true, cond_true, cond_false, pn_S e4 e5, lt_S e6, end_F e9])]) y.1 (wkq_q w6 y.2.2)⟩)
              ·
                have r8 := rkW_q r6 l7.2.2.1
                have w8 := wkq_q w6 l7.2.2.1
                have x1 := (l7.2.2.1.2 167 (125 + 3 * W.1) (by omega)).1.trans x1
                have x2 := (l7.2.2.1.2 167 (126 + 3 * W.1) (by omega)).1.trans x2
                have x3 := (l7.2.2.1.2 167 (127 + 3 * W.1) (by omega)).1.trans x3
                refine am_goX 1 (show pz_S 4 (some .int) am_r219 5 Q 11 [(1, .int ((nI W.1) + Int32.ofInt 1)), (3, .int (nI (125 + 3 * W.1))), (2, .int (Int32.ofInt 2)), (0, .ref 154)] [] g3 from ?_)
                rw [xw_i1]
                have hx : sw_all τ (C.1.1, C.1.2.1) (m + 1) (a, W) = sw_all τ (C.1.1, C.1.2.1) m (a + 1 + 1 + 1 + 1, sw_ad W 1 (nI p) (sp_v τ (a + 1 + 1))) := by
                  conv => lhs; unfold sw_all
                  rw [e2, cond_false, show sw_line τ (C.1.1, C.1.2.1) (a, W) = .inr (a + 1 + 1 + 1 + 1, sw_ad W 1 (nI p) (sp_v τ (a + 1 + 1))) from (by unfold sw_line; dsimp only; simp only [ea, e3, show decide ((1 : Int32) = 0) = false from by decide, show decide ((1 : Int32) = 1) = true from by decide, decide_true, cond_true, cond_false, pn_S e4 e5, lt_S e6, end_S e9])]
                exact ih (a + 1 + 1 + 1 + 1) (sw_ad W 1 (nI p) (sp_v τ (a + 1 + 1))) _ _ g3 (by omega) (rk_b l7) (rkW_ad r8 hlt x1 x2 x3) w8 (fun F h1 e => hF F h1 (hx.trans e)) (fun t h1 e => hS t h1 (hx.trans e))
      ·
        rw [show sp_w τ (a, C).1 17003 = false from ew]
        refine am_goX 1 (show ((pz_b (false)) = 0 → pz_S 4 (some .int) am_r219 5 Q 42 [(1, .int (nI W.1)), (3, .int y3), (2, .int y2), (0, .ref 154)] [] h) ∧ (¬ ((pz_b (false)) = 0) → pz_S 4 (some .int) am_r219 5 Q 38 [(1, .int (nI W.1)), (3, .int y3), (2, .int y2), (0, .ref 154)] [] h) from ⟨fun _ => ?_, fun hz => absurd (by decide) hz⟩)
        refine am_goX 4 (show am_rc h 154 11 ∧ 0 ≤ 8 ∧ h.2.2.2.2 + am_al 199 ≤ 175 ∧ am_call am_cod 5 199 [.ref 154, .int (Int8.ofInt 8).toInt32, .int (Int32.ofInt 2)] h (fun vv h' => pz_S 4 (some .int) am_r219 5 Q 49 [(1, .int (nI W.1)), (3, .int y3), (2, .int y2), (0, .ref 154)] (vv.toList ++ []) h') from ⟨Or.inl ⟨by decide, ex_154 (k_P l)⟩, by decide, ex_lim (k_P l) rfl, am_call.up (k_199 (f := 8) (M := 2) (by decide) (by decide) (by decide) l ?_) (by decide)⟩)
        rw [show wq τ (a, C).1 8 2 = nI 1 from eq]
        refine am_goX 3 (show 2 < 4 ∧ (0 ≤ (nI 1) → pz_S 4 (some .int) am_r219 5 Q 62 [(2, .int (nI 1)), (1, .int (nI W.1)), (3, .int y3), (0, .ref 154)] [] h) ∧ (¬ (0 ≤ (nI 1)) → pz_S 4 (some .int) am_r219 5 Q 54 [(2, .int (nI 1)), (1, .int (nI W.1)), (3, .int y3), (0, .ref 154)] [] h) from ⟨by decide, fun _ => ?_, fun hz => absurd (by decide) hz⟩)
        refine am_goX 2 (show pz_S 4 (some .int) am_r219 5 Q 65 [(2, .int (nI 1)), (1, .int (nI W.1)), (3, .int y3), (0, .ref 154)] [.int (Int8.ofInt 40).toInt32, .int (nI W.1)] h from ?_)
        cases e3 : Nat.ble 40 W.1 with
        | true =>
          have e40 : W.1 = 40 := Nat.le_antisymm r.1 (Nat.le_of_ble_eq_true e3)
          refine am_goX 1 (show (¬ (nI W.1) = (Int8.ofInt 40).toInt32 → pz_S 4 (some .int) am_r219 5 Q 76 [(2, .int (nI 1)), (1, .int (nI W.1)), (3, .int y3), (0, .ref 154)] [] h) ∧ (¬ ¬ (nI W.1) = (Int8.ofInt 40).toInt32 → pz_S 4 (some .int) am_r219 5 Q 68 [(2, .int (nI 1)), (1, .int (nI W.1)), (3, .int y3), (0, .ref 154)] [] h) from ⟨fun hz => absurd hz (fun z => z ((n40 r.1).mpr e40)), fun _ => ?_⟩)
          refine am_goX 3 (show am_rc h 154 11 ∧ 0 ≤ 8 ∧ h.2.2.2.2 + am_al 197 ≤ 175 ∧ am_call am_cod 5 197 [.ref 154, .int (Int32.ofInt 5)] h (fun vv h' => pz_S 4 (some .int) am_r219 5 Q 73 [(2, .int (nI 1)), (1, .int (nI W.1)), (3, .int y3), (0, .ref 154)] (vv.toList ++ []) h') from ⟨Or.inl ⟨by decide, ex_154 (k_P l)⟩, by decide, ex_lim (k_P l) rfl, am_call.up (k_197 (k := Int32.ofInt 5) l ?_) (by decide)⟩)
          have x : rkx h (sp_ft τ a (Int32.ofInt 5)) (C.2.2.2.2.1 + 0) (am_wI h 154 8 (sp_ft τ a (Int32.ofInt 5))) := rk_x (s := (a, C)) l (by decide)
          generalize hFe : sp_ft τ a (Int32.ofInt 5) = F at x ⊢
          refine am_goX 4 (show am_rc (am_wI h 154 8 F) 154 11 ∧ 0 ≤ 8 ∧ (am_wI h 154 8 F).2.2.2.2 + am_al 218 ≤ 175 ∧ am_call am_cod 5 218 [.ref 154, .int (Int8.ofInt 59).toInt32] (am_wI h 154 8 F) (fun vv h' => pz_S 4 (some .int) am_r219 5 Q 155 [(2, .int (nI 1)), (1, .int (nI W.1)), (3, .int y3), (0, .ref 154)] (vv.toList ++ []) h') from ⟨Or.inl ⟨by decide, ex_154 x.1⟩, by decide, ex_lim x.1 rfl, am_call.up (e_218 x ?_) (by decide)⟩)
          refine am_goX 3 (show am_sh (am_wI h 154 8 F) 154 = some (11, 0) ∧ pz_S 4 (some .int) am_r219 5 Q 15 [(2, .int (nI 1)), (1, .int (nI W.1)), (3, .int y3), (0, .ref 154)] [.int ((am_wI h 154 8 F).1 154 8)] (am_wI h 154 8 F) from ⟨ex_154 x.1, ?_⟩)
          rw [x.2.1.1]
          refine am_goX 1 (show (¬ F = 0 → pz_S 4 (some .int) am_r219 5 Q 158 [(2, .int (nI 1)), (1, .int (nI W.1)), (3, .int y3), (0, .ref 154)] [] (am_wI h 154 8 F)) ∧ (¬ ¬ F = 0 → pz_S 4 (some .int) am_r219 5 Q 18 [(2, .int (nI 1)), (1, .int (nI W.1)), (3, .int y3), (0, .ref 154)] [] (am_wI h 154 8 F)) from ⟨fun _ => ?_, fun hz => absurd (rkx_ne x) hz⟩)
          refine am_goX 2 (show am_sh (am_wI h 154 8 F) 154 = some (11, 0) ∧ pz_S 4 (some .int) am_r219 5 Q 162 [(2, .int (nI 1)), (1, .int (nI W.1)), (3, .int y3), (0, .ref 154)] [.int ((am_wI h 154 8 F).1 154 8)] (am_wI h 154 8 F) from ⟨ex_154 x.1, ?_⟩)
          rw [x.2.1.1]
          refine am_goX 1 (show (F ≤ 0 → pz_S 4 (some .int) am_r219 5 Q 170 [(2, .int (nI 1)), (1, .int (nI W.1)), (3, .int y3), (0, .ref 154)] [] (am_wI h 154 8 F)) ∧ (¬ (F ≤ 0) → pz_S 4 (some .int) am_r219 5 Q 165 [(2, .int (nI 1)), (1, .int (nI W.1)), (3, .int y3), (0, .ref 154)] [] (am_wI h 154 8 F)) from ⟨fun hz => absurd hz (rkx_le x), fun _ => ?_⟩)
          refine am_goX 2 (show am_sh (am_wI h 154 8 F) 154 = some (11, 0) ∧ pz_S 4 (some .int) am_r219 5 Q 169 [(2, .int (nI 1)), (1, .int (nI W.1)), (3, .int y3), (0, .ref 154)] [.int ((am_wI h 154 8 F).1 154 8)] (am_wI h 154 8 F) from ⟨ex_154 x.1, ?_⟩)
          rw [x.2.1.1]
          exact am_goX 1 (show (∃ ty, (some .int) = some ty ∧ narrow ty (.int (F)) = .int (F)) ∧ (am_wI h 154 8 F).2.2.2.2 = 175 ∧ _ from ⟨⟨.int, rfl, rfl⟩, ex_175 x.1, hF F _ (by unfold sw_all; rw [e2, cond_false, show sw_line τ (C.1.1, C.1.2.1) (a, W) = .inl F from (by unfold sw_line; dsimp only; simp only [ea, e3, cond_true, ← hFe])]) x.1 (wkq_q w x.2.2)⟩)
        | false =>
          have hlt := j40n e3
          refine am_goX 1 (show (¬ (nI W.1) = (Int8.ofInt 40).toInt32 → pz_S 4 (some .int) am_r219 5 Q 76 [(2, .int (nI 1)), (1, .int (nI W.1)), (3, .int y3), (0, .ref 154)] [] h) ∧ (¬ ¬ (nI W.1) = (Int8.ofInt 40).toInt32 → pz_S 4 (some .int) am_r219 5 Q 68 [(2, .int (nI 1)), (1, .int (nI W.1)), (3, .int y3), (0, .ref 154)] [] h) from ⟨fun _ => ?_, fun hz => absurd (fun z => absurd ((n40 r.1).mp z) (by omega)) hz⟩)
          refine am_goX 6 (show (Value.ref 154).category = 1 ∧ am_sh h 154 = some (11, 0) ∧ am_sh h 154 = some (11, 0) ∧ narrow (am_fty 11 7) (.int (((h.1 154 7) + (Int32.ofInt 1)))) = .int (((h.1 154 7) + (Int32.ofInt 1))) ∧ fits (am_fty 11 7) (.int (((h.1 154 7) + (Int32.ofInt 1)))) = true ∧ pz_S 4 (some .int) am_r219 5 Q 86 [(2, .int (nI 1)), (1, .int (nI W.1)), (3, .int y3), (0, .ref 154)] [] (am_wI h 154 7 (((h.1 154 7) + (Int32.ofInt 1)))) from ⟨rfl, ex_154 (k_P l), ex_154 (k_P l), rfl, rfl, ?_⟩)
          rw [show h.1 154 7 = nI a from k_a l, xw_i1]
          have l1 : rk h 0 τ N (a + 1, C) (am_wI h 154 7 (nI (a + 1))) := rk_nx (a := a) (C := C) l hn
          have r1 : rkW W (am_wI h 154 7 (nI (a + 1))) := rkW_w (Or.inl rfl) r
          have w1 : wkq h0 (am_wI h 154 7 (nI (a + 1))) := wkq_w (Or.inl ⟨rfl, rfl⟩) w
          refine am_goX 6 (show 3 < 4 ∧ pz_S 4 (some .int) am_r219 5 Q 93 [(3, .int ((Int8.ofInt 125).toInt32 + ((Int32.ofInt 3) * (nI W.1)))), (2, .int (nI 1)), (1, .int (nI W.1)), (0, .ref 154)] [] (am_wI h 154 7 (nI (a + 1))) from ⟨by decide, ?_⟩)
          rw [show ((Int8.ofInt 125).toInt32 + ((Int32.ofInt 3) * (nI W.1))) = nI (125 + 3 * W.1) by rw [show Int32.ofInt 3 * nI W.1 = nI (3 * W.1) from nI_mul 3 _]; exact nI_add 125 _]
          refine am_goX 2 (show am_sh (am_wI h 154 7 (nI (a + 1))) 154 = some (11, 0) ∧ pz_S 4 (some .int) am_r219 5 Q 97 [(3, .int (nI (125 + 3 * W.1))), (2, .int (nI 1)), (1, .int (nI W.1)), (0, .ref 154)] [am_rf ((am_wI h 154 7 (nI (a + 1))).2.2.1 154 21)] (am_wI h 154 7 (nI (a + 1))) from ⟨ex_154 (k_P l1), ?_⟩)
          rw [ex_r154_21 (h := am_wI h 154 7 (nI (a + 1))) (k_P l1)]
          refine am_goX 3 (show ∃ jj nn : Nat, am_so (am_wI h 154 7 (nI (a + 1))) 167 = some (13, nn) ∧ jj < nn ∧ (nI (125 + 3 * W.1)) = nI jj ∧ pz_S 4 (some .int) am_r219 5 Q 100 [(3, .int (nI (125 + 3 * W.1))), (2, .int (nI 1)), (1, .int (nI W.1)), (0, .ref 154)] [] (am_wI (am_wI h 154 7 (nI (a + 1))) 167 jj ((nI 1))) from ⟨(125 + 3 * W.1), 250, ex_w167 (k_P l1), by omega, rfl, ?_⟩)
          have l2 := rk_w7 (k := 125 + 3 * W.1) (v := (nI 1)) l1
          have r2 := rkW_w (o := 167) (k := 125 + 3 * W.1) (v := (nI 1)) (Or.inr ⟨rfl, by omega⟩) r1
          have w2 := wkq_w (o := 167) (k := 125 + 3 * W.1) (v := (nI 1)) (Or.inr ⟨rfl, by omega⟩) w1
          have x1 : (am_wI (am_wI h 154 7 (nI (a + 1))) 167 (125 + 3 * W.1) ((nI 1))).1 167 (125 + 3 * W.1) = rwh 2 := (em_we _ _ _ _).trans (by decide)
          refine am_goX 2 (show am_sh (am_wI (am_wI h 154 7 (nI (a + 1))) 167 (125 + 3 * W.1) ((nI 1))) 154 = some (11, 0) ∧ pz_S 4 (some .int) am_r219 5 Q 104 [(3, .int (nI (125 + 3 * W.1))), (2, .int (nI 1)), (1, .int (nI W.1)), (0, .ref 154)] [am_rf ((am_wI (am_wI h 154 7 (nI (a + 1))) 167 (125 + 3 * W.1) ((nI 1))).2.2.1 154 21)] (am_wI (am_wI h 154 7 (nI (a + 1))) 167 (125 + 3 * W.1) ((nI 1))) from ⟨ex_154 (k_P l2), ?_⟩)
          rw [ex_r154_21 (h := am_wI (am_wI h 154 7 (nI (a + 1))) 167 (125 + 3 * W.1) ((nI 1))) (k_P l2)]
          refine am_goX 5 (show (¬ (nI 1) = 0 → pz_S 4 (some .int) am_r219 5 Q 115 [(3, .int (nI (125 + 3 * W.1))), (2, .int (nI 1)), (1, .int (nI W.1)), (0, .ref 154)] [.int ((nI (125 + 3 * W.1)) + (Int32.ofInt 1)), .ref 167] (am_wI (am_wI h 154 7 (nI (a + 1))) 167 (125 + 3 * W.1) ((nI 1)))) ∧ (¬ ¬ (nI 1) = 0 → pz_S 4 (some .int) am_r219 5 Q 111 [(3, .int (nI (125 + 3 * W.1))), (2, .int (nI 1)), (1, .int (nI W.1)), (0, .ref 154)] [.int ((nI (125 + 3 * W.1)) + (Int32.ofInt 1)), .ref 167] (am_wI (am_wI h 154 7 (nI (a + 1))) 167 (125 + 3 * W.1) ((nI 1)))) from ⟨fun _ => ?_, fun hz => absurd (by decide) hz⟩)
          refine am_goX 5 (show am_rc (am_wI (am_wI h 154 7 (nI (a + 1))) 167 (125 + 3 * W.1) ((nI 1))) 154 11 ∧ 2 ≤ 8 ∧ (am_wI (am_wI h 154 7 (nI (a + 1))) 167 (125 + 3 * W.1) ((nI 1))).2.2.2.2 + am_al 206 ≤ 175 ∧ am_call am_cod 5 206 [.ref 154, .int (Int32.ofInt 0), .int (Int32.ofInt 0), .int (Int32.ofInt 0)] (am_wI (am_wI h 154 7 (nI (a + 1))) 167 (125 + 3 * W.1) ((nI 1))) (fun vv h' => pz_S 4 (some .int) am_r219 5 Q 122 [(3, .int (nI (125 + 3 * W.1))), (2, .int (nI 1)), (1, .int (nI W.1)), (0, .ref 154)] (vv.toList ++ [.int ((nI (125 + 3 * W.1)) + (Int32.ofInt 1)), .ref 167]) h') from ⟨Or.inl ⟨by decide, ex_154 (k_P l2)⟩, by decide, ex_lim (k_P l2) rfl, am_call.up (k_206p (s := (a + 1, C)) l2 (fun F g1 e4 x => ?_) (fun p g1 e4 e5 l3 => ?_)) (by decide)⟩)
          ·
            have r3 := rkW_q r2 x.2.2
            have w3 := wkq_q w2 x.2.2
            refine am_goX 1 (show ∃ jj nn : Nat, am_so g1 167 = some (13, nn) ∧ jj < nn ∧ ((nI (125 + 3 * W.1)) + (Int32.ofInt 1)) = nI jj ∧ pz_S 4 (some .int) am_r219 5 Q 123 [(3, .int (nI (125 + 3 * W.1))), (2, .int (nI 1)), (1, .int (nI W.1)), (0, .ref 154)] [] (am_wI g1 167 jj ((Int32.ofInt 0))) from ⟨(126 + 3 * W.1), 250, ex_w167 x.1, by omega, (by rw [xw_i1]; congr 1; omega), ?_⟩)
            have x4 := rkx_w7 (k := 126 + 3 * W.1) (v := (Int32.ofInt 0)) x
            have r4 := rkW_w (o := 167) (k := 126 + 3 * W.1) (v := (Int32.ofInt 0)) (Or.inr ⟨rfl, by omega⟩) r3
            have w4 := wkq_w (o := 167) (k := 126 + 3 * W.1) (v := (Int32.ofInt 0)) (Or.inr ⟨rfl, by omega⟩) w3
            refine am_goX 2 (show am_sh (am_wI g1 167 (126 + 3 * W.1) ((Int32.ofInt 0))) 154 = some (11, 0) ∧ pz_S 4 (some .int) am_r219 5 Q 127 [(3, .int (nI (125 + 3 * W.1))), (2, .int (nI 1)), (1, .int (nI W.1)), (0, .ref 154)] [am_rf ((am_wI g1 167 (126 + 3 * W.1) ((Int32.ofInt 0))).2.2.1 154 21)] (am_wI g1 167 (126 + 3 * W.1) ((Int32.ofInt 0))) from ⟨ex_154 x4.1, ?_⟩)
            rw [ex_r154_21 (h := am_wI g1 167 (126 + 3 * W.1) ((Int32.ofInt 0))) x4.1]
            refine am_goX 6 (show (¬ (nI 1) = (Int32.ofInt 2) → pz_S 4 (some .int) am_r219 5 Q 144 [(3, .int (nI (125 + 3 * W.1))), (2, .int (nI 1)), (1, .int (nI W.1)), (0, .ref 154)] [.int ((nI (125 + 3 * W.1)) + (Int32.ofInt 2)), .ref 167] (am_wI g1 167 (126 + 3 * W.1) ((Int32.ofInt 0)))) ∧ (¬ ¬ (nI 1) = (Int32.ofInt 2) → pz_S 4 (some .int) am_r219 5 Q 135 [(3, .int (nI (125 + 3 * W.1))), (2, .int (nI 1)), (1, .int (nI W.1)), (0, .ref 154)] [.int ((nI (125 + 3 * W.1)) + (Int32.ofInt 2)), .ref 167] (am_wI g1 167 (126 + 3 * W.1) ((Int32.ofInt 0)))) from ⟨fun _ => ?_, fun hz => absurd (by decide) hz⟩)
            refine am_goX 2 (show ∃ jj nn : Nat, am_so (am_wI g1 167 (126 + 3 * W.1) ((Int32.ofInt 0))) 167 = some (13, nn) ∧ jj < nn ∧ ((nI (125 + 3 * W.1)) + (Int32.ofInt 2)) = nI jj ∧ pz_S 4 (some .int) am_r219 5 Q 146 [(3, .int (nI (125 + 3 * W.1))), (2, .int (nI 1)), (1, .int (nI W.1)), (0, .ref 154)] [] (am_wI (am_wI g1 167 (126 + 3 * W.1) ((Int32.ofInt 0))) 167 jj ((Int32.ofInt 0))) from ⟨(127 + 3 * W.1), 250, ex_w167 x4.1, by omega, (by rw [show Int32.ofInt 2 = nI 2 from rfl, nI_add]; congr 1; omega), ?_⟩)
            have x5 := rkx_w7 (k := 127 + 3 * W.1) (v := (Int32.ofInt 0)) x4
            have r5 := rkW_w (o := 167) (k := 127 + 3 * W.1) (v := (Int32.ofInt 0)) (Or.inr ⟨rfl, by omega⟩) r4
            have w5 := wkq_w (o := 167) (k := 127 + 3 * W.1) (v := (Int32.ofInt 0)) (Or.inr ⟨rfl, by omega⟩) w4
            refine am_goX 4 (show 1 < 4 ∧ am_rc (am_wI (am_wI g1 167 (126 + 3 * W.1) ((Int32.ofInt 0))) 167 (127 + 3 * W.1) ((Int32.ofInt 0))) 154 11 ∧ 0 ≤ 8 ∧ (am_wI (am_wI g1 167 (126 + 3 * W.1) ((Int32.ofInt 0))) 167 (127 + 3 * W.1) ((Int32.ofInt 0))).2.2.2.2 + am_al 218 ≤ 175 ∧ am_call am_cod 5 218 [.ref 154, .int (Int8.ofInt 59).toInt32] (am_wI (am_wI g1 167 (126 + 3 * W.1) ((Int32.ofInt 0))) 167 (127 + 3 * W.1) ((Int32.ofInt 0))) (fun vv h' => pz_S 4 (some .int) am_r219 5 Q 155 [(1, .int ((nI W.1) + Int32.ofInt 1)), (3, .int (nI (125 + 3 * W.1))), (2, .int (nI 1)), (0, .ref 154)] (vv.toList ++ []) h') from ⟨by decide, Or.inl ⟨by decide, ex_154 x5.1⟩, by decide, ex_lim x5.1 rfl, am_call.up (e_218 x5 ?_) (by decide)⟩)
            refine am_goX 3 (show am_sh (am_wI (am_wI g1 167 (126 + 3 * W.1) ((Int32.ofInt 0))) 167 (127 + 3 * W.1) ((Int32.ofInt 0))) 154 = some (11, 0) ∧ pz_S 4 (some .int) am_r219 5 Q 15 [(1, .int ((nI W.1) + Int32.ofInt 1)), (3, .int (nI (125 + 3 * W.1))), (2, .int (nI 1)), (0, .ref 154)] [.int ((am_wI (am_wI g1 167 (126 + 3 * W.1) ((Int32.ofInt 0))) 167 (127 + 3 * W.1) ((Int32.ofInt 0))).1 154 8)] (am_wI (am_wI g1 167 (126 + 3 * W.1) ((Int32.ofInt 0))) 167 (127 + 3 * W.1) ((Int32.ofInt 0))) from ⟨ex_154 x5.1, ?_⟩)
            rw [x5.2.1.1]
            refine am_goX 1 (show (¬ F = 0 → pz_S 4 (some .int) am_r219 5 Q 158 [(1, .int ((nI W.1) + Int32.ofInt 1)), (3, .int (nI (125 + 3 * W.1))), (2, .int (nI 1)), (0, .ref 154)] [] (am_wI (am_wI g1 167 (126 + 3 * W.1) ((Int32.ofInt 0))) 167 (127 + 3 * W.1) ((Int32.ofInt 0)))) ∧ (¬ ¬ F = 0 → pz_S 4 (some .int) am_r219 5 Q 18 [(1, .int ((nI W.1) + Int32.ofInt 1)), (3, .int (nI (125 + 3 * W.1))), (2, .int (nI 1)), (0, .ref 154)] [] (am_wI (am_wI g1 167 (126 + 3 * W.1) ((Int32.ofInt 0))) 167 (127 + 3 * W.1) ((Int32.ofInt 0)))) from ⟨fun _ => ?_, fun hz => absurd (rkx_ne x5) hz⟩)
            refine am_goX 2 (show am_sh (am_wI (am_wI g1 167 (126 + 3 * W.1) ((Int32.ofInt 0))) 167 (127 + 3 * W.1) ((Int32.ofInt 0))) 154 = some (11, 0) ∧ pz_S 4 (some .int) am_r219 5 Q 162 [(1, .int ((nI W.1) + Int32.ofInt 1)), (3, .int (nI (125 + 3 * W.1))), (2, .int (nI 1)), (0, .ref 154)] [.int ((am_wI (am_wI g1 167 (126 + 3 * W.1) ((Int32.ofInt 0))) 167 (127 + 3 * W.1) ((Int32.ofInt 0))).1 154 8)] (am_wI (am_wI g1 167 (126 + 3 * W.1) ((Int32.ofInt 0))) 167 (127 + 3 * W.1) ((Int32.ofInt 0))) from ⟨ex_154 x5.1, ?_⟩)
            rw [x5.2.1.1]
            refine am_goX 1 (show (F ≤ 0 → pz_S 4 (some .int) am_r219 5 Q 170 [(1, .int ((nI W.1) + Int32.ofInt 1)), (3, .int (nI (125 + 3 * W.1))), (2, .int (nI 1)), (0, .ref 154)] [] (am_wI (am_wI g1 167 (126 + 3 * W.1) ((Int32.ofInt 0))) 167 (127 + 3 * W.1) ((Int32.ofInt 0)))) ∧ (¬ (F ≤ 0) → pz_S 4 (some .int) am_r219 5 Q 165 [(1, .int ((nI W.1) + Int32.ofInt 1)), (3, .int (nI (125 + 3 * W.1))), (2, .int (nI 1)), (0, .ref 154)] [] (am_wI (am_wI g1 167 (126 + 3 * W.1) ((Int32.ofInt 0))) 167 (127 + 3 * W.1) ((Int32.ofInt 0)))) from ⟨fun hz => absurd hz (rkx_le x5), fun _ => ?_⟩)
            refine am_goX 2 (show am_sh (am_wI (am_wI g1 167 (126 + 3 * W.1) ((Int32.ofInt 0))) 167 (127 + 3 * W.1) ((Int32.ofInt 0))) 154 = some (11, 0) ∧ pz_S 4 (some .int) am_r219 5 Q 169 [(1, .int ((nI W.1) + Int32.ofInt 1)), (3, .int (nI (125 + 3 * W.1))), (2, .int (nI 1)), (0, .ref 154)] [.int ((am_wI (am_wI g1 167 (126 + 3 * W.1) ((Int32.ofInt 0))) 167 (127 + 3 * W.1) ((Int32.ofInt 0))).1 154 8)] (am_wI (am_wI g1 167 (126 + 3 * W.1) ((Int32.ofInt 0))) 167 (127 + 3 * W.1) ((Int32.ofInt 0))) from ⟨ex_154 x5.1, ?_⟩)
            rw [x5.2.1.1]
            exact am_goX 1 (show (∃ ty, (some .int) = some ty ∧ narrow ty (.int (F)) = .int (F)) ∧ (am_wI (am_wI g1 167 (126 + 3 * W.1) ((Int32.ofInt 0))) 167 (127 + 3 * W.1) ((Int32.ofInt 0))).2.2.2.2 = 175 ∧ _ from ⟨⟨.int, rfl, rfl⟩, ex_175 x5.1, hF F _ (by unfold sw_all; rw [e2, cond_false, show sw_line τ (C.1.1, C.1.2.1) (a, W) = .inl F from (by unfold sw_line; dsimp only; simp only [ea, e3, show decide ((2 : Int32) = 0) = false from by decide, show decide ((2 : Int32) = 1) = false from by decide, decide_true, cond_true, cond_false, pn_F e4])]) x5.1 (w5)⟩)
          ·
            have r3 := rkW_q r2 l3.2.2.1
            have w3 := wkq_q w2 l3.2.2.1
            have x1 := (l3.2.2.1.2 167 (125 + 3 * W.1) (by omega)).1.trans x1
            refine am_goX 1 (show ∃ jj nn : Nat, am_so g1 167 = some (13, nn) ∧ jj < nn ∧ ((nI (125 + 3 * W.1)) + (Int32.ofInt 1)) = nI jj ∧ pz_S 4 (some .int) am_r219 5 Q 123 [(3, .int (nI (125 + 3 * W.1))), (2, .int (nI 1)), (1, .int (nI W.1)), (0, .ref 154)] [] (am_wI g1 167 jj ((nI p))) from ⟨(126 + 3 * W.1), 250, ex_w167 (k_P l3), by omega, (by rw [xw_i1]; congr 1; omega), ?_⟩)
            have l4 := rk_w7 (k := 126 + 3 * W.1) (v := (nI p)) l3
            have r4 := rkW_w (o := 167) (k := 126 + 3 * W.1) (v := (nI p)) (Or.inr ⟨rfl, by omega⟩) r3
            have w4 := wkq_w (o := 167) (k := 126 + 3 * W.1) (v := (nI p)) (Or.inr ⟨rfl, by omega⟩) w3
            have x1 : (am_wI g1 167 (126 + 3 * W.1) ((nI p))).1 167 (125 + 3 * W.1) = _ := (em_wn _ _ (by omega)).trans x1
            have x2 : (am_wI g1 167 (126 + 3 * W.1) ((nI p))).1 167 (126 + 3 * W.1) = nI p := em_we _ _ _ _
            refine am_goX 2 (show am_sh (am_wI g1 167 (126 + 3 * W.1) ((nI p))) 154 = some (11, 0) ∧ pz_S 4 (some .int) am_r219 5 Q 127 [(3, .int (nI (125 + 3 * W.1))), (2, .int (nI 1)), (1, .int (nI W.1)), (0, .ref 154)] [am_rf ((am_wI g1 167 (126 + 3 * W.1) ((nI p))).2.2.1 154 21)] (am_wI g1 167 (126 + 3 * W.1) ((nI p))) from ⟨ex_154 (k_P l4), ?_⟩)
            rw [ex_r154_21 (h := am_wI g1 167 (126 + 3 * W.1) ((nI p))) (k_P l4)]
            refine am_goX 6 (show (¬ (nI 1) = (Int32.ofInt 2) → pz_S 4 (some .int) am_r219 5 Q 144 [(3, .int (nI (125 + 3 * W.1))), (2, .int (nI 1)), (1, .int (nI W.1)), (0, .ref 154)] [.int ((nI (125 + 3 * W.1)) + (Int32.ofInt 2)), .ref 167] (am_wI g1 167 (126 + 3 * W.1) ((nI p)))) ∧ (¬ ¬ (nI 1) = (Int32.ofInt 2) → pz_S 4 (some .int) am_r219 5 Q 135 [(3, .int (nI (125 + 3 * W.1))), (2, .int (nI 1)), (1, .int (nI W.1)), (0, .ref 154)] [.int ((nI (125 + 3 * W.1)) + (Int32.ofInt 2)), .ref 167] (am_wI g1 167 (126 + 3 * W.1) ((nI p)))) from ⟨fun _ => ?_, fun hz => absurd (by decide) hz⟩)
            refine am_goX 2 (show ∃ jj nn : Nat, am_so (am_wI g1 167 (126 + 3 * W.1) ((nI p))) 167 = some (13, nn) ∧ jj < nn ∧ ((nI (125 + 3 * W.1)) + (Int32.ofInt 2)) = nI jj ∧ pz_S 4 (some .int) am_r219 5 Q 146 [(3, .int (nI (125 + 3 * W.1))), (2, .int (nI 1)), (1, .int (nI W.1)), (0, .ref 154)] [] (am_wI (am_wI g1 167 (126 + 3 * W.1) ((nI p))) 167 jj ((Int32.ofInt 0))) from ⟨(127 + 3 * W.1), 250, ex_w167 (k_P l4), by omega, (by rw [show Int32.ofInt 2 = nI 2 from rfl, nI_add]; congr 1; omega), ?_⟩)
            have l5 := rk_w7 (k := 127 + 3 * W.1) (v := (Int32.ofInt 0)) l4
            have r5 := rkW_w (o := 167) (k := 127 + 3 * W.1) (v := (Int32.ofInt 0)) (Or.inr ⟨rfl, by omega⟩) r4
            have w5 := wkq_w (o := 167) (k := 127 + 3 * W.1) (v := (Int32.ofInt 0)) (Or.inr ⟨rfl, by omega⟩) w4
            have x1 : (am_wI (am_wI g1 167 (126 + 3 * W.1) ((nI p))) 167 (127 + 3 * W.1) ((Int32.ofInt 0))).1 167 (125 + 3 * W.1) = _ := (em_wn _ _ (by omega)).trans x1
            have x2 : (am_wI (am_wI g1 167 (126 + 3 * W.1) ((nI p))) 167 (127 + 3 * W.1) ((Int32.ofInt 0))).1 167 (126 + 3 * W.1) = _ := (em_wn _ _ (by omega)).trans x2
            have x3 : (am_wI (am_wI g1 167 (126 + 3 * W.1) ((nI p))) 167 (127 + 3 * W.1) ((Int32.ofInt 0))).1 167 (127 + 3 * W.1) = 0 := em_we _ _ _ _
            refine am_goX 4 (show 1 < 4 ∧ am_rc (am_wI (am_wI g1 167 (126 + 3 * W.1) ((nI p))) 167 (127 + 3 * W.1) ((Int32.ofInt 0))) 154 11 ∧ 0 ≤ 8 ∧ (am_wI (am_wI g1 167 (126 + 3 * W.1) ((nI p))) 167 (127 + 3 * W.1) ((Int32.ofInt 0))).2.2.2.2 + am_al 218 ≤ 175 ∧ am_call am_cod 5 218 [.ref 154, .int (Int8.ofInt 59).toInt32] (am_wI (am_wI g1 167 (126 + 3 * W.1) ((nI p))) 167 (127 + 3 * W.1) ((Int32.ofInt 0))) (fun vv h' => pz_S 4 (some .int) am_r219 5 Q 155 [(1, .int ((nI W.1) + Int32.ofInt 1)), (3, .int (nI (125 + 3 * W.1))), (2, .int (nI 1)), (0, .ref 154)] (vv.toList ++ []) h') from ⟨by decide, Or.inl ⟨by decide, ex_154 (k_P l5)⟩, by decide, ex_lim (k_P l5) rfl, am_call.up (k_218 (s := (a + 1 + 1, C)) l5 (fun F g3 e9 y => ?_) (fun g3 e9 l7 => ?_)) (by decide)⟩)
            ·
              refine am_goX 3 (show am_sh g3 154 = some (11, 0) ∧ pz_S 4 (some .int) am_r219 5 Q 15 [(1, .int ((nI W.1) + Int32.ofInt 1)), (3, .int (nI (125 + 3 * W.1))), (2, .int (nI 1)), (0, .ref 154)] [.int (g3.1 154 8)] g3 from ⟨ex_154 y.1, ?_⟩)
              rw [y.2.1.1]
              refine am_goX 1 (show (¬ F = 0 → pz_S 4 (some .int) am_r219 5 Q 158 [(1, .int ((nI W.1) + Int32.ofInt 1)), (3, .int (nI (125 + 3 * W.1))), (2, .int (nI 1)), (0, .ref 154)] [] g3) ∧ (¬ ¬ F = 0 → pz_S 4 (some .int) am_r219 5 Q 18 [(1, .int ((nI W.1) + Int32.ofInt 1)), (3, .int (nI (125 + 3 * W.1))), (2, .int (nI 1)), (0, .ref 154)] [] g3) from ⟨fun _ => ?_, fun hz => absurd (rkx_ne y) hz⟩)
              refine am_goX 2 (show am_sh g3 154 = some (11, 0) ∧ pz_S 4 (some .int) am_r219 5 Q 162 [(1, .int ((nI W.1) + Int32.ofInt 1)), (3, .int (nI (125 + 3 * W.1))), (2, .int (nI 1)), (0, .ref 154)] [.int (g3.1 154 8)] g3 from ⟨ex_154 y.1, ?_⟩)
              rw [y.2.1.1]
              refine am_goX 1 (show (F ≤ 0 → pz_S 4 (some .int) am_r219 5 Q 170 [(1, .int ((nI W.1) + Int32.ofInt 1)), (3, .int (nI (125 + 3 * W.1))), (2, .int (nI 1)), (0, .ref 154)] [] g3) ∧ (¬ (F ≤ 0) → pz_S 4 (some .int) am_r219 5 Q 165 [(1, .int ((nI W.1) + Int32.ofInt 1)), (3, .int (nI (125 + 3 * W.1))), (2, .int (nI 1)), (0, .ref 154)] [] g3) from ⟨fun hz => absurd hz (rkx_le y), fun _ => ?_⟩)
              refine am_goX 2 (show am_sh g3 154 = some (11, 0) ∧ pz_S 4 (some .int) am_r219 5 Q 169 [(1, .int ((nI W.1) + Int32.ofInt 1)), (3, .int (nI (125 + 3 * W.1))), (2, .int (nI 1)), (0, .ref 154)] [.int (g3.1 154 8)] g3 from ⟨ex_154 y.1, ?_⟩)
              rw [y.2.1.1]
              exact am_goX 1 (show (∃ ty, (some .int) = some ty ∧ narrow ty (.int (F)) = .int (F)) ∧ g3.2.2.2.2 = 175 ∧ _ from ⟨⟨.int, rfl, rfl⟩, ex_175 y.1, hF F _ (by unfold sw_all; rw [e2, cond_false, show sw_line τ (C.1.1, C.1.2.1) (a, W) = .inl F from (by unfold sw_line; dsimp only; simp only [ea, e3, show decide ((2 : Int32) = 0) = false from by decide, show decide ((2 : Int32) = 1) = false from by decide, decide_true, cond_true, cond_false, pn_S e4 e5, end_F e9])]) y.1 (wkq_q w5 y.2.2)⟩)
            ·
              have r8 := rkW_q r5 l7.2.2.1
              have w8 := wkq_q w5 l7.2.2.1
              have x1 := (l7.2.2.1.2 167 (125 + 3 * W.1) (by omega)).1.trans x1
              have x2 := (l7.2.2.1.2 167 (126 + 3 * W.1) (by omega)).1.trans x2
              have x3 := (l7.2.2.1.2 167 (127 + 3 * W.1) (by omega)).1.trans x3
              refine am_goX 1 (show pz_S 4 (some .int) am_r219 5 Q 11 [(1, .int ((nI W.1) + Int32.ofInt 1)), (3, .int (nI (125 + 3 * W.1))), (2, .int (nI 1)), (0, .ref 154)] [] g3 from ?_)
              rw [xw_i1]
              have hx : sw_all τ (C.1.1, C.1.2.1) (m + 1) (a, W) = sw_all τ (C.1.1, C.1.2.1) m (a + 1 + 1 + 1, sw_ad W 2 (nI p) 0) := by
                conv => lhs; unfold sw_all
                rw [e2, cond_false, show sw_line τ (C.1.1, C.1.2.1) (a, W) = .inr (a + 1 + 1 + 1, sw_ad W 2 (nI p) 0) from (by unfold sw_line; dsimp only; simp only [ea, e3, show decide ((2 : Int32) = 0) = false from by decide, show decide ((2 : Int32) = 1) = false from by decide, decide_true, cond_true, cond_false, pn_S e4 e5, end_S e9])]
              exact ih (a + 1 + 1 + 1) (sw_ad W 2 (nI p) 0) _ _ g3 (by omega) (rk_b l7) (rkW_ad r8 hlt x1 x2 x3) w8 (fun F h1 e => hF F h1 (hx.trans e)) (fun t h1 e => hS t h1 (hx.trans e))
theorem k_219h {m : Nat} (hm : N < a + (m + 1)) (l : rk h 0 τ N (a, C) h) (r : rkW W h) (w : wkq h0 h) (hF : (∀ F h1, sw_all τ (C.1.1, C.1.2.1) (m + 1) (a, W) = .inl F → ex_P h1 → wkq h0 h1 → Q (some (.int F)) h1)) (hS : (∀ t h1, sw_all τ (C.1.1, C.1.2.1) (m + 1) (a, W) = .inr t → ex_P h1 → rkV t.2 h1 → wkv h0 h1 → Q (some (.int (Int32.ofInt 0))) h1)) : pz_S 4 (some .int) am_r219 5 Q 11 [(1, .int (nI W.1)), (0, .ref 154)] [] h := by
  refine am_goX 2 (show am_sh h 154 = some (11, 0) ∧ pz_S 4 (some .int) am_r219 5 Q 15 [(1, .int (nI W.1)), (0, .ref 154)] [.int (h.1 154 8)] h from ⟨ex_154 (k_P l), ?_⟩)
  rw [k_f l]
  refine am_goX 1 (show (¬ 0 = 0 → pz_S 4 (some .int) am_r219 5 Q 158 [(1, .int (nI W.1)), (0, .ref 154)] [] h) ∧ (¬ ¬ 0 = 0 → pz_S 4 (some .int) am_r219 5 Q 18 [(1, .int (nI W.1)), (0, .ref 154)] [] h) from ⟨fun hz => absurd hz (by decide), fun _ => ?_⟩)
  refine am_goX 2 (show am_sh h 154 = some (11, 0) ∧ pz_S 4 (some .int) am_r219 5 Q 22 [(1, .int (nI W.1)), (0, .ref 154)] [am_rf (h.2.2.1 154 4)] h from ⟨ex_154 (k_P l), ?_⟩)
  rw [ex_r154_4 (h := h) (k_P l)]
  refine am_goX 3 (show am_sh h 154 = some (11, 0) ∧ ∃ jj nn : Nat, am_sh h 156 = some (13, nn) ∧ jj < nn ∧ (h.1 154 7) = nI jj ∧ pz_S 4 (some .int) am_r219 5 Q 27 [(1, .int (nI W.1)), (0, .ref 154)] [.int (h.1 156 jj)] h from ⟨ex_154 (k_P l), a, 1002, ex_156 (k_P l), (by have := k_N l; dsimp only at this; omega), k_a l, ?_⟩)
  rw [show h.1 156 a = (τ a).1 from k_k l]
  cases e2 : sp_k τ a 0 with
  | true =>
    refine am_goX 1 (show ((τ a).1 = 0 → pz_S 4 (some .int) am_r219 5 Q 158 [(1, .int (nI W.1)), (0, .ref 154)] [] h) ∧ (¬ ((τ a).1 = 0) → pz_S 4 (some .int) am_r219 5 Q 30 [(1, .int (nI W.1)), (0, .ref 154)] [] h) from ⟨fun _ => ?_, fun hz => absurd (sp_kt e2) hz⟩)
    refine am_goX 2 (show am_sh h 154 = some (11, 0) ∧ pz_S 4 (some .int) am_r219 5 Q 162 [(1, .int (nI W.1)), (0, .ref 154)] [.int (h.1 154 8)] h from ⟨ex_154 (k_P l), ?_⟩)
    rw [k_f l]
    refine am_goX 1 (show (0 ≤ 0 → pz_S 4 (some .int) am_r219 5 Q 170 [(1, .int (nI W.1)), (0, .ref 154)] [] h) ∧ (¬ (0 ≤ 0) → pz_S 4 (some .int) am_r219 5 Q 165 [(1, .int (nI W.1)), (0, .ref 154)] [] h) from ⟨fun _ => ?_, fun hz => absurd (by decide) hz⟩)
    refine am_goX 2 (show am_sh h 154 = some (11, 0) ∧ pz_S 4 (some .int) am_r219 5 Q 174 [(1, .int (nI W.1)), (0, .ref 154)] [am_rf (h.2.2.1 154 21)] h from ⟨ex_154 (k_P l), ?_⟩)
    rw [ex_r154_21 (h := h) (k_P l)]
    refine am_goX 3 (show ∃ jj nn : Nat, am_so h 167 = some (13, nn) ∧ jj < nn ∧ (Int32.ofInt 0) = nI jj ∧ pz_S 4 (some .int) am_r219 5 Q 177 [(1, .int (nI W.1)), (0, .ref 154)] [] (am_wI h 167 jj ((nI W.1))) from ⟨0, 250, ex_w167 (k_P l), by decide, rfl, ?_⟩)
    refine am_goX 2 (show 2 < 4 ∧ pz_S 4 (some .int) am_r219 5 Q 179 [(2, .int (Int32.ofInt 0)), (1, .int (nI W.1)), (0, .ref 154)] [] (am_wI h 167 0 ((nI W.1))) from ⟨by decide, ?_⟩)
    have hPl : ex_P (am_wI h 167 0 (nI W.1)) := (k_P l : ex_P h)
    exact k_219c r.1 (3 * W.1) 0 _ (Nat.zero_add _) hPl (fun i hi => absurd hi (Nat.not_lt_zero i)) (fun h1 p1 p2 p3 p4 => hS (a, W) h1 (by unfold sw_all; rw [e2]; rfl) p1 (rkV_c r p3 p4) ⟨(congrArg (fun q => q.2) p2).trans w.1, fun o k hn => ⟨(p3 o k (by omega)).trans ((em_wn _ _ (by omega)).trans (w.2 o k (by omega)).1), (congrFun (congrFun (congrArg (fun q => q.1) p2) o) k).trans (w.2 o k (by omega)).2⟩⟩)
  | false =>
    refine am_goX 1 (show ((τ a).1 = 0 → pz_S 4 (some .int) am_r219 5 Q 158 [(1, .int (nI W.1)), (0, .ref 154)] [] h) ∧ (¬ ((τ a).1 = 0) → pz_S 4 (some .int) am_r219 5 Q 30 [(1, .int (nI W.1)), (0, .ref 154)] [] h) from ⟨fun hz => absurd hz (of_decide_eq_false e2), fun _ => ?_⟩)
    refine am_goX 3 (show am_rc h 154 11 ∧ 0 ≤ 8 ∧ h.2.2.2.2 + am_al 195 ≤ 175 ∧ am_call am_cod 5 195 [.ref 154, .int (Int32.ofInt 1)] h (fun vv h' => pz_S 4 (some .int) am_r219 5 Q 35 [(1, .int (nI W.1)), (0, .ref 154)] (vv.toList ++ []) h') from ⟨Or.inl ⟨by decide, ex_154 (k_P l)⟩, by decide, ex_lim (k_P l) rfl, am_call.up (k_195 (w := 1) (W := 17003) (by decide) (by decide) (by decide) l ?_) (by decide)⟩)
    rcases sw_rw τ a with ⟨ea, ew, eq⟩ | ⟨hn, ⟨ea, ew, eq⟩ | ⟨ea, ew⟩ | ⟨ea, ew, eq⟩⟩
    ·
      rw [show sp_w τ (a, C).1 17003 = false from ew]
      refine am_goX 1 (show ((pz_b (false)) = 0 → pz_S 4 (some .int) am_r219 5 Q 42 [(1, .int (nI W.1)), (0, .ref 154)] [] h) ∧ (¬ ((pz_b (false)) = 0) → pz_S 4 (some .int) am_r219 5 Q 38 [(1, .int (nI W.1)), (0, .ref 154)] [] h) from ⟨fun _ => ?_, fun hz => absurd (by decide) hz⟩)
      refine am_goX 4 (show am_rc h 154 11 ∧ 0 ≤ 8 ∧ h.2.2.2.2 + am_al 199 ≤ 175 ∧ am_call am_cod 5 199 [.ref 154, .int (Int8.ofInt 8).toInt32, .int (Int32.ofInt 2)] h (fun vv h' => pz_S 4 (some .int) am_r219 5 Q 49 [(1, .int (nI W.1)), (0, .ref 154)] (vv.toList ++ []) h') from ⟨Or.inl ⟨by decide, ex_154 (k_P l)⟩, by decide, ex_lim (k_P l) rfl, am_call.up (k_199 (f := 8) (M := 2) (by decide) (by decide) (by decide) l ?_) (by decide)⟩)
      rw [show wq τ (a, C).1 8 2 = Int32.ofInt (-1) from eq]
      refine am_goX 3 (show 2 < 4 ∧ (0 ≤ (Int32.ofInt (-1)) → pz_S 4 (some .int) am_r219 5 Q 62 [(2, .int (Int32.ofInt (-1))), (1, .int (nI W.1)), (0, .ref 154)] [] h) ∧ (¬ (0 ≤ (Int32.ofInt (-1))) → pz_S 4 (some .int) am_r219 5 Q 54 [(2, .int (Int32.ofInt (-1))), (1, .int (nI W.1)), (0, .ref 154)] [] h) from ⟨by decide, fun hz => absurd hz (by decide), fun _ => ?_⟩)
      refine am_goX 3 (show am_rc h 154 11 ∧ 0 ≤ 8 ∧ h.2.2.2.2 + am_al 197 ≤ 175 ∧ am_call am_cod 5 197 [.ref 154, .int (Int32.ofInt 1)] h (fun vv h' => pz_S 4 (some .int) am_r219 5 Q 59 [(2, .int (Int32.ofInt (-1))), (1, .int (nI W.1)), (0, .ref 154)] (vv.toList ++ []) h') from ⟨Or.inl ⟨by decide, ex_154 (k_P l)⟩, by decide, ex_lim (k_P l) rfl, am_call.up (k_197 (k := Int32.ofInt 1) l ?_) (by decide)⟩)
      have x : rkx h (sp_ft τ a (Int32.ofInt 1)) (C.2.2.2.2.1 + 0) (am_wI h 154 8 (sp_ft τ a (Int32.ofInt 1))) := rk_x (s := (a, C)) l (by decide)
      generalize hFe : sp_ft τ a (Int32.ofInt 1) = F at x ⊢
      refine am_goX 4 (show am_rc (am_wI h 154 8 F) 154 11 ∧ 0 ≤ 8 ∧ (am_wI h 154 8 F).2.2.2.2 + am_al 218 ≤ 175 ∧ am_call am_cod 5 218 [.ref 154, .int (Int8.ofInt 59).toInt32] (am_wI h 154 8 F) (fun vv h' => pz_S 4 (some .int) am_r219 5 Q 155 [(2, .int (Int32.ofInt (-1))), (1, .int (nI W.1)), (0, .ref 154)] (vv.toList ++ []) h') from ⟨Or.inl ⟨by decide, ex_154 x.1⟩, by decide, ex_lim x.1 rfl, am_call.up (e_218 x ?_) (by decide)⟩)
      refine am_goX 3 (show am_sh (am_wI h 154 8 F) 154 = some (11, 0) ∧ pz_S 4 (some .int) am_r219 5 Q 15 [(2, .int (Int32.ofInt (-1))), (1, .int (nI W.1)), (0, .ref 154)] [.int ((am_wI h 154 8 F).1 154 8)] (am_wI h 154 8 F) from ⟨ex_154 x.1, ?_⟩)
      rw [x.2.1.1]
      refine am_goX 1 (show (¬ F = 0 → pz_S 4 (some .int) am_r219 5 Q 158 [(2, .int (Int32.ofInt (-1))), (1, .int (nI W.1)), (0, .ref 154)] [] (am_wI h 154 8 F)) ∧ (¬ ¬ F = 0 → pz_S 4 (some .int) am_r219 5 Q 18 [(2, .int (Int32.ofInt (-1))), (1, .int (nI W.1)), (0, .ref 154)] [] (am_wI h 154 8 F)) from ⟨fun _ => ?_, fun hz => absurd (rkx_ne x) hz⟩)
      refine am_goX 2 (show am_sh (am_wI h 154 8 F) 154 = some (11, 0) ∧ pz_S 4 (some .int) am_r219 5 Q 162 [(2, .int (Int32.ofInt (-1))), (1, .int (nI W.1)), (0, .ref 154)] [.int ((am_wI h 154 8 F).1 154 8)] (am_wI h 154 8 F) from ⟨ex_154 x.1, ?_⟩)
      rw [x.2.1.1]
      refine am_goX 1 (show (F ≤ 0 → pz_S 4 (some .int) am_r219 5 Q 170 [(2, .int (Int32.ofInt (-1))), (1, .int (nI W.1)), (0, .ref 154)] [] (am_wI h 154 8 F)) ∧ (¬ (F ≤ 0) → pz_S 4 (some .int) am_r219 5 Q 165 [(2, .int (Int32.ofInt (-1))), (1, .int (nI W.1)), (0, .ref 154)] [] (am_wI h 154 8 F)) from ⟨fun hz => absurd hz (rkx_le x), fun _ => ?_⟩)
      refine am_goX 2 (show am_sh (am_wI h 154 8 F) 154 = some (11, 0) ∧ pz_S 4 (some .int) am_r219 5 Q 169 [(2, .int (Int32.ofInt (-1))), (1, .int (nI W.1)), (0, .ref 154)] [.int ((am_wI h 154 8 F).1 154 8)] (am_wI h 154 8 F) from ⟨ex_154 x.1, ?_⟩)
      rw [x.2.1.1]
      exact am_goX 1 (show (∃ ty, (some .int) = some ty ∧ narrow ty (.int (F)) = .int (F)) ∧ (am_wI h 154 8 F).2.2.2.2 = 175 ∧ _ from ⟨⟨.int, rfl, rfl⟩, ex_175 x.1, hF F _ (by unfold sw_all; rw [e2, cond_false, show sw_line τ (C.1.1, C.1.2.1) (a, W) = .inl F from (by unfold sw_line; dsimp only; rw [ea, ← hFe])]) x.1 (wkq_q w x.2.2)⟩)
    ·
      rw [show sp_w τ (a, C).1 17003 = false from ew]
      refine am_goX 1 (show ((pz_b (false)) = 0 → pz_S 4 (some .int) am_r219 5 Q 42 [(1, .int (nI W.1)), (0, .ref 154)] [] h) ∧ (¬ ((pz_b (false)) = 0) → pz_S 4 (some .int) am_r219 5 Q 38 [(1, .int (nI W.1)), (0, .ref 154)] [] h) from ⟨fun _ => ?_, fun hz => absurd (by decide) hz⟩)
      refine am_goX 4 (show am_rc h 154 11 ∧ 0 ≤ 8 ∧ h.2.2.2.2 + am_al 199 ≤ 175 ∧ am_call am_cod 5 199 [.ref 154, .int (Int8.ofInt 8).toInt32, .int (Int32.ofInt 2)] h (fun vv h' => pz_S 4 (some .int) am_r219 5 Q 49 [(1, .int (nI W.1)), (0, .ref 154)] (vv.toList ++ []) h') from ⟨Or.inl ⟨by decide, ex_154 (k_P l)⟩, by decide, ex_lim (k_P l) rfl, am_call.up (k_199 (f := 8) (M := 2) (by decide) (by decide) (by decide) l ?_) (by decide)⟩)
      rw [show wq τ (a, C).1 8 2 = nI 0 from eq]
      refine am_goX 3 (show 2 < 4 ∧ (0 ≤ (nI 0) → pz_S 4 (some .int) am_r219 5 Q 62 [(2, .int (nI 0)), (1, .int (nI W.1)), (0, .ref 154)] [] h) ∧ (¬ (0 ≤ (nI 0)) → pz_S 4 (some .int) am_r219 5 Q 54 [(2, .int (nI 0)), (1, .int (nI W.1)), (0, .ref 154)] [] h) from ⟨by decide, fun _ => ?_, fun hz => absurd (by decide) hz⟩)
      refine am_goX 2 (show pz_S 4 (some .int) am_r219 5 Q 65 [(2, .int (nI 0)), (1, .int (nI W.1)), (0, .ref 154)] [.int (Int8.ofInt 40).toInt32, .int (nI W.1)] h from ?_)
      cases e3 : Nat.ble 40 W.1 with
      | true =>
        have e40 : W.1 = 40 := Nat.le_antisymm r.1 (Nat.le_of_ble_eq_true e3)
        refine am_goX 1 (show (¬ (nI W.1) = (Int8.ofInt 40).toInt32 → pz_S 4 (some .int) am_r219 5 Q 76 [(2, .int (nI 0)), (1, .int (nI W.1)), (0, .ref 154)] [] h) ∧ (¬ ¬ (nI W.1) = (Int8.ofInt 40).toInt32 → pz_S 4 (some .int) am_r219 5 Q 68 [(2, .int (nI 0)), (1, .int (nI W.1)), (0, .ref 154)] [] h) from ⟨fun hz => absurd hz (fun z => z ((n40 r.1).mpr e40)), fun _ => ?_⟩)
        refine am_goX 3 (show am_rc h 154 11 ∧ 0 ≤ 8 ∧ h.2.2.2.2 + am_al 197 ≤ 175 ∧ am_call am_cod 5 197 [.ref 154, .int (Int32.ofInt 5)] h (fun vv h' => pz_S 4 (some .int) am_r219 5 Q 73 [(2, .int (nI 0)), (1, .int (nI W.1)), (0, .ref 154)] (vv.toList ++ []) h') from ⟨Or.inl ⟨by decide, ex_154 (k_P l)⟩, by decide, ex_lim (k_P l) rfl, am_call.up (k_197 (k := Int32.ofInt 5) l ?_) (by decide)⟩)
        have x : rkx h (sp_ft τ a (Int32.ofInt 5)) (C.2.2.2.2.1 + 0) (am_wI h 154 8 (sp_ft τ a (Int32.ofInt 5))) := rk_x (s := (a, C)) l (by decide)
        generalize hFe : sp_ft τ a (Int32.ofInt 5) = F at x ⊢
        refine am_goX 4 (show am_rc (am_wI h 154 8 F) 154 11 ∧ 0 ≤ 8 ∧ (am_wI h 154 8 F).2.2.2.2 + am_al 218 ≤ 175 ∧ am_call am_cod 5 218 [.ref 154, .int (Int8.ofInt 59).toInt32] (am_wI h 154 8 F) (fun vv h' => pz_S 4 (some .int) am_r219 5 Q 155 [(2, .int (nI 0)), (1, .int (nI W.1)), (0, .ref 154)] (vv.toList ++ []) h') from ⟨Or.inl ⟨by decide, ex_154 x.1⟩, by decide, ex_lim x.1 rfl, am_call.up (e_218 x ?_) (by decide)⟩)
        refine am_goX 3 (show am_sh (am_wI h 154 8 F) 154 = some (11, 0) ∧ pz_S 4 (some .int) am_r219 5 Q 15 [(2, .int (nI 0)), (1, .int (nI W.1)), (0, .ref 154)] [.int ((am_wI h 154 8 F).1 154 8)] (am_wI h 154 8 F) from ⟨ex_154 x.1, ?_⟩)
        rw [x.2.1.1]
        refine am_goX 1 (show (¬ F = 0 → pz_S 4 (some .int) am_r219 5 Q 158 [(2, .int (nI 0)), (1, .int (nI W.1)), (0, .ref 154)] [] (am_wI h 154 8 F)) ∧ (¬ ¬ F = 0 → pz_S 4 (some .int) am_r219 5 Q 18 [(2, .int (nI 0)), (1, .int (nI W.1)), (0, .ref 154)] [] (am_wI h 154 8 F)) from ⟨fun _ => ?_, fun hz => absurd (rkx_ne x) hz⟩)
        refine am_goX 2 (show am_sh (am_wI h 154 8 F) 154 = some (11, 0) ∧ pz_S 4 (some .int) am_r219 5 Q 162 [(2, .int (nI 0)), (1, .int (nI W.1)), (0, .ref 154)] [.int ((am_wI h 154 8 F).1 154 8)] (am_wI h 154 8 F) from ⟨ex_154 x.1, ?_⟩)
        rw [x.2.1.1]
        refine am_goX 1 (show (F ≤ 0 → pz_S 4 (some .int) am_r219 5 Q 170 [(2, .int (nI 0)), (1, .int (nI W.1)), (0, .ref 154)] [] (am_wI h 154 8 F)) ∧ (¬ (F ≤ 0) → pz_S 4 (some .int) am_r219 5 Q 165 [(2, .int (nI 0)), (1, .int (nI W.1)), (0, .ref 154)] [] (am_wI h 154 8 F)) from ⟨fun hz => absurd hz (rkx_le x), fun _ => ?_⟩)
        refine am_goX 2 (show am_sh (am_wI h 154 8 F) 154 = some (11, 0) ∧ pz_S 4 (some .int) am_r219 5 Q 169 [(2, .int (nI 0)), (1, .int (nI W.1)), (0, .ref 154)] [.int ((am_wI h 154 8 F).1 154 8)] (am_wI h 154 8 F) from ⟨ex_154 x.1, ?_⟩)
        rw [x.2.1.1]
        exact am_goX 1 (show (∃ ty, (some .int) = some ty ∧ narrow ty (.int (F)) = .int (F)) ∧ (am_wI h 154 8 F).2.2.2.2 = 175 ∧ _ from ⟨⟨.int, rfl, rfl⟩, ex_175 x.1, hF F _ (by unfold sw_all; rw [e2, cond_false, show sw_line τ (C.1.1, C.1.2.1) (a, W) = .inl F from (by unfold sw_line; dsimp only; simp only [ea, e3, cond_true, ← hFe])]) x.1 (wkq_q w x.2.2)⟩)
      | false =>
        have hlt := j40n e3
        refine am_goX 1 (show (¬ (nI W.1) = (Int8.ofInt 40).toInt32 → pz_S 4 (some .int) am_r219 5 Q 76 [(2, .int (nI 0)), (1, .int (nI W.1)), (0, .ref 154)] [] h) ∧ (¬ ¬ (nI W.1) = (Int8.ofInt 40).toInt32 → pz_S 4 (some .int) am_r219 5 Q 68 [(2, .int (nI 0)), (1, .int (nI W.1)), (0, .ref 154)] [] h) from ⟨fun _ => ?_, fun hz => absurd (fun z => absurd ((n40 r.1).mp z) (by omega)) hz⟩)
        refine am_goX 6 (show (Value.ref 154).category = 1 ∧ am_sh h 154 = some (11, 0) ∧ am_sh h 154 = some (11, 0) ∧ narrow (am_fty 11 7) (.int (((h.1 154 7) + (Int32.ofInt 1)))) = .int (((h.1 154 7) + (Int32.ofInt 1))) ∧ fits (am_fty 11 7) (.int (((h.1 154 7) + (Int32.ofInt 1)))) = true ∧ pz_S 4 (some .int) am_r219 5 Q 86 [(2, .int (nI 0)), (1, .int (nI W.1)), (0, .ref 154)] [] (am_wI h 154 7 (((h.1 154 7) + (Int32.ofInt 1)))) from ⟨rfl, ex_154 (k_P l), ex_154 (k_P l), rfl, rfl, ?_⟩)
        rw [show h.1 154 7 = nI a from k_a l, xw_i1]
        have l1 : rk h 0 τ N (a + 1, C) (am_wI h 154 7 (nI (a + 1))) := rk_nx (a := a) (C := C) l hn
        have r1 : rkW W (am_wI h 154 7 (nI (a + 1))) := rkW_w (Or.inl rfl) r
        have w1 : wkq h0 (am_wI h 154 7 (nI (a + 1))) := wkq_w (Or.inl ⟨rfl, rfl⟩) w
        refine am_goX 6 (show 3 < 4 ∧ pz_S 4 (some .int) am_r219 5 Q 93 [(3, .int ((Int8.ofInt 125).toInt32 + ((Int32.ofInt 3) * (nI W.1)))), (2, .int (nI 0)), (1, .int (nI W.1)), (0, .ref 154)] [] (am_wI h 154 7 (nI (a + 1))) from ⟨by decide, ?_⟩)
        rw [show ((Int8.ofInt 125).toInt32 + ((Int32.ofInt 3) * (nI W.1))) = nI (125 + 3 * W.1) by rw [show Int32.ofInt 3 * nI W.1 = nI (3 * W.1) from nI_mul 3 _]; exact nI_add 125 _]
        refine am_goX 2 (show am_sh (am_wI h 154 7 (nI (a + 1))) 154 = some (11, 0) ∧ pz_S 4 (some .int) am_r219 5 Q 97 [(3, .int (nI (125 + 3 * W.1))), (2, .int (nI 0)), (1, .int (nI W.1)), (0, .ref 154)] [am_rf ((am_wI h 154 7 (nI (a + 1))).2.2.1 154 21)] (am_wI h 154 7 (nI (a + 1))) from ⟨ex_154 (k_P l1), ?_⟩)
        rw [ex_r154_21 (h := am_wI h 154 7 (nI (a + 1))) (k_P l1)]
        refine am_goX 3 (show ∃ jj nn : Nat, am_so (am_wI h 154 7 (nI (a + 1))) 167 = some (13, nn) ∧ jj < nn ∧ (nI (125 + 3 * W.1)) = nI jj ∧ pz_S 4 (some .int) am_r219 5 Q 100 [(3, .int (nI (125 + 3 * W.1))), (2, .int (nI 0)), (1, .int (nI W.1)), (0, .ref 154)] [] (am_wI (am_wI h 154 7 (nI (a + 1))) 167 jj ((nI 0))) from ⟨(125 + 3 * W.1), 250, ex_w167 (k_P l1), by omega, rfl, ?_⟩)
        have l2 := rk_w7 (k := 125 + 3 * W.1) (v := (nI 0)) l1
        have r2 := rkW_w (o := 167) (k := 125 + 3 * W.1) (v := (nI 0)) (Or.inr ⟨rfl, by omega⟩) r1
        have w2 := wkq_w (o := 167) (k := 125 + 3 * W.1) (v := (nI 0)) (Or.inr ⟨rfl, by omega⟩) w1
        have x1 : (am_wI (am_wI h 154 7 (nI (a + 1))) 167 (125 + 3 * W.1) ((nI 0))).1 167 (125 + 3 * W.1) = rwh 0 := (em_we _ _ _ _).trans (by decide)
        refine am_goX 2 (show am_sh (am_wI (am_wI h 154 7 (nI (a + 1))) 167 (125 + 3 * W.1) ((nI 0))) 154 = some (11, 0) ∧ pz_S 4 (some .int) am_r219 5 Q 104 [(3, .int (nI (125 + 3 * W.1))), (2, .int (nI 0)), (1, .int (nI W.1)), (0, .ref 154)] [am_rf ((am_wI (am_wI h 154 7 (nI (a + 1))) 167 (125 + 3 * W.1) ((nI 0))).2.2.1 154 21)] (am_wI (am_wI h 154 7 (nI (a + 1))) 167 (125 + 3 * W.1) ((nI 0))) from ⟨ex_154 (k_P l2), ?_⟩)
        rw [ex_r154_21 (h := am_wI (am_wI h 154 7 (nI (a + 1))) 167 (125 + 3 * W.1) ((nI 0))) (k_P l2)]
        refine am_goX 5 (show (¬ (nI 0) = 0 → pz_S 4 (some .int) am_r219 5 Q 115 [(3, .int (nI (125 + 3 * W.1))), (2, .int (nI 0)), (1, .int (nI W.1)), (0, .ref 154)] [.int ((nI (125 + 3 * W.1)) + (Int32.ofInt 1)), .ref 167] (am_wI (am_wI h 154 7 (nI (a + 1))) 167 (125 + 3 * W.1) ((nI 0)))) ∧ (¬ ¬ (nI 0) = 0 → pz_S 4 (some .int) am_r219 5 Q 111 [(3, .int (nI (125 + 3 * W.1))), (2, .int (nI 0)), (1, .int (nI W.1)), (0, .ref 154)] [.int ((nI (125 + 3 * W.1)) + (Int32.ofInt 1)), .ref 167] (am_wI (am_wI h 154 7 (nI (a + 1))) 167 (125 + 3 * W.1) ((nI 0)))) from ⟨fun hz => absurd hz (by decide), fun _ => ?_⟩)
        refine am_goX 3 (show ∃ jj nn : Nat, am_so (am_wI (am_wI h 154 7 (nI (a + 1))) 167 (125 + 3 * W.1) ((nI 0))) 167 = some (13, nn) ∧ jj < nn ∧ ((nI (125 + 3 * W.1)) + (Int32.ofInt 1)) = nI jj ∧ pz_S 4 (some .int) am_r219 5 Q 123 [(3, .int (nI (125 + 3 * W.1))), (2, .int (nI 0)), (1, .int (nI W.1)), (0, .ref 154)] [] (am_wI (am_wI (am_wI h 154 7 (nI (a + 1))) 167 (125 + 3 * W.1) ((nI 0))) 167 jj ((Int32.ofInt 0))) from ⟨(126 + 3 * W.1), 250, ex_w167 (k_P l2), by omega, (by rw [xw_i1]; congr 1; omega), ?_⟩)
        have l3 := rk_w7 (k := 126 + 3 * W.1) (v := (Int32.ofInt 0)) l2
        have r3 := rkW_w (o := 167) (k := 126 + 3 * W.1) (v := (Int32.ofInt 0)) (Or.inr ⟨rfl, by omega⟩) r2
        have w3 := wkq_w (o := 167) (k := 126 + 3 * W.1) (v := (Int32.ofInt 0)) (Or.inr ⟨rfl, by omega⟩) w2
        have x1 : (am_wI (am_wI (am_wI h 154 7 (nI (a + 1))) 167 (125 + 3 * W.1) ((nI 0))) 167 (126 + 3 * W.1) ((Int32.ofInt 0))).1 167 (125 + 3 * W.1) = _ := (em_wn _ _ (by omega)).trans x1
        have x2 : (am_wI (am_wI (am_wI h 154 7 (nI (a + 1))) 167 (125 + 3 * W.1) ((nI 0))) 167 (126 + 3 * W.1) ((Int32.ofInt 0))).1 167 (126 + 3 * W.1) = 0 := em_we _ _ _ _
        refine am_goX 2 (show am_sh (am_wI (am_wI (am_wI h 154 7 (nI (a + 1))) 167 (125 + 3 * W.1) ((nI 0))) 167 (126 + 3 * W.1) ((Int32.ofInt 0))) 154 = some (11, 0) ∧ pz_S 4 (some .int) am_r219 5 Q 127 [(3, .int (nI (125 + 3 * W.1))), (2, .int (nI 0)), (1, .int (nI W.1)), (0, .ref 154)] [am_rf ((am_wI (am_wI (am_wI h 154 7 (nI (a + 1))) 167 (125 + 3 * W.1) ((nI 0))) 167 (126 + 3 * W.1) ((Int32.ofInt 0))).2.2.1 154 21)] (am_wI (am_wI (am_wI h 154 7 (nI (a + 1))) 167 (125 + 3 * W.1) ((nI 0))) 167 (126 + 3 * W.1) ((Int32.ofInt 0))) from ⟨ex_154 (k_P l3), ?_⟩)
        rw [ex_r154_21 (h := am_wI (am_wI (am_wI h 154 7 (nI (a + 1))) 167 (125 + 3 * W.1) ((nI 0))) 167 (126 + 3 * W.1) ((Int32.ofInt 0))) (k_P l3)]
        refine am_goX 6 (show (¬ (nI 0) = (Int32.ofInt 2) → pz_S 4 (some .int) am_r219 5 Q 144 [(3, .int (nI (125 + 3 * W.1))), (2, .int (nI 0)), (1, .int (nI W.1)), (0, .ref 154)] [.int ((nI (125 + 3 * W.1)) + (Int32.ofInt 2)), .ref 167] (am_wI (am_wI (am_wI h 154 7 (nI (a + 1))) 167 (125 + 3 * W.1) ((nI 0))) 167 (126 + 3 * W.1) ((Int32.ofInt 0)))) ∧ (¬ ¬ (nI 0) = (Int32.ofInt 2) → pz_S 4 (some .int) am_r219 5 Q 135 [(3, .int (nI (125 + 3 * W.1))), (2, .int (nI 0)), (1, .int (nI W.1)), (0, .ref 154)] [.int ((nI (125 + 3 * W.1)) + (Int32.ofInt 2)), .ref 167] (am_wI (am_wI (am_wI h 154 7 (nI (a + 1))) 167 (125 + 3 * W.1) ((nI 0))) 167 (126 + 3 * W.1) ((Int32.ofInt 0)))) from ⟨fun _ => ?_, fun hz => absurd (by decide) hz⟩)
        refine am_goX 2 (show ∃ jj nn : Nat, am_so (am_wI (am_wI (am_wI h 154 7 (nI (a + 1))) 167 (125 + 3 * W.1) ((nI 0))) 167 (126 + 3 * W.1) ((Int32.ofInt 0))) 167 = some (13, nn) ∧ jj < nn ∧ ((nI (125 + 3 * W.1)) + (Int32.ofInt 2)) = nI jj ∧ pz_S 4 (some .int) am_r219 5 Q 146 [(3, .int (nI (125 + 3 * W.1))), (2, .int (nI 0)), (1, .int (nI W.1)), (0, .ref 154)] [] (am_wI (am_wI (am_wI (am_wI h 154 7 (nI (a + 1))) 167 (125 + 3 * W.1) ((nI 0))) 167 (126 + 3 * W.1) ((Int32.ofInt 0))) 167 jj ((Int32.ofInt 0))) from ⟨(127 + 3 * W.1), 250, ex_w167 (k_P l3), by omega, (by rw [show Int32.ofInt 2 = nI 2 from rfl, nI_add]; congr 1; omega), ?_⟩)
        have l4 := rk_w7 (k := 127 + 3 * W.1) (v := (Int32.ofInt 0)) l3
        have r4 := rkW_w (o := 167) (k := 127 + 3 * W.1) (v := (Int32.ofInt 0)) (Or.inr ⟨rfl, by omega⟩) r3
        have w4 := wkq_w (o := 167) (k := 127 + 3 * W.1) (v := (Int32.ofInt 0)) (Or.inr ⟨rfl, by omega⟩) w3
        have x1 : (am_wI (am_wI (am_wI (am_wI h 154 7 (nI (a + 1))) 167 (125 + 3 * W.1) ((nI 0))) 167 (126 + 3 * W.1) ((Int32.ofInt 0))) 167 (127 + 3 * W.1) ((Int32.ofInt 0))).1 167 (125 + 3 * W.1) = _ := (em_wn _ _ (by omega)).trans x1
        have x2 : (am_wI (am_wI (am_wI (am_wI h 154 7 (nI (a + 1))) 167 (125 + 3 * W.1) ((nI 0))) 167 (126 + 3 * W.1) ((Int32.ofInt 0))) 167 (127 + 3 * W.1) ((Int32.ofInt 0))).1 167 (126 + 3 * W.1) = _ := (em_wn _ _ (by omega)).trans x2
        have x3 : (am_wI (am_wI (am_wI (am_wI h 154 7 (nI (a + 1))) 167 (125 + 3 * W.1) ((nI 0))) 167 (126 + 3 * W.1) ((Int32.ofInt 0))) 167 (127 + 3 * W.1) ((Int32.ofInt 0))).1 167 (127 + 3 * W.1) = 0 := em_we _ _ _ _
        refine am_goX 4 (show 1 < 4 ∧ am_rc (am_wI (am_wI (am_wI (am_wI h 154 7 (nI (a + 1))) 167 (125 + 3 * W.1) ((nI 0))) 167 (126 + 3 * W.1) ((Int32.ofInt 0))) 167 (127 + 3 * W.1) ((Int32.ofInt 0))) 154 11 ∧ 0 ≤ 8 ∧ (am_wI (am_wI (am_wI (am_wI h 154 7 (nI (a + 1))) 167 (125 + 3 * W.1) ((nI 0))) 167 (126 + 3 * W.1) ((Int32.ofInt 0))) 167 (127 + 3 * W.1) ((Int32.ofInt 0))).2.2.2.2 + am_al 218 ≤ 175 ∧ am_call am_cod 5 218 [.ref 154, .int (Int8.ofInt 59).toInt32] (am_wI (am_wI (am_wI (am_wI h 154 7 (nI (a + 1))) 167 (125 + 3 * W.1) ((nI 0))) 167 (126 + 3 * W.1) ((Int32.ofInt 0))) 167 (127 + 3 * W.1) ((Int32.ofInt 0))) (fun vv h' => pz_S 4 (some .int) am_r219 5 Q 155 [(1, .int ((nI W.1) + Int32.ofInt 1)), (3, .int (nI (125 + 3 * W.1))), (2, .int (nI 0)), (0, .ref 154)] (vv.toList ++ []) h') from ⟨by decide, Or.inl ⟨by decide, ex_154 (k_P l4)⟩, by decide, ex_lim (k_P l4) rfl, am_call.up (k_218 (s := (a + 1, C)) l4 (fun F g3 e9 y => ?_) (fun g3 e9 l7 => ?_)) (by decide)⟩)
        ·
          refine am_goX 3 (show am_sh g3 154 = some (11, 0) ∧ pz_S 4 (some .int) am_r219 5 Q 15 [(1, .int ((nI W.1) + Int32.ofInt 1)), (3, .int (nI (125 + 3 * W.1))), (2, .int (nI 0)), (0, .ref 154)] [.int (g3.1 154 8)] g3 from ⟨ex_154 y.1, ?_⟩)
          rw [y.2.1.1]
          refine am_goX 1 (show (¬ F = 0 → pz_S 4 (some .int) am_r219 5 Q 158 [(1, .int ((nI W.1) + Int32.ofInt 1)), (3, .int (nI (125 + 3 * W.1))), (2, .int (nI 0)), (0, .ref 154)] [] g3) ∧ (¬ ¬ F = 0 → pz_S 4 (some .int) am_r219 5 Q 18 [(1, .int ((nI W.1) + Int32.ofInt 1)), (3, .int (nI (125 + 3 * W.1))), (2, .int (nI 0)), (0, .ref 154)] [] g3) from ⟨fun _ => ?_, fun hz => absurd (rkx_ne y) hz⟩)
          refine am_goX 2 (show am_sh g3 154 = some (11, 0) ∧ pz_S 4 (some .int) am_r219 5 Q 162 [(1, .int ((nI W.1) + Int32.ofInt 1)), (3, .int (nI (125 + 3 * W.1))), (2, .int (nI 0)), (0, .ref 154)] [.int (g3.1 154 8)] g3 from ⟨ex_154 y.1, ?_⟩)
          rw [y.2.1.1]
          refine am_goX 1 (show (F ≤ 0 → pz_S 4 (some .int) am_r219 5 Q 170 [(1, .int ((nI W.1) + Int32.ofInt 1)), (3, .int (nI (125 + 3 * W.1))), (2, .int (nI 0)), (0, .ref 154)] [] g3) ∧ (¬ (F ≤ 0) → pz_S 4 (some .int) am_r219 5 Q 165 [(1, .int ((nI W.1) + Int32.ofInt 1)), (3, .int (nI (125 + 3 * W.1))), (2, .int (nI 0)), (0, .ref 154)] [] g3) from ⟨fun hz => absurd hz (rkx_le y), fun _ => ?_⟩)
          refine am_goX 2 (show am_sh g3 154 = some (11, 0) ∧ pz_S 4 (some .int) am_r219 5 Q 169 [(1, .int ((nI W.1) + Int32.ofInt 1)), (3, .int (nI (125 + 3 * W.1))), (2, .int (nI 0)), (0, .ref 154)] [.int (g3.1 154 8)] g3 from ⟨ex_154 y.1, ?_⟩)
          rw [y.2.1.1]
          exact am_goX 1 (show (∃ ty, (some .int) = some ty ∧ narrow ty (.int (F)) = .int (F)) ∧ g3.2.2.2.2 = 175 ∧ _ from ⟨⟨.int, rfl, rfl⟩, ex_175 y.1, hF F _ (by unfold sw_all; rw [e2, cond_false, show sw_line τ (C.1.1, C.1.2.1) (a, W) = .inl F from (by unfold sw_line; dsimp only; simp only [ea, e3, show decide ((0 : Int32) = 0) = true from by decide, show decide ((0 : Int32) = 1) = false from by decide, decide_true, cond_true, cond_false, end_F e9])]) y.1 (wkq_q w4 y.2.2)⟩)
        ·
          have r8 := rkW_q r4 l7.2.2.1
          have w8 := wkq_q w4 l7.2.2.1
          have x1 := (l7.2.2.1.2 167 (125 + 3 * W.1) (by omega)).1.trans x1
          have x2 := (l7.2.2.1.2 167 (126 + 3 * W.1) (by omega)).1.trans x2
          have x3 := (l7.2.2.1.2 167 (127 + 3 * W.1) (by omega)).1.trans x3
          refine am_goX 1 (show pz_S 4 (some .int) am_r219 5 Q 11 [(1, .int ((nI W.1) + Int32.ofInt 1)), (3, .int (nI (125 + 3 * W.1))), (2, .int (nI 0)), (0, .ref 154)] [] g3 from ?_)
          rw [xw_i1]
          have hx : sw_all τ (C.1.1, C.1.2.1) (m + 1) (a, W) = sw_all τ (C.1.1, C.1.2.1) m (a + 1 + 1, sw_ad W 0 0 0) := by
            conv => lhs; unfold sw_all
            rw [e2, cond_false, show sw_line τ (C.1.1, C.1.2.1) (a, W) = .inr (a + 1 + 1, sw_ad W 0 0 0) from (by unfold sw_line; dsimp only; simp only [ea, e3, show decide ((0 : Int32) = 0) = true from by decide, show decide ((0 : Int32) = 1) = false from by decide, decide_true, cond_true, cond_false, end_S e9])]
          exact k_219l m (a + 1 + 1) (sw_ad W 0 0 0) _ _ g3 (by omega) (rk_b l7) (rkW_ad r8 hlt x1 x2 x3) w8 (fun F h1 e => hF F h1 (hx.trans e)) (fun t h1 e => hS t h1 (hx.trans e))
    ·
      rw [show sp_w τ (a, C).1 17003 = true from ew]
      refine am_goX 1 (show ((pz_b (true)) = 0 → pz_S 4 (some .int) am_r219 5 Q 42 [(1, .int (nI W.1)), (0, .ref 154)] [] h) ∧ (¬ ((pz_b (true)) = 0) → pz_S 4 (some .int) am_r219 5 Q 38 [(1, .int (nI W.1)), (0, .ref 154)] [] h) from ⟨fun hz => absurd hz (by decide), fun _ => ?_⟩)
      refine am_goX 5 (show 2 < 4 ∧ (0 ≤ (Int32.ofInt 2) → pz_S 4 (some .int) am_r219 5 Q 62 [(2, .int (Int32.ofInt 2)), (1, .int (nI W.1)), (0, .ref 154)] [] h) ∧ (¬ (0 ≤ (Int32.ofInt 2)) → pz_S 4 (some .int) am_r219 5 Q 54 [(2, .int (Int32.ofInt 2)), (1, .int (nI W.1)), (0, .ref 154)] [] h) from ⟨by decide, fun _ => ?_, fun hz => absurd (by decide) hz⟩)
      refine am_goX 2 (show pz_S 4 (some .int) am_r219 5 Q 65 [(2, .int (Int32.ofInt 2)), (1, .int (nI W.1)), (0, .ref 154)] [.int (Int8.ofInt 40).toInt32, .int (nI W.1)] h from ?_)
      cases e3 : Nat.ble 40 W.1 with
      | true =>
        have e40 : W.1 = 40 := Nat.le_antisymm r.1 (Nat.le_of_ble_eq_true e3)
        refine am_goX 1 (show (¬ (nI W.1) = (Int8.ofInt 40).toInt32 → pz_S 4 (some .int) am_r219 5 Q 76 [(2, .int (Int32.ofInt 2)), (1, .int (nI W.1)), (0, .ref 154)] [] h) ∧ (¬ ¬ (nI W.1) = (Int8.ofInt 40).toInt32 → pz_S 4 (some .int) am_r219 5 Q 68 [(2, .int (Int32.ofInt 2)), (1, .int (nI W.1)), (0, .ref 154)] [] h) from ⟨fun hz => absurd hz (fun z => z ((n40 r.1).mpr e40)), fun _ => ?_⟩)
        refine am_goX 3 (show am_rc h 154 11 ∧ 0 ≤ 8 ∧ h.2.2.2.2 + am_al 197 ≤ 175 ∧ am_call am_cod 5 197 [.ref 154, .int (Int32.ofInt 5)] h (fun vv h' => pz_S 4 (some .int) am_r219 5 Q 73 [(2, .int (Int32.ofInt 2)), (1, .int (nI W.1)), (0, .ref 154)] (vv.toList ++ []) h') from ⟨Or.inl ⟨by decide, ex_154 (k_P l)⟩, by decide, ex_lim (k_P l) rfl, am_call.up (k_197 (k := Int32.ofInt 5) l ?_) (by decide)⟩)
        have x : rkx h (sp_ft τ a (Int32.ofInt 5)) (C.2.2.2.2.1 + 0) (am_wI h 154 8 (sp_ft τ a (Int32.ofInt 5))) := rk_x (s := (a, C)) l (by decide)
        generalize hFe : sp_ft τ a (Int32.ofInt 5) = F at x ⊢
        refine am_goX 4 (show am_rc (am_wI h 154 8 F) 154 11 ∧ 0 ≤ 8 ∧ (am_wI h 154 8 F).2.2.2.2 + am_al 218 ≤ 175 ∧ am_call am_cod 5 218 [.ref 154, .int (Int8.ofInt 59).toInt32] (am_wI h 154 8 F) (fun vv h' => pz_S 4 (some .int) am_r219 5 Q 155 [(2, .int (Int32.ofInt 2)), (1, .int (nI W.1)), (0, .ref 154)] (vv.toList ++ []) h') from ⟨Or.inl ⟨by decide, ex_154 x.1⟩, by decide, ex_lim x.1 rfl, am_call.up (e_218 x ?_) (by decide)⟩)
        refine am_goX 3 (show am_sh (am_wI h 154 8 F) 154 = some (11, 0) ∧ pz_S 4 (some .int) am_r219 5 Q 15 [(2, .int (Int32.ofInt 2)), (1, .int (nI W.1)), (0, .ref 154)] [.int ((am_wI h 154 8 F).1 154 8)] (am_wI h 154 8 F) from ⟨ex_154 x.1, ?_⟩)
        rw [x.2.1.1]
        refine am_goX 1 (show (¬ F = 0 → pz_S 4 (some .int) am_r219 5 Q 158 [(2, .int (Int32.ofInt 2)), (1, .int (nI W.1)), (0, .ref 154)] [] (am_wI h 154 8 F)) ∧ (¬ ¬ F = 0 → pz_S 4 (some .int) am_r219 5 Q 18 [(2, .int (Int32.ofInt 2)), (1, .int (nI W.1)), (0, .ref 154)] [] (am_wI h 154 8 F)) from ⟨fun _ => ?_, fun hz => absurd (rkx_ne x) hz⟩)
        refine am_goX 2 (show am_sh (am_wI h 154 8 F) 154 = some (11, 0) ∧ pz_S 4 (some .int) am_r219 5 Q 162 [(2, .int (Int32.ofInt 2)), (1, .int (nI W.1)), (0, .ref 154)] [.int ((am_wI h 154 8 F).1 154 8)] (am_wI h 154 8 F) from ⟨ex_154 x.1, ?_⟩)
        rw [x.2.1.1]
        refine am_goX 1 (show (F ≤ 0 → pz_S 4 (some .int) am_r219 5 Q 170 [(2, .int (Int32.ofInt 2)), (1, .int (nI W.1)), (0, .ref 154)] [] (am_wI h 154 8 F)) ∧ (¬ (F ≤ 0) → pz_S 4 (some .int) am_r219 5 Q 165 [(2, .int (Int32.ofInt 2)), (1, .int (nI W.1)), (0, .ref 154)] [] (am_wI h 154 8 F)) from ⟨fun hz => absurd hz (rkx_le x), fun _ => ?_⟩)
        refine am_goX 2 (show am_sh (am_wI h 154 8 F) 154 = some (11, 0) ∧ pz_S 4 (some .int) am_r219 5 Q 169 [(2, .int (Int32.ofInt 2)), (1, .int (nI W.1)), (0, .ref 154)] [.int ((am_wI h 154 8 F).1 154 8)] (am_wI h 154 8 F) from ⟨ex_154 x.1, ?_⟩)
        rw [x.2.1.1]
        exact am_goX 1 (show (∃ ty, (some .int) = some ty ∧ narrow ty (.int (F)) = .int (F)) ∧ (am_wI h 154 8 F).2.2.2.2 = 175 ∧ _ from ⟨⟨.int, rfl, rfl⟩, ex_175 x.1, hF F _ (by unfold sw_all; rw [e2, cond_false, show sw_line τ (C.1.1, C.1.2.1) (a, W) = .inl F from (by unfold sw_line; dsimp only; simp only [ea, e3, cond_true, ← hFe])]) x.1 (wkq_q w x.2.2)⟩)
      | false =>
        have hlt := j40n e3
        refine am_goX 1 (show (¬ (nI W.1) = (Int8.ofInt 40).toInt32 → pz_S 4 (some .int) am_r219 5 Q 76 [(2, .int (Int32.ofInt 2)), (1, .int (nI W.1)), (0, .ref 154)] [] h) ∧ (¬ ¬ (nI W.1) = (Int8.ofInt 40).toInt32 → pz_S 4 (some .int) am_r219 5 Q 68 [(2, .int (Int32.ofInt 2)), (1, .int (nI W.1)), (0, .ref 154)] [] h) from ⟨fun _ => ?_, fun hz => absurd (fun z => absurd ((n40 r.1).mp z) (by omega)) hz⟩)
        refine am_goX 6 (show (Value.ref 154).category = 1 ∧ am_sh h 154 = some (11, 0) ∧ am_sh h 154 = some (11, 0) ∧ narrow (am_fty 11 7) (.int (((h.1 154 7) + (Int32.ofInt 1)))) = .int (((h.1 154 7) + (Int32.ofInt 1))) ∧ fits (am_fty 11 7) (.int (((h.1 154 7) + (Int32.ofInt 1)))) = true ∧ pz_S 4 (some .int) am_r219 5 Q 86 [(2, .int (Int32.ofInt 2)), (1, .int (nI W.1)), (0, .ref 154)] [] (am_wI h 154 7 (((h.1 154 7) + (Int32.ofInt 1)))) from ⟨rfl, ex_154 (k_P l), ex_154 (k_P l), rfl, rfl, ?_⟩)
        rw [show h.1 154 7 = nI a from k_a l, xw_i1]
        have l1 : rk h 0 τ N (a + 1, C) (am_wI h 154 7 (nI (a + 1))) := rk_nx (a := a) (C := C) l hn
        have r1 : rkW W (am_wI h 154 7 (nI (a + 1))) := rkW_w (Or.inl rfl) r
        have w1 : wkq h0 (am_wI h 154 7 (nI (a + 1))) := wkq_w (Or.inl ⟨rfl, rfl⟩) w
        refine am_goX 6 (show 3 < 4 ∧ pz_S 4 (some .int) am_r219 5 Q 93 [(3, .int ((Int8.ofInt 125).toInt32 + ((Int32.ofInt 3) * (nI W.1)))), (2, .int (Int32.ofInt 2)), (1, .int (nI W.1)), (0, .ref 154)] [] (am_wI h 154 7 (nI (a + 1))) from ⟨by decide, ?_⟩)
        rw [show ((Int8.ofInt 125).toInt32 + ((Int32.ofInt 3) * (nI W.1))) = nI (125 + 3 * W.1) by rw [show Int32.ofInt 3 * nI W.1 = nI (3 * W.1) from nI_mul 3 _]; exact nI_add 125 _]
        refine am_goX 2 (show am_sh (am_wI h 154 7 (nI (a + 1))) 154 = some (11, 0) ∧ pz_S 4 (some .int) am_r219 5 Q 97 [(3, .int (nI (125 + 3 * W.1))), (2, .int (Int32.ofInt 2)), (1, .int (nI W.1)), (0, .ref 154)] [am_rf ((am_wI h 154 7 (nI (a + 1))).2.2.1 154 21)] (am_wI h 154 7 (nI (a + 1))) from ⟨ex_154 (k_P l1), ?_⟩)
        rw [ex_r154_21 (h := am_wI h 154 7 (nI (a + 1))) (k_P l1)]
        refine am_goX 3 (show ∃ jj nn : Nat, am_so (am_wI h 154 7 (nI (a + 1))) 167 = some (13, nn) ∧ jj < nn ∧ (nI (125 + 3 * W.1)) = nI jj ∧ pz_S 4 (some .int) am_r219 5 Q 100 [(3, .int (nI (125 + 3 * W.1))), (2, .int (Int32.ofInt 2)), (1, .int (nI W.1)), (0, .ref 154)] [] (am_wI (am_wI h 154 7 (nI (a + 1))) 167 jj ((Int32.ofInt 2))) from ⟨(125 + 3 * W.1), 250, ex_w167 (k_P l1), by omega, rfl, ?_⟩)
        have l2 := rk_w7 (k := 125 + 3 * W.1) (v := (Int32.ofInt 2)) l1
        have r2 := rkW_w (o := 167) (k := 125 + 3 * W.1) (v := (Int32.ofInt 2)) (Or.inr ⟨rfl, by omega⟩) r1
        have w2 := wkq_w (o := 167) (k := 125 + 3 * W.1) (v := (Int32.ofInt 2)) (Or.inr ⟨rfl, by omega⟩) w1
        have x1 : (am_wI (am_wI h 154 7 (nI (a + 1))) 167 (125 + 3 * W.1) ((Int32.ofInt 2))).1 167 (125 + 3 * W.1) = rwh 1 := (em_we _ _ _ _).trans (by decide)
        refine am_goX 2 (show am_sh (am_wI (am_wI h 154 7 (nI (a + 1))) 167 (125 + 3 * W.1) ((Int32.ofInt 2))) 154 = some (11, 0) ∧ pz_S 4 (some .int) am_r219 5 Q 104 [(3, .int (nI (125 + 3 * W.1))), (2, .int (Int32.ofInt 2)), (1, .int (nI W.1)), (0, .ref 154)] [am_rf ((am_wI (am_wI h 154 7 (nI (a + 1))) 167 (125 + 3 * W.1) ((Int32.ofInt 2))).2.2.1 154 21)] (am_wI (am_wI h 154 7 (nI (a + 1))) 167 (125 + 3 * W.1) ((Int32.ofInt 2))) from ⟨ex_154 (k_P l2), ?_⟩)
        rw [ex_r154_21 (h := am_wI (am_wI h 154 7 (nI (a + 1))) 167 (125 + 3 * W.1) ((Int32.ofInt 2))) (k_P l2)]
        refine am_goX 5 (show (¬ (Int32.ofInt 2) = 0 → pz_S 4 (some .int) am_r219 5 Q 115 [(3, .int (nI (125 + 3 * W.1))), (2, .int (Int32.ofInt 2)), (1, .int (nI W.1)), (0, .ref 154)] [.int ((nI (125 + 3 * W.1)) + (Int32.ofInt 1)), .ref 167] (am_wI (am_wI h 154 7 (nI (a + 1))) 167 (125 + 3 * W.1) ((Int32.ofInt 2)))) ∧ (¬ ¬ (Int32.ofInt 2) = 0 → pz_S 4 (some .int) am_r219 5 Q 111 [(3, .int (nI (125 + 3 * W.1))), (2, .int (Int32.ofInt 2)), (1, .int (nI W.1)), (0, .ref 154)] [.int ((nI (125 + 3 * W.1)) + (Int32.ofInt 1)), .ref 167] (am_wI (am_wI h 154 7 (nI (a + 1))) 167 (125 + 3 * W.1) ((Int32.ofInt 2)))) from ⟨fun _ => ?_, fun hz => absurd (by decide) hz⟩)
        refine am_goX 5 (show am_rc (am_wI (am_wI h 154 7 (nI (a + 1))) 167 (125 + 3 * W.1) ((Int32.ofInt 2))) 154 11 ∧ 2 ≤ 8 ∧ (am_wI (am_wI h 154 7 (nI (a + 1))) 167 (125 + 3 * W.1) ((Int32.ofInt 2))).2.2.2.2 + am_al 206 ≤ 175 ∧ am_call am_cod 5 206 [.ref 154, .int (Int32.ofInt 0), .int (Int32.ofInt 0), .int (Int32.ofInt 0)] (am_wI (am_wI h 154 7 (nI (a + 1))) 167 (125 + 3 * W.1) ((Int32.ofInt 2))) (fun vv h' => pz_S 4 (some .int) am_r219 5 Q 122 [(3, .int (nI (125 + 3 * W.1))), (2, .int (Int32.ofInt 2)), (1, .int (nI W.1)), (0, .ref 154)] (vv.toList ++ [.int ((nI (125 + 3 * W.1)) + (Int32.ofInt 1)), .ref 167]) h') from ⟨Or.inl ⟨by decide, ex_154 (k_P l2)⟩, by decide, ex_lim (k_P l2) rfl, am_call.up (k_206p (s := (a + 1, C)) l2 (fun F g1 e4 x => ?_) (fun p g1 e4 e5 l3 => ?_)) (by decide)⟩)
        ·
          have r3 := rkW_q r2 x.2.2
          have w3 := wkq_q w2 x.2.2
          refine am_goX 1 (show ∃ jj nn : Nat, am_so g1 167 = some (13, nn) ∧ jj < nn ∧ ((nI (125 + 3 * W.1)) + (Int32.ofInt 1)) = nI jj ∧ pz_S 4 (some .int) am_r219 5 Q 123 [(3, .int (nI (125 + 3 * W.1))), (2, .int (Int32.ofInt 2)), (1, .int (nI W.1)), (0, .ref 154)] [] (am_wI g1 167 jj ((Int32.ofInt 0))) from ⟨(126 + 3 * W.1), 250, ex_w167 x.1, by omega, (by rw [xw_i1]; congr 1; omega), ?_⟩)
          have x4 := rkx_w7 (k := 126 + 3 * W.1) (v := (Int32.ofInt 0)) x
          have r4 := rkW_w (o := 167) (k := 126 + 3 * W.1) (v := (Int32.ofInt 0)) (Or.inr ⟨rfl, by omega⟩) r3
          have w4 := wkq_w (o := 167) (k := 126 + 3 * W.1) (v := (Int32.ofInt 0)) (Or.inr ⟨rfl, by omega⟩) w3
          refine am_goX 2 (show am_sh (am_wI g1 167 (126 + 3 * W.1) ((Int32.ofInt 0))) 154 = some (11, 0) ∧ pz_S 4 (some .int) am_r219 5 Q 127 [(3, .int (nI (125 + 3 * W.1))), (2, .int (Int32.ofInt 2)), (1, .int (nI W.1)), (0, .ref 154)] [am_rf ((am_wI g1 167 (126 + 3 * W.1) ((Int32.ofInt 0))).2.2.1 154 21)] (am_wI g1 167 (126 + 3 * W.1) ((Int32.ofInt 0))) from ⟨ex_154 x4.1, ?_⟩)
          rw [ex_r154_21 (h := am_wI g1 167 (126 + 3 * W.1) ((Int32.ofInt 0))) x4.1]
          refine am_goX 6 (show (¬ (Int32.ofInt 2) = (Int32.ofInt 2) → pz_S 4 (some .int) am_r219 5 Q 144 [(3, .int (nI (125 + 3 * W.1))), (2, .int (Int32.ofInt 2)), (1, .int (nI W.1)), (0, .ref 154)] [.int ((nI (125 + 3 * W.1)) + (Int32.ofInt 2)), .ref 167] (am_wI g1 167 (126 + 3 * W.1) ((Int32.ofInt 0)))) ∧ (¬ ¬ (Int32.ofInt 2) = (Int32.ofInt 2) → pz_S 4 (some .int) am_r219 5 Q 135 [(3, .int (nI (125 + 3 * W.1))), (2, .int (Int32.ofInt 2)), (1, .int (nI W.1)), (0, .ref 154)] [.int ((nI (125 + 3 * W.1)) + (Int32.ofInt 2)), .ref 167] (am_wI g1 167 (126 + 3 * W.1) ((Int32.ofInt 0)))) from ⟨fun hz => absurd hz (by decide), fun _ => ?_⟩)
          refine am_goX 4 (show am_rc (am_wI g1 167 (126 + 3 * W.1) ((Int32.ofInt 0))) 154 11 ∧ 2 ≤ 8 ∧ (am_wI g1 167 (126 + 3 * W.1) ((Int32.ofInt 0))).2.2.2.2 + am_al 205 ≤ 175 ∧ am_call am_cod 5 205 [.ref 154, .int (Int32.ofInt 0), .int (Int32.ofInt 4)] (am_wI g1 167 (126 + 3 * W.1) ((Int32.ofInt 0))) (fun vv h' => pz_S 4 (some .int) am_r219 5 Q 141 [(3, .int (nI (125 + 3 * W.1))), (2, .int (Int32.ofInt 2)), (1, .int (nI W.1)), (0, .ref 154)] (vv.toList ++ [.int ((nI (125 + 3 * W.1)) + (Int32.ofInt 2)), .ref 167]) h') from ⟨Or.inl ⟨by decide, ex_154 x4.1⟩, by decide, ex_lim x4.1 rfl, am_call.up (e_205 x4 ?_) (by decide)⟩)
          refine am_goX 2 (show ∃ jj nn : Nat, am_so (am_wI g1 167 (126 + 3 * W.1) ((Int32.ofInt 0))) 167 = some (13, nn) ∧ jj < nn ∧ ((nI (125 + 3 * W.1)) + (Int32.ofInt 2)) = nI jj ∧ pz_S 4 (some .int) am_r219 5 Q 146 [(3, .int (nI (125 + 3 * W.1))), (2, .int (Int32.ofInt 2)), (1, .int (nI W.1)), (0, .ref 154)] [] (am_wI (am_wI g1 167 (126 + 3 * W.1) ((Int32.ofInt 0))) 167 jj ((Int32.ofInt 0))) from ⟨(127 + 3 * W.1), 250, ex_w167 x4.1, by omega, (by rw [show Int32.ofInt 2 = nI 2 from rfl, nI_add]; congr 1; omega), ?_⟩)
          have x5 := rkx_w7 (k := 127 + 3 * W.1) (v := (Int32.ofInt 0)) x4
          have r5 := rkW_w (o := 167) (k := 127 + 3 * W.1) (v := (Int32.ofInt 0)) (Or.inr ⟨rfl, by omega⟩) r4
          have w5 := wkq_w (o := 167) (k := 127 + 3 * W.1) (v := (Int32.ofInt 0)) (Or.inr ⟨rfl, by omega⟩) w4
          refine am_goX 4 (show 1 < 4 ∧ am_rc (am_wI (am_wI g1 167 (126 + 3 * W.1) ((Int32.ofInt 0))) 167 (127 + 3 * W.1) ((Int32.ofInt 0))) 154 11 ∧ 0 ≤ 8 ∧ (am_wI (am_wI g1 167 (126 + 3 * W.1) ((Int32.ofInt 0))) 167 (127 + 3 * W.1) ((Int32.ofInt 0))).2.2.2.2 + am_al 218 ≤ 175 ∧ am_call am_cod 5 218 [.ref 154, .int (Int8.ofInt 59).toInt32] (am_wI (am_wI g1 167 (126 + 3 * W.1) ((Int32.ofInt 0))) 167 (127 + 3 * W.1) ((Int32.ofInt 0))) (fun vv h' => pz_S 4 (some .int) am_r219 5 Q 155 [(1, .int ((nI W.1) + Int32.ofInt 1)), (3, .int (nI (125 + 3 * W.1))), (2, .int (Int32.ofInt 2)), (0, .ref 154)] (vv.toList ++ []) h') from ⟨by decide, Or.inl ⟨by decide, ex_154 x5.1⟩, by decide, ex_lim x5.1 rfl, am_call.up (e_218 x5 ?_) (by decide)⟩)
          refine am_goX 3 (show am_sh (am_wI (am_wI g1 167 (126 + 3 * W.1) ((Int32.ofInt 0))) 167 (127 + 3 * W.1) ((Int32.ofInt 0))) 154 = some (11, 0) ∧ pz_S 4 (some .int) am_r219 5 Q 15 [(1, .int ((nI W.1) + Int32.ofInt 1)), (3, .int (nI (125 + 3 * W.1))), (2, .int (Int32.ofInt 2)), (0, .ref 154)] [.int ((am_wI (am_wI g1 167 (126 + 3 * W.1) ((Int32.ofInt 0))) 167 (127 + 3 * W.1) ((Int32.ofInt 0))).1 154 8)] (am_wI (am_wI g1 167 (126 + 3 * W.1) ((Int32.ofInt 0))) 167 (127 + 3 * W.1) ((Int32.ofInt 0))) from ⟨ex_154 x5.1, ?_⟩)
          rw [x5.2.1.1]
          refine am_goX 1 (show (¬ F = 0 → pz_S 4 (some .int) am_r219 5 Q 158 [(1, .int ((nI W.1) + Int32.ofInt 1)), (3, .int (nI (125 + 3 * W.1))), (2, .int (Int32.ofInt 2)), (0, .ref 154)] [] (am_wI (am_wI g1 167 (126 + 3 * W.1) ((Int32.ofInt 0))) 167 (127 + 3 * W.1) ((Int32.ofInt 0)))) ∧ (¬ ¬ F = 0 → pz_S 4 (some .int) am_r219 5 Q 18 [(1, .int ((nI W.1) + Int32.ofInt 1)), (3, .int (nI (125 + 3 * W.1))), (2, .int (Int32.ofInt 2)), (0, .ref 154)] [] (am_wI (am_wI g1 167 (126 + 3 * W.1) ((Int32.ofInt 0))) 167 (127 + 3 * W.1) ((Int32.ofInt 0)))) from ⟨fun _ => ?_, fun hz => absurd (rkx_ne x5) hz⟩)
          refine am_goX 2 (show am_sh (am_wI (am_wI g1 167 (126 + 3 * W.1) ((Int32.ofInt 0))) 167 (127 + 3 * W.1) ((Int32.ofInt 0))) 154 = some (11, 0) ∧ pz_S 4 (some .int) am_r219 5 Q 162 [(1, .int ((nI W.1) + Int32.ofInt 1)), (3, .int (nI (125 + 3 * W.1))), (2, .int (Int32.ofInt 2)), (0, .ref 154)] [.int ((am_wI (am_wI g1 167 (126 + 3 * W.1) ((Int32.ofInt 0))) 167 (127 + 3 * W.1) ((Int32.ofInt 0))).1 154 8)] (am_wI (am_wI g1 167 (126 + 3 * W.1) ((Int32.ofInt 0))) 167 (127 + 3 * W.1) ((Int32.ofInt 0))) from ⟨ex_154 x5.1, ?_⟩)
          rw [x5.2.1.1]
          refine am_goX 1 (show (F ≤ 0 → pz_S 4 (some .int) am_r219 5 Q 170 [(1, .int ((nI W.1) + Int32.ofInt 1)), (3, .int (nI (125 + 3 * W.1))), (2, .int (Int32.ofInt 2)), (0, .ref 154)] [] (am_wI (am_wI g1 167 (126 + 3 * W.1) ((Int32.ofInt 0))) 167 (127 + 3 * W.1) ((Int32.ofInt 0)))) ∧ (¬ (F ≤ 0) → pz_S 4 (some .int) am_r219 5 Q 165 [(1, .int ((nI W.1) + Int32.ofInt 1)), (3, .int (nI (125 + 3 * W.1))), (2, .int (Int32.ofInt 2)), (0, .ref 154)] [] (am_wI (am_wI g1 167 (126 + 3 * W.1) ((Int32.ofInt 0))) 167 (127 + 3 * W.1) ((Int32.ofInt 0)))) from ⟨fun hz => absurd hz (rkx_le x5), fun _ => ?_⟩)
          refine am_goX 2 (show am_sh (am_wI (am_wI g1 167 (126 + 3 * W.1) ((Int32.ofInt 0))) 167 (127 + 3 * W.1) ((Int32.ofInt 0))) 154 = some (11, 0) ∧ pz_S 4 (some .int) am_r219 5 Q 169 [(1, .int ((nI W.1) + Int32.ofInt 1)), (3, .int (nI (125 + 3 * W.1))), (2, .int (Int32.ofInt 2)), (0, .ref 154)] [.int ((am_wI (am_wI g1 167 (126 + 3 * W.1) ((Int32.ofInt 0))) 167 (127 + 3 * W.1) ((Int32.ofInt 0))).1 154 8)] (am_wI (am_wI g1 167 (126 + 3 * W.1) ((Int32.ofInt 0))) 167 (127 + 3 * W.1) ((Int32.ofInt 0))) from ⟨ex_154 x5.1, ?_⟩)
          rw [x5.2.1.1]
          exact am_goX 1 (show (∃ ty, (some .int) = some ty ∧ narrow ty (.int (F)) = .int (F)) ∧ (am_wI (am_wI g1 167 (126 + 3 * W.1) ((Int32.ofInt 0))) 167 (127 + 3 * W.1) ((Int32.ofInt 0))).2.2.2.2 = 175 ∧ _ from ⟨⟨.int, rfl, rfl⟩, ex_175 x5.1, hF F _ (by unfold sw_all; rw [e2, cond_false, show sw_line τ (C.1.1, C.1.2.1) (a, W) = .inl F from (by unfold sw_line; dsimp only; simp only [ea, e3, show decide ((1 : Int32) = 0) = false from by decide, show decide ((1 : Int32) = 1) = true from by decide, decide_true, cond_true, cond_false, pn_F e4])]) x5.1 (w5)⟩)
        ·
          have r3 := rkW_q r2 l3.2.2.1
          have w3 := wkq_q w2 l3.2.2.1
          have x1 := (l3.2.2.1.2 167 (125 + 3 * W.1) (by omega)).1.trans x1
          refine am_goX 1 (show ∃ jj nn : Nat, am_so g1 167 = some (13, nn) ∧ jj < nn ∧ ((nI (125 + 3 * W.1)) + (Int32.ofInt 1)) = nI jj ∧ pz_S 4 (some .int) am_r219 5 Q 123 [(3, .int (nI (125 + 3 * W.1))), (2, .int (Int32.ofInt 2)), (1, .int (nI W.1)), (0, .ref 154)] [] (am_wI g1 167 jj ((nI p))) from ⟨(126 + 3 * W.1), 250, ex_w167 (k_P l3), by omega, (by rw [xw_i1]; congr 1; omega), ?_⟩)
          have l4 := rk_w7 (k := 126 + 3 * W.1) (v := (nI p)) l3
          have r4 := rkW_w (o := 167) (k := 126 + 3 * W.1) (v := (nI p)) (Or.inr ⟨rfl, by omega⟩) r3
          have w4 := wkq_w (o := 167) (k := 126 + 3 * W.1) (v := (nI p)) (Or.inr ⟨rfl, by omega⟩) w3
          have x1 : (am_wI g1 167 (126 + 3 * W.1) ((nI p))).1 167 (125 + 3 * W.1) = _ := (em_wn _ _ (by omega)).trans x1
          have x2 : (am_wI g1 167 (126 + 3 * W.1) ((nI p))).1 167 (126 + 3 * W.1) = nI p := em_we _ _ _ _
          refine am_goX 2 (show am_sh (am_wI g1 167 (126 + 3 * W.1) ((nI p))) 154 = some (11, 0) ∧ pz_S 4 (some .int) am_r219 5 Q 127 [(3, .int (nI (125 + 3 * W.1))), (2, .int (Int32.ofInt 2)), (1, .int (nI W.1)), (0, .ref 154)] [am_rf ((am_wI g1 167 (126 + 3 * W.1) ((nI p))).2.2.1 154 21)] (am_wI g1 167 (126 + 3 * W.1) ((nI p))) from ⟨ex_154 (k_P l4), ?_⟩)
          rw [ex_r154_21 (h := am_wI g1 167 (126 + 3 * W.1) ((nI p))) (k_P l4)]
          refine am_goX 6 (show (¬ (Int32.ofInt 2) = (Int32.ofInt 2) → pz_S 4 (some .int) am_r219 5 Q 144 [(3, .int (nI (125 + 3 * W.1))), (2, .int (Int32.ofInt 2)), (1, .int (nI W.1)), (0, .ref 154)] [.int ((nI (125 + 3 * W.1)) + (Int32.ofInt 2)), .ref 167] (am_wI g1 167 (126 + 3 * W.1) ((nI p)))) ∧ (¬ ¬ (Int32.ofInt 2) = (Int32.ofInt 2) → pz_S 4 (some .int) am_r219 5 Q 135 [(3, .int (nI (125 + 3 * W.1))), (2, .int (Int32.ofInt 2)), (1, .int (nI W.1)), (0, .ref 154)] [.int ((nI (125 + 3 * W.1)) + (Int32.ofInt 2)), .ref 167] (am_wI g1 167 (126 + 3 * W.1) ((nI p)))) from ⟨fun hz => absurd hz (by decide), fun _ => ?_⟩)
          refine am_goX 4 (show am_rc (am_wI g1 167 (126 + 3 * W.1) ((nI p))) 154 11 ∧ 2 ≤ 8 ∧ (am_wI g1 167 (126 + 3 * W.1) ((nI p))).2.2.2.2 + am_al 205 ≤ 175 ∧ am_call am_cod 5 205 [.ref 154, .int (Int32.ofInt 0), .int (Int32.ofInt 4)] (am_wI g1 167 (126 + 3 * W.1) ((nI p))) (fun vv h' => pz_S 4 (some .int) am_r219 5 Q 141 [(3, .int (nI (125 + 3 * W.1))), (2, .int (Int32.ofInt 2)), (1, .int (nI W.1)), (0, .ref 154)] (vv.toList ++ [.int ((nI (125 + 3 * W.1)) + (Int32.ofInt 2)), .ref 167]) h') from ⟨Or.inl ⟨by decide, ex_154 (k_P l4)⟩, by decide, ex_lim (k_P l4) rfl, am_call.up (k_205 (s := (a + 1 + 1, C)) l4 (fun F g2 e6 x => ?_) (fun g2 e6 l5 => ?_)) (by decide)⟩)
          ·
            have r5 := rkW_q r4 x.2.2
            have w5 := wkq_q w4 x.2.2
            refine am_goX 2 (show ∃ jj nn : Nat, am_so g2 167 = some (13, nn) ∧ jj < nn ∧ ((nI (125 + 3 * W.1)) + (Int32.ofInt 2)) = nI jj ∧ pz_S 4 (some .int) am_r219 5 Q 146 [(3, .int (nI (125 + 3 * W.1))), (2, .int (Int32.ofInt 2)), (1, .int (nI W.1)), (0, .ref 154)] [] (am_wI g2 167 jj ((Int32.ofInt 0))) from ⟨(127 + 3 * W.1), 250, ex_w167 x.1, by omega, (by rw [show Int32.ofInt 2 = nI 2 from rfl, nI_add]; congr 1; omega), ?_⟩)
            have x6 := rkx_w7 (k := 127 + 3 * W.1) (v := (Int32.ofInt 0)) x
            have r6 := rkW_w (o := 167) (k := 127 + 3 * W.1) (v := (Int32.ofInt 0)) (Or.inr ⟨rfl, by omega⟩) r5
            have w6 := wkq_w (o := 167) (k := 127 + 3 * W.1) (v := (Int32.ofInt 0)) (Or.inr ⟨rfl, by omega⟩) w5
            refine am_goX 4 (show 1 < 4 ∧ am_rc (am_wI g2 167 (127 + 3 * W.1) ((Int32.ofInt 0))) 154 11 ∧ 0 ≤ 8 ∧ (am_wI g2 167 (127 + 3 * W.1) ((Int32.ofInt 0))).2.2.2.2 + am_al 218 ≤ 175 ∧ am_call am_cod 5 218 [.ref 154, .int (Int8.ofInt 59).toInt32] (am_wI g2 167 (127 + 3 * W.1) ((Int32.ofInt 0))) (fun vv h' => pz_S 4 (some .int) am_r219 5 Q 155 [(1, .int ((nI W.1) + Int32.ofInt 1)), (3, .int (nI (125 + 3 * W.1))), (2, .int (Int32.ofInt 2)), (0, .ref 154)] (vv.toList ++ []) h') from ⟨by decide, Or.inl ⟨by decide, ex_154 x6.1⟩, by decide, ex_lim x6.1 rfl, am_call.up (e_218 x6 ?_) (by decide)⟩)
            refine am_goX 3 (show am_sh (am_wI g2 167 (127 + 3 * W.1) ((Int32.ofInt 0))) 154 = some (11, 0) ∧ pz_S 4 (some .int) am_r219 5 Q 15 [(1, .int ((nI W.1) + Int32.ofInt 1)), (3, .int (nI (125 + 3 * W.1))), (2, .int (Int32.ofInt 2)), (0, .ref 154)] [.int ((am_wI g2 167 (127 + 3 * W.1) ((Int32.ofInt 0))).1 154 8)] (am_wI g2 167 (127 + 3 * W.1) ((Int32.ofInt 0))) from ⟨ex_154 x6.1, ?_⟩)
            rw [x6.2.1.1]
            refine am_goX 1 (show (¬ F = 0 → pz_S 4 (some .int) am_r219 5 Q 158 [(1, .int ((nI W.1) + Int32.ofInt 1)), (3, .int (nI (125 + 3 * W.1))), (2, .int (Int32.ofInt 2)), (0, .ref 154)] [] (am_wI g2 167 (127 + 3 * W.1) ((Int32.ofInt 0)))) ∧ (¬ ¬ F = 0 → pz_S 4 (some .int) am_r219 5 Q 18 [(1, .int ((nI W.1) + Int32.ofInt 1)), (3, .int (nI (125 + 3 * W.1))), (2, .int (Int32.ofInt 2)), (0, .ref 154)] [] (am_wI g2 167 (127 + 3 * W.1) ((Int32.ofInt 0)))) from ⟨fun _ => ?_, fun hz => absurd (rkx_ne x6) hz⟩)
            refine am_goX 2 (show am_sh (am_wI g2 167 (127 + 3 * W.1) ((Int32.ofInt 0))) 154 = some (11, 0) ∧ pz_S 4 (some .int) am_r219 5 Q 162 [(1, .int ((nI W.1) + Int32.ofInt 1)), (3, .int (nI (125 + 3 * W.1))), (2, .int (Int32.ofInt 2)), (0, .ref 154)] [.int ((am_wI g2 167 (127 + 3 * W.1) ((Int32.ofInt 0))).1 154 8)] (am_wI g2 167 (127 + 3 * W.1) ((Int32.ofInt 0))) from ⟨ex_154 x6.1, ?_⟩)
            rw [x6.2.1.1]
            refine am_goX 1 (show (F ≤ 0 → pz_S 4 (some .int) am_r219 5 Q 170 [(1, .int ((nI W.1) + Int32.ofInt 1)), (3, .int (nI (125 + 3 * W.1))), (2, .int (Int32.ofInt 2)), (0, .ref 154)] [] (am_wI g2 167 (127 + 3 * W.1) ((Int32.ofInt 0)))) ∧ (¬ (F ≤ 0) → pz_S 4 (some .int) am_r219 5 Q 165 [(1, .int ((nI W.1) + Int32.ofInt 1)), (3, .int (nI (125 + 3 * W.1))), (2, .int (Int32.ofInt 2)), (0, .ref 154)] [] (am_wI g2 167 (127 + 3 * W.1) ((Int32.ofInt 0)))) from ⟨fun hz => absurd hz (rkx_le x6), fun _ => ?_⟩)
            refine am_goX 2 (show am_sh (am_wI g2 167 (127 + 3 * W.1) ((Int32.ofInt 0))) 154 = some (11, 0) ∧ pz_S 4 (some .int) am_r219 5 Q 169 [(1, .int ((nI W.1) + Int32.ofInt 1)), (3, .int (nI (125 + 3 * W.1))), (2, .int (Int32.ofInt 2)), (0, .ref 154)] [.int ((am_wI g2 167 (127 + 3 * W.1) ((Int32.ofInt 0))).1 154 8)] (am_wI g2 167 (127 + 3 * W.1) ((Int32.ofInt 0))) from ⟨ex_154 x6.1, ?_⟩)
            rw [x6.2.1.1]
            exact am_goX 1 (show (∃ ty, (some .int) = some ty ∧ narrow ty (.int (F)) = .int (F)) ∧ (am_wI g2 167 (127 + 3 * W.1) ((Int32.ofInt 0))).2.2.2.2 = 175 ∧ _ from ⟨⟨.int, rfl, rfl⟩, ex_175 x6.1, hF F _ (by unfold sw_all; rw [e2, cond_false, show sw_line τ (C.1.1, C.1.2.1) (a, W) = .inl F from (by unfold sw_line; dsimp only; simp only [ea, e3, show decide ((1 : Int32) = 0) = false from by decide, show decide ((1 : Int32) = 1) = true from by decide, decide_true, cond_true, cond_false, pn_S e4 e5, lt_F e6])]) x6.1 (w6)⟩)
          ·
            have r5 := rkW_q r4 l5.2.2.1
            have w5 := wkq_q w4 l5.2.2.1
            have x1 := (l5.2.2.1.2 167 (125 + 3 * W.1) (by omega)).1.trans x1
            have x2 := (l5.2.2.1.2 167 (126 + 3 * W.1) (by omega)).1.trans x2
            refine am_goX 2 (show ∃ jj nn : Nat, am_so g2 167 = some (13, nn) ∧ jj < nn ∧ ((nI (125 + 3 * W.1)) + (Int32.ofInt 2)) = nI jj ∧ pz_S 4 (some .int) am_r219 5 Q 146 [(3, .int (nI (125 + 3 * W.1))), (2, .int (Int32.ofInt 2)), (1, .int (nI W.1)), (0, .ref 154)] [] (am_wI g2 167 jj ((sp_v τ (a + 1 + 1)))) from ⟨(127 + 3 * W.1), 250, ex_w167 (k_P l5), by omega, (by rw [show Int32.ofInt 2 = nI 2 from rfl, nI_add]; congr 1; omega), ?_⟩)
            have l6 := rk_w7 (k := 127 + 3 * W.1) (v := (sp_v τ (a + 1 + 1))) l5
            have r6 := rkW_w (o := 167) (k := 127 + 3 * W.1) (v := (sp_v τ (a + 1 + 1))) (Or.inr ⟨rfl, by omega⟩) r5
            have w6 := wkq_w (o := 167) (k := 127 + 3 * W.1) (v := (sp_v τ (a + 1 + 1))) (Or.inr ⟨rfl, by omega⟩) w5
            have x1 : (am_wI g2 167 (127 + 3 * W.1) ((sp_v τ (a + 1 + 1)))).1 167 (125 + 3 * W.1) = _ := (em_wn _ _ (by omega)).trans x1
            have x2 : (am_wI g2 167 (127 + 3 * W.1) ((sp_v τ (a + 1 + 1)))).1 167 (126 + 3 * W.1) = _ := (em_wn _ _ (by omega)).trans x2
            have x3 : (am_wI g2 167 (127 + 3 * W.1) ((sp_v τ (a + 1 + 1)))).1 167 (127 + 3 * W.1) = sp_v τ (a + 1 + 1) := em_we _ _ _ _
            refine am_goX 4 (show 1 < 4 ∧ am_rc (am_wI g2 167 (127 + 3 * W.1) ((sp_v τ (a + 1 + 1)))) 154 11 ∧ 0 ≤ 8 ∧ (am_wI g2 167 (127 + 3 * W.1) ((sp_v τ (a + 1 + 1)))).2.2.2.2 + am_al 218 ≤ 175 ∧ am_call am_cod 5 218 [.ref 154, .int (Int8.ofInt 59).toInt32] (am_wI g2 167 (127 + 3 * W.1) ((sp_v τ (a + 1 + 1)))) (fun vv h' => pz_S 4 (some .int) am_r219 5 Q 155 [(1, .int ((nI W.1) + Int32.ofInt 1)), (3, .int (nI (125 + 3 * W.1))), (2, .int (Int32.ofInt 2)), (0, .ref 154)] (vv.toList ++ []) h') from ⟨by decide, Or.inl ⟨by decide, ex_154 (k_P l6)⟩, by decide, ex_lim (k_P l6) rfl, am_call.up (k_218 (s := (a + 1 + 1 + 1, C)) l6 (fun F g3 e9 y => ?_) (fun g3 e9 l7 => ?_)) (by decide)⟩)
            ·
              refine am_goX 3 (show am_sh g3 154 = some (11, 0) ∧ pz_S 4 (some .int) am_r219 5 Q 15 [(1, .int ((nI W.1) + Int32.ofInt 1)), (3, .int (nI (125 + 3 * W.1))), (2, .int (Int32.ofInt 2)), (0, .ref 154)] [.int (g3.1 154 8)] g3 from ⟨ex_154 y.1, ?_⟩)
              rw [y.2.1.1]
              refine am_goX 1 (show (¬ F = 0 → pz_S 4 (some .int) am_r219 5 Q 158 [(1, .int ((nI W.1) + Int32.ofInt 1)), (3, .int (nI (125 + 3 * W.1))), (2, .int (Int32.ofInt 2)), (0, .ref 154)] [] g3) ∧ (¬ ¬ F = 0 → pz_S 4 (some .int) am_r219 5 Q 18 [(1, .int ((nI W.1) + Int32.ofInt 1)), (3, .int (nI (125 + 3 * W.1))), (2, .int (Int32.ofInt 2)), (0, .ref 154)] [] g3) from ⟨fun _ => ?_, fun hz => absurd (rkx_ne y) hz⟩)
              refine am_goX 2 (show am_sh g3 154 = some (11, 0) ∧ pz_S 4 (some .int) am_r219 5 Q 162 [(1, .int ((nI W.1) + Int32.ofInt 1)), (3, .int (nI (125 + 3 * W.1))), (2, .int (Int32.ofInt 2)), (0, .ref 154)] [.int (g3.1 154 8)] g3 from ⟨ex_154 y.1, ?_⟩)
              rw [y.2.1.1]
              refine am_goX 1 (show (F ≤ 0 → pz_S 4 (some .int) am_r219 5 Q 170 [(1, .int ((nI W.1) + Int32.ofInt 1)), (3, .int (nI (125 + 3 * W.1))), (2, .int (Int32.ofInt 2)), (0, .ref 154)] [] g3) ∧ (¬ (F ≤ 0) → pz_S 4 (some .int) am_r219 5 Q 165 [(1, .int ((nI W.1) + Int32.ofInt 1)), (3, .int (nI (125 + 3 * W.1))), (2, .int (Int32.ofInt 2)), (0, .ref 154)] [] g3) from ⟨fun hz => absurd hz (rkx_le y), fun _ => ?_⟩)
              refine am_goX 2 (show am_sh g3 154 = some (11, 0) ∧ pz_S 4 (some .int) am_r219 5 Q 169 [(1, .int ((nI W.1) + Int32.ofInt 1)), (3, .int (nI (125 + 3 * W.1))), (2, .int (Int32.ofInt 2)), (0, .ref 154)] [.int (g3.1 154 8)] g3 from ⟨ex_154 y.1, ?_⟩)
              rw [y.2.1.1]
              exact am_goX 1 (show (∃ ty, (some .int) = some ty ∧ narrow ty (.int (F)) = .int (F)) ∧ g3.2.2.2.2 = 175 ∧ _ from ⟨⟨.int, rfl, rfl⟩, ex_175 y.1, hF F _ (by unfold sw_all; rw [e2, cond_false, show sw_line τ (C.1.1, C.1.2.1) (a, W) = .inl F from (by unfold sw_line; dsimp only; simp only [ea, e3, show decide ((1 : Int32) = 0) = false from by decide, show decide ((1 : Int32) = 1) = true from by decide, decide_true, cond_true, cond_false, pn_S e4 e5, lt_S e6, end_F e9])]) y.1 (wkq_q w6 y.2.2)⟩)
            ·
              have r8 := rkW_q r6 l7.2.2.1
              have w8 := wkq_q w6 l7.2.2.1
              have x1 := (l7.2.2.1.2 167 (125 + 3 * W.1) (by omega)).1.trans x1
              have x2 := (l7.2.2.1.2 167 (126 + 3 * W.1) (by omega)).1.trans x2
              have x3 := (l7.2.2.1.2 167 (127 + 3 * W.1) (by omega)).1.trans x3
              refine am_goX 1 (show pz_S 4 (some .int) am_r219 5 Q 11 [(1, .int ((nI W.1) + Int32.ofInt 1)), (3, .int (nI (125 + 3 * W.1))), (2, .int (Int32.ofInt 2)), (0, .ref 154)] [] g3 from ?_)
              rw [xw_i1]
              have hx : sw_all τ (C.1.1, C.1.2.1) (m + 1) (a, W) = sw_all τ (C.1.1, C.1.2.1) m (a + 1 + 1 + 1 + 1, sw_ad W 1 (nI p) (sp_v τ (a + 1 + 1))) := by
                conv => lhs; unfold sw_all
                rw [e2, cond_false, show sw_line τ (C.1.1, C.1.2.1) (a, W) = .inr (a + 1 + 1 + 1 + 1, sw_ad W 1 (nI p) (sp_v τ (a + 1 + 1))) from (by unfold sw_line; dsimp only; simp only [ea, e3, show decide ((1 : Int32) = 0) = false from by decide, show decide ((1 : Int32) = 1) = true from by decide, decide_true, cond_true, cond_false, pn_S e4 e5, lt_S e6, end_S e9])]
              exact k_219l m (a + 1 + 1 + 1 + 1) (sw_ad W 1 (nI p) (sp_v τ (a + 1 + 1))) _ _ g3 (by omega) (rk_b l7) (rkW_ad r8 hlt x1 x2 x3) w8 (fun F h1 e => hF F h1 (hx.trans e)) (fun t h1 e => hS t h1 (hx.trans e))
    ·
      rw [show sp_w τ (a, C).1 17003 = false from ew]
      refine am_goX 1 (show ((pz_b (false)) = 0 → pz_S 4 (some .int) am_r219 5 Q 42 [(1, .int (nI W.1)), (0, .ref 154)] [] h) ∧ (¬ ((pz_b (false)) = 0) → pz_S 4 (some .int) am_r219 5 Q 38 [(1, .int (nI W.1)), (0, .ref 154)] [] h) from ⟨fun _ => ?_, fun hz => absurd (by decide) hz⟩)
      refine am_goX 4 (show am_rc h 154 11 ∧ 0 ≤ 8 ∧ h.2.2.2.2 + am_al 199 ≤ 175 ∧ am_call am_cod 5 199 [.ref 154, .int (Int8.ofInt 8).toInt32, .int (Int32.ofInt 2)] h (fun vv h' => pz_S 4 (some .int) am_r219 5 Q 49 [(1, .int (nI W.1)), (0, .ref 154)] (vv.toList ++ []) h') from ⟨Or.inl ⟨by decide, ex_154 (k_P l)⟩, by decide, ex_lim (k_P l) rfl, am_call.up (k_199 (f := 8) (M := 2) (by decide) (by decide) (by decide) l ?_) (by decide)⟩)
      rw [show wq τ (a, C).1 8 2 = nI 1 from eq]
      refine am_goX 3 (show 2 < 4 ∧ (0 ≤ (nI 1) → pz_S 4 (some .int) am_r219 5 Q 62 [(2, .int (nI 1)), (1, .int (nI W.1)), (0, .ref 154)] [] h) ∧ (¬ (0 ≤ (nI 1)) → pz_S 4 (some .int) am_r219 5 Q 54 [(2, .int (nI 1)), (1, .int (nI W.1)), (0, .ref 154)] [] h) from ⟨by decide, fun _ => ?_, fun hz => absurd (by decide) hz⟩)
      refine am_goX 2 (show pz_S 4 (some .int) am_r219 5 Q 65 [(2, .int (nI 1)), (1, .int (nI W.1)), (0, .ref 154)] [.int (Int8.ofInt 40).toInt32, .int (nI W.1)] h from ?_)
      cases e3 : Nat.ble 40 W.1 with
      | true =>
        have e40 : W.1 = 40 := Nat.le_antisymm r.1 (Nat.le_of_ble_eq_true e3)
        refine am_goX 1 (show (¬ (nI W.1) = (Int8.ofInt 40).toInt32 → pz_S 4 (some .int) am_r219 5 Q 76 [(2, .int (nI 1)), (1, .int (nI W.1)), (0, .ref 154)] [] h) ∧ (¬ ¬ (nI W.1) = (Int8.ofInt 40).toInt32 → pz_S 4 (some .int) am_r219 5 Q 68 [(2, .int (nI 1)), (1, .int (nI W.1)), (0, .ref 154)] [] h) from ⟨fun hz => absurd hz (fun z => z ((n40 r.1).mpr e40)), fun _ => ?_⟩)
        refine am_goX 3 (show am_rc h 154 11 ∧ 0 ≤ 8 ∧ h.2.2.2.2 + am_al 197 ≤ 175 ∧ am_call am_cod 5 197 [.ref 154, .int (Int32.ofInt 5)] h (fun vv h' => pz_S 4 (some .int) am_r219 5 Q 73 [(2, .int (nI 1)), (1, .int (nI W.1)), (0, .ref 154)] (vv.toList ++ []) h') from ⟨Or.inl ⟨by decide, ex_154 (k_P l)⟩, by decide, ex_lim (k_P l) rfl, am_call.up (k_197 (k := Int32.ofInt 5) l ?_) (by decide)⟩)
        have x : rkx h (sp_ft τ a (Int32.ofInt 5)) (C.2.2.2.2.1 + 0) (am_wI h 154 8 (sp_ft τ a (Int32.ofInt 5))) := rk_x (s := (a, C)) l (by decide)
        generalize hFe : sp_ft τ a (Int32.ofInt 5) = F at x ⊢
        refine am_goX 4 (show am_rc (am_wI h 154 8 F) 154 11 ∧ 0 ≤ 8 ∧ (am_wI h 154 8 F).2.2.2.2 + am_al 218 ≤ 175 ∧ am_call am_cod 5 218 [.ref 154, .int (Int8.ofInt 59).toInt32] (am_wI h 154 8 F) (fun vv h' => pz_S 4 (some .int) am_r219 5 Q 155 [(2, .int (nI 1)), (1, .int (nI W.1)), (0, .ref 154)] (vv.toList ++ []) h') from ⟨Or.inl ⟨by decide, ex_154 x.1⟩, by decide, ex_lim x.1 rfl, am_call.up (e_218 x ?_) (by decide)⟩)
        refine am_goX 3 (show am_sh (am_wI h 154 8 F) 154 = some (11, 0) ∧ pz_S 4 (some .int) am_r219 5 Q 15 [(2, .int (nI 1)), (1, .int (nI W.1)), (0, .ref 154)] [.int ((am_wI h 154 8 F).1 154 8)] (am_wI h 154 8 F) from ⟨ex_154 x.1, ?_⟩)
        rw [x.2.1.1]
        refine am_goX 1 (show (¬ F = 0 → pz_S 4 (some .int) am_r219 5 Q 158 [(2, .int (nI 1)), (1, .int (nI W.1)), (0, .ref 154)] [] (am_wI h 154 8 F)) ∧ (¬ ¬ F = 0 → pz_S 4 (some .int) am_r219 5 Q 18 [(2, .int (nI 1)), (1, .int (nI W.1)), (0, .ref 154)] [] (am_wI h 154 8 F)) from ⟨fun _ => ?_, fun hz => absurd (rkx_ne x) hz⟩)
        refine am_goX 2 (show am_sh (am_wI h 154 8 F) 154 = some (11, 0) ∧ pz_S 4 (some .int) am_r219 5 Q 162 [(2, .int (nI 1)), (1, .int (nI W.1)), (0, .ref 154)] [.int ((am_wI h 154 8 F).1 154 8)] (am_wI h 154 8 F) from ⟨ex_154 x.1, ?_⟩)
        rw [x.2.1.1]
        refine am_goX 1 (show (F ≤ 0 → pz_S 4 (some .int) am_r219 5 Q 170 [(2, .int (nI 1)), (1, .int (nI W.1)), (0, .ref 154)] [] (am_wI h 154 8 F)) ∧ (¬ (F ≤ 0) → pz_S 4 (some .int) am_r219 5 Q 165 [(2, .int (nI 1)), (1, .int (nI W.1)), (0, .ref 154)] [] (am_wI h 154 8 F)) from ⟨fun hz => absurd hz (rkx_le x), fun _ => ?_⟩)
        refine am_goX 2 (show am_sh (am_wI h 154 8 F) 154 = some (11, 0) ∧ pz_S 4 (some .int) am_r219 5 Q 169 [(2, .int (nI 1)), (1, .int (nI W.1)), (0, .ref 154)] [.int ((am_wI h 154 8 F).1 154 8)] (am_wI h 154 8 F) from ⟨ex_154 x.1, ?_⟩)
        rw [x.2.1.1]
        exact am_goX 1 (show (∃ ty, (some .int) = some ty ∧ narrow ty (.int (F)) = .int (F)) ∧ (am_wI h 154 8 F).2.2.2.2 = 175 ∧ _ from ⟨⟨.int, rfl, rfl⟩, ex_175 x.1, hF F _ (by unfold sw_all; rw [e2, cond_false, show sw_line τ (C.1.1, C.1.2.1) (a, W) = .inl F from (by unfold sw_line; dsimp only; simp only [ea, e3, cond_true, ← hFe])]) x.1 (wkq_q w x.2.2)⟩)
      | false =>
        have hlt := j40n e3
        refine am_goX 1 (show (¬ (nI W.1) = (Int8.ofInt 40).toInt32 → pz_S 4 (some .int) am_r219 5 Q 76 [(2, .int (nI 1)), (1, .int (nI W.1)), (0, .ref 154)] [] h) ∧ (¬ ¬ (nI W.1) = (Int8.ofInt 40).toInt32 → pz_S 4 (some .int) am_r219 5 Q 68 [(2, .int (nI 1)), (1, .int (nI W.1)), (0, .ref 154)] [] h) from ⟨fun _ => ?_, fun hz => absurd (fun z => absurd ((n40 r.1).mp z) (by omega)) hz⟩)
        refine am_goX 6 (show (Value.ref 154).category = 1 ∧ am_sh h 154 = some (11, 0) ∧ am_sh h 154 = some (11, 0) ∧ narrow (am_fty 11 7) (.int (((h.1 154 7) + (Int32.ofInt 1)))) = .int (((h.1 154 7) + (Int32.ofInt 1))) ∧ fits (am_fty 11 7) (.int (((h.1 154 7) + (Int32.ofInt 1)))) = true ∧ pz_S 4 (some .int) am_r219 5 Q 86 [(2, .int (nI 1)), (1, .int (nI W.1)), (0, .ref 154)] [] (am_wI h 154 7 (((h.1 154 7) + (Int32.ofInt 1)))) from ⟨rfl, ex_154 (k_P l), ex_154 (k_P l), rfl, rfl, ?_⟩)
        rw [show h.1 154 7 = nI a from k_a l, xw_i1]
        have l1 : rk h 0 τ N (a + 1, C) (am_wI h 154 7 (nI (a + 1))) := rk_nx (a := a) (C := C) l hn
        have r1 : rkW W (am_wI h 154 7 (nI (a + 1))) := rkW_w (Or.inl rfl) r
        have w1 : wkq h0 (am_wI h 154 7 (nI (a + 1))) := wkq_w (Or.inl ⟨rfl, rfl⟩) w
        refine am_goX 6 (show 3 < 4 ∧ pz_S 4 (some .int) am_r219 5 Q 93 [(3, .int ((Int8.ofInt 125).toInt32 + ((Int32.ofInt 3) * (nI W.1)))), (2, .int (nI 1)), (1, .int (nI W.1)), (0, .ref 154)] [] (am_wI h 154 7 (nI (a + 1))) from ⟨by decide, ?_⟩)
        rw [show ((Int8.ofInt 125).toInt32 + ((Int32.ofInt 3) * (nI W.1))) = nI (125 + 3 * W.1) by rw [show Int32.ofInt 3 * nI W.1 = nI (3 * W.1) from nI_mul 3 _]; exact nI_add 125 _]
        refine am_goX 2 (show am_sh (am_wI h 154 7 (nI (a + 1))) 154 = some (11, 0) ∧ pz_S 4 (some .int) am_r219 5 Q 97 [(3, .int (nI (125 + 3 * W.1))), (2, .int (nI 1)), (1, .int (nI W.1)), (0, .ref 154)] [am_rf ((am_wI h 154 7 (nI (a + 1))).2.2.1 154 21)] (am_wI h 154 7 (nI (a + 1))) from ⟨ex_154 (k_P l1), ?_⟩)
        rw [ex_r154_21 (h := am_wI h 154 7 (nI (a + 1))) (k_P l1)]
        refine am_goX 3 (show ∃ jj nn : Nat, am_so (am_wI h 154 7 (nI (a + 1))) 167 = some (13, nn) ∧ jj < nn ∧ (nI (125 + 3 * W.1)) = nI jj ∧ pz_S 4 (some .int) am_r219 5 Q 100 [(3, .int (nI (125 + 3 * W.1))), (2, .int (nI 1)), (1, .int (nI W.1)), (0, .ref 154)] [] (am_wI (am_wI h 154 7 (nI (a + 1))) 167 jj ((nI 1))) from ⟨(125 + 3 * W.1), 250, ex_w167 (k_P l1), by omega, rfl, ?_⟩)
        have l2 := rk_w7 (k := 125 + 3 * W.1) (v := (nI 1)) l1
        have r2 := rkW_w (o := 167) (k := 125 + 3 * W.1) (v := (nI 1)) (Or.inr ⟨rfl, by omega⟩) r1
        have w2 := wkq_w (o := 167) (k := 125 + 3 * W.1) (v := (nI 1)) (Or.inr ⟨rfl, by omega⟩) w1
        have x1 : (am_wI (am_wI h 154 7 (nI (a + 1))) 167 (125 + 3 * W.1) ((nI 1))).1 167 (125 + 3 * W.1) = rwh 2 := (em_we _ _ _ _).trans (by decide)
        refine am_goX 2 (show am_sh (am_wI (am_wI h 154 7 (nI (a + 1))) 167 (125 + 3 * W.1) ((nI 1))) 154 = some (11, 0) ∧ pz_S 4 (some .int) am_r219 5 Q 104 [(3, .int (nI (125 + 3 * W.1))), (2, .int (nI 1)), (1, .int (nI W.1)), (0, .ref 154)] [am_rf ((am_wI (am_wI h 154 7 (nI (a + 1))) 167 (125 + 3 * W.1) ((nI 1))).2.2.1 154 21)] (am_wI (am_wI h 154 7 (nI (a + 1))) 167 (125 + 3 * W.1) ((nI 1))) from ⟨ex_154 (k_P l2), ?_⟩)
        rw [ex_r154_21 (h := am_wI (am_wI h 154 7 (nI (a + 1))) 167 (125 + 3 * W.1) ((nI 1))) (k_P l2)]
        refine am_goX 5 (show (¬ (nI 1) = 0 → pz_S 4 (some .int) am_r219 5 Q 115 [(3, .int (nI (125 + 3 * W.1))), (2, .int (nI 1)), (1, .int (nI W.1)), (0, .ref 154)] [.int ((nI (125 + 3 * W.1)) + (Int32.ofInt 1)), .ref 167] (am_wI (am_wI h 154 7 (nI (a + 1))) 167 (125 + 3 * W.1) ((nI 1)))) ∧ (¬ ¬ (nI 1) = 0 → pz_S 4 (some .int) am_r219 5 Q 111 [(3, .int (nI (125 + 3 * W.1))), (2, .int (nI 1)), (1, .int (nI W.1)), (0, .ref 154)] [.int ((nI (125 + 3 * W.1)) + (Int32.ofInt 1)), .ref 167] (am_wI (am_wI h 154 7 (nI (a + 1))) 167 (125 + 3 * W.1) ((nI 1)))) from ⟨fun _ => ?_, fun hz => absurd (by decide) hz⟩)
        refine am_goX 5 (show am_rc (am_wI (am_wI h 154 7 (nI (a + 1))) 167 (125 + 3 * W.1) ((nI 1))) 154 11 ∧ 2 ≤ 8 ∧ (am_wI (am_wI h 154 7 (nI (a + 1))) 167 (125 + 3 * W.1) ((nI 1))).2.2.2.2 + am_al 206 ≤ 175 ∧ am_call am_cod 5 206 [.ref 154, .int (Int32.ofInt 0), .int (Int32.ofInt 0), .int (Int32.ofInt 0)] (am_wI (am_wI h 154 7 (nI (a + 1))) 167 (125 + 3 * W.1) ((nI 1))) (fun vv h' => pz_S 4 (some .int) am_r219 5 Q 122 [(3, .int (nI (125 + 3 * W.1))), (2, .int (nI 1)), (1, .int (nI W.1)), (0, .ref 154)] (vv.toList ++ [.int ((nI (125 + 3 * W.1)) + (Int32.ofInt 1)), .ref 167]) h') from ⟨Or.inl ⟨by decide, ex_154 (k_P l2)⟩, by decide, ex_lim (k_P l2) rfl, am_call.up (k_206p (s := (a + 1, C)) l2 (fun F g1 e4 x => ?_) (fun p g1 e4 e5 l3 => ?_)) (by decide)⟩)
        ·
          have r3 := rkW_q r2 x.2.2
          have w3 := wkq_q w2 x.2.2
          refine am_goX 1 (show ∃ jj nn : Nat, am_so g1 167 = some (13, nn) ∧ jj < nn ∧ ((nI (125 + 3 * W.1)) + (Int32.ofInt 1)) = nI jj ∧ pz_S 4 (some .int) am_r219 5 Q 123 [(3, .int (nI (125 + 3 * W.1))), (2, .int (nI 1)), (1, .int (nI W.1)), (0, .ref 154)] [] (am_wI g1 167 jj ((Int32.ofInt 0))) from ⟨(126 + 3 * W.1), 250, ex_w167 x.1, by omega, (by rw [xw_i1]; congr 1; omega), ?_⟩)
          have x4 := rkx_w7 (k := 126 + 3 * W.1) (v := (Int32.ofInt 0)) x
          have r4 := rkW_w (o := 167) (k := 126 + 3 * W.1) (v := (Int32.ofInt 0)) (Or.inr ⟨rfl, by omega⟩) r3
          have w4 := wkq_w (o := 167) (k := 126 + 3 * W.1) (v := (Int32.ofInt 0)) (Or.inr ⟨rfl, by omega⟩) w3
          refine am_goX 2 (show am_sh (am_wI g1 167 (126 + 3 * W.1) ((Int32.ofInt 0))) 154 = some (11, 0) ∧ pz_S 4 (some .int) am_r219 5 Q 127 [(3, .int (nI (125 + 3 * W.1))), (2, .int (nI 1)), (1, .int (nI W.1)), (0, .ref 154)] [am_rf ((am_wI g1 167 (126 + 3 * W.1) ((Int32.ofInt 0))).2.2.1 154 21)] (am_wI g1 167 (126 + 3 * W.1) ((Int32.ofInt 0))) from ⟨ex_154 x4.1, ?_⟩)
          rw [ex_r154_21 (h := am_wI g1 167 (126 + 3 * W.1) ((Int32.ofInt 0))) x4.1]
          refine am_goX 6 (show (¬ (nI 1) = (Int32.ofInt 2) → pz_S 4 (some .int) am_r219 5 Q 144 [(3, .int (nI (125 + 3 * W.1))), (2, .int (nI 1)), (1, .int (nI W.1)), (0, .ref 154)] [.int ((nI (125 + 3 * W.1)) + (Int32.ofInt 2)), .ref 167] (am_wI g1 167 (126 + 3 * W.1) ((Int32.ofInt 0)))) ∧ (¬ ¬ (nI 1) = (Int32.ofInt 2) → pz_S 4 (some .int) am_r219 5 Q 135 [(3, .int (nI (125 + 3 * W.1))), (2, .int (nI 1)), (1, .int (nI W.1)), (0, .ref 154)] [.int ((nI (125 + 3 * W.1)) + (Int32.ofInt 2)), .ref 167] (am_wI g1 167 (126 + 3 * W.1) ((Int32.ofInt 0)))) from ⟨fun _ => ?_, fun hz => absurd (by decide) hz⟩)
          refine am_goX 2 (show ∃ jj nn : Nat, am_so (am_wI g1 167 (126 + 3 * W.1) ((Int32.ofInt 0))) 167 = some (13, nn) ∧ jj < nn ∧ ((nI (125 + 3 * W.1)) + (Int32.ofInt 2)) = nI jj ∧ pz_S 4 (some .int) am_r219 5 Q 146 [(3, .int (nI (125 + 3 * W.1))), (2, .int (nI 1)), (1, .int (nI W.1)), (0, .ref 154)] [] (am_wI (am_wI g1 167 (126 + 3 * W.1) ((Int32.ofInt 0))) 167 jj ((Int32.ofInt 0))) from ⟨(127 + 3 * W.1), 250, ex_w167 x4.1, by omega, (by rw [show Int32.ofInt 2 = nI 2 from rfl, nI_add]; congr 1; omega), ?_⟩)
          have x5 := rkx_w7 (k := 127 + 3 * W.1) (v := (Int32.ofInt 0)) x4
          have r5 := rkW_w (o := 167) (k := 127 + 3 * W.1) (v := (Int32.ofInt 0)) (Or.inr ⟨rfl, by omega⟩) r4
          have w5 := wkq_w (o := 167) (k := 127 + 3 * W.1) (v := (Int32.ofInt 0)) (Or.inr ⟨rfl, by omega⟩) w4
          refine am_goX 4 (show 1 < 4 ∧ am_rc (am_wI (am_wI g1 167 (126 + 3 * W.1) ((Int32.ofInt 0))) 167 (127 + 3 * W.1) ((Int32.ofInt 0))) 154 11 ∧ 0 ≤ 8 ∧ (am_wI (am_wI g1 167 (126 + 3 * W.1) ((Int32.ofInt 0))) 167 (127 + 3 * W.1) ((Int32.ofInt 0))).2.2.2.2 + am_al 218 ≤ 175 ∧ am_call am_cod 5 218 [.ref 154, .int (Int8.ofInt 59).toInt32] (am_wI (am_wI g1 167 (126 + 3 * W.1) ((Int32.ofInt 0))) 167 (127 + 3 * W.1) ((Int32.ofInt 0))) (fun vv h' => pz_S 4 (some .int) am_r219 5 Q 155 [(1, .int ((nI W.1) + Int32.ofInt 1)), (3, .int (nI (125 + 3 * W.1))), (2, .int (nI 1)), (0, .ref 154)] (vv.toList ++ []) h') from ⟨by decide, Or.inl ⟨by decide, ex_154 x5.1⟩, by decide, ex_lim x5.1 rfl, am_call.up (e_218 x5 ?_) (by decide)⟩)
          refine am_goX 3 (show am_sh (am_wI (am_wI g1 167 (126 + 3 * W.1) ((Int32.ofInt 0))) 167 (127 + 3 * W.1) ((Int32.ofInt 0))) 154 = some (11, 0) ∧ pz_S 4 (some .int) am_r219 5 Q 15 [(1, .int ((nI W.1) + Int32.ofInt 1)), (3, .int (nI (125 + 3 * W.1))), (2, .int (nI 1)), (0, .ref 154)] [.int ((am_wI (am_wI g1 167 (126 + 3 * W.1) ((Int32.ofInt 0))) 167 (127 + 3 * W.1) ((Int32.ofInt 0))).1 154 8)] (am_wI (am_wI g1 167 (126 + 3 * W.1) ((Int32.ofInt 0))) 167 (127 + 3 * W.1) ((Int32.ofInt 0))) from ⟨ex_154 x5.1, ?_⟩)
          rw [x5.2.1.1]
          refine am_goX 1 (show (¬ F = 0 → pz_S 4 (some .int) am_r219 5 Q 158 [(1, .int ((nI W.1) + Int32.ofInt 1)), (3, .int (nI (125 + 3 * W.1))), (2, .int (nI 1)), (0, .ref 154)] [] (am_wI (am_wI g1 167 (126 + 3 * W.1) ((Int32.ofInt 0))) 167 (127 + 3 * W.1) ((Int32.ofInt 0)))) ∧ (¬ ¬ F = 0 → pz_S 4 (some .int) am_r219 5 Q 18 [(1, .int ((nI W.1) + Int32.ofInt 1)), (3, .int (nI (125 + 3 * W.1))), (2, .int (nI 1)), (0, .ref 154)] [] (am_wI (am_wI g1 167 (126 + 3 * W.1) ((Int32.ofInt 0))) 167 (127 + 3 * W.1) ((Int32.ofInt 0)))) from ⟨fun _ => ?_, fun hz => absurd (rkx_ne x5) hz⟩)
          refine am_goX 2 (show am_sh (am_wI (am_wI g1 167 (126 + 3 * W.1) ((Int32.ofInt 0))) 167 (127 + 3 * W.1) ((Int32.ofInt 0))) 154 = some (11, 0) ∧ pz_S 4 (some .int) am_r219 5 Q 162 [(1, .int ((nI W.1) + Int32.ofInt 1)), (3, .int (nI (125 + 3 * W.1))), (2, .int (nI 1)), (0, .ref 154)] [.int ((am_wI (am_wI g1 167 (126 + 3 * W.1) ((Int32.ofInt 0))) 167 (127 + 3 * W.1) ((Int32.ofInt 0))).1 154 8)] (am_wI (am_wI g1 167 (126 + 3 * W.1) ((Int32.ofInt 0))) 167 (127 + 3 * W.1) ((Int32.ofInt 0))) from ⟨ex_154 x5.1, ?_⟩)
          rw [x5.2.1.1]
          refine am_goX 1 (show (F ≤ 0 → pz_S 4 (some .int) am_r219 5 Q 170 [(1, .int ((nI W.1) + Int32.ofInt 1)), (3, .int (nI (125 + 3 * W.1))), (2, .int (nI 1)), (0, .ref 154)] [] (am_wI (am_wI g1 167 (126 + 3 * W.1) ((Int32.ofInt 0))) 167 (127 + 3 * W.1) ((Int32.ofInt 0)))) ∧ (¬ (F ≤ 0) → pz_S 4 (some .int) am_r219 5 Q 165 [(1, .int ((nI W.1) + Int32.ofInt 1)), (3, .int (nI (125 + 3 * W.1))), (2, .int (nI 1)), (0, .ref 154)] [] (am_wI (am_wI g1 167 (126 + 3 * W.1) ((Int32.ofInt 0))) 167 (127 + 3 * W.1) ((Int32.ofInt 0)))) from ⟨fun hz => absurd hz (rkx_le x5), fun _ => ?_⟩)
          refine am_goX 2 (show am_sh (am_wI (am_wI g1 167 (126 + 3 * W.1) ((Int32.ofInt 0))) 167 (127 + 3 * W.1) ((Int32.ofInt 0))) 154 = some (11, 0) ∧ pz_S 4 (some .int) am_r219 5 Q 169 [(1, .int ((nI W.1) + Int32.ofInt 1)), (3, .int (nI (125 + 3 * W.1))), (2, .int (nI 1)), (0, .ref 154)] [.int ((am_wI (am_wI g1 167 (126 + 3 * W.1) ((Int32.ofInt 0))) 167 (127 + 3 * W.1) ((Int32.ofInt 0))).1 154 8)] (am_wI (am_wI g1 167 (126 + 3 * W.1) ((Int32.ofInt 0))) 167 (127 + 3 * W.1) ((Int32.ofInt 0))) from ⟨ex_154 x5.1, ?_⟩)
          rw [x5.2.1.1]
          exact am_goX 1 (show (∃ ty, (some .int) = some ty ∧ narrow ty (.int (F)) = .int (F)) ∧ (am_wI (am_wI g1 167 (126 + 3 * W.1) ((Int32.ofInt 0))) 167 (127 + 3 * W.1) ((Int32.ofInt 0))).2.2.2.2 = 175 ∧ _ from ⟨⟨.int, rfl, rfl⟩, ex_175 x5.1, hF F _ (by unfold sw_all; rw [e2, cond_false, show sw_line τ (C.1.1, C.1.2.1) (a, W) = .inl F from (by unfold sw_line; dsimp only; simp only [ea, e3, show decide ((2 : Int32) = 0) = false from by decide, show decide ((2 : Int32) = 1) = false from by decide, decide_true, cond_true, cond_false, pn_F e4])]) x5.1 (w5)⟩)
        ·
          have r3 := rkW_q r2 l3.2.2.1
          have w3 := wkq_q w2 l3.2.2.1
          have x1 := (l3.2.2.1.2 167 (125 + 3 * W.1) (by omega)).1.trans x1
          refine am_goX 1 (show ∃ jj nn : Nat, am_so g1 167 = some (13, nn) ∧ jj < nn ∧ ((nI (125 + 3 * W.1)) + (Int32.ofInt 1)) = nI jj ∧ pz_S 4 (some .int) am_r219 5 Q 123 [(3, .int (nI (125 + 3 * W.1))), (2, .int (nI 1)), (1, .int (nI W.1)), (0, .ref 154)] [] (am_wI g1 167 jj ((nI p))) from ⟨(126 + 3 * W.1), 250, ex_w167 (k_P l3), by omega, (by rw [xw_i1]; congr 1; omega), ?_⟩)
          have l4 := rk_w7 (k := 126 + 3 * W.1) (v := (nI p)) l3
          have r4 := rkW_w (o := 167) (k := 126 + 3 * W.1) (v := (nI p)) (Or.inr ⟨rfl, by omega⟩) r3
          have w4 := wkq_w (o := 167) (k := 126 + 3 * W.1) (v := (nI p)) (Or.inr ⟨rfl, by omega⟩) w3
          have x1 : (am_wI g1 167 (126 + 3 * W.1) ((nI p))).1 167 (125 + 3 * W.1) = _ := (em_wn _ _ (by omega)).trans x1
          have x2 : (am_wI g1 167 (126 + 3 * W.1) ((nI p))).1 167 (126 + 3 * W.1) = nI p := em_we _ _ _ _
          refine am_goX 2 (show am_sh (am_wI g1 167 (126 + 3 * W.1) ((nI p))) 154 = some (11, 0) ∧ pz_S 4 (some .int) am_r219 5 Q 127 [(3, .int (nI (125 + 3 * W.1))), (2, .int (nI 1)), (1, .int (nI W.1)), (0, .ref 154)] [am_rf ((am_wI g1 167 (126 + 3 * W.1) ((nI p))).2.2.1 154 21)] (am_wI g1 167 (126 + 3 * W.1) ((nI p))) from ⟨ex_154 (k_P l4), ?_⟩)
          rw [ex_r154_21 (h := am_wI g1 167 (126 + 3 * W.1) ((nI p))) (k_P l4)]
          refine am_goX 6 (show (¬ (nI 1) = (Int32.ofInt 2) → pz_S 4 (some .int) am_r219 5 Q 144 [(3, .int (nI (125 + 3 * W.1))), (2, .int (nI 1)), (1, .int (nI W.1)), (0, .ref 154)] [.int ((nI (125 + 3 * W.1)) + (Int32.ofInt 2)), .ref 167] (am_wI g1 167 (126 + 3 * W.1) ((nI p)))) ∧ (¬ ¬ (nI 1) = (Int32.ofInt 2) → pz_S 4 (some .int) am_r219 5 Q 135 [(3, .int (nI (125 + 3 * W.1))), (2, .int (nI 1)), (1, .int (nI W.1)), (0, .ref 154)] [.int ((nI (125 + 3 * W.1)) + (Int32.ofInt 2)), .ref 167] (am_wI g1 167 (126 + 3 * W.1) ((nI p)))) from ⟨fun _ => ?_, fun hz => absurd (by decide) hz⟩)
          refine am_goX 2 (show ∃ jj nn : Nat, am_so (am_wI g1 167 (126 + 3 * W.1) ((nI p))) 167 = some (13, nn) ∧ jj < nn ∧ ((nI (125 + 3 * W.1)) + (Int32.ofInt 2)) = nI jj ∧ pz_S 4 (some .int) am_r219 5 Q 146 [(3, .int (nI (125 + 3 * W.1))), (2, .int (nI 1)), (1, .int (nI W.1)), (0, .ref 154)] [] (am_wI (am_wI g1 167 (126 + 3 * W.1) ((nI p))) 167 jj ((Int32.ofInt 0))) from ⟨(127 + 3 * W.1), 250, ex_w167 (k_P l4), by omega, (by rw [show Int32.ofInt 2 = nI 2 from rfl, nI_add]; congr 1; omega), ?_⟩)
          have l5 := rk_w7 (k := 127 + 3 * W.1) (v := (Int32.ofInt 0)) l4
          have r5 := rkW_w (o := 167) (k := 127 + 3 * W.1) (v := (Int32.ofInt 0)) (Or.inr ⟨rfl, by omega⟩) r4
          have w5 := wkq_w (o := 167) (k := 127 + 3 * W.1) (v := (Int32.ofInt 0)) (Or.inr ⟨rfl, by omega⟩) w4
          have x1 : (am_wI (am_wI g1 167 (126 + 3 * W.1) ((nI p))) 167 (127 + 3 * W.1) ((Int32.ofInt 0))).1 167 (125 + 3 * W.1) = _ := (em_wn _ _ (by omega)).trans x1
          have x2 : (am_wI (am_wI g1 167 (126 + 3 * W.1) ((nI p))) 167 (127 + 3 * W.1) ((Int32.ofInt 0))).1 167 (126 + 3 * W.1) = _ := (em_wn _ _ (by omega)).trans x2
          have x3 : (am_wI (am_wI g1 167 (126 + 3 * W.1) ((nI p))) 167 (127 + 3 * W.1) ((Int32.ofInt 0))).1 167 (127 + 3 * W.1) = 0 := em_we _ _ _ _
          refine am_goX 4 (show 1 < 4 ∧ am_rc (am_wI (am_wI g1 167 (126 + 3 * W.1) ((nI p))) 167 (127 + 3 * W.1) ((Int32.ofInt 0))) 154 11 ∧ 0 ≤ 8 ∧ (am_wI (am_wI g1 167 (126 + 3 * W.1) ((nI p))) 167 (127 + 3 * W.1) ((Int32.ofInt 0))).2.2.2.2 + am_al 218 ≤ 175 ∧ am_call am_cod 5 218 [.ref 154, .int (Int8.ofInt 59).toInt32] (am_wI (am_wI g1 167 (126 + 3 * W.1) ((nI p))) 167 (127 + 3 * W.1) ((Int32.ofInt 0))) (fun vv h' => pz_S 4 (some .int) am_r219 5 Q 155 [(1, .int ((nI W.1) + Int32.ofInt 1)), (3, .int (nI (125 + 3 * W.1))), (2, .int (nI 1)), (0, .ref 154)] (vv.toList ++ []) h') from ⟨by decide, Or.inl ⟨by decide, ex_154 (k_P l5)⟩, by decide, ex_lim (k_P l5) rfl, am_call.up (k_218 (s := (a + 1 + 1, C)) l5 (fun F g3 e9 y => ?_) (fun g3 e9 l7 => ?_)) (by decide)⟩)
          ·
            refine am_goX 3 (show am_sh g3 154 = some (11, 0) ∧ pz_S 4 (some .int) am_r219 5 Q 15 [(1, .int ((nI W.1) + Int32.ofInt 1)), (3, .int (nI (125 + 3 * W.1))), (2, .int (nI 1)), (0, .ref 154)] [.int (g3.1 154 8)] g3 from ⟨ex_154 y.1, ?_⟩)
            rw [y.2.1.1]
            refine am_goX 1 (show (¬ F = 0 → pz_S 4 (some .int) am_r219 5 Q 158 [(1, .int ((nI W.1) + Int32.ofInt 1)), (3, .int (nI (125 + 3 * W.1))), (2, .int (nI 1)), (0, .ref 154)] [] g3) ∧ (¬ ¬ F = 0 → pz_S 4 (some .int) am_r219 5 Q 18 [(1, .int ((nI W.1) + Int32.ofInt 1)), (3, .int (nI (125 + 3 * W.1))), (2, .int (nI 1)), (0, .ref 154)] [] g3) from ⟨fun _ => ?_, fun hz => absurd (rkx_ne y) hz⟩)
            refine am_goX 2 (show am_sh g3 154 = some (11, 0) ∧ pz_S 4 (some .int) am_r219 5 Q 162 [(1, .int ((nI W.1) + Int32.ofInt 1)), (3, .int (nI (125 + 3 * W.1))), (2, .int (nI 1)), (0, .ref 154)] [.int (g3.1 154 8)] g3 from ⟨ex_154 y.1, ?_⟩)
            rw [y.2.1.1]
            refine am_goX 1 (show (F ≤ 0 → pz_S 4 (some .int) am_r219 5 Q 170 [(1, .int ((nI W.1) + Int32.ofInt 1)), (3, .int (nI (125 + 3 * W.1))), (2, .int (nI 1)), (0, .ref 154)] [] g3) ∧ (¬ (F ≤ 0) → pz_S 4 (some .int) am_r219 5 Q 165 [(1, .int ((nI W.1) + Int32.ofInt 1)), (3, .int (nI (125 + 3 * W.1))), (2, .int (nI 1)), (0, .ref 154)] [] g3) from ⟨fun hz => absurd hz (rkx_le y), fun _ => ?_⟩)
            refine am_goX 2 (show am_sh g3 154 = some (11, 0) ∧ pz_S 4 (some .int) am_r219 5 Q 169 [(1, .int ((nI W.1) + Int32.ofInt 1)), (3, .int (nI (125 + 3 * W.1))), (2, .int (nI 1)), (0, .ref 154)] [.int (g3.1 154 8)] g3 from ⟨ex_154 y.1, ?_⟩)
            rw [y.2.1.1]
            exact am_goX 1 (show (∃ ty, (some .int) = some ty ∧ narrow ty (.int (F)) = .int (F)) ∧ g3.2.2.2.2 = 175 ∧ _ from ⟨⟨.int, rfl, rfl⟩, ex_175 y.1, hF F _ (by unfold sw_all; rw [e2, cond_false, show sw_line τ (C.1.1, C.1.2.1) (a, W) = .inl F from (by unfold sw_line; dsimp only; simp only [ea, e3, show decide ((2 : Int32) = 0) = false from by decide, show decide ((2 : Int32) = 1) = false from by decide, decide_true, cond_true, cond_false, pn_S e4 e5, end_F e9])]) y.1 (wkq_q w5 y.2.2)⟩)
          ·
            have r8 := rkW_q r5 l7.2.2.1
            have w8 := wkq_q w5 l7.2.2.1
            have x1 := (l7.2.2.1.2 167 (125 + 3 * W.1) (by omega)).1.trans x1
            have x2 := (l7.2.2.1.2 167 (126 + 3 * W.1) (by omega)).1.trans x2
            have x3 := (l7.2.2.1.2 167 (127 + 3 * W.1) (by omega)).1.trans x3
            refine am_goX 1 (show pz_S 4 (some .int) am_r219 5 Q 11 [(1, .int ((nI W.1) + Int32.ofInt 1)), (3, .int (nI (125 + 3 * W.1))), (2, .int (nI 1)), (0, .ref 154)] [] g3 from ?_)
            rw [xw_i1]
            have hx : sw_all τ (C.1.1, C.1.2.1) (m + 1) (a, W) = sw_all τ (C.1.1, C.1.2.1) m (a + 1 + 1 + 1, sw_ad W 2 (nI p) 0) := by
              conv => lhs; unfold sw_all
              rw [e2, cond_false, show sw_line τ (C.1.1, C.1.2.1) (a, W) = .inr (a + 1 + 1 + 1, sw_ad W 2 (nI p) 0) from (by unfold sw_line; dsimp only; simp only [ea, e3, show decide ((2 : Int32) = 0) = false from by decide, show decide ((2 : Int32) = 1) = false from by decide, decide_true, cond_true, cond_false, pn_S e4 e5, end_S e9])]
            exact k_219l m (a + 1 + 1 + 1) (sw_ad W 2 (nI p) 0) _ _ g3 (by omega) (rk_b l7) (rkW_ad r8 hlt x1 x2 x3) w8 (fun F h1 e => hF F h1 (hx.trans e)) (fun t h1 e => hS t h1 (hx.trans e))
