section
/-! THE REFERENCE'S LAW, EXACTLY -/
/-- a reader of the law that does what the spec says -/
def lw_r (h0 : am_H) (τ : sp_T) (N d n : Nat) (dep : Int32) (f : sp_S → sp_R) : Prop := ∀ (s : sp_S) (h : am_H) (Q : am_Q), rr h0 0 τ N s h → s.2.2.2.2.1 = true →
  (∀ (F : Int32) (h1 : am_H) (c' a' : Nat), f s = .inl F → rx h0 F c' h1 → s.1 ≤ a' → a' ≤ N → c' + s.1 ≤ s.2.2.2.2.2.1 + a' → Q none h1) →
  (∀ (h1 : am_H) (t : sp_S), f s = .inr t → rr h0 0 τ N t h1 → t.2.2.2.2.1 = true → Q none h1) → am_call am_cod d n [.ref 154, .int dep] h Q
theorem lr_up {h0 : am_H} {N d d' n : Nat} {τ : sp_T} {dep : Int32} {f : sp_S → sp_R} (k : lw_r h0 τ N d n dep f) (hd : d ≤ d') : lw_r h0 τ N d' n dep f := fun s h Q l ht q1 q2 => (k s h Q l ht q1 q2).up hd
theorem sp_12 {τ : sp_T} {a : Nat} {i j : Int32} (e : sp_k τ a i = true) (hij : ¬ i = j) : sp_k τ a j = false := decide_eq_false (fun z => hij ((sp_kt e).symm.trans z))
theorem wq_2 {τ : sp_T} {a f m : Nat} (hm : m ≤ 21) (e : sp_k τ a 1 = false) : wq τ a f m = Int32.ofInt (-1) := by
  rcases wq_v τ a f m hm with ⟨w1, _⟩ | ⟨j, _, _, w3⟩
  · exact w1
  · rw [sp_w_n e] at w3
    cases w3
theorem fa_n {τ : sp_T} {a : Nat} (e : sp_k τ a 1 = false) : sp_fa τ a = 0 := by
  unfold sp_fa
  rw [sp_w_n e, sp_w_n e, sp_w_n e, sp_w_n e]
  rfl
theorem fa_0 {τ : sp_T} {a : Nat} (w : ∀ j, j < 4 → sp_w τ a (rw_w (17 + j)) = false) : sp_fa τ a = 0 := by
  have h0 : sp_w τ a 20763 = false := w 0 (by decide)
  have h1 : sp_w τ a 1172060 = false := w 1 (by decide)
  have h2 : sp_w τ a 18002 = false := w 2 (by decide)
  have h3 : sp_w τ a 43523993 = false := w 3 (by decide)
  unfold sp_fa
  rw [h0, h1, h2, h3]
  rfl
theorem fa_1 {τ : sp_T} {a j : Nat} (hj : j < 4) (w : sp_w τ a (rw_w (17 + j)) = true) : Int32.ofInt 2 = rb_o (sp_fa τ a) ∧ nI j = rb_a (sp_fa τ a) ∧ ¬ sp_fa τ a = 0 ∧ sp_k τ a 1 = true ∧ sp_w τ a 19741 = false := by
  have k : sp_k τ a 1 = true := (Bool.and_eq_true _ _ ▸ w : _ ∧ _).1
  have w1 := w
  rw [sp_w_e k] at w1
  have e := of_decide_eq_true w1
  have key : ∀ j, j < 4 → ¬ rw_w (17 + j) = 19741 := by decide +kernel
  have fa : sp_fa τ a = Int32.ofInt (-1) - nI j := by
    unfold sp_fa
    rw [sp_w_e k, sp_w_e k, sp_w_e k, sp_w_e k, e]
    have : ∀ j, j < 4 → (bif decide (rw_w (17 + j) = 20763) then Int32.ofInt (-1) else bif decide (rw_w (17 + j) = 1172060) then (Int8.ofInt (-2)).toInt32 else bif decide (rw_w (17 + j) = 18002) then (Int8.ofInt (-3)).toInt32 else bif decide (rw_w (17 + j) = 43523993) then (Int8.ofInt (-4)).toInt32 else Int32.ofInt 0) = Int32.ofInt (-1) - nI j := by decide +kernel
    exact this j hj
  have k2 : ∀ j, j < 4 → Int32.ofInt 2 = rb_o (Int32.ofInt (-1) - nI j) ∧ nI j = rb_a (Int32.ofInt (-1) - nI j) ∧ ¬ Int32.ofInt (-1) - nI j = 0 := by decide +kernel
  rw [fa]
  refine ⟨(k2 j hj).1, (k2 j hj).2.1, (k2 j hj).2.2, k, ?_⟩
  rw [sp_w_e k, e]
  exact decide_eq_false (key j hj)
theorem num_o {τ : sp_T} {a D : Nat} (hD : D ≤ 9999) (ev : (τ a).2.1 = Int64.ofNat D) : Int32.ofInt 1 = rb_o (sp_v τ a) ∧ sp_v τ a = rb_a (sp_v τ a) := by
  have e : sp_v τ a = nI D := by
    unfold sp_v
    rw [ev]
    exact Int64.toInt32_ofNat'
  have h0 : (0 : Int32) ≤ nI D := by
    show nI 0 ≤ nI D
    exact nI_le (Nat.zero_le _) (by omega)
  rw [e]
  unfold rb_o rb_a
  rw [decide_eq_true h0]
  exact ⟨rfl, rfl⟩
variable {h h0 : am_H} {N d : Nat} {τ : sp_T} {p : sp_S → sp_R} {dep : Int32} {s : sp_S} {Q : am_Q}

theorem r_213l (hd : 2 ≤ d) (ks : lw_r h0 τ N d 214 dep (p)) (hok : sp_ok (p)) : ∀ (m : Nat) (s : sp_S) (h : am_H) (Q : am_Q), N < s.1 + m → rr h0 0 τ N s h → s.2.2.2.2.1 = true → (∀ (F : Int32) (h1 : am_H) (c' a' : Nat), sp_pL τ p m s = .inl F → rx h0 F c' h1 → s.1 ≤ a' → a' ≤ N → c' + s.1 ≤ s.2.2.2.2.2.1 + a' → Q none h1) → (∀ (h1 : am_H) (t : sp_S), sp_pL τ p m s = .inr t → rr h0 0 τ N t h1 → t.2.2.2.2.1 = true → Q none h1) → pz_S 2 none am_r213 d Q 5 [(0, .ref 154), (1, .int dep)] [] h := by
  intro m
  induction m with
  | zero =>
    intro s h Q hm l ht hF hS
    have := (r_N l).1
    omega
  | succ m ih =>
    intro s h Q hm l ht hF hS
    have hP := r_P l
    have gl := r_N l
    refine am_goX 3 (show am_rc h 154 11 ∧ 0 ≤ 8 ∧ h.2.2.2.2 + am_al 217 ≤ 175 ∧ am_call am_cod d 217 [.ref 154, .int (Int8.ofInt 42).toInt32] h (fun vv h' => pz_S 2 none am_r213 d Q 11 [(0, .ref 154), (1, .int dep)] (vv.toList ++ []) h') from ⟨Or.inl ⟨by decide, ex_154 (r_P l)⟩, by decide, ex_lim (r_P l) rfl, am_call.up (r_217 (s := s) l (fun h1 l2 => ?_)) (by omega)⟩)
    cases e3 : sp_s τ s.1 (Int8.ofInt 42).toInt32 with
    | true =>
      rw [e3] at l2
      replace l2 : rr h0 0 τ N (s.1 + 1, s.2) h1 := l2
      refine am_goX 1 (show ((pz_b (true)) = 0 → pz_S 2 none am_r213 d Q 29 [(0, .ref 154), (1, .int dep)] [] h1) ∧ (¬ ((pz_b (true)) = 0) → pz_S 2 none am_r213 d Q 14 [(0, .ref 154), (1, .int dep)] [] h1) from ⟨fun hz => absurd hz (by decide), fun _ => ?_⟩)
      refine am_goX 3 (show am_rc h1 154 11 ∧ 0 ≤ 8 ∧ h1.2.2.2.2 + am_al 214 ≤ 175 ∧ am_call am_cod d 214 [.ref 154, .int dep] h1 (fun vv h' => pz_S 2 none am_r213 d Q 19 [(0, .ref 154), (1, .int dep)] (vv.toList ++ []) h') from ⟨Or.inl ⟨by decide, ex_154 (r_P l2)⟩, by decide, ex_lim (r_P l2) rfl, ks (s.1 + 1, s.2) _ _ l2 ht (fun F4 h5 c6 a7 e8 x9 b10 b11 b12 => ?_) (fun h13 t14 e15 l16 ht17 => ?_)⟩)
      ·
        try dsimp only at b10 b12
        have g0 := r_N l2
        try dsimp only at g0
        refine am_goX 4 (show am_rc h5 154 11 ∧ 0 ≤ 8 ∧ h5.2.2.2.2 + am_al 216 ≤ 175 ∧ am_call am_cod d 216 [.ref 154, .int (Int8.ofInt 6).toInt32, .int (Int32.ofInt 0)] h5 (fun vv h' => pz_S 2 none am_r213 d Q 26 [(0, .ref 154), (1, .int dep)] (vv.toList ++ []) h') from ⟨Or.inl ⟨by decide, ex_154 x9.1⟩, by decide, ex_lim x9.1 rfl, am_call.up (d_216 (by omega) x9 (fun h19 x20 => ?_)) (by omega)⟩)
        refine am_goX 4 (show am_rc h19 154 11 ∧ 0 ≤ 8 ∧ h19.2.2.2.2 + am_al 217 ≤ 175 ∧ am_call am_cod d 217 [.ref 154, .int (Int8.ofInt 42).toInt32] h19 (fun vv h' => pz_S 2 none am_r213 d Q 11 [(0, .ref 154), (1, .int dep)] (vv.toList ++ []) h') from ⟨Or.inl ⟨by decide, ex_154 x20.1⟩, by decide, ex_lim x20.1 rfl, am_call.up (d_217 x20 (fun h21 x22 => ?_)) (by omega)⟩)
        refine am_goX 1 (show (0 = 0 → pz_S 2 none am_r213 d Q 29 [(0, .ref 154), (1, .int dep)] [] h21) ∧ (¬ (0 = 0) → pz_S 2 none am_r213 d Q 14 [(0, .ref 154), (1, .int dep)] [] h21) from ⟨fun _ => ?_, fun hz => absurd (by decide) hz⟩)
        exact am_goX 1 (show (none : Option FieldType) = none ∧ h21.2.2.2.2 = 175 ∧ _ from ⟨rfl, ex_175 x22.1, hF (F4) _ (c6 + 1) a7 (by simp only [sp_pL, sp_b, sp_f, cond_true, cond_false, e3, e8]) x22 (by omega) (by omega) (by omega)⟩)
      ·
        have g18 := hok _ _ e15
        unfold sp_le at g18
        try dsimp only at g18
        have g0 := r_N l2
        try dsimp only at g0
        refine am_goX 4 (show am_rc h13 154 11 ∧ 0 ≤ 8 ∧ h13.2.2.2.2 + am_al 216 ≤ 175 ∧ am_call am_cod d 216 [.ref 154, .int (Int8.ofInt 6).toInt32, .int (Int32.ofInt 0)] h13 (fun vv h' => pz_S 2 none am_r213 d Q 26 [(0, .ref 154), (1, .int dep)] (vv.toList ++ []) h') from ⟨Or.inl ⟨by decide, ex_154 (r_P l16)⟩, by decide, ex_lim (r_P l16) rfl, am_call.up (r_216 (w := ((Int8.ofInt (-12)).toInt32)) (s := t14) l16 (by first | omega | (dsimp only; omega)) (by decide) (by decide) ht17 (fun h23 l24 => ?_)) (by omega)⟩)
        refine am_goX 1 (show pz_S 2 none am_r213 d Q 5 [(0, .ref 154), (1, .int dep)] [] h23 from ?_)
        have hx : sp_pL τ p (m + 1) s = sp_pL τ p m (t14.1, sp_em t14.2 ((Int8.ofInt (-12)).toInt32)) := by simp only [sp_pL, sp_b, cond_true, cond_false, e3, e15]
        refine ih (t14.1, sp_em t14.2 ((Int8.ofInt (-12)).toInt32)) h23 Q (by dsimp only; omega) l24 ht17 (fun F h1 c' a' e x b1 b2 b3 => hF F h1 c' a' (hx.trans e) x ?_ b2 ?_) (fun h1 t e l1 t1 => hS h1 t (hx.trans e) l1 t1)
        all_goals (unfold sp_em at b3; dsimp only at b1 b3; omega)
    | false =>
      rw [e3] at l2
      replace l2 : rr h0 0 τ N s h1 := l2
      refine am_goX 1 (show ((pz_b (false)) = 0 → pz_S 2 none am_r213 d Q 29 [(0, .ref 154), (1, .int dep)] [] h1) ∧ (¬ ((pz_b (false)) = 0) → pz_S 2 none am_r213 d Q 14 [(0, .ref 154), (1, .int dep)] [] h1) from ⟨fun _ => ?_, fun hz => absurd (by decide) hz⟩)
      exact am_goX 1 (show (none : Option FieldType) = none ∧ h1.2.2.2.2 = 175 ∧ _ from ⟨rfl, ex_175 (r_P l2), hS _ _ (by simp only [sp_pL, sp_b, sp_f, cond_true, cond_false, e3]) l2 ht⟩)
theorem r_213 (hd : 2 ≤ d) (ks : lw_r h0 τ N d 214 dep (p)) (hok : sp_ok (p)) : lw_r h0 τ N (d + 1) 213 dep (sp_p τ p) := by
  intro s h Q l ht hF hS
  have hP := r_P l
  have gl := r_N l
  refine pz_call (n := 213) (nL := 2) (rt := none) (rows := am_r213) (d := d) (by decide +kernel) (by decide +kernel) rfl (by funext pc; rfl) (ex_175 hP) (by exact Nat.le_of_ble_eq_true rfl) ?_
  refine am_goX 3 (show am_rc h 154 11 ∧ 0 ≤ 8 ∧ h.2.2.2.2 + am_al 214 ≤ 175 ∧ am_call am_cod d 214 [.ref 154, .int dep] h (fun vv h' => pz_S 2 none am_r213 d Q 5 [(0, .ref 154), (1, .int dep)] (vv.toList ++ []) h') from ⟨Or.inl ⟨by decide, ex_154 (r_P l)⟩, by decide, ex_lim (r_P l) rfl, ks s _ _ l ht (fun F25 h26 c27 a28 e29 x30 b31 b32 b33 => ?_) (fun h34 t35 e36 l37 ht38 => ?_)⟩)
  ·
    try dsimp only at b31 b33
    have g0 := r_N l
    try dsimp only at g0
    refine am_goX 3 (show am_rc h26 154 11 ∧ 0 ≤ 8 ∧ h26.2.2.2.2 + am_al 217 ≤ 175 ∧ am_call am_cod d 217 [.ref 154, .int (Int8.ofInt 42).toInt32] h26 (fun vv h' => pz_S 2 none am_r213 d Q 11 [(0, .ref 154), (1, .int dep)] (vv.toList ++ []) h') from ⟨Or.inl ⟨by decide, ex_154 x30.1⟩, by decide, ex_lim x30.1 rfl, am_call.up (d_217 x30 (fun h40 x41 => ?_)) (by omega)⟩)
    refine am_goX 1 (show (0 = 0 → pz_S 2 none am_r213 d Q 29 [(0, .ref 154), (1, .int dep)] [] h40) ∧ (¬ (0 = 0) → pz_S 2 none am_r213 d Q 14 [(0, .ref 154), (1, .int dep)] [] h40) from ⟨fun _ => ?_, fun hz => absurd (by decide) hz⟩)
    exact am_goX 1 (show (none : Option FieldType) = none ∧ h40.2.2.2.2 = 175 ∧ _ from ⟨rfl, ex_175 x41.1, hF (F25) _ (c27) a28 (by simp only [sp_p, sp_b, sp_f, cond_true, cond_false, e29]) x41 (by omega) (by omega) (by omega)⟩)
  ·
    have g39 := hok _ _ e36
    unfold sp_le at g39
    try dsimp only at g39
    have g0 := r_N l
    try dsimp only at g0
    have hx : sp_p τ p s = sp_pL τ p 1001 t35 := by simp only [sp_p, sp_b, e36]
    refine r_213l hd ks hok 1001 t35 h34 Q (by omega) l37 ht38 (fun F h1 c' a' e x b1 b2 b3 => hF F h1 c' a' (hx.trans e) x ?_ b2 ?_) (fun h1 t e l1 t1 => hS h1 t (hx.trans e) l1 t1)
    all_goals omega
theorem r_212l (hd : 2 ≤ d) (ks : lw_r h0 τ N d 213 dep (sp_p τ p)) (hok : sp_ok (sp_p τ p)) : ∀ (m : Nat) (s : sp_S) (h : am_H) (Q : am_Q), N < s.1 + m → rr h0 0 τ N s h → s.2.2.2.2.1 = true → (∀ (F : Int32) (h1 : am_H) (c' a' : Nat), sp_sL τ p m s = .inl F → rx h0 F c' h1 → s.1 ≤ a' → a' ≤ N → c' + s.1 ≤ s.2.2.2.2.2.1 + a' → Q none h1) → (∀ (h1 : am_H) (t : sp_S), sp_sL τ p m s = .inr t → rr h0 0 τ N t h1 → t.2.2.2.2.1 = true → Q none h1) → pz_S 3 none am_r212 d Q 5 [(0, .ref 154), (1, .int dep)] [] h := by
  intro m
  induction m with
  | zero =>
    intro s h Q hm l ht hF hS
    have := (r_N l).1
    omega
  | succ m ih =>
    intro s h Q hm l ht hF hS
    have hP := r_P l
    have gl := r_N l
    refine am_goX 3 (show am_rc h 154 11 ∧ 0 ≤ 8 ∧ h.2.2.2.2 + am_al 215 ≤ 175 ∧ am_call am_cod d 215 [.ref 154, .int (Int8.ofInt 43).toInt32] h (fun vv h' => pz_S 3 none am_r212 d Q 11 [(0, .ref 154), (1, .int dep)] (vv.toList ++ []) h') from ⟨Or.inl ⟨by decide, ex_154 (r_P l)⟩, by decide, ex_lim (r_P l) rfl, am_call.up (r_215 l ?_) (by omega)⟩)
    cases e42 : sp_s τ s.1 (Int8.ofInt 43).toInt32 with
    | true =>
      refine am_goX 1 (show (¬ (pz_b (true)) = 0 → pz_S 3 none am_r212 d Q 23 [(0, .ref 154), (1, .int dep)] [] h) ∧ (¬ ¬ (pz_b (true)) = 0 → pz_S 3 none am_r212 d Q 14 [(0, .ref 154), (1, .int dep)] [] h) from ⟨fun _ => ?_, fun hz => absurd (by decide) hz⟩)
      refine am_goX 3 (show am_rc h 154 11 ∧ 0 ≤ 8 ∧ h.2.2.2.2 + am_al 215 ≤ 175 ∧ am_call am_cod d 215 [.ref 154, .int (Int8.ofInt 43).toInt32] h (fun vv h' => pz_S 3 none am_r212 d Q 29 [(0, .ref 154), (1, .int dep)] (vv.toList ++ []) h') from ⟨Or.inl ⟨by decide, ex_154 (r_P l)⟩, by decide, ex_lim (r_P l) rfl, am_call.up (r_215 l ?_) (by omega)⟩)
      rw [e42]
      refine am_goX 7 (show 2 < 3 ∧ (Value.ref 154).category = 1 ∧ am_sh h 154 = some (11, 0) ∧ am_sh h 154 = some (11, 0) ∧ narrow (am_fty 11 7) (.int (((h.1 154 7) + (Int32.ofInt 1)))) = .int (((h.1 154 7) + (Int32.ofInt 1))) ∧ fits (am_fty 11 7) (.int (((h.1 154 7) + (Int32.ofInt 1)))) = true ∧ pz_S 3 none am_r212 d Q 40 [(2, .int (pz_b (true))), (0, .ref 154), (1, .int dep)] [] (am_wI h 154 7 (((h.1 154 7) + (Int32.ofInt 1)))) from ⟨by decide, rfl, ex_154 (r_P l), ex_154 (r_P l), rfl, rfl, ?_⟩)
      rw [r_a l, xw_i1]
      have l43 : rr h0 0 τ N (s.1 + 1, s.2) (am_wI h 154 7 (nI (s.1 + 1))) := rr_nx (a := s.1) (C := s.2) l (sp_sn e42)
      refine am_goX 3 (show am_rc (am_wI h 154 7 (nI (s.1 + 1))) 154 11 ∧ 0 ≤ 8 ∧ (am_wI h 154 7 (nI (s.1 + 1))).2.2.2.2 + am_al 213 ≤ 175 ∧ am_call am_cod d 213 [.ref 154, .int dep] (am_wI h 154 7 (nI (s.1 + 1))) (fun vv h' => pz_S 3 none am_r212 d Q 45 [(2, .int (pz_b (true))), (0, .ref 154), (1, .int dep)] (vv.toList ++ []) h') from ⟨Or.inl ⟨by decide, ex_154 (r_P l43)⟩, by decide, ex_lim (r_P l43) rfl, ks (s.1 + 1, s.2) _ _ l43 ht (fun F44 h45 c46 a47 e48 x49 b50 b51 b52 => ?_) (fun h53 t54 e55 l56 ht57 => ?_)⟩)
      ·
        try dsimp only at b50 b52
        have g0 := r_N l43
        try dsimp only at g0
        refine am_goX 3 (show ((pz_b (true)) = 0 → pz_S 3 none am_r212 d Q 54 [(2, .int (pz_b (true))), (0, .ref 154), (1, .int dep)] [.ref 154] h45) ∧ (¬ ((pz_b (true)) = 0) → pz_S 3 none am_r212 d Q 50 [(2, .int (pz_b (true))), (0, .ref 154), (1, .int dep)] [.ref 154] h45) from ⟨fun hz => absurd hz (by decide), fun _ => ?_⟩)
        refine am_goX 4 (show am_rc h45 154 11 ∧ 0 ≤ 8 ∧ h45.2.2.2.2 + am_al 216 ≤ 175 ∧ am_call am_cod d 216 [.ref 154, .int (Int32.ofInt 4), .int (Int32.ofInt 0)] h45 (fun vv h' => pz_S 3 none am_r212 d Q 59 [(2, .int (pz_b (true))), (0, .ref 154), (1, .int dep)] (vv.toList ++ []) h') from ⟨Or.inl ⟨by decide, ex_154 x49.1⟩, by decide, ex_lim x49.1 rfl, am_call.up (d_216 (by omega) x49 (fun h59 x60 => ?_)) (by omega)⟩)
        refine am_goX 4 (show am_rc h59 154 11 ∧ 0 ≤ 8 ∧ h59.2.2.2.2 + am_al 215 ≤ 175 ∧ am_call am_cod d 215 [.ref 154, .int (Int8.ofInt 43).toInt32] h59 (fun vv h' => pz_S 3 none am_r212 d Q 11 [(2, .int (pz_b (true))), (0, .ref 154), (1, .int dep)] (vv.toList ++ []) h') from ⟨Or.inl ⟨by decide, ex_154 x60.1⟩, by decide, ex_lim x60.1 rfl, am_call.up (d_215 x60 ?_) (by omega)⟩)
        refine am_goX 1 (show (¬ 0 = 0 → pz_S 3 none am_r212 d Q 23 [(2, .int (pz_b (true))), (0, .ref 154), (1, .int dep)] [] h59) ∧ (¬ ¬ 0 = 0 → pz_S 3 none am_r212 d Q 14 [(2, .int (pz_b (true))), (0, .ref 154), (1, .int dep)] [] h59) from ⟨fun hz => absurd hz (by decide), fun _ => ?_⟩)
        refine am_goX 3 (show am_rc h59 154 11 ∧ 0 ≤ 8 ∧ h59.2.2.2.2 + am_al 215 ≤ 175 ∧ am_call am_cod d 215 [.ref 154, .int (Int8.ofInt 45).toInt32] h59 (fun vv h' => pz_S 3 none am_r212 d Q 20 [(2, .int (pz_b (true))), (0, .ref 154), (1, .int dep)] (vv.toList ++ []) h') from ⟨Or.inl ⟨by decide, ex_154 x60.1⟩, by decide, ex_lim x60.1 rfl, am_call.up (d_215 x60 ?_) (by omega)⟩)
        refine am_goX 1 (show (0 = 0 → pz_S 3 none am_r212 d Q 62 [(2, .int (pz_b (true))), (0, .ref 154), (1, .int dep)] [] h59) ∧ (¬ (0 = 0) → pz_S 3 none am_r212 d Q 23 [(2, .int (pz_b (true))), (0, .ref 154), (1, .int dep)] [] h59) from ⟨fun _ => ?_, fun hz => absurd (by decide) hz⟩)
        exact am_goX 1 (show (none : Option FieldType) = none ∧ h59.2.2.2.2 = 175 ∧ _ from ⟨rfl, ex_175 x60.1, hF (F44) _ (c46 + 1) a47 (by simp only [sp_sL, sp_b, sp_f, cond_true, cond_false, e42, e48]) x60 (by omega) (by omega) (by omega)⟩)
      ·
        have g58 := hok _ _ e55
        unfold sp_le at g58
        try dsimp only at g58
        have g0 := r_N l43
        try dsimp only at g0
        refine am_goX 3 (show ((pz_b (true)) = 0 → pz_S 3 none am_r212 d Q 54 [(2, .int (pz_b (true))), (0, .ref 154), (1, .int dep)] [.ref 154] h53) ∧ (¬ ((pz_b (true)) = 0) → pz_S 3 none am_r212 d Q 50 [(2, .int (pz_b (true))), (0, .ref 154), (1, .int dep)] [.ref 154] h53) from ⟨fun hz => absurd hz (by decide), fun _ => ?_⟩)
        refine am_goX 4 (show am_rc h53 154 11 ∧ 0 ≤ 8 ∧ h53.2.2.2.2 + am_al 216 ≤ 175 ∧ am_call am_cod d 216 [.ref 154, .int (Int32.ofInt 4), .int (Int32.ofInt 0)] h53 (fun vv h' => pz_S 3 none am_r212 d Q 59 [(2, .int (pz_b (true))), (0, .ref 154), (1, .int dep)] (vv.toList ++ []) h') from ⟨Or.inl ⟨by decide, ex_154 (r_P l56)⟩, by decide, ex_lim (r_P l56) rfl, am_call.up (r_216 (w := ((Int8.ofInt (-10)).toInt32)) (s := t54) l56 (by first | omega | (dsimp only; omega)) (by decide) (by decide) ht57 (fun h61 l62 => ?_)) (by omega)⟩)
        refine am_goX 1 (show pz_S 3 none am_r212 d Q 5 [(2, .int (pz_b (true))), (0, .ref 154), (1, .int dep)] [] h61 from ?_)
        have hx : sp_sL τ p (m + 1) s = sp_sL τ p m (t54.1, sp_em t54.2 ((Int8.ofInt (-10)).toInt32)) := by simp only [sp_sL, sp_b, cond_true, cond_false, e42, e55]
        refine sv_S (by decide +kernel) (by intro q hq; simp only [List.mem_cons, List.not_mem_nil, or_false] at hq; rcases hq with rfl | rfl <;> rfl) (ih (t54.1, sp_em t54.2 ((Int8.ofInt (-10)).toInt32)) h61 Q (by dsimp only; omega) l62 ht57 (fun F h1 c' a' e x b1 b2 b3 => hF F h1 c' a' (hx.trans e) x ?_ b2 ?_) (fun h1 t e l1 t1 => hS h1 t (hx.trans e) l1 t1))
        all_goals (unfold sp_em at b3; dsimp only at b1 b3; omega)
    | false =>
      refine am_goX 1 (show (¬ (pz_b (false)) = 0 → pz_S 3 none am_r212 d Q 23 [(0, .ref 154), (1, .int dep)] [] h) ∧ (¬ ¬ (pz_b (false)) = 0 → pz_S 3 none am_r212 d Q 14 [(0, .ref 154), (1, .int dep)] [] h) from ⟨fun hz => absurd hz (by decide), fun _ => ?_⟩)
      refine am_goX 3 (show am_rc h 154 11 ∧ 0 ≤ 8 ∧ h.2.2.2.2 + am_al 215 ≤ 175 ∧ am_call am_cod d 215 [.ref 154, .int (Int8.ofInt 45).toInt32] h (fun vv h' => pz_S 3 none am_r212 d Q 20 [(0, .ref 154), (1, .int dep)] (vv.toList ++ []) h') from ⟨Or.inl ⟨by decide, ex_154 (r_P l)⟩, by decide, ex_lim (r_P l) rfl, am_call.up (r_215 l ?_) (by omega)⟩)
      cases e63 : sp_s τ s.1 (Int8.ofInt 45).toInt32 with
      | true =>
        refine am_goX 1 (show ((pz_b (true)) = 0 → pz_S 3 none am_r212 d Q 62 [(0, .ref 154), (1, .int dep)] [] h) ∧ (¬ ((pz_b (true)) = 0) → pz_S 3 none am_r212 d Q 23 [(0, .ref 154), (1, .int dep)] [] h) from ⟨fun hz => absurd hz (by decide), fun _ => ?_⟩)
        refine am_goX 3 (show am_rc h 154 11 ∧ 0 ≤ 8 ∧ h.2.2.2.2 + am_al 215 ≤ 175 ∧ am_call am_cod d 215 [.ref 154, .int (Int8.ofInt 43).toInt32] h (fun vv h' => pz_S 3 none am_r212 d Q 29 [(0, .ref 154), (1, .int dep)] (vv.toList ++ []) h') from ⟨Or.inl ⟨by decide, ex_154 (r_P l)⟩, by decide, ex_lim (r_P l) rfl, am_call.up (r_215 l ?_) (by omega)⟩)
        rw [e42]
        refine am_goX 7 (show 2 < 3 ∧ (Value.ref 154).category = 1 ∧ am_sh h 154 = some (11, 0) ∧ am_sh h 154 = some (11, 0) ∧ narrow (am_fty 11 7) (.int (((h.1 154 7) + (Int32.ofInt 1)))) = .int (((h.1 154 7) + (Int32.ofInt 1))) ∧ fits (am_fty 11 7) (.int (((h.1 154 7) + (Int32.ofInt 1)))) = true ∧ pz_S 3 none am_r212 d Q 40 [(2, .int (pz_b (false))), (0, .ref 154), (1, .int dep)] [] (am_wI h 154 7 (((h.1 154 7) + (Int32.ofInt 1)))) from ⟨by decide, rfl, ex_154 (r_P l), ex_154 (r_P l), rfl, rfl, ?_⟩)
        rw [r_a l, xw_i1]
        have l64 : rr h0 0 τ N (s.1 + 1, s.2) (am_wI h 154 7 (nI (s.1 + 1))) := rr_nx (a := s.1) (C := s.2) l (sp_sn e63)
        refine am_goX 3 (show am_rc (am_wI h 154 7 (nI (s.1 + 1))) 154 11 ∧ 0 ≤ 8 ∧ (am_wI h 154 7 (nI (s.1 + 1))).2.2.2.2 + am_al 213 ≤ 175 ∧ am_call am_cod d 213 [.ref 154, .int dep] (am_wI h 154 7 (nI (s.1 + 1))) (fun vv h' => pz_S 3 none am_r212 d Q 45 [(2, .int (pz_b (false))), (0, .ref 154), (1, .int dep)] (vv.toList ++ []) h') from ⟨Or.inl ⟨by decide, ex_154 (r_P l64)⟩, by decide, ex_lim (r_P l64) rfl, ks (s.1 + 1, s.2) _ _ l64 ht (fun F65 h66 c67 a68 e69 x70 b71 b72 b73 => ?_) (fun h74 t75 e76 l77 ht78 => ?_)⟩)
        ·
          try dsimp only at b71 b73
          have g0 := r_N l64
          try dsimp only at g0
          refine am_goX 3 (show ((pz_b (false)) = 0 → pz_S 3 none am_r212 d Q 54 [(2, .int (pz_b (false))), (0, .ref 154), (1, .int dep)] [.ref 154] h66) ∧ (¬ ((pz_b (false)) = 0) → pz_S 3 none am_r212 d Q 50 [(2, .int (pz_b (false))), (0, .ref 154), (1, .int dep)] [.ref 154] h66) from ⟨fun _ => ?_, fun hz => absurd (by decide) hz⟩)
          refine am_goX 3 (show am_rc h66 154 11 ∧ 0 ≤ 8 ∧ h66.2.2.2.2 + am_al 216 ≤ 175 ∧ am_call am_cod d 216 [.ref 154, .int (Int32.ofInt 5), .int (Int32.ofInt 0)] h66 (fun vv h' => pz_S 3 none am_r212 d Q 59 [(2, .int (pz_b (false))), (0, .ref 154), (1, .int dep)] (vv.toList ++ []) h') from ⟨Or.inl ⟨by decide, ex_154 x70.1⟩, by decide, ex_lim x70.1 rfl, am_call.up (d_216 (by omega) x70 (fun h80 x81 => ?_)) (by omega)⟩)
          refine am_goX 4 (show am_rc h80 154 11 ∧ 0 ≤ 8 ∧ h80.2.2.2.2 + am_al 215 ≤ 175 ∧ am_call am_cod d 215 [.ref 154, .int (Int8.ofInt 43).toInt32] h80 (fun vv h' => pz_S 3 none am_r212 d Q 11 [(2, .int (pz_b (false))), (0, .ref 154), (1, .int dep)] (vv.toList ++ []) h') from ⟨Or.inl ⟨by decide, ex_154 x81.1⟩, by decide, ex_lim x81.1 rfl, am_call.up (d_215 x81 ?_) (by omega)⟩)
          refine am_goX 1 (show (¬ 0 = 0 → pz_S 3 none am_r212 d Q 23 [(2, .int (pz_b (false))), (0, .ref 154), (1, .int dep)] [] h80) ∧ (¬ ¬ 0 = 0 → pz_S 3 none am_r212 d Q 14 [(2, .int (pz_b (false))), (0, .ref 154), (1, .int dep)] [] h80) from ⟨fun hz => absurd hz (by decide), fun _ => ?_⟩)
          refine am_goX 3 (show am_rc h80 154 11 ∧ 0 ≤ 8 ∧ h80.2.2.2.2 + am_al 215 ≤ 175 ∧ am_call am_cod d 215 [.ref 154, .int (Int8.ofInt 45).toInt32] h80 (fun vv h' => pz_S 3 none am_r212 d Q 20 [(2, .int (pz_b (false))), (0, .ref 154), (1, .int dep)] (vv.toList ++ []) h') from ⟨Or.inl ⟨by decide, ex_154 x81.1⟩, by decide, ex_lim x81.1 rfl, am_call.up (d_215 x81 ?_) (by omega)⟩)
          refine am_goX 1 (show (0 = 0 → pz_S 3 none am_r212 d Q 62 [(2, .int (pz_b (false))), (0, .ref 154), (1, .int dep)] [] h80) ∧ (¬ (0 = 0) → pz_S 3 none am_r212 d Q 23 [(2, .int (pz_b (false))), (0, .ref 154), (1, .int dep)] [] h80) from ⟨fun _ => ?_, fun hz => absurd (by decide) hz⟩)
          exact am_goX 1 (show (none : Option FieldType) = none ∧ h80.2.2.2.2 = 175 ∧ _ from ⟨rfl, ex_175 x81.1, hF (F65) _ (c67 + 1) a68 (by simp only [sp_sL, sp_b, sp_f, cond_true, cond_false, e42, e63, e69]) x81 (by omega) (by omega) (by omega)⟩)
        ·
          have g79 := hok _ _ e76
          unfold sp_le at g79
          try dsimp only at g79
          have g0 := r_N l64
          try dsimp only at g0
          refine am_goX 3 (show ((pz_b (false)) = 0 → pz_S 3 none am_r212 d Q 54 [(2, .int (pz_b (false))), (0, .ref 154), (1, .int dep)] [.ref 154] h74) ∧ (¬ ((pz_b (false)) = 0) → pz_S 3 none am_r212 d Q 50 [(2, .int (pz_b (false))), (0, .ref 154), (1, .int dep)] [.ref 154] h74) from ⟨fun _ => ?_, fun hz => absurd (by decide) hz⟩)
          refine am_goX 3 (show am_rc h74 154 11 ∧ 0 ≤ 8 ∧ h74.2.2.2.2 + am_al 216 ≤ 175 ∧ am_call am_cod d 216 [.ref 154, .int (Int32.ofInt 5), .int (Int32.ofInt 0)] h74 (fun vv h' => pz_S 3 none am_r212 d Q 59 [(2, .int (pz_b (false))), (0, .ref 154), (1, .int dep)] (vv.toList ++ []) h') from ⟨Or.inl ⟨by decide, ex_154 (r_P l77)⟩, by decide, ex_lim (r_P l77) rfl, am_call.up (r_216 (w := ((Int8.ofInt (-11)).toInt32)) (s := t75) l77 (by first | omega | (dsimp only; omega)) (by decide) (by decide) ht78 (fun h82 l83 => ?_)) (by omega)⟩)
          refine am_goX 1 (show pz_S 3 none am_r212 d Q 5 [(2, .int (pz_b (false))), (0, .ref 154), (1, .int dep)] [] h82 from ?_)
          have hx : sp_sL τ p (m + 1) s = sp_sL τ p m (t75.1, sp_em t75.2 ((Int8.ofInt (-11)).toInt32)) := by simp only [sp_sL, sp_b, cond_true, cond_false, e42, e63, e76]
          refine sv_S (by decide +kernel) (by intro q hq; simp only [List.mem_cons, List.not_mem_nil, or_false] at hq; rcases hq with rfl | rfl <;> rfl) (ih (t75.1, sp_em t75.2 ((Int8.ofInt (-11)).toInt32)) h82 Q (by dsimp only; omega) l83 ht78 (fun F h1 c' a' e x b1 b2 b3 => hF F h1 c' a' (hx.trans e) x ?_ b2 ?_) (fun h1 t e l1 t1 => hS h1 t (hx.trans e) l1 t1))
          all_goals (unfold sp_em at b3; dsimp only at b1 b3; omega)
      | false =>
        refine am_goX 1 (show ((pz_b (false)) = 0 → pz_S 3 none am_r212 d Q 62 [(0, .ref 154), (1, .int dep)] [] h) ∧ (¬ ((pz_b (false)) = 0) → pz_S 3 none am_r212 d Q 23 [(0, .ref 154), (1, .int dep)] [] h) from ⟨fun _ => ?_, fun hz => absurd (by decide) hz⟩)
        exact am_goX 1 (show (none : Option FieldType) = none ∧ h.2.2.2.2 = 175 ∧ _ from ⟨rfl, ex_175 (r_P l), hS _ _ (by simp only [sp_sL, sp_b, sp_f, cond_true, cond_false, e42, e63]) l ht⟩)
theorem r_212 (hd : 2 ≤ d) (ks : lw_r h0 τ N d 213 dep (sp_p τ p)) (hok : sp_ok (sp_p τ p)) : lw_r h0 τ N (d + 1) 212 dep (sp_su τ p) := by
  intro s h Q l ht hF hS
  have hP := r_P l
  have gl := r_N l
  refine pz_call (n := 212) (nL := 3) (rt := none) (rows := am_r212) (d := d) (by decide +kernel) (by decide +kernel) rfl (by funext pc; rfl) (ex_175 hP) (by exact Nat.le_of_ble_eq_true rfl) ?_
  refine am_goX 3 (show am_rc h 154 11 ∧ 0 ≤ 8 ∧ h.2.2.2.2 + am_al 213 ≤ 175 ∧ am_call am_cod d 213 [.ref 154, .int dep] h (fun vv h' => pz_S 3 none am_r212 d Q 5 [(0, .ref 154), (1, .int dep)] (vv.toList ++ []) h') from ⟨Or.inl ⟨by decide, ex_154 (r_P l)⟩, by decide, ex_lim (r_P l) rfl, ks s _ _ l ht (fun F84 h85 c86 a87 e88 x89 b90 b91 b92 => ?_) (fun h93 t94 e95 l96 ht97 => ?_)⟩)
  ·
    try dsimp only at b90 b92
    have g0 := r_N l
    try dsimp only at g0
    refine am_goX 3 (show am_rc h85 154 11 ∧ 0 ≤ 8 ∧ h85.2.2.2.2 + am_al 215 ≤ 175 ∧ am_call am_cod d 215 [.ref 154, .int (Int8.ofInt 43).toInt32] h85 (fun vv h' => pz_S 3 none am_r212 d Q 11 [(0, .ref 154), (1, .int dep)] (vv.toList ++ []) h') from ⟨Or.inl ⟨by decide, ex_154 x89.1⟩, by decide, ex_lim x89.1 rfl, am_call.up (d_215 x89 ?_) (by omega)⟩)
    refine am_goX 1 (show (¬ 0 = 0 → pz_S 3 none am_r212 d Q 23 [(0, .ref 154), (1, .int dep)] [] h85) ∧ (¬ ¬ 0 = 0 → pz_S 3 none am_r212 d Q 14 [(0, .ref 154), (1, .int dep)] [] h85) from ⟨fun hz => absurd hz (by decide), fun _ => ?_⟩)
    refine am_goX 3 (show am_rc h85 154 11 ∧ 0 ≤ 8 ∧ h85.2.2.2.2 + am_al 215 ≤ 175 ∧ am_call am_cod d 215 [.ref 154, .int (Int8.ofInt 45).toInt32] h85 (fun vv h' => pz_S 3 none am_r212 d Q 20 [(0, .ref 154), (1, .int dep)] (vv.toList ++ []) h') from ⟨Or.inl ⟨by decide, ex_154 x89.1⟩, by decide, ex_lim x89.1 rfl, am_call.up (d_215 x89 ?_) (by omega)⟩)
    refine am_goX 1 (show (0 = 0 → pz_S 3 none am_r212 d Q 62 [(0, .ref 154), (1, .int dep)] [] h85) ∧ (¬ (0 = 0) → pz_S 3 none am_r212 d Q 23 [(0, .ref 154), (1, .int dep)] [] h85) from ⟨fun _ => ?_, fun hz => absurd (by decide) hz⟩)
    exact am_goX 1 (show (none : Option FieldType) = none ∧ h85.2.2.2.2 = 175 ∧ _ from ⟨rfl, ex_175 x89.1, hF (F84) _ (c86) a87 (by simp only [sp_su, sp_b, sp_f, cond_true, cond_false, e88]) x89 (by omega) (by omega) (by omega)⟩)
  ·
    have g98 := hok _ _ e95
    unfold sp_le at g98
    try dsimp only at g98
    have g0 := r_N l
    try dsimp only at g0
    have hx : sp_su τ p s = sp_sL τ p 1001 t94 := by simp only [sp_su, sp_b, e95]
    refine r_212l hd ks hok 1001 t94 h93 Q (by omega) l96 ht97 (fun F h1 c' a' e x b1 b2 b3 => hF F h1 c' a' (hx.trans e) x ?_ b2 ?_) (fun h1 t e l1 t1 => hS h1 t (hx.trans e) l1 t1)
    all_goals omega
theorem r_211 (hd : 2 ≤ d) (ks : lw_r h0 τ N d 212 dep (sp_su τ p)) (hok : sp_ok (sp_su τ p)) : lw_r h0 τ N (d + 1) 211 dep (sp_te τ p) := by
  intro s h Q l ht hF hS
  have hP := r_P l
  have gl := r_N l
  refine pz_call (n := 211) (nL := 3) (rt := none) (rows := am_r211) (d := d) (by decide +kernel) (by decide +kernel) rfl (by funext pc; rfl) (ex_175 hP) (by exact Nat.le_of_ble_eq_true rfl) ?_
  refine am_goX 3 (show am_rc h 154 11 ∧ 0 ≤ 8 ∧ h.2.2.2.2 + am_al 212 ≤ 175 ∧ am_call am_cod d 212 [.ref 154, .int dep] h (fun vv h' => pz_S 3 none am_r211 d Q 5 [(0, .ref 154), (1, .int dep)] (vv.toList ++ []) h') from ⟨Or.inl ⟨by decide, ex_154 (r_P l)⟩, by decide, ex_lim (r_P l) rfl, ks s _ _ l ht (fun F99 h100 c101 a102 e103 x104 b105 b106 b107 => ?_) (fun h108 t109 e110 l111 ht112 => ?_)⟩)
  ·
    try dsimp only at b105 b107
    have g0 := r_N l
    try dsimp only at g0
    refine am_goX 3 (show am_rc h100 154 11 ∧ 0 ≤ 8 ∧ h100.2.2.2.2 + am_al 215 ≤ 175 ∧ am_call am_cod d 215 [.ref 154, .int (Int8.ofInt 60).toInt32] h100 (fun vv h' => pz_S 3 none am_r211 d Q 11 [(0, .ref 154), (1, .int dep)] (vv.toList ++ []) h') from ⟨Or.inl ⟨by decide, ex_154 x104.1⟩, by decide, ex_lim x104.1 rfl, am_call.up (d_215 x104 ?_) (by omega)⟩)
    refine am_goX 4 (show 2 < 3 ∧ am_rc h100 154 11 ∧ 0 ≤ 8 ∧ h100.2.2.2.2 + am_al 217 ≤ 175 ∧ am_call am_cod d 217 [.ref 154, .int (Int8.ofInt 60).toInt32] h100 (fun vv h' => pz_S 3 none am_r211 d Q 18 [(2, .int 0), (0, .ref 154), (1, .int dep)] (vv.toList ++ []) h') from ⟨by decide, Or.inl ⟨by decide, ex_154 x104.1⟩, by decide, ex_lim x104.1 rfl, am_call.up (d_217 x104 (fun h114 x115 => ?_)) (by omega)⟩)
    refine am_goX 1 (show (¬ 0 = 0 → pz_S 3 none am_r211 d Q 30 [(2, .int 0), (0, .ref 154), (1, .int dep)] [] h114) ∧ (¬ ¬ 0 = 0 → pz_S 3 none am_r211 d Q 21 [(2, .int 0), (0, .ref 154), (1, .int dep)] [] h114) from ⟨fun hz => absurd hz (by decide), fun _ => ?_⟩)
    refine am_goX 3 (show am_rc h114 154 11 ∧ 0 ≤ 8 ∧ h114.2.2.2.2 + am_al 217 ≤ 175 ∧ am_call am_cod d 217 [.ref 154, .int (Int8.ofInt 61).toInt32] h114 (fun vv h' => pz_S 3 none am_r211 d Q 27 [(2, .int 0), (0, .ref 154), (1, .int dep)] (vv.toList ++ []) h') from ⟨Or.inl ⟨by decide, ex_154 x115.1⟩, by decide, ex_lim x115.1 rfl, am_call.up (d_217 x115 (fun h116 x117 => ?_)) (by omega)⟩)
    refine am_goX 1 (show (0 = 0 → pz_S 3 none am_r211 d Q 51 [(2, .int 0), (0, .ref 154), (1, .int dep)] [] h116) ∧ (¬ (0 = 0) → pz_S 3 none am_r211 d Q 30 [(2, .int 0), (0, .ref 154), (1, .int dep)] [] h116) from ⟨fun _ => ?_, fun hz => absurd (by decide) hz⟩)
    exact am_goX 1 (show (none : Option FieldType) = none ∧ h116.2.2.2.2 = 175 ∧ _ from ⟨rfl, ex_175 x117.1, hF (F99) _ (c101) a102 (by simp only [sp_te, sp_b, sp_f, cond_true, cond_false, e103]) x117 (by omega) (by omega) (by omega)⟩)
  ·
    have g113 := hok _ _ e110
    unfold sp_le at g113
    try dsimp only at g113
    have g0 := r_N l
    try dsimp only at g0
    refine am_goX 3 (show am_rc h108 154 11 ∧ 0 ≤ 8 ∧ h108.2.2.2.2 + am_al 215 ≤ 175 ∧ am_call am_cod d 215 [.ref 154, .int (Int8.ofInt 60).toInt32] h108 (fun vv h' => pz_S 3 none am_r211 d Q 11 [(0, .ref 154), (1, .int dep)] (vv.toList ++ []) h') from ⟨Or.inl ⟨by decide, ex_154 (r_P l111)⟩, by decide, ex_lim (r_P l111) rfl, am_call.up (r_215 l111 ?_) (by omega)⟩)
    refine am_goX 4 (show 2 < 3 ∧ am_rc h108 154 11 ∧ 0 ≤ 8 ∧ h108.2.2.2.2 + am_al 217 ≤ 175 ∧ am_call am_cod d 217 [.ref 154, .int (Int8.ofInt 60).toInt32] h108 (fun vv h' => pz_S 3 none am_r211 d Q 18 [(2, .int (pz_b (sp_s τ t109.1 (Int8.ofInt 60).toInt32))), (0, .ref 154), (1, .int dep)] (vv.toList ++ []) h') from ⟨by decide, Or.inl ⟨by decide, ex_154 (r_P l111)⟩, by decide, ex_lim (r_P l111) rfl, am_call.up (r_217 (s := t109) l111 (fun h118 l119 => ?_)) (by omega)⟩)
    cases e120 : sp_s τ t109.1 (Int8.ofInt 60).toInt32 with
    | true =>
      rw [e120] at l119
      replace l119 : rr h0 0 τ N (t109.1 + 1, t109.2) h118 := l119
      refine am_goX 1 (show (¬ (pz_b (true)) = 0 → pz_S 3 none am_r211 d Q 30 [(2, .int (pz_b (true))), (0, .ref 154), (1, .int dep)] [] h118) ∧ (¬ ¬ (pz_b (true)) = 0 → pz_S 3 none am_r211 d Q 21 [(2, .int (pz_b (true))), (0, .ref 154), (1, .int dep)] [] h118) from ⟨fun _ => ?_, fun hz => absurd (by decide) hz⟩)
      refine am_goX 3 (show am_rc h118 154 11 ∧ 0 ≤ 8 ∧ h118.2.2.2.2 + am_al 212 ≤ 175 ∧ am_call am_cod d 212 [.ref 154, .int dep] h118 (fun vv h' => pz_S 3 none am_r211 d Q 35 [(2, .int (pz_b (true))), (0, .ref 154), (1, .int dep)] (vv.toList ++ []) h') from ⟨Or.inl ⟨by decide, ex_154 (r_P l119)⟩, by decide, ex_lim (r_P l119) rfl, ks (t109.1 + 1, t109.2) _ _ l119 ht112 (fun F121 h122 c123 a124 e125 x126 b127 b128 b129 => ?_) (fun h130 t131 e132 l133 ht134 => ?_)⟩)
      ·
        try dsimp only at b127 b129
        have g0 := r_N l119
        try dsimp only at g0
        refine am_goX 3 (show ((pz_b (true)) = 0 → pz_S 3 none am_r211 d Q 45 [(2, .int (pz_b (true))), (0, .ref 154), (1, .int dep)] [.ref 154] h122) ∧ (¬ ((pz_b (true)) = 0) → pz_S 3 none am_r211 d Q 40 [(2, .int (pz_b (true))), (0, .ref 154), (1, .int dep)] [.ref 154] h122) from ⟨fun hz => absurd hz (by decide), fun _ => ?_⟩)
        refine am_goX 4 (show am_rc h122 154 11 ∧ 0 ≤ 8 ∧ h122.2.2.2.2 + am_al 216 ≤ 175 ∧ am_call am_cod d 216 [.ref 154, .int (Int8.ofInt 7).toInt32, .int (Int32.ofInt 0)] h122 (fun vv h' => pz_S 3 none am_r211 d Q 51 [(2, .int (pz_b (true))), (0, .ref 154), (1, .int dep)] (vv.toList ++ []) h') from ⟨Or.inl ⟨by decide, ex_154 x126.1⟩, by decide, ex_lim x126.1 rfl, am_call.up (d_216 (by omega) x126 (fun h136 x137 => ?_)) (by omega)⟩)
        exact am_goX 1 (show (none : Option FieldType) = none ∧ h136.2.2.2.2 = 175 ∧ _ from ⟨rfl, ex_175 x137.1, hF (F121) _ (c123 + 1) a124 (by simp only [sp_te, sp_b, sp_f, cond_true, cond_false, e110, e120, e125]) x137 (by omega) (by omega) (by omega)⟩)
      ·
        have g135 := hok _ _ e132
        unfold sp_le at g135
        try dsimp only at g135
        have g0 := r_N l119
        try dsimp only at g0
        refine am_goX 3 (show ((pz_b (true)) = 0 → pz_S 3 none am_r211 d Q 45 [(2, .int (pz_b (true))), (0, .ref 154), (1, .int dep)] [.ref 154] h130) ∧ (¬ ((pz_b (true)) = 0) → pz_S 3 none am_r211 d Q 40 [(2, .int (pz_b (true))), (0, .ref 154), (1, .int dep)] [.ref 154] h130) from ⟨fun hz => absurd hz (by decide), fun _ => ?_⟩)
        refine am_goX 4 (show am_rc h130 154 11 ∧ 0 ≤ 8 ∧ h130.2.2.2.2 + am_al 216 ≤ 175 ∧ am_call am_cod d 216 [.ref 154, .int (Int8.ofInt 7).toInt32, .int (Int32.ofInt 0)] h130 (fun vv h' => pz_S 3 none am_r211 d Q 51 [(2, .int (pz_b (true))), (0, .ref 154), (1, .int dep)] (vv.toList ++ []) h') from ⟨Or.inl ⟨by decide, ex_154 (r_P l133)⟩, by decide, ex_lim (r_P l133) rfl, am_call.up (r_216 (w := ((Int8.ofInt (-8)).toInt32)) (s := t131) l133 (by first | omega | (dsimp only; omega)) (by decide) (by decide) ht134 (fun h138 l139 => ?_)) (by omega)⟩)
        exact am_goX 1 (show (none : Option FieldType) = none ∧ h138.2.2.2.2 = 175 ∧ _ from ⟨rfl, ex_175 (r_P l139), hS _ _ (by simp only [sp_te, sp_b, sp_f, cond_true, cond_false, e110, e120, e132]) l139 ht134⟩)
    | false =>
      rw [e120] at l119
      replace l119 : rr h0 0 τ N t109 h118 := l119
      refine am_goX 1 (show (¬ (pz_b (false)) = 0 → pz_S 3 none am_r211 d Q 30 [(2, .int (pz_b (false))), (0, .ref 154), (1, .int dep)] [] h118) ∧ (¬ ¬ (pz_b (false)) = 0 → pz_S 3 none am_r211 d Q 21 [(2, .int (pz_b (false))), (0, .ref 154), (1, .int dep)] [] h118) from ⟨fun hz => absurd hz (by decide), fun _ => ?_⟩)
      refine am_goX 3 (show am_rc h118 154 11 ∧ 0 ≤ 8 ∧ h118.2.2.2.2 + am_al 217 ≤ 175 ∧ am_call am_cod d 217 [.ref 154, .int (Int8.ofInt 61).toInt32] h118 (fun vv h' => pz_S 3 none am_r211 d Q 27 [(2, .int (pz_b (false))), (0, .ref 154), (1, .int dep)] (vv.toList ++ []) h') from ⟨Or.inl ⟨by decide, ex_154 (r_P l119)⟩, by decide, ex_lim (r_P l119) rfl, am_call.up (r_217 (s := t109) l119 (fun h140 l141 => ?_)) (by omega)⟩)
      cases e142 : sp_s τ t109.1 (Int8.ofInt 61).toInt32 with
      | true =>
        rw [e142] at l141
        replace l141 : rr h0 0 τ N (t109.1 + 1, t109.2) h140 := l141
        refine am_goX 1 (show ((pz_b (true)) = 0 → pz_S 3 none am_r211 d Q 51 [(2, .int (pz_b (false))), (0, .ref 154), (1, .int dep)] [] h140) ∧ (¬ ((pz_b (true)) = 0) → pz_S 3 none am_r211 d Q 30 [(2, .int (pz_b (false))), (0, .ref 154), (1, .int dep)] [] h140) from ⟨fun hz => absurd hz (by decide), fun _ => ?_⟩)
        refine am_goX 3 (show am_rc h140 154 11 ∧ 0 ≤ 8 ∧ h140.2.2.2.2 + am_al 212 ≤ 175 ∧ am_call am_cod d 212 [.ref 154, .int dep] h140 (fun vv h' => pz_S 3 none am_r211 d Q 35 [(2, .int (pz_b (false))), (0, .ref 154), (1, .int dep)] (vv.toList ++ []) h') from ⟨Or.inl ⟨by decide, ex_154 (r_P l141)⟩, by decide, ex_lim (r_P l141) rfl, ks (t109.1 + 1, t109.2) _ _ l141 ht112 (fun F143 h144 c145 a146 e147 x148 b149 b150 b151 => ?_) (fun h152 t153 e154 l155 ht156 => ?_)⟩)
        ·
          try dsimp only at b149 b151
          have g0 := r_N l141
          try dsimp only at g0
          refine am_goX 3 (show ((pz_b (false)) = 0 → pz_S 3 none am_r211 d Q 45 [(2, .int (pz_b (false))), (0, .ref 154), (1, .int dep)] [.ref 154] h144) ∧ (¬ ((pz_b (false)) = 0) → pz_S 3 none am_r211 d Q 40 [(2, .int (pz_b (false))), (0, .ref 154), (1, .int dep)] [.ref 154] h144) from ⟨fun _ => ?_, fun hz => absurd (by decide) hz⟩)
          refine am_goX 3 (show am_rc h144 154 11 ∧ 0 ≤ 8 ∧ h144.2.2.2.2 + am_al 216 ≤ 175 ∧ am_call am_cod d 216 [.ref 154, .int (Int8.ofInt 8).toInt32, .int (Int32.ofInt 0)] h144 (fun vv h' => pz_S 3 none am_r211 d Q 51 [(2, .int (pz_b (false))), (0, .ref 154), (1, .int dep)] (vv.toList ++ []) h') from ⟨Or.inl ⟨by decide, ex_154 x148.1⟩, by decide, ex_lim x148.1 rfl, am_call.up (d_216 (by omega) x148 (fun h158 x159 => ?_)) (by omega)⟩)
          exact am_goX 1 (show (none : Option FieldType) = none ∧ h158.2.2.2.2 = 175 ∧ _ from ⟨rfl, ex_175 x159.1, hF (F143) _ (c145 + 1) a146 (by simp only [sp_te, sp_b, sp_f, cond_true, cond_false, e110, e120, e142, e147]) x159 (by omega) (by omega) (by omega)⟩)
        ·
          have g157 := hok _ _ e154
          unfold sp_le at g157
          try dsimp only at g157
          have g0 := r_N l141
          try dsimp only at g0
          refine am_goX 3 (show ((pz_b (false)) = 0 → pz_S 3 none am_r211 d Q 45 [(2, .int (pz_b (false))), (0, .ref 154), (1, .int dep)] [.ref 154] h152) ∧ (¬ ((pz_b (false)) = 0) → pz_S 3 none am_r211 d Q 40 [(2, .int (pz_b (false))), (0, .ref 154), (1, .int dep)] [.ref 154] h152) from ⟨fun _ => ?_, fun hz => absurd (by decide) hz⟩)
          refine am_goX 3 (show am_rc h152 154 11 ∧ 0 ≤ 8 ∧ h152.2.2.2.2 + am_al 216 ≤ 175 ∧ am_call am_cod d 216 [.ref 154, .int (Int8.ofInt 8).toInt32, .int (Int32.ofInt 0)] h152 (fun vv h' => pz_S 3 none am_r211 d Q 51 [(2, .int (pz_b (false))), (0, .ref 154), (1, .int dep)] (vv.toList ++ []) h') from ⟨Or.inl ⟨by decide, ex_154 (r_P l155)⟩, by decide, ex_lim (r_P l155) rfl, am_call.up (r_216 (w := ((Int8.ofInt (-9)).toInt32)) (s := t153) l155 (by first | omega | (dsimp only; omega)) (by decide) (by decide) ht156 (fun h160 l161 => ?_)) (by omega)⟩)
          exact am_goX 1 (show (none : Option FieldType) = none ∧ h160.2.2.2.2 = 175 ∧ _ from ⟨rfl, ex_175 (r_P l161), hS _ _ (by simp only [sp_te, sp_b, sp_f, cond_true, cond_false, e110, e120, e142, e154]) l161 ht156⟩)
      | false =>
        rw [e142] at l141
        replace l141 : rr h0 0 τ N t109 h140 := l141
        refine am_goX 1 (show ((pz_b (false)) = 0 → pz_S 3 none am_r211 d Q 51 [(2, .int (pz_b (false))), (0, .ref 154), (1, .int dep)] [] h140) ∧ (¬ ((pz_b (false)) = 0) → pz_S 3 none am_r211 d Q 30 [(2, .int (pz_b (false))), (0, .ref 154), (1, .int dep)] [] h140) from ⟨fun _ => ?_, fun hz => absurd (by decide) hz⟩)
        exact am_goX 1 (show (none : Option FieldType) = none ∧ h140.2.2.2.2 = 175 ∧ _ from ⟨rfl, ex_175 (r_P l141), hS _ _ (by simp only [sp_te, sp_b, sp_f, cond_true, cond_false, e110, e120, e142]) l141 ht112⟩)
theorem r_210l (hd : 2 ≤ d) (ks : lw_r h0 τ N d 211 dep (sp_te τ p)) (hok : sp_ok (sp_te τ p)) : ∀ (m : Nat) (s : sp_S) (h : am_H) (Q : am_Q), N < s.1 + m → rr h0 0 τ N s h → s.2.2.2.2.1 = true → (∀ (F : Int32) (h1 : am_H) (c' a' : Nat), sp_wL τ p m s = .inl F → rx h0 F c' h1 → s.1 ≤ a' → a' ≤ N → c' + s.1 ≤ s.2.2.2.2.2.1 + a' → Q none h1) → (∀ (h1 : am_H) (t : sp_S), sp_wL τ p m s = .inr t → rr h0 0 τ N t h1 → t.2.2.2.2.1 = true → Q none h1) → pz_S 3 none am_r210 d Q 5 [(0, .ref 154), (1, .int dep)] [] h := by
  intro m
  induction m with
  | zero =>
    intro s h Q hm l ht hF hS
    have := (r_N l).1
    omega
  | succ m ih =>
    intro s h Q hm l ht hF hS
    have hP := r_P l
    have gl := r_N l
    refine am_goX 3 (show am_rc h 154 11 ∧ 0 ≤ 8 ∧ h.2.2.2.2 + am_al 195 ≤ 175 ∧ am_call am_cod d 195 [.ref 154, .int (Int8.ofInt 15).toInt32] h (fun vv h' => pz_S 3 none am_r210 d Q 11 [(0, .ref 154), (1, .int dep)] (vv.toList ++ []) h') from ⟨Or.inl ⟨by decide, ex_154 (r_P l)⟩, by decide, ex_lim (r_P l) rfl, am_call.up (r_195 (w := 15) (W := 1891) (by decide) (by decide) (by decide) l ?_) (by omega)⟩)
    cases e162 : sp_w τ s.1 1891 with
    | true =>
      refine am_goX 1 (show (¬ (pz_b (true)) = 0 → pz_S 3 none am_r210 d Q 23 [(0, .ref 154), (1, .int dep)] [] h) ∧ (¬ ¬ (pz_b (true)) = 0 → pz_S 3 none am_r210 d Q 14 [(0, .ref 154), (1, .int dep)] [] h) from ⟨fun _ => ?_, fun hz => absurd (by decide) hz⟩)
      refine am_goX 3 (show am_rc h 154 11 ∧ 0 ≤ 8 ∧ h.2.2.2.2 + am_al 195 ≤ 175 ∧ am_call am_cod d 195 [.ref 154, .int (Int8.ofInt 15).toInt32] h (fun vv h' => pz_S 3 none am_r210 d Q 29 [(0, .ref 154), (1, .int dep)] (vv.toList ++ []) h') from ⟨Or.inl ⟨by decide, ex_154 (r_P l)⟩, by decide, ex_lim (r_P l) rfl, am_call.up (r_195 (w := 15) (W := 1891) (by decide) (by decide) (by decide) l ?_) (by omega)⟩)
      rw [e162]
      refine am_goX 7 (show 2 < 3 ∧ (Value.ref 154).category = 1 ∧ am_sh h 154 = some (11, 0) ∧ am_sh h 154 = some (11, 0) ∧ narrow (am_fty 11 7) (.int (((h.1 154 7) + (Int32.ofInt 1)))) = .int (((h.1 154 7) + (Int32.ofInt 1))) ∧ fits (am_fty 11 7) (.int (((h.1 154 7) + (Int32.ofInt 1)))) = true ∧ pz_S 3 none am_r210 d Q 40 [(2, .int (pz_b (true))), (0, .ref 154), (1, .int dep)] [] (am_wI h 154 7 (((h.1 154 7) + (Int32.ofInt 1)))) from ⟨by decide, rfl, ex_154 (r_P l), ex_154 (r_P l), rfl, rfl, ?_⟩)
      rw [r_a l, xw_i1]
      have l163 : rr h0 0 τ N (s.1 + 1, s.2) (am_wI h 154 7 (nI (s.1 + 1))) := rr_nx (a := s.1) (C := s.2) l (sp_wn e162)
      refine am_goX 3 (show am_rc (am_wI h 154 7 (nI (s.1 + 1))) 154 11 ∧ 0 ≤ 8 ∧ (am_wI h 154 7 (nI (s.1 + 1))).2.2.2.2 + am_al 211 ≤ 175 ∧ am_call am_cod d 211 [.ref 154, .int dep] (am_wI h 154 7 (nI (s.1 + 1))) (fun vv h' => pz_S 3 none am_r210 d Q 45 [(2, .int (pz_b (true))), (0, .ref 154), (1, .int dep)] (vv.toList ++ []) h') from ⟨Or.inl ⟨by decide, ex_154 (r_P l163)⟩, by decide, ex_lim (r_P l163) rfl, ks (s.1 + 1, s.2) _ _ l163 ht (fun F164 h165 c166 a167 e168 x169 b170 b171 b172 => ?_) (fun h173 t174 e175 l176 ht177 => ?_)⟩)
      ·
        try dsimp only at b170 b172
        have g0 := r_N l163
        try dsimp only at g0
        refine am_goX 3 (show ((pz_b (true)) = 0 → pz_S 3 none am_r210 d Q 55 [(2, .int (pz_b (true))), (0, .ref 154), (1, .int dep)] [.ref 154] h165) ∧ (¬ ((pz_b (true)) = 0) → pz_S 3 none am_r210 d Q 50 [(2, .int (pz_b (true))), (0, .ref 154), (1, .int dep)] [.ref 154] h165) from ⟨fun hz => absurd hz (by decide), fun _ => ?_⟩)
        refine am_goX 4 (show am_rc h165 154 11 ∧ 0 ≤ 8 ∧ h165.2.2.2.2 + am_al 216 ≤ 175 ∧ am_call am_cod d 216 [.ref 154, .int (Int8.ofInt 9).toInt32, .int (Int32.ofInt 0)] h165 (fun vv h' => pz_S 3 none am_r210 d Q 61 [(2, .int (pz_b (true))), (0, .ref 154), (1, .int dep)] (vv.toList ++ []) h') from ⟨Or.inl ⟨by decide, ex_154 x169.1⟩, by decide, ex_lim x169.1 rfl, am_call.up (d_216 (by omega) x169 (fun h179 x180 => ?_)) (by omega)⟩)
        refine am_goX 4 (show am_rc h179 154 11 ∧ 0 ≤ 8 ∧ h179.2.2.2.2 + am_al 195 ≤ 175 ∧ am_call am_cod d 195 [.ref 154, .int (Int8.ofInt 15).toInt32] h179 (fun vv h' => pz_S 3 none am_r210 d Q 11 [(2, .int (pz_b (true))), (0, .ref 154), (1, .int dep)] (vv.toList ++ []) h') from ⟨Or.inl ⟨by decide, ex_154 x180.1⟩, by decide, ex_lim x180.1 rfl, am_call.up (d_195 x180 ?_) (by omega)⟩)
        refine am_goX 1 (show (¬ 0 = 0 → pz_S 3 none am_r210 d Q 23 [(2, .int (pz_b (true))), (0, .ref 154), (1, .int dep)] [] h179) ∧ (¬ ¬ 0 = 0 → pz_S 3 none am_r210 d Q 14 [(2, .int (pz_b (true))), (0, .ref 154), (1, .int dep)] [] h179) from ⟨fun hz => absurd hz (by decide), fun _ => ?_⟩)
        refine am_goX 3 (show am_rc h179 154 11 ∧ 0 ≤ 8 ∧ h179.2.2.2.2 + am_al 195 ≤ 175 ∧ am_call am_cod d 195 [.ref 154, .int (Int8.ofInt 16).toInt32] h179 (fun vv h' => pz_S 3 none am_r210 d Q 20 [(2, .int (pz_b (true))), (0, .ref 154), (1, .int dep)] (vv.toList ++ []) h') from ⟨Or.inl ⟨by decide, ex_154 x180.1⟩, by decide, ex_lim x180.1 rfl, am_call.up (d_195 x180 ?_) (by omega)⟩)
        refine am_goX 1 (show (0 = 0 → pz_S 3 none am_r210 d Q 64 [(2, .int (pz_b (true))), (0, .ref 154), (1, .int dep)] [] h179) ∧ (¬ (0 = 0) → pz_S 3 none am_r210 d Q 23 [(2, .int (pz_b (true))), (0, .ref 154), (1, .int dep)] [] h179) from ⟨fun _ => ?_, fun hz => absurd (by decide) hz⟩)
        exact am_goX 1 (show (none : Option FieldType) = none ∧ h179.2.2.2.2 = 175 ∧ _ from ⟨rfl, ex_175 x180.1, hF (F164) _ (c166 + 1) a167 (by simp only [sp_wL, sp_b, sp_f, cond_true, cond_false, e162, e168]) x180 (by omega) (by omega) (by omega)⟩)
      ·
        have g178 := hok _ _ e175
        unfold sp_le at g178
        try dsimp only at g178
        have g0 := r_N l163
        try dsimp only at g0
        refine am_goX 3 (show ((pz_b (true)) = 0 → pz_S 3 none am_r210 d Q 55 [(2, .int (pz_b (true))), (0, .ref 154), (1, .int dep)] [.ref 154] h173) ∧ (¬ ((pz_b (true)) = 0) → pz_S 3 none am_r210 d Q 50 [(2, .int (pz_b (true))), (0, .ref 154), (1, .int dep)] [.ref 154] h173) from ⟨fun hz => absurd hz (by decide), fun _ => ?_⟩)
        refine am_goX 4 (show am_rc h173 154 11 ∧ 0 ≤ 8 ∧ h173.2.2.2.2 + am_al 216 ≤ 175 ∧ am_call am_cod d 216 [.ref 154, .int (Int8.ofInt 9).toInt32, .int (Int32.ofInt 0)] h173 (fun vv h' => pz_S 3 none am_r210 d Q 61 [(2, .int (pz_b (true))), (0, .ref 154), (1, .int dep)] (vv.toList ++ []) h') from ⟨Or.inl ⟨by decide, ex_154 (r_P l176)⟩, by decide, ex_lim (r_P l176) rfl, am_call.up (r_216 (w := ((Int8.ofInt (-6)).toInt32)) (s := t174) l176 (by first | omega | (dsimp only; omega)) (by decide) (by decide) ht177 (fun h181 l182 => ?_)) (by omega)⟩)
        refine am_goX 1 (show pz_S 3 none am_r210 d Q 5 [(2, .int (pz_b (true))), (0, .ref 154), (1, .int dep)] [] h181 from ?_)
        have hx : sp_wL τ p (m + 1) s = sp_wL τ p m (t174.1, sp_em t174.2 ((Int8.ofInt (-6)).toInt32)) := by simp only [sp_wL, sp_b, cond_true, cond_false, e162, e175]
        refine sv_S (by decide +kernel) (by intro q hq; simp only [List.mem_cons, List.not_mem_nil, or_false] at hq; rcases hq with rfl | rfl <;> rfl) (ih (t174.1, sp_em t174.2 ((Int8.ofInt (-6)).toInt32)) h181 Q (by dsimp only; omega) l182 ht177 (fun F h1 c' a' e x b1 b2 b3 => hF F h1 c' a' (hx.trans e) x ?_ b2 ?_) (fun h1 t e l1 t1 => hS h1 t (hx.trans e) l1 t1))
        all_goals (unfold sp_em at b3; dsimp only at b1 b3; omega)
    | false =>
      refine am_goX 1 (show (¬ (pz_b (false)) = 0 → pz_S 3 none am_r210 d Q 23 [(0, .ref 154), (1, .int dep)] [] h) ∧ (¬ ¬ (pz_b (false)) = 0 → pz_S 3 none am_r210 d Q 14 [(0, .ref 154), (1, .int dep)] [] h) from ⟨fun hz => absurd hz (by decide), fun _ => ?_⟩)
      refine am_goX 3 (show am_rc h 154 11 ∧ 0 ≤ 8 ∧ h.2.2.2.2 + am_al 195 ≤ 175 ∧ am_call am_cod d 195 [.ref 154, .int (Int8.ofInt 16).toInt32] h (fun vv h' => pz_S 3 none am_r210 d Q 20 [(0, .ref 154), (1, .int dep)] (vv.toList ++ []) h') from ⟨Or.inl ⟨by decide, ex_154 (r_P l)⟩, by decide, ex_lim (r_P l) rfl, am_call.up (r_195 (w := 16) (W := 573) (by decide) (by decide) (by decide) l ?_) (by omega)⟩)
      cases e183 : sp_w τ s.1 573 with
      | true =>
        refine am_goX 1 (show ((pz_b (true)) = 0 → pz_S 3 none am_r210 d Q 64 [(0, .ref 154), (1, .int dep)] [] h) ∧ (¬ ((pz_b (true)) = 0) → pz_S 3 none am_r210 d Q 23 [(0, .ref 154), (1, .int dep)] [] h) from ⟨fun hz => absurd hz (by decide), fun _ => ?_⟩)
        refine am_goX 3 (show am_rc h 154 11 ∧ 0 ≤ 8 ∧ h.2.2.2.2 + am_al 195 ≤ 175 ∧ am_call am_cod d 195 [.ref 154, .int (Int8.ofInt 15).toInt32] h (fun vv h' => pz_S 3 none am_r210 d Q 29 [(0, .ref 154), (1, .int dep)] (vv.toList ++ []) h') from ⟨Or.inl ⟨by decide, ex_154 (r_P l)⟩, by decide, ex_lim (r_P l) rfl, am_call.up (r_195 (w := 15) (W := 1891) (by decide) (by decide) (by decide) l ?_) (by omega)⟩)
        rw [e162]
        refine am_goX 7 (show 2 < 3 ∧ (Value.ref 154).category = 1 ∧ am_sh h 154 = some (11, 0) ∧ am_sh h 154 = some (11, 0) ∧ narrow (am_fty 11 7) (.int (((h.1 154 7) + (Int32.ofInt 1)))) = .int (((h.1 154 7) + (Int32.ofInt 1))) ∧ fits (am_fty 11 7) (.int (((h.1 154 7) + (Int32.ofInt 1)))) = true ∧ pz_S 3 none am_r210 d Q 40 [(2, .int (pz_b (false))), (0, .ref 154), (1, .int dep)] [] (am_wI h 154 7 (((h.1 154 7) + (Int32.ofInt 1)))) from ⟨by decide, rfl, ex_154 (r_P l), ex_154 (r_P l), rfl, rfl, ?_⟩)
        rw [r_a l, xw_i1]
        have l184 : rr h0 0 τ N (s.1 + 1, s.2) (am_wI h 154 7 (nI (s.1 + 1))) := rr_nx (a := s.1) (C := s.2) l (sp_wn e183)
        refine am_goX 3 (show am_rc (am_wI h 154 7 (nI (s.1 + 1))) 154 11 ∧ 0 ≤ 8 ∧ (am_wI h 154 7 (nI (s.1 + 1))).2.2.2.2 + am_al 211 ≤ 175 ∧ am_call am_cod d 211 [.ref 154, .int dep] (am_wI h 154 7 (nI (s.1 + 1))) (fun vv h' => pz_S 3 none am_r210 d Q 45 [(2, .int (pz_b (false))), (0, .ref 154), (1, .int dep)] (vv.toList ++ []) h') from ⟨Or.inl ⟨by decide, ex_154 (r_P l184)⟩, by decide, ex_lim (r_P l184) rfl, ks (s.1 + 1, s.2) _ _ l184 ht (fun F185 h186 c187 a188 e189 x190 b191 b192 b193 => ?_) (fun h194 t195 e196 l197 ht198 => ?_)⟩)
        ·
          try dsimp only at b191 b193
          have g0 := r_N l184
          try dsimp only at g0
          refine am_goX 3 (show ((pz_b (false)) = 0 → pz_S 3 none am_r210 d Q 55 [(2, .int (pz_b (false))), (0, .ref 154), (1, .int dep)] [.ref 154] h186) ∧ (¬ ((pz_b (false)) = 0) → pz_S 3 none am_r210 d Q 50 [(2, .int (pz_b (false))), (0, .ref 154), (1, .int dep)] [.ref 154] h186) from ⟨fun _ => ?_, fun hz => absurd (by decide) hz⟩)
          refine am_goX 3 (show am_rc h186 154 11 ∧ 0 ≤ 8 ∧ h186.2.2.2.2 + am_al 216 ≤ 175 ∧ am_call am_cod d 216 [.ref 154, .int (Int8.ofInt 10).toInt32, .int (Int32.ofInt 0)] h186 (fun vv h' => pz_S 3 none am_r210 d Q 61 [(2, .int (pz_b (false))), (0, .ref 154), (1, .int dep)] (vv.toList ++ []) h') from ⟨Or.inl ⟨by decide, ex_154 x190.1⟩, by decide, ex_lim x190.1 rfl, am_call.up (d_216 (by omega) x190 (fun h200 x201 => ?_)) (by omega)⟩)
          refine am_goX 4 (show am_rc h200 154 11 ∧ 0 ≤ 8 ∧ h200.2.2.2.2 + am_al 195 ≤ 175 ∧ am_call am_cod d 195 [.ref 154, .int (Int8.ofInt 15).toInt32] h200 (fun vv h' => pz_S 3 none am_r210 d Q 11 [(2, .int (pz_b (false))), (0, .ref 154), (1, .int dep)] (vv.toList ++ []) h') from ⟨Or.inl ⟨by decide, ex_154 x201.1⟩, by decide, ex_lim x201.1 rfl, am_call.up (d_195 x201 ?_) (by omega)⟩)
          refine am_goX 1 (show (¬ 0 = 0 → pz_S 3 none am_r210 d Q 23 [(2, .int (pz_b (false))), (0, .ref 154), (1, .int dep)] [] h200) ∧ (¬ ¬ 0 = 0 → pz_S 3 none am_r210 d Q 14 [(2, .int (pz_b (false))), (0, .ref 154), (1, .int dep)] [] h200) from ⟨fun hz => absurd hz (by decide), fun _ => ?_⟩)
          refine am_goX 3 (show am_rc h200 154 11 ∧ 0 ≤ 8 ∧ h200.2.2.2.2 + am_al 195 ≤ 175 ∧ am_call am_cod d 195 [.ref 154, .int (Int8.ofInt 16).toInt32] h200 (fun vv h' => pz_S 3 none am_r210 d Q 20 [(2, .int (pz_b (false))), (0, .ref 154), (1, .int dep)] (vv.toList ++ []) h') from ⟨Or.inl ⟨by decide, ex_154 x201.1⟩, by decide, ex_lim x201.1 rfl, am_call.up (d_195 x201 ?_) (by omega)⟩)
          refine am_goX 1 (show (0 = 0 → pz_S 3 none am_r210 d Q 64 [(2, .int (pz_b (false))), (0, .ref 154), (1, .int dep)] [] h200) ∧ (¬ (0 = 0) → pz_S 3 none am_r210 d Q 23 [(2, .int (pz_b (false))), (0, .ref 154), (1, .int dep)] [] h200) from ⟨fun _ => ?_, fun hz => absurd (by decide) hz⟩)
          exact am_goX 1 (show (none : Option FieldType) = none ∧ h200.2.2.2.2 = 175 ∧ _ from ⟨rfl, ex_175 x201.1, hF (F185) _ (c187 + 1) a188 (by simp only [sp_wL, sp_b, sp_f, cond_true, cond_false, e162, e183, e189]) x201 (by omega) (by omega) (by omega)⟩)
        ·
          have g199 := hok _ _ e196
          unfold sp_le at g199
          try dsimp only at g199
          have g0 := r_N l184
          try dsimp only at g0
          refine am_goX 3 (show ((pz_b (false)) = 0 → pz_S 3 none am_r210 d Q 55 [(2, .int (pz_b (false))), (0, .ref 154), (1, .int dep)] [.ref 154] h194) ∧ (¬ ((pz_b (false)) = 0) → pz_S 3 none am_r210 d Q 50 [(2, .int (pz_b (false))), (0, .ref 154), (1, .int dep)] [.ref 154] h194) from ⟨fun _ => ?_, fun hz => absurd (by decide) hz⟩)
          refine am_goX 3 (show am_rc h194 154 11 ∧ 0 ≤ 8 ∧ h194.2.2.2.2 + am_al 216 ≤ 175 ∧ am_call am_cod d 216 [.ref 154, .int (Int8.ofInt 10).toInt32, .int (Int32.ofInt 0)] h194 (fun vv h' => pz_S 3 none am_r210 d Q 61 [(2, .int (pz_b (false))), (0, .ref 154), (1, .int dep)] (vv.toList ++ []) h') from ⟨Or.inl ⟨by decide, ex_154 (r_P l197)⟩, by decide, ex_lim (r_P l197) rfl, am_call.up (r_216 (w := ((Int8.ofInt (-7)).toInt32)) (s := t195) l197 (by first | omega | (dsimp only; omega)) (by decide) (by decide) ht198 (fun h202 l203 => ?_)) (by omega)⟩)
          refine am_goX 1 (show pz_S 3 none am_r210 d Q 5 [(2, .int (pz_b (false))), (0, .ref 154), (1, .int dep)] [] h202 from ?_)
          have hx : sp_wL τ p (m + 1) s = sp_wL τ p m (t195.1, sp_em t195.2 ((Int8.ofInt (-7)).toInt32)) := by simp only [sp_wL, sp_b, cond_true, cond_false, e162, e183, e196]
          refine sv_S (by decide +kernel) (by intro q hq; simp only [List.mem_cons, List.not_mem_nil, or_false] at hq; rcases hq with rfl | rfl <;> rfl) (ih (t195.1, sp_em t195.2 ((Int8.ofInt (-7)).toInt32)) h202 Q (by dsimp only; omega) l203 ht198 (fun F h1 c' a' e x b1 b2 b3 => hF F h1 c' a' (hx.trans e) x ?_ b2 ?_) (fun h1 t e l1 t1 => hS h1 t (hx.trans e) l1 t1))
          all_goals (unfold sp_em at b3; dsimp only at b1 b3; omega)
      | false =>
        refine am_goX 1 (show ((pz_b (false)) = 0 → pz_S 3 none am_r210 d Q 64 [(0, .ref 154), (1, .int dep)] [] h) ∧ (¬ ((pz_b (false)) = 0) → pz_S 3 none am_r210 d Q 23 [(0, .ref 154), (1, .int dep)] [] h) from ⟨fun _ => ?_, fun hz => absurd (by decide) hz⟩)
        exact am_goX 1 (show (none : Option FieldType) = none ∧ h.2.2.2.2 = 175 ∧ _ from ⟨rfl, ex_175 (r_P l), hS _ _ (by simp only [sp_wL, sp_b, sp_f, cond_true, cond_false, e162, e183]) l ht⟩)
theorem r_210 (hd : 2 ≤ d) (ks : lw_r h0 τ N d 211 dep (sp_te τ p)) (hok : sp_ok (sp_te τ p)) : lw_r h0 τ N (d + 1) 210 dep (sp_wh τ p) := by
  intro s h Q l ht hF hS
  have hP := r_P l
  have gl := r_N l
  refine pz_call (n := 210) (nL := 3) (rt := none) (rows := am_r210) (d := d) (by decide +kernel) (by decide +kernel) rfl (by funext pc; rfl) (ex_175 hP) (by exact Nat.le_of_ble_eq_true rfl) ?_
  refine am_goX 3 (show am_rc h 154 11 ∧ 0 ≤ 8 ∧ h.2.2.2.2 + am_al 211 ≤ 175 ∧ am_call am_cod d 211 [.ref 154, .int dep] h (fun vv h' => pz_S 3 none am_r210 d Q 5 [(0, .ref 154), (1, .int dep)] (vv.toList ++ []) h') from ⟨Or.inl ⟨by decide, ex_154 (r_P l)⟩, by decide, ex_lim (r_P l) rfl, ks s _ _ l ht (fun F204 h205 c206 a207 e208 x209 b210 b211 b212 => ?_) (fun h213 t214 e215 l216 ht217 => ?_)⟩)
  ·
    try dsimp only at b210 b212
    have g0 := r_N l
    try dsimp only at g0
    refine am_goX 3 (show am_rc h205 154 11 ∧ 0 ≤ 8 ∧ h205.2.2.2.2 + am_al 195 ≤ 175 ∧ am_call am_cod d 195 [.ref 154, .int (Int8.ofInt 15).toInt32] h205 (fun vv h' => pz_S 3 none am_r210 d Q 11 [(0, .ref 154), (1, .int dep)] (vv.toList ++ []) h') from ⟨Or.inl ⟨by decide, ex_154 x209.1⟩, by decide, ex_lim x209.1 rfl, am_call.up (d_195 x209 ?_) (by omega)⟩)
    refine am_goX 1 (show (¬ 0 = 0 → pz_S 3 none am_r210 d Q 23 [(0, .ref 154), (1, .int dep)] [] h205) ∧ (¬ ¬ 0 = 0 → pz_S 3 none am_r210 d Q 14 [(0, .ref 154), (1, .int dep)] [] h205) from ⟨fun hz => absurd hz (by decide), fun _ => ?_⟩)
    refine am_goX 3 (show am_rc h205 154 11 ∧ 0 ≤ 8 ∧ h205.2.2.2.2 + am_al 195 ≤ 175 ∧ am_call am_cod d 195 [.ref 154, .int (Int8.ofInt 16).toInt32] h205 (fun vv h' => pz_S 3 none am_r210 d Q 20 [(0, .ref 154), (1, .int dep)] (vv.toList ++ []) h') from ⟨Or.inl ⟨by decide, ex_154 x209.1⟩, by decide, ex_lim x209.1 rfl, am_call.up (d_195 x209 ?_) (by omega)⟩)
    refine am_goX 1 (show (0 = 0 → pz_S 3 none am_r210 d Q 64 [(0, .ref 154), (1, .int dep)] [] h205) ∧ (¬ (0 = 0) → pz_S 3 none am_r210 d Q 23 [(0, .ref 154), (1, .int dep)] [] h205) from ⟨fun _ => ?_, fun hz => absurd (by decide) hz⟩)
    exact am_goX 1 (show (none : Option FieldType) = none ∧ h205.2.2.2.2 = 175 ∧ _ from ⟨rfl, ex_175 x209.1, hF (F204) _ (c206) a207 (by simp only [sp_wh, sp_b, sp_f, cond_true, cond_false, e208]) x209 (by omega) (by omega) (by omega)⟩)
  ·
    have g218 := hok _ _ e215
    unfold sp_le at g218
    try dsimp only at g218
    have g0 := r_N l
    try dsimp only at g0
    have hx : sp_wh τ p s = sp_wL τ p 1001 t214 := by simp only [sp_wh, sp_b, e215]
    refine r_210l hd ks hok 1001 t214 h213 Q (by omega) l216 ht217 (fun F h1 c' a' e x b1 b2 b3 => hF F h1 c' a' (hx.trans e) x ?_ b2 ?_) (fun h1 t e l1 t1 => hS h1 t (hx.trans e) l1 t1)
    all_goals omega
theorem r_214z {r : Nat} (hd : 2 ≤ d) (hdp : dep = Int32.ofInt 5) : lw_r h0 τ N (d + 1) 214 dep (sp_pt τ 0) := by
  intro s h Q l ht hF hS
  have hP := r_P l
  have gl := r_N l
  refine pz_call (n := 214) (nL := 4) (rt := none) (rows := am_r214) (d := d) (by decide +kernel) (by decide +kernel) rfl (by funext pc; rfl) (ex_175 hP) (by exact Nat.le_of_ble_eq_true rfl) ?_
  refine am_goX 2 (show am_sh h 154 = some (11, 0) ∧ pz_S 4 none am_r214 d Q 4 [(0, .ref 154), (1, .int dep)] [.int (h.1 154 8)] h from ⟨ex_154 (r_P l), ?_⟩)
  rw [r_f l]
  refine am_goX 1 (show (0 ≤ 0 → pz_S 4 none am_r214 d Q 8 [(0, .ref 154), (1, .int dep)] [] h) ∧ (¬ (0 ≤ 0) → pz_S 4 none am_r214 d Q 7 [(0, .ref 154), (1, .int dep)] [] h) from ⟨fun _ => ?_, fun hz => absurd (by decide) hz⟩)
  refine am_goX 2 (show am_sh h 154 = some (11, 0) ∧ pz_S 4 none am_r214 d Q 12 [(0, .ref 154), (1, .int dep)] [am_rf (h.2.2.1 154 4)] h from ⟨ex_154 (r_P l), ?_⟩)
  rw [ex_r154_4 (h := h) (r_P l)]
  refine am_goX 3 (show am_sh h 154 = some (11, 0) ∧ ∃ jj nn : Nat, am_sh h 156 = some (13, nn) ∧ jj < nn ∧ (h.1 154 7) = nI jj ∧ pz_S 4 none am_r214 d Q 17 [(0, .ref 154), (1, .int dep)] [.int (h.1 156 jj)] h from ⟨ex_154 (r_P l), s.1, 1002, ex_156 (r_P l), (by have := r_N l; first | omega | (dsimp only at this; omega) | (dsimp only at this ⊢; omega)), r_a l, ?_⟩)
  rw [r_k l]
  refine am_goX 1 (show pz_S 4 none am_r214 d Q 18 [(0, .ref 154), (1, .int dep)] [.int (Int32.ofInt 2), .int (τ s.1).1] h from ?_)
  cases e219 : sp_k τ s.1 2 with
  | true =>
    refine am_goX 1 (show (¬ (τ s.1).1 = (Int32.ofInt 2) → pz_S 4 none am_r214 d Q 25 [(0, .ref 154), (1, .int dep)] [] h) ∧ (¬ ¬ (τ s.1).1 = (Int32.ofInt 2) → pz_S 4 none am_r214 d Q 21 [(0, .ref 154), (1, .int dep)] [] h) from ⟨fun hz => absurd hz (fun w => w (sp_kt e219)), fun _ => ?_⟩)
    refine am_goX 7 (show 2 < 4 ∧ am_rc h 154 11 ∧ 0 ≤ 8 ∧ h.2.2.2.2 + am_al 199 ≤ 175 ∧ am_call am_cod d 199 [.ref 154, .int (Int8.ofInt 17).toInt32, .int (Int32.ofInt 4)] h (fun vv h' => pz_S 4 none am_r214 d Q 34 [(2, .int (Int32.ofInt 1)), (0, .ref 154), (1, .int dep)] (vv.toList ++ []) h') from ⟨by decide, Or.inl ⟨by decide, ex_154 (r_P l)⟩, by decide, ex_lim (r_P l) rfl, am_call.up (r_199 (f := 17) (M := 4) (by decide) (by decide) (by decide) l ?_) (by omega)⟩)
    have e1 := sp_12 (j := 1) e219 (by decide)
    have e3s := sp_12 (j := 3) e219 (by decide)
    rw [wq_2 (by decide) e1]
    have e3 : decide (sp_fa τ s.1 = 0) = true := decide_eq_true (fa_n e1)
    have e5 : sp_w τ s.1 19741 = false := sp_w_n e1
    have e6 : sp_s τ s.1 (Int8.ofInt 40).toInt32 = false := sp_s_n e3s
    refine am_goX 3 (show 3 < 4 ∧ (0 ≤ (Int32.ofInt (-1)) → pz_S 4 none am_r214 d Q 69 [(3, .int (Int32.ofInt (-1))), (2, .int (Int32.ofInt 1)), (0, .ref 154), (1, .int dep)] [] h) ∧ (¬ (0 ≤ (Int32.ofInt (-1))) → pz_S 4 none am_r214 d Q 39 [(3, .int (Int32.ofInt (-1))), (2, .int (Int32.ofInt 1)), (0, .ref 154), (1, .int dep)] [] h) from ⟨by decide, fun hz => absurd hz (by decide), fun _ => ?_⟩)
    refine am_goX 2 (show (¬ (Int32.ofInt 1) = 0 → pz_S 4 none am_r214 d Q 69 [(3, .int (Int32.ofInt (-1))), (2, .int (Int32.ofInt 1)), (0, .ref 154), (1, .int dep)] [] h) ∧ (¬ ¬ (Int32.ofInt 1) = 0 → pz_S 4 none am_r214 d Q 43 [(3, .int (Int32.ofInt (-1))), (2, .int (Int32.ofInt 1)), (0, .ref 154), (1, .int dep)] [] h) from ⟨fun _ => ?_, fun hz => absurd (by decide) hz⟩)
    refine am_goX 3 (show (¬ dep = (Int32.ofInt 5) → pz_S 4 none am_r214 d Q 79 [(3, .int (Int32.ofInt (-1))), (2, .int (Int32.ofInt 1)), (0, .ref 154), (1, .int dep)] [] h) ∧ (¬ ¬ dep = (Int32.ofInt 5) → pz_S 4 none am_r214 d Q 74 [(3, .int (Int32.ofInt (-1))), (2, .int (Int32.ofInt 1)), (0, .ref 154), (1, .int dep)] [] h) from ⟨fun hz => absurd hz (fun w => w hdp), fun _ => ?_⟩)
    refine am_goX 3 (show am_rc h 154 11 ∧ 0 ≤ 8 ∧ h.2.2.2.2 + am_al 197 ≤ 175 ∧ am_call am_cod d 197 [.ref 154, .int (Int32.ofInt 5)] h (fun vv h' => pz_S 4 none am_r214 d Q 79 [(3, .int (Int32.ofInt (-1))), (2, .int (Int32.ofInt 1)), (0, .ref 154), (1, .int dep)] (vv.toList ++ []) h') from ⟨Or.inl ⟨by decide, ex_154 (r_P l)⟩, by decide, ex_lim (r_P l) rfl, am_call.up (r_197 l ?_) (by omega)⟩)
    have x220 : rx h0 (sp_ft τ s.1 (Int32.ofInt 5)) (s.2.2.2.2.2.1 + 0) (am_wI h 154 8 (sp_ft τ s.1 (Int32.ofInt 5))) := rr_x (s := s) l (by decide)
    refine am_goX 2 (show am_sh (am_wI h 154 8 (sp_ft τ s.1 (Int32.ofInt 5))) 154 = some (11, 0) ∧ pz_S 4 none am_r214 d Q 83 [(3, .int (Int32.ofInt (-1))), (2, .int (Int32.ofInt 1)), (0, .ref 154), (1, .int dep)] [.int ((am_wI h 154 8 (sp_ft τ s.1 (Int32.ofInt 5))).1 154 8)] (am_wI h 154 8 (sp_ft τ s.1 (Int32.ofInt 5))) from ⟨ex_154 x220.1, ?_⟩)
    rw [x220.2.1.1]
    refine am_goX 1 (show ((sp_ft τ s.1 (Int32.ofInt 5)) ≤ 0 → pz_S 4 none am_r214 d Q 87 [(3, .int (Int32.ofInt (-1))), (2, .int (Int32.ofInt 1)), (0, .ref 154), (1, .int dep)] [] (am_wI h 154 8 (sp_ft τ s.1 (Int32.ofInt 5)))) ∧ (¬ ((sp_ft τ s.1 (Int32.ofInt 5)) ≤ 0) → pz_S 4 none am_r214 d Q 86 [(3, .int (Int32.ofInt (-1))), (2, .int (Int32.ofInt 1)), (0, .ref 154), (1, .int dep)] [] (am_wI h 154 8 (sp_ft τ s.1 (Int32.ofInt 5)))) from ⟨fun hz => absurd hz (rx_le x220), fun _ => ?_⟩)
    exact am_goX 1 (show (none : Option FieldType) = none ∧ (am_wI h 154 8 (sp_ft τ s.1 (Int32.ofInt 5))).2.2.2.2 = 175 ∧ _ from ⟨rfl, ex_175 x220.1, hF (sp_ft τ s.1 (Int32.ofInt 5)) _ (s.2.2.2.2.2.1 + 0) s.1 (by simp only [sp_pt, sp_b, sp_f, cond_true, cond_false, e219, e3, e5, e6, Bool.and_true, Bool.and_false, Bool.true_and, Bool.false_and, Bool.not_true, Bool.not_false]) x220 (by omega) (by omega) (by omega)⟩)
  | false =>
    refine am_goX 1 (show (¬ (τ s.1).1 = (Int32.ofInt 2) → pz_S 4 none am_r214 d Q 25 [(0, .ref 154), (1, .int dep)] [] h) ∧ (¬ ¬ (τ s.1).1 = (Int32.ofInt 2) → pz_S 4 none am_r214 d Q 21 [(0, .ref 154), (1, .int dep)] [] h) from ⟨fun _ => ?_, fun hz => absurd (of_decide_eq_false e219) hz⟩)
    refine am_goX 6 (show 2 < 4 ∧ am_rc h 154 11 ∧ 0 ≤ 8 ∧ h.2.2.2.2 + am_al 199 ≤ 175 ∧ am_call am_cod d 199 [.ref 154, .int (Int8.ofInt 17).toInt32, .int (Int32.ofInt 4)] h (fun vv h' => pz_S 4 none am_r214 d Q 34 [(2, .int (Int32.ofInt 0)), (0, .ref 154), (1, .int dep)] (vv.toList ++ []) h') from ⟨by decide, Or.inl ⟨by decide, ex_154 (r_P l)⟩, by decide, ex_lim (r_P l) rfl, am_call.up (r_199 (f := 17) (M := 4) (by decide) (by decide) (by decide) l ?_) (by omega)⟩)
    rcases wq_v τ s.1 17 4 (by decide) with ⟨w1, w2⟩ | ⟨j, w1, w2, w3⟩
    ·
      rw [w1]
      have e3 : decide (sp_fa τ s.1 = 0) = true := decide_eq_true (fa_0 w2)
      refine am_goX 3 (show 3 < 4 ∧ (0 ≤ (Int32.ofInt (-1)) → pz_S 4 none am_r214 d Q 69 [(3, .int (Int32.ofInt (-1))), (2, .int (Int32.ofInt 0)), (0, .ref 154), (1, .int dep)] [] h) ∧ (¬ (0 ≤ (Int32.ofInt (-1))) → pz_S 4 none am_r214 d Q 39 [(3, .int (Int32.ofInt (-1))), (2, .int (Int32.ofInt 0)), (0, .ref 154), (1, .int dep)] [] h) from ⟨by decide, fun hz => absurd hz (by decide), fun _ => ?_⟩)
      refine am_goX 2 (show (¬ (Int32.ofInt 0) = 0 → pz_S 4 none am_r214 d Q 69 [(3, .int (Int32.ofInt (-1))), (2, .int (Int32.ofInt 0)), (0, .ref 154), (1, .int dep)] [] h) ∧ (¬ ¬ (Int32.ofInt 0) = 0 → pz_S 4 none am_r214 d Q 43 [(3, .int (Int32.ofInt (-1))), (2, .int (Int32.ofInt 0)), (0, .ref 154), (1, .int dep)] [] h) from ⟨fun hz => absurd hz (by decide), fun _ => ?_⟩)
      refine am_goX 3 (show am_rc h 154 11 ∧ 0 ≤ 8 ∧ h.2.2.2.2 + am_al 215 ≤ 175 ∧ am_call am_cod d 215 [.ref 154, .int (Int8.ofInt 40).toInt32] h (fun vv h' => pz_S 4 none am_r214 d Q 49 [(3, .int (Int32.ofInt (-1))), (2, .int (Int32.ofInt 0)), (0, .ref 154), (1, .int dep)] (vv.toList ++ []) h') from ⟨Or.inl ⟨by decide, ex_154 (r_P l)⟩, by decide, ex_lim (r_P l) rfl, am_call.up (r_215 l ?_) (by omega)⟩)
      cases e221 : sp_s τ s.1 (Int8.ofInt 40).toInt32 with
      | true =>
        refine am_goX 1 (show (¬ (pz_b (true)) = 0 → pz_S 4 none am_r214 d Q 69 [(3, .int (Int32.ofInt (-1))), (2, .int (Int32.ofInt 0)), (0, .ref 154), (1, .int dep)] [] h) ∧ (¬ ¬ (pz_b (true)) = 0 → pz_S 4 none am_r214 d Q 52 [(3, .int (Int32.ofInt (-1))), (2, .int (Int32.ofInt 0)), (0, .ref 154), (1, .int dep)] [] h) from ⟨fun _ => ?_, fun hz => absurd (by decide) hz⟩)
        refine am_goX 3 (show (¬ dep = (Int32.ofInt 5) → pz_S 4 none am_r214 d Q 79 [(3, .int (Int32.ofInt (-1))), (2, .int (Int32.ofInt 0)), (0, .ref 154), (1, .int dep)] [] h) ∧ (¬ ¬ dep = (Int32.ofInt 5) → pz_S 4 none am_r214 d Q 74 [(3, .int (Int32.ofInt (-1))), (2, .int (Int32.ofInt 0)), (0, .ref 154), (1, .int dep)] [] h) from ⟨fun hz => absurd hz (fun w => w hdp), fun _ => ?_⟩)
        refine am_goX 3 (show am_rc h 154 11 ∧ 0 ≤ 8 ∧ h.2.2.2.2 + am_al 197 ≤ 175 ∧ am_call am_cod d 197 [.ref 154, .int (Int32.ofInt 5)] h (fun vv h' => pz_S 4 none am_r214 d Q 79 [(3, .int (Int32.ofInt (-1))), (2, .int (Int32.ofInt 0)), (0, .ref 154), (1, .int dep)] (vv.toList ++ []) h') from ⟨Or.inl ⟨by decide, ex_154 (r_P l)⟩, by decide, ex_lim (r_P l) rfl, am_call.up (r_197 l ?_) (by omega)⟩)
        have x222 : rx h0 (sp_ft τ s.1 (Int32.ofInt 5)) (s.2.2.2.2.2.1 + 0) (am_wI h 154 8 (sp_ft τ s.1 (Int32.ofInt 5))) := rr_x (s := s) l (by decide)
        refine am_goX 2 (show am_sh (am_wI h 154 8 (sp_ft τ s.1 (Int32.ofInt 5))) 154 = some (11, 0) ∧ pz_S 4 none am_r214 d Q 83 [(3, .int (Int32.ofInt (-1))), (2, .int (Int32.ofInt 0)), (0, .ref 154), (1, .int dep)] [.int ((am_wI h 154 8 (sp_ft τ s.1 (Int32.ofInt 5))).1 154 8)] (am_wI h 154 8 (sp_ft τ s.1 (Int32.ofInt 5))) from ⟨ex_154 x222.1, ?_⟩)
        rw [x222.2.1.1]
        refine am_goX 1 (show ((sp_ft τ s.1 (Int32.ofInt 5)) ≤ 0 → pz_S 4 none am_r214 d Q 87 [(3, .int (Int32.ofInt (-1))), (2, .int (Int32.ofInt 0)), (0, .ref 154), (1, .int dep)] [] (am_wI h 154 8 (sp_ft τ s.1 (Int32.ofInt 5)))) ∧ (¬ ((sp_ft τ s.1 (Int32.ofInt 5)) ≤ 0) → pz_S 4 none am_r214 d Q 86 [(3, .int (Int32.ofInt (-1))), (2, .int (Int32.ofInt 0)), (0, .ref 154), (1, .int dep)] [] (am_wI h 154 8 (sp_ft τ s.1 (Int32.ofInt 5)))) from ⟨fun hz => absurd hz (rx_le x222), fun _ => ?_⟩)
        exact am_goX 1 (show (none : Option FieldType) = none ∧ (am_wI h 154 8 (sp_ft τ s.1 (Int32.ofInt 5))).2.2.2.2 = 175 ∧ _ from ⟨rfl, ex_175 x222.1, hF (sp_ft τ s.1 (Int32.ofInt 5)) _ (s.2.2.2.2.2.1 + 0) s.1 (by simp only [sp_pt, sp_b, sp_f, cond_true, cond_false, e219, e3, e221, Bool.and_true, Bool.and_false, Bool.true_and, Bool.false_and, Bool.not_true, Bool.not_false]) x222 (by omega) (by omega) (by omega)⟩)
      | false =>
        refine am_goX 1 (show (¬ (pz_b (false)) = 0 → pz_S 4 none am_r214 d Q 69 [(3, .int (Int32.ofInt (-1))), (2, .int (Int32.ofInt 0)), (0, .ref 154), (1, .int dep)] [] h) ∧ (¬ ¬ (pz_b (false)) = 0 → pz_S 4 none am_r214 d Q 52 [(3, .int (Int32.ofInt (-1))), (2, .int (Int32.ofInt 0)), (0, .ref 154), (1, .int dep)] [] h) from ⟨fun hz => absurd hz (by decide), fun _ => ?_⟩)
        refine am_goX 3 (show am_rc h 154 11 ∧ 0 ≤ 8 ∧ h.2.2.2.2 + am_al 195 ≤ 175 ∧ am_call am_cod d 195 [.ref 154, .int (Int8.ofInt 14).toInt32] h (fun vv h' => pz_S 4 none am_r214 d Q 58 [(3, .int (Int32.ofInt (-1))), (2, .int (Int32.ofInt 0)), (0, .ref 154), (1, .int dep)] (vv.toList ++ []) h') from ⟨Or.inl ⟨by decide, ex_154 (r_P l)⟩, by decide, ex_lim (r_P l) rfl, am_call.up (r_195 (w := 14) (W := 19741) (by decide) (by decide) (by decide) l ?_) (by omega)⟩)
        cases e223 : sp_w τ s.1 19741 with
        | true =>
          refine am_goX 1 (show (¬ (pz_b (true)) = 0 → pz_S 4 none am_r214 d Q 69 [(3, .int (Int32.ofInt (-1))), (2, .int (Int32.ofInt 0)), (0, .ref 154), (1, .int dep)] [] h) ∧ (¬ ¬ (pz_b (true)) = 0 → pz_S 4 none am_r214 d Q 61 [(3, .int (Int32.ofInt (-1))), (2, .int (Int32.ofInt 0)), (0, .ref 154), (1, .int dep)] [] h) from ⟨fun _ => ?_, fun hz => absurd (by decide) hz⟩)
          refine am_goX 3 (show (¬ dep = (Int32.ofInt 5) → pz_S 4 none am_r214 d Q 79 [(3, .int (Int32.ofInt (-1))), (2, .int (Int32.ofInt 0)), (0, .ref 154), (1, .int dep)] [] h) ∧ (¬ ¬ dep = (Int32.ofInt 5) → pz_S 4 none am_r214 d Q 74 [(3, .int (Int32.ofInt (-1))), (2, .int (Int32.ofInt 0)), (0, .ref 154), (1, .int dep)] [] h) from ⟨fun hz => absurd hz (fun w => w hdp), fun _ => ?_⟩)
          refine am_goX 3 (show am_rc h 154 11 ∧ 0 ≤ 8 ∧ h.2.2.2.2 + am_al 197 ≤ 175 ∧ am_call am_cod d 197 [.ref 154, .int (Int32.ofInt 5)] h (fun vv h' => pz_S 4 none am_r214 d Q 79 [(3, .int (Int32.ofInt (-1))), (2, .int (Int32.ofInt 0)), (0, .ref 154), (1, .int dep)] (vv.toList ++ []) h') from ⟨Or.inl ⟨by decide, ex_154 (r_P l)⟩, by decide, ex_lim (r_P l) rfl, am_call.up (r_197 l ?_) (by omega)⟩)
          have x224 : rx h0 (sp_ft τ s.1 (Int32.ofInt 5)) (s.2.2.2.2.2.1 + 0) (am_wI h 154 8 (sp_ft τ s.1 (Int32.ofInt 5))) := rr_x (s := s) l (by decide)
          refine am_goX 2 (show am_sh (am_wI h 154 8 (sp_ft τ s.1 (Int32.ofInt 5))) 154 = some (11, 0) ∧ pz_S 4 none am_r214 d Q 83 [(3, .int (Int32.ofInt (-1))), (2, .int (Int32.ofInt 0)), (0, .ref 154), (1, .int dep)] [.int ((am_wI h 154 8 (sp_ft τ s.1 (Int32.ofInt 5))).1 154 8)] (am_wI h 154 8 (sp_ft τ s.1 (Int32.ofInt 5))) from ⟨ex_154 x224.1, ?_⟩)
          rw [x224.2.1.1]
          refine am_goX 1 (show ((sp_ft τ s.1 (Int32.ofInt 5)) ≤ 0 → pz_S 4 none am_r214 d Q 87 [(3, .int (Int32.ofInt (-1))), (2, .int (Int32.ofInt 0)), (0, .ref 154), (1, .int dep)] [] (am_wI h 154 8 (sp_ft τ s.1 (Int32.ofInt 5)))) ∧ (¬ ((sp_ft τ s.1 (Int32.ofInt 5)) ≤ 0) → pz_S 4 none am_r214 d Q 86 [(3, .int (Int32.ofInt (-1))), (2, .int (Int32.ofInt 0)), (0, .ref 154), (1, .int dep)] [] (am_wI h 154 8 (sp_ft τ s.1 (Int32.ofInt 5)))) from ⟨fun hz => absurd hz (rx_le x224), fun _ => ?_⟩)
          exact am_goX 1 (show (none : Option FieldType) = none ∧ (am_wI h 154 8 (sp_ft τ s.1 (Int32.ofInt 5))).2.2.2.2 = 175 ∧ _ from ⟨rfl, ex_175 x224.1, hF (sp_ft τ s.1 (Int32.ofInt 5)) _ (s.2.2.2.2.2.1 + 0) s.1 (by simp only [sp_pt, sp_b, sp_f, cond_true, cond_false, e219, e3, e221, e223, Bool.and_true, Bool.and_false, Bool.true_and, Bool.false_and, Bool.not_true, Bool.not_false]) x224 (by omega) (by omega) (by omega)⟩)
        | false =>
          refine am_goX 1 (show (¬ (pz_b (false)) = 0 → pz_S 4 none am_r214 d Q 69 [(3, .int (Int32.ofInt (-1))), (2, .int (Int32.ofInt 0)), (0, .ref 154), (1, .int dep)] [] h) ∧ (¬ ¬ (pz_b (false)) = 0 → pz_S 4 none am_r214 d Q 61 [(3, .int (Int32.ofInt (-1))), (2, .int (Int32.ofInt 0)), (0, .ref 154), (1, .int dep)] [] h) from ⟨fun hz => absurd hz (by decide), fun _ => ?_⟩)
          refine am_goX 3 (show am_rc h 154 11 ∧ 0 ≤ 8 ∧ h.2.2.2.2 + am_al 197 ≤ 175 ∧ am_call am_cod d 197 [.ref 154, .int (Int32.ofInt 1)] h (fun vv h' => pz_S 4 none am_r214 d Q 66 [(3, .int (Int32.ofInt (-1))), (2, .int (Int32.ofInt 0)), (0, .ref 154), (1, .int dep)] (vv.toList ++ []) h') from ⟨Or.inl ⟨by decide, ex_154 (r_P l)⟩, by decide, ex_lim (r_P l) rfl, am_call.up (r_197 l ?_) (by omega)⟩)
          have x225 : rx h0 (sp_ft τ s.1 (Int32.ofInt 1)) (s.2.2.2.2.2.1 + 0) (am_wI h 154 8 (sp_ft τ s.1 (Int32.ofInt 1))) := rr_x (s := s) l (by decide)
          refine am_goX 3 (show am_sh (am_wI h 154 8 (sp_ft τ s.1 (Int32.ofInt 1))) 154 = some (11, 0) ∧ pz_S 4 none am_r214 d Q 83 [(3, .int (Int32.ofInt (-1))), (2, .int (Int32.ofInt 0)), (0, .ref 154), (1, .int dep)] [.int ((am_wI h 154 8 (sp_ft τ s.1 (Int32.ofInt 1))).1 154 8)] (am_wI h 154 8 (sp_ft τ s.1 (Int32.ofInt 1))) from ⟨ex_154 x225.1, ?_⟩)
          rw [x225.2.1.1]
          refine am_goX 1 (show ((sp_ft τ s.1 (Int32.ofInt 1)) ≤ 0 → pz_S 4 none am_r214 d Q 87 [(3, .int (Int32.ofInt (-1))), (2, .int (Int32.ofInt 0)), (0, .ref 154), (1, .int dep)] [] (am_wI h 154 8 (sp_ft τ s.1 (Int32.ofInt 1)))) ∧ (¬ ((sp_ft τ s.1 (Int32.ofInt 1)) ≤ 0) → pz_S 4 none am_r214 d Q 86 [(3, .int (Int32.ofInt (-1))), (2, .int (Int32.ofInt 0)), (0, .ref 154), (1, .int dep)] [] (am_wI h 154 8 (sp_ft τ s.1 (Int32.ofInt 1)))) from ⟨fun hz => absurd hz (rx_le x225), fun _ => ?_⟩)
          exact am_goX 1 (show (none : Option FieldType) = none ∧ (am_wI h 154 8 (sp_ft τ s.1 (Int32.ofInt 1))).2.2.2.2 = 175 ∧ _ from ⟨rfl, ex_175 x225.1, hF (sp_ft τ s.1 (Int32.ofInt 1)) _ (s.2.2.2.2.2.1 + 0) s.1 (by simp only [sp_pt, sp_b, sp_f, cond_true, cond_false, e219, e3, e221, e223, Bool.and_true, Bool.and_false, Bool.true_and, Bool.false_and, Bool.not_true, Bool.not_false]) x225 (by omega) (by omega) (by omega)⟩)
    ·
      rw [w2]
      obtain ⟨f1, f2, f3, f4, f5⟩ := fa_1 w1 w3
      have e3 : decide (sp_fa τ s.1 = 0) = false := decide_eq_false f3
      have e6 : sp_s τ s.1 (Int8.ofInt 40).toInt32 = false := sp_s_n (sp_12 (j := 3) f4 (by decide))
      refine am_goX 3 (show 3 < 4 ∧ (0 ≤ (nI j) → pz_S 4 none am_r214 d Q 69 [(3, .int (nI j)), (2, .int (Int32.ofInt 0)), (0, .ref 154), (1, .int dep)] [] h) ∧ (¬ (0 ≤ (nI j)) → pz_S 4 none am_r214 d Q 39 [(3, .int (nI j)), (2, .int (Int32.ofInt 0)), (0, .ref 154), (1, .int dep)] [] h) from ⟨by decide, fun _ => ?_, fun hz => absurd (nI_0le (by omega)) hz⟩)
      refine am_goX 3 (show (¬ dep = (Int32.ofInt 5) → pz_S 4 none am_r214 d Q 79 [(3, .int (nI j)), (2, .int (Int32.ofInt 0)), (0, .ref 154), (1, .int dep)] [] h) ∧ (¬ ¬ dep = (Int32.ofInt 5) → pz_S 4 none am_r214 d Q 74 [(3, .int (nI j)), (2, .int (Int32.ofInt 0)), (0, .ref 154), (1, .int dep)] [] h) from ⟨fun hz => absurd hz (fun w => w hdp), fun _ => ?_⟩)
      refine am_goX 3 (show am_rc h 154 11 ∧ 0 ≤ 8 ∧ h.2.2.2.2 + am_al 197 ≤ 175 ∧ am_call am_cod d 197 [.ref 154, .int (Int32.ofInt 5)] h (fun vv h' => pz_S 4 none am_r214 d Q 79 [(3, .int (nI j)), (2, .int (Int32.ofInt 0)), (0, .ref 154), (1, .int dep)] (vv.toList ++ []) h') from ⟨Or.inl ⟨by decide, ex_154 (r_P l)⟩, by decide, ex_lim (r_P l) rfl, am_call.up (r_197 l ?_) (by omega)⟩)
      have x226 : rx h0 (sp_ft τ s.1 (Int32.ofInt 5)) (s.2.2.2.2.2.1 + 0) (am_wI h 154 8 (sp_ft τ s.1 (Int32.ofInt 5))) := rr_x (s := s) l (by decide)
      refine am_goX 2 (show am_sh (am_wI h 154 8 (sp_ft τ s.1 (Int32.ofInt 5))) 154 = some (11, 0) ∧ pz_S 4 none am_r214 d Q 83 [(3, .int (nI j)), (2, .int (Int32.ofInt 0)), (0, .ref 154), (1, .int dep)] [.int ((am_wI h 154 8 (sp_ft τ s.1 (Int32.ofInt 5))).1 154 8)] (am_wI h 154 8 (sp_ft τ s.1 (Int32.ofInt 5))) from ⟨ex_154 x226.1, ?_⟩)
      rw [x226.2.1.1]
      refine am_goX 1 (show ((sp_ft τ s.1 (Int32.ofInt 5)) ≤ 0 → pz_S 4 none am_r214 d Q 87 [(3, .int (nI j)), (2, .int (Int32.ofInt 0)), (0, .ref 154), (1, .int dep)] [] (am_wI h 154 8 (sp_ft τ s.1 (Int32.ofInt 5)))) ∧ (¬ ((sp_ft τ s.1 (Int32.ofInt 5)) ≤ 0) → pz_S 4 none am_r214 d Q 86 [(3, .int (nI j)), (2, .int (Int32.ofInt 0)), (0, .ref 154), (1, .int dep)] [] (am_wI h 154 8 (sp_ft τ s.1 (Int32.ofInt 5)))) from ⟨fun hz => absurd hz (rx_le x226), fun _ => ?_⟩)
      exact am_goX 1 (show (none : Option FieldType) = none ∧ (am_wI h 154 8 (sp_ft τ s.1 (Int32.ofInt 5))).2.2.2.2 = 175 ∧ _ from ⟨rfl, ex_175 x226.1, hF (sp_ft τ s.1 (Int32.ofInt 5)) _ (s.2.2.2.2.2.1 + 0) s.1 (by simp only [sp_pt, sp_b, sp_f, cond_true, cond_false, e219, e3, f5, e6, Bool.and_true, Bool.and_false, Bool.true_and, Bool.false_and, Bool.not_true, Bool.not_false]) x226 (by omega) (by omega) (by omega)⟩)
theorem r_214s {r : Nat} (hd : 2 ≤ d) (hdp : ¬ dep = Int32.ofInt 5) (k214 : lw_r h0 τ N d 214 (dep + Int32.ofInt 1) (sp_pt τ r)) (k210 : lw_r h0 τ N d 210 (dep + Int32.ofInt 1) (sp_wh τ (sp_pt τ r))) : lw_r h0 τ N (d + 1) 214 dep (sp_pt τ (r + 1)) := by
  intro s h Q l ht hF hS
  have hP := r_P l
  have gl := r_N l
  refine pz_call (n := 214) (nL := 4) (rt := none) (rows := am_r214) (d := d) (by decide +kernel) (by decide +kernel) rfl (by funext pc; rfl) (ex_175 hP) (by exact Nat.le_of_ble_eq_true rfl) ?_
  refine am_goX 2 (show am_sh h 154 = some (11, 0) ∧ pz_S 4 none am_r214 d Q 4 [(0, .ref 154), (1, .int dep)] [.int (h.1 154 8)] h from ⟨ex_154 (r_P l), ?_⟩)
  rw [r_f l]
  refine am_goX 1 (show (0 ≤ 0 → pz_S 4 none am_r214 d Q 8 [(0, .ref 154), (1, .int dep)] [] h) ∧ (¬ (0 ≤ 0) → pz_S 4 none am_r214 d Q 7 [(0, .ref 154), (1, .int dep)] [] h) from ⟨fun _ => ?_, fun hz => absurd (by decide) hz⟩)
  refine am_goX 2 (show am_sh h 154 = some (11, 0) ∧ pz_S 4 none am_r214 d Q 12 [(0, .ref 154), (1, .int dep)] [am_rf (h.2.2.1 154 4)] h from ⟨ex_154 (r_P l), ?_⟩)
  rw [ex_r154_4 (h := h) (r_P l)]
  refine am_goX 3 (show am_sh h 154 = some (11, 0) ∧ ∃ jj nn : Nat, am_sh h 156 = some (13, nn) ∧ jj < nn ∧ (h.1 154 7) = nI jj ∧ pz_S 4 none am_r214 d Q 17 [(0, .ref 154), (1, .int dep)] [.int (h.1 156 jj)] h from ⟨ex_154 (r_P l), s.1, 1002, ex_156 (r_P l), (by have := r_N l; first | omega | (dsimp only at this; omega) | (dsimp only at this ⊢; omega)), r_a l, ?_⟩)
  rw [r_k l]
  refine am_goX 1 (show pz_S 4 none am_r214 d Q 18 [(0, .ref 154), (1, .int dep)] [.int (Int32.ofInt 2), .int (τ s.1).1] h from ?_)
  cases e227 : sp_k τ s.1 2 with
  | true =>
    refine am_goX 1 (show (¬ (τ s.1).1 = (Int32.ofInt 2) → pz_S 4 none am_r214 d Q 25 [(0, .ref 154), (1, .int dep)] [] h) ∧ (¬ ¬ (τ s.1).1 = (Int32.ofInt 2) → pz_S 4 none am_r214 d Q 21 [(0, .ref 154), (1, .int dep)] [] h) from ⟨fun hz => absurd hz (fun w => w (sp_kt e227)), fun _ => ?_⟩)
    refine am_goX 7 (show 2 < 4 ∧ am_rc h 154 11 ∧ 0 ≤ 8 ∧ h.2.2.2.2 + am_al 199 ≤ 175 ∧ am_call am_cod d 199 [.ref 154, .int (Int8.ofInt 17).toInt32, .int (Int32.ofInt 4)] h (fun vv h' => pz_S 4 none am_r214 d Q 34 [(2, .int (Int32.ofInt 1)), (0, .ref 154), (1, .int dep)] (vv.toList ++ []) h') from ⟨by decide, Or.inl ⟨by decide, ex_154 (r_P l)⟩, by decide, ex_lim (r_P l) rfl, am_call.up (r_199 (f := 17) (M := 4) (by decide) (by decide) (by decide) l ?_) (by omega)⟩)
    have e1 := sp_12 (j := 1) e227 (by decide)
    have e3s := sp_12 (j := 3) e227 (by decide)
    rw [wq_2 (by decide) e1]
    have e3 : decide (sp_fa τ s.1 = 0) = true := decide_eq_true (fa_n e1)
    have e5 : sp_w τ s.1 19741 = false := sp_w_n e1
    have e6 : sp_s τ s.1 (Int8.ofInt 40).toInt32 = false := sp_s_n e3s
    refine am_goX 3 (show 3 < 4 ∧ (0 ≤ (Int32.ofInt (-1)) → pz_S 4 none am_r214 d Q 69 [(3, .int (Int32.ofInt (-1))), (2, .int (Int32.ofInt 1)), (0, .ref 154), (1, .int dep)] [] h) ∧ (¬ (0 ≤ (Int32.ofInt (-1))) → pz_S 4 none am_r214 d Q 39 [(3, .int (Int32.ofInt (-1))), (2, .int (Int32.ofInt 1)), (0, .ref 154), (1, .int dep)] [] h) from ⟨by decide, fun hz => absurd hz (by decide), fun _ => ?_⟩)
    refine am_goX 2 (show (¬ (Int32.ofInt 1) = 0 → pz_S 4 none am_r214 d Q 69 [(3, .int (Int32.ofInt (-1))), (2, .int (Int32.ofInt 1)), (0, .ref 154), (1, .int dep)] [] h) ∧ (¬ ¬ (Int32.ofInt 1) = 0 → pz_S 4 none am_r214 d Q 43 [(3, .int (Int32.ofInt (-1))), (2, .int (Int32.ofInt 1)), (0, .ref 154), (1, .int dep)] [] h) from ⟨fun _ => ?_, fun hz => absurd (by decide) hz⟩)
    refine am_goX 3 (show (¬ dep = (Int32.ofInt 5) → pz_S 4 none am_r214 d Q 79 [(3, .int (Int32.ofInt (-1))), (2, .int (Int32.ofInt 1)), (0, .ref 154), (1, .int dep)] [] h) ∧ (¬ ¬ dep = (Int32.ofInt 5) → pz_S 4 none am_r214 d Q 74 [(3, .int (Int32.ofInt (-1))), (2, .int (Int32.ofInt 1)), (0, .ref 154), (1, .int dep)] [] h) from ⟨fun _ => ?_, fun hz => absurd hdp hz⟩)
    refine am_goX 2 (show am_sh h 154 = some (11, 0) ∧ pz_S 4 none am_r214 d Q 83 [(3, .int (Int32.ofInt (-1))), (2, .int (Int32.ofInt 1)), (0, .ref 154), (1, .int dep)] [.int (h.1 154 8)] h from ⟨ex_154 (r_P l), ?_⟩)
    rw [r_f l]
    refine am_goX 1 (show (0 ≤ 0 → pz_S 4 none am_r214 d Q 87 [(3, .int (Int32.ofInt (-1))), (2, .int (Int32.ofInt 1)), (0, .ref 154), (1, .int dep)] [] h) ∧ (¬ (0 ≤ 0) → pz_S 4 none am_r214 d Q 86 [(3, .int (Int32.ofInt (-1))), (2, .int (Int32.ofInt 1)), (0, .ref 154), (1, .int dep)] [] h) from ⟨fun _ => ?_, fun hz => absurd (by decide) hz⟩)
    refine am_goX 3 (show am_rc h 154 11 ∧ 0 ≤ 8 ∧ h.2.2.2.2 + am_al 204 ≤ 175 ∧ am_call am_cod d 204 [.ref 154, .int (Int8.ofInt 14).toInt32] h (fun vv h' => pz_S 4 none am_r214 d Q 93 [(3, .int (Int32.ofInt (-1))), (2, .int (Int32.ofInt 1)), (0, .ref 154), (1, .int dep)] (vv.toList ++ []) h') from ⟨Or.inl ⟨by decide, ex_154 (r_P l)⟩, by decide, ex_lim (r_P l) rfl, am_call.up (r_204 (w := 14) (W := 19741) (by decide) (by decide) (by decide) (s := s) l (fun h228 l229 => ?_)) (by omega)⟩)
    rw [e5] at l229 ⊢
    replace l229 : rr h0 0 τ N s h228 := l229
    refine am_goX 1 (show ((pz_b (false)) = 0 → pz_S 4 none am_r214 d Q 112 [(3, .int (Int32.ofInt (-1))), (2, .int (Int32.ofInt 1)), (0, .ref 154), (1, .int dep)] [] h228) ∧ (¬ ((pz_b (false)) = 0) → pz_S 4 none am_r214 d Q 96 [(3, .int (Int32.ofInt (-1))), (2, .int (Int32.ofInt 1)), (0, .ref 154), (1, .int dep)] [] h228) from ⟨fun _ => ?_, fun hz => absurd (by decide) hz⟩)
    refine am_goX 3 (show am_rc h228 154 11 ∧ 0 ≤ 8 ∧ h228.2.2.2.2 + am_al 217 ≤ 175 ∧ am_call am_cod d 217 [.ref 154, .int (Int8.ofInt 40).toInt32] h228 (fun vv h' => pz_S 4 none am_r214 d Q 118 [(3, .int (Int32.ofInt (-1))), (2, .int (Int32.ofInt 1)), (0, .ref 154), (1, .int dep)] (vv.toList ++ []) h') from ⟨Or.inl ⟨by decide, ex_154 (r_P l229)⟩, by decide, ex_lim (r_P l229) rfl, am_call.up (r_217 (s := s) l229 (fun h230 l231 => ?_)) (by omega)⟩)
    rw [e6] at l231 ⊢
    replace l231 : rr h0 0 τ N s h230 := l231
    refine am_goX 1 (show ((pz_b (false)) = 0 → pz_S 4 none am_r214 d Q 137 [(3, .int (Int32.ofInt (-1))), (2, .int (Int32.ofInt 1)), (0, .ref 154), (1, .int dep)] [] h230) ∧ (¬ ((pz_b (false)) = 0) → pz_S 4 none am_r214 d Q 121 [(3, .int (Int32.ofInt (-1))), (2, .int (Int32.ofInt 1)), (0, .ref 154), (1, .int dep)] [] h230) from ⟨fun _ => ?_, fun hz => absurd (by decide) hz⟩)
    refine am_goX 3 (show ((Int32.ofInt 1) = 0 → pz_S 4 none am_r214 d Q 146 [(3, .int (Int32.ofInt (-1))), (2, .int (Int32.ofInt 1)), (0, .ref 154), (1, .int dep)] [.ref 154] h230) ∧ (¬ ((Int32.ofInt 1) = 0) → pz_S 4 none am_r214 d Q 142 [(3, .int (Int32.ofInt (-1))), (2, .int (Int32.ofInt 1)), (0, .ref 154), (1, .int dep)] [.ref 154] h230) from ⟨fun hz => absurd hz (by decide), fun _ => ?_⟩)
    refine am_goX 4 (show ((Int32.ofInt 1) = 0 → pz_S 4 none am_r214 d Q 164 [(3, .int (Int32.ofInt (-1))), (2, .int (Int32.ofInt 1)), (0, .ref 154), (1, .int dep)] [.int (Int32.ofInt 1), .ref 154] h230) ∧ (¬ ((Int32.ofInt 1) = 0) → pz_S 4 none am_r214 d Q 151 [(3, .int (Int32.ofInt (-1))), (2, .int (Int32.ofInt 1)), (0, .ref 154), (1, .int dep)] [.int (Int32.ofInt 1), .ref 154] h230) from ⟨fun hz => absurd hz (by decide), fun _ => ?_⟩)
    refine am_goX 2 (show am_sh h230 154 = some (11, 0) ∧ pz_S 4 none am_r214 d Q 155 [(3, .int (Int32.ofInt (-1))), (2, .int (Int32.ofInt 1)), (0, .ref 154), (1, .int dep)] [am_rf (h230.2.2.1 154 6), .int (Int32.ofInt 1), .ref 154] h230 from ⟨ex_154 (r_P l231), ?_⟩)
    rw [ex_r154_6 (h := h230) (r_P l231)]
    refine am_goX 3 (show am_sh h230 154 = some (11, 0) ∧ ∃ jj nn : Nat, am_sh h230 158 = some (14, nn) ∧ jj < nn ∧ (h230.1 154 7) = nI jj ∧ pz_S 4 none am_r214 d Q 160 [(3, .int (Int32.ofInt (-1))), (2, .int (Int32.ofInt 1)), (0, .ref 154), (1, .int dep)] [.long (h230.2.1 158 jj), .int (Int32.ofInt 1), .ref 154] h230 from ⟨ex_154 (r_P l231), s.1, 1002, ex_158 (r_P l231), (by omega), r_a l231, ?_⟩)
    rw [r_v l231 (sp_kn (by decide) e227)]
    refine am_goX 2 (show pz_S 4 none am_r214 d Q 165 [(3, .int (Int32.ofInt (-1))), (2, .int (Int32.ofInt 1)), (0, .ref 154), (1, .int dep)] [.int ((τ s.1).2.1).toInt32, .int (Int32.ofInt 1), .ref 154] h230 from ?_)
    obtain ⟨D, hD, ev⟩ := l.1.1.2.2.2.2.2.2 s.1 (sp_kt e227)
    obtain ⟨o1, o2⟩ := num_o hD ev
    refine am_goX 1 (show am_rc h230 154 11 ∧ 0 ≤ 8 ∧ h230.2.2.2.2 + am_al 216 ≤ 175 ∧ am_call am_cod d 216 [.ref 154, .int (Int32.ofInt 1), .int ((τ s.1).2.1).toInt32] h230 (fun vv h' => pz_S 4 none am_r214 d Q 168 [(3, .int (Int32.ofInt (-1))), (2, .int (Int32.ofInt 1)), (0, .ref 154), (1, .int dep)] (vv.toList ++ []) h') from ⟨Or.inl ⟨by decide, ex_154 (r_P l231)⟩, by decide, ex_lim (r_P l231) rfl, am_call.up (r_216n (w := (sp_v τ s.1)) (s := s) l231 o1 o2 ht (fun h232 l233 => ?_)) (by omega)⟩)
    refine am_goX 6 (show (Value.ref 154).category = 1 ∧ am_sh h232 154 = some (11, 0) ∧ am_sh h232 154 = some (11, 0) ∧ narrow (am_fty 11 7) (.int (((h232.1 154 7) + (Int32.ofInt 1)))) = .int (((h232.1 154 7) + (Int32.ofInt 1))) ∧ fits (am_fty 11 7) (.int (((h232.1 154 7) + (Int32.ofInt 1)))) = true ∧ pz_S 4 none am_r214 d Q 178 [(3, .int (Int32.ofInt (-1))), (2, .int (Int32.ofInt 1)), (0, .ref 154), (1, .int dep)] [] (am_wI h232 154 7 (((h232.1 154 7) + (Int32.ofInt 1)))) from ⟨rfl, ex_154 l233.1.1.1, ex_154 l233.1.1.1, rfl, rfl, ?_⟩)
    rw [l233.1.2.1.1, xw_i1]
    have l234 : rr h0 0 τ N (s.1 + 1, sp_em s.2 (sp_v τ s.1)) (am_wI h232 154 7 (nI (s.1 + 1))) := rr1_nx l233 (r_lt l (sp_kn (by decide) e227))
    exact am_goX 1 (show (none : Option FieldType) = none ∧ (am_wI h232 154 7 (nI (s.1 + 1))).2.2.2.2 = 175 ∧ _ from ⟨rfl, ex_175 (r_P l234), hS _ _ (by simp only [sp_pt, sp_b, sp_f, cond_true, cond_false, e227, e3, e5, e6, Bool.and_true, Bool.and_false, Bool.true_and, Bool.false_and, Bool.not_true, Bool.not_false]) l234 ht⟩)
  | false =>
    refine am_goX 1 (show (¬ (τ s.1).1 = (Int32.ofInt 2) → pz_S 4 none am_r214 d Q 25 [(0, .ref 154), (1, .int dep)] [] h) ∧ (¬ ¬ (τ s.1).1 = (Int32.ofInt 2) → pz_S 4 none am_r214 d Q 21 [(0, .ref 154), (1, .int dep)] [] h) from ⟨fun _ => ?_, fun hz => absurd (of_decide_eq_false e227) hz⟩)
    refine am_goX 6 (show 2 < 4 ∧ am_rc h 154 11 ∧ 0 ≤ 8 ∧ h.2.2.2.2 + am_al 199 ≤ 175 ∧ am_call am_cod d 199 [.ref 154, .int (Int8.ofInt 17).toInt32, .int (Int32.ofInt 4)] h (fun vv h' => pz_S 4 none am_r214 d Q 34 [(2, .int (Int32.ofInt 0)), (0, .ref 154), (1, .int dep)] (vv.toList ++ []) h') from ⟨by decide, Or.inl ⟨by decide, ex_154 (r_P l)⟩, by decide, ex_lim (r_P l) rfl, am_call.up (r_199 (f := 17) (M := 4) (by decide) (by decide) (by decide) l ?_) (by omega)⟩)
    rcases wq_v τ s.1 17 4 (by decide) with ⟨w1, w2⟩ | ⟨j, w1, w2, w3⟩
    ·
      rw [w1]
      have e3 : decide (sp_fa τ s.1 = 0) = true := decide_eq_true (fa_0 w2)
      refine am_goX 3 (show 3 < 4 ∧ (0 ≤ (Int32.ofInt (-1)) → pz_S 4 none am_r214 d Q 69 [(3, .int (Int32.ofInt (-1))), (2, .int (Int32.ofInt 0)), (0, .ref 154), (1, .int dep)] [] h) ∧ (¬ (0 ≤ (Int32.ofInt (-1))) → pz_S 4 none am_r214 d Q 39 [(3, .int (Int32.ofInt (-1))), (2, .int (Int32.ofInt 0)), (0, .ref 154), (1, .int dep)] [] h) from ⟨by decide, fun hz => absurd hz (by decide), fun _ => ?_⟩)
      refine am_goX 2 (show (¬ (Int32.ofInt 0) = 0 → pz_S 4 none am_r214 d Q 69 [(3, .int (Int32.ofInt (-1))), (2, .int (Int32.ofInt 0)), (0, .ref 154), (1, .int dep)] [] h) ∧ (¬ ¬ (Int32.ofInt 0) = 0 → pz_S 4 none am_r214 d Q 43 [(3, .int (Int32.ofInt (-1))), (2, .int (Int32.ofInt 0)), (0, .ref 154), (1, .int dep)] [] h) from ⟨fun hz => absurd hz (by decide), fun _ => ?_⟩)
      refine am_goX 3 (show am_rc h 154 11 ∧ 0 ≤ 8 ∧ h.2.2.2.2 + am_al 215 ≤ 175 ∧ am_call am_cod d 215 [.ref 154, .int (Int8.ofInt 40).toInt32] h (fun vv h' => pz_S 4 none am_r214 d Q 49 [(3, .int (Int32.ofInt (-1))), (2, .int (Int32.ofInt 0)), (0, .ref 154), (1, .int dep)] (vv.toList ++ []) h') from ⟨Or.inl ⟨by decide, ex_154 (r_P l)⟩, by decide, ex_lim (r_P l) rfl, am_call.up (r_215 l ?_) (by omega)⟩)
      cases e235 : sp_s τ s.1 (Int8.ofInt 40).toInt32 with
      | true =>
        refine am_goX 1 (show (¬ (pz_b (true)) = 0 → pz_S 4 none am_r214 d Q 69 [(3, .int (Int32.ofInt (-1))), (2, .int (Int32.ofInt 0)), (0, .ref 154), (1, .int dep)] [] h) ∧ (¬ ¬ (pz_b (true)) = 0 → pz_S 4 none am_r214 d Q 52 [(3, .int (Int32.ofInt (-1))), (2, .int (Int32.ofInt 0)), (0, .ref 154), (1, .int dep)] [] h) from ⟨fun _ => ?_, fun hz => absurd (by decide) hz⟩)
        refine am_goX 3 (show (¬ dep = (Int32.ofInt 5) → pz_S 4 none am_r214 d Q 79 [(3, .int (Int32.ofInt (-1))), (2, .int (Int32.ofInt 0)), (0, .ref 154), (1, .int dep)] [] h) ∧ (¬ ¬ dep = (Int32.ofInt 5) → pz_S 4 none am_r214 d Q 74 [(3, .int (Int32.ofInt (-1))), (2, .int (Int32.ofInt 0)), (0, .ref 154), (1, .int dep)] [] h) from ⟨fun _ => ?_, fun hz => absurd hdp hz⟩)
        refine am_goX 2 (show am_sh h 154 = some (11, 0) ∧ pz_S 4 none am_r214 d Q 83 [(3, .int (Int32.ofInt (-1))), (2, .int (Int32.ofInt 0)), (0, .ref 154), (1, .int dep)] [.int (h.1 154 8)] h from ⟨ex_154 (r_P l), ?_⟩)
        rw [r_f l]
        refine am_goX 1 (show (0 ≤ 0 → pz_S 4 none am_r214 d Q 87 [(3, .int (Int32.ofInt (-1))), (2, .int (Int32.ofInt 0)), (0, .ref 154), (1, .int dep)] [] h) ∧ (¬ (0 ≤ 0) → pz_S 4 none am_r214 d Q 86 [(3, .int (Int32.ofInt (-1))), (2, .int (Int32.ofInt 0)), (0, .ref 154), (1, .int dep)] [] h) from ⟨fun _ => ?_, fun hz => absurd (by decide) hz⟩)
        refine am_goX 3 (show am_rc h 154 11 ∧ 0 ≤ 8 ∧ h.2.2.2.2 + am_al 204 ≤ 175 ∧ am_call am_cod d 204 [.ref 154, .int (Int8.ofInt 14).toInt32] h (fun vv h' => pz_S 4 none am_r214 d Q 93 [(3, .int (Int32.ofInt (-1))), (2, .int (Int32.ofInt 0)), (0, .ref 154), (1, .int dep)] (vv.toList ++ []) h') from ⟨Or.inl ⟨by decide, ex_154 (r_P l)⟩, by decide, ex_lim (r_P l) rfl, am_call.up (r_204 (w := 14) (W := 19741) (by decide) (by decide) (by decide) (s := s) l (fun h236 l237 => ?_)) (by omega)⟩)
        cases e238 : sp_w τ s.1 19741 with
        | true =>
          rw [e238] at l237
          replace l237 : rr h0 0 τ N (s.1 + 1, s.2) h236 := l237
          refine am_goX 1 (show ((pz_b (true)) = 0 → pz_S 4 none am_r214 d Q 112 [(3, .int (Int32.ofInt (-1))), (2, .int (Int32.ofInt 0)), (0, .ref 154), (1, .int dep)] [] h236) ∧ (¬ ((pz_b (true)) = 0) → pz_S 4 none am_r214 d Q 96 [(3, .int (Int32.ofInt (-1))), (2, .int (Int32.ofInt 0)), (0, .ref 154), (1, .int dep)] [] h236) from ⟨fun hz => absurd hz (by decide), fun _ => ?_⟩)
          refine am_goX 5 (show am_rc h236 154 11 ∧ 0 ≤ 8 ∧ h236.2.2.2.2 + am_al 214 ≤ 175 ∧ am_call am_cod d 214 [.ref 154, .int (dep + (Int32.ofInt 1))] h236 (fun vv h' => pz_S 4 none am_r214 d Q 103 [(3, .int (Int32.ofInt (-1))), (2, .int (Int32.ofInt 0)), (0, .ref 154), (1, .int dep)] (vv.toList ++ []) h') from ⟨Or.inl ⟨by decide, ex_154 (r_P l237)⟩, by decide, ex_lim (r_P l237) rfl, k214 (s.1 + 1, s.2) _ _ l237 ht (fun F239 h240 c241 a242 e243 x244 b245 b246 b247 => ?_) (fun h248 t249 e250 l251 ht252 => ?_)⟩)
          ·
            try dsimp only at b245 b247
            have g0 := r_N l237
            try dsimp only at g0
            refine am_goX 4 (show am_rc h240 154 11 ∧ 0 ≤ 8 ∧ h240.2.2.2.2 + am_al 216 ≤ 175 ∧ am_call am_cod d 216 [.ref 154, .int (Int32.ofInt 3), .int (Int32.ofInt 0)] h240 (fun vv h' => pz_S 4 none am_r214 d Q 109 [(3, .int (Int32.ofInt (-1))), (2, .int (Int32.ofInt 0)), (0, .ref 154), (1, .int dep)] (vv.toList ++ []) h') from ⟨Or.inl ⟨by decide, ex_154 x244.1⟩, by decide, ex_lim x244.1 rfl, am_call.up (d_216 (by omega) x244 (fun h254 x255 => ?_)) (by omega)⟩)
            exact am_goX 2 (show (none : Option FieldType) = none ∧ h254.2.2.2.2 = 175 ∧ _ from ⟨rfl, ex_175 x255.1, hF (F239) _ (c241 + 1) a242 (by simp only [sp_pt, sp_b, sp_f, cond_true, cond_false, e227, e3, e235, e238, e243, Bool.and_true, Bool.and_false, Bool.true_and, Bool.false_and, Bool.not_true, Bool.not_false]) x255 (by omega) (by omega) (by omega)⟩)
          ·
            have g253 := (sp_pt_ok r) _ _ e250
            unfold sp_le at g253
            try dsimp only at g253
            have g0 := r_N l237
            try dsimp only at g0
            refine am_goX 4 (show am_rc h248 154 11 ∧ 0 ≤ 8 ∧ h248.2.2.2.2 + am_al 216 ≤ 175 ∧ am_call am_cod d 216 [.ref 154, .int (Int32.ofInt 3), .int (Int32.ofInt 0)] h248 (fun vv h' => pz_S 4 none am_r214 d Q 109 [(3, .int (Int32.ofInt (-1))), (2, .int (Int32.ofInt 0)), (0, .ref 154), (1, .int dep)] (vv.toList ++ []) h') from ⟨Or.inl ⟨by decide, ex_154 (r_P l251)⟩, by decide, ex_lim (r_P l251) rfl, am_call.up (r_216 (w := ((Int8.ofInt (-5)).toInt32)) (s := t249) l251 (by first | omega | (dsimp only; omega)) (by decide) (by decide) ht252 (fun h256 l257 => ?_)) (by omega)⟩)
            exact am_goX 2 (show (none : Option FieldType) = none ∧ h256.2.2.2.2 = 175 ∧ _ from ⟨rfl, ex_175 (r_P l257), hS _ _ (by simp only [sp_pt, sp_b, sp_f, cond_true, cond_false, e227, e3, e235, e238, e250, Bool.and_true, Bool.and_false, Bool.true_and, Bool.false_and, Bool.not_true, Bool.not_false]) l257 ht252⟩)
        | false =>
          rw [e238] at l237
          replace l237 : rr h0 0 τ N s h236 := l237
          refine am_goX 1 (show ((pz_b (false)) = 0 → pz_S 4 none am_r214 d Q 112 [(3, .int (Int32.ofInt (-1))), (2, .int (Int32.ofInt 0)), (0, .ref 154), (1, .int dep)] [] h236) ∧ (¬ ((pz_b (false)) = 0) → pz_S 4 none am_r214 d Q 96 [(3, .int (Int32.ofInt (-1))), (2, .int (Int32.ofInt 0)), (0, .ref 154), (1, .int dep)] [] h236) from ⟨fun _ => ?_, fun hz => absurd (by decide) hz⟩)
          refine am_goX 3 (show am_rc h236 154 11 ∧ 0 ≤ 8 ∧ h236.2.2.2.2 + am_al 217 ≤ 175 ∧ am_call am_cod d 217 [.ref 154, .int (Int8.ofInt 40).toInt32] h236 (fun vv h' => pz_S 4 none am_r214 d Q 118 [(3, .int (Int32.ofInt (-1))), (2, .int (Int32.ofInt 0)), (0, .ref 154), (1, .int dep)] (vv.toList ++ []) h') from ⟨Or.inl ⟨by decide, ex_154 (r_P l237)⟩, by decide, ex_lim (r_P l237) rfl, am_call.up (r_217 (s := s) l237 (fun h258 l259 => ?_)) (by omega)⟩)
          rw [e235] at l259 ⊢
          replace l259 : rr h0 0 τ N (s.1 + 1, s.2) h258 := l259
          refine am_goX 1 (show ((pz_b (true)) = 0 → pz_S 4 none am_r214 d Q 137 [(3, .int (Int32.ofInt (-1))), (2, .int (Int32.ofInt 0)), (0, .ref 154), (1, .int dep)] [] h258) ∧ (¬ ((pz_b (true)) = 0) → pz_S 4 none am_r214 d Q 121 [(3, .int (Int32.ofInt (-1))), (2, .int (Int32.ofInt 0)), (0, .ref 154), (1, .int dep)] [] h258) from ⟨fun hz => absurd hz (by decide), fun _ => ?_⟩)
          refine am_goX 5 (show am_rc h258 154 11 ∧ 0 ≤ 8 ∧ h258.2.2.2.2 + am_al 210 ≤ 175 ∧ am_call am_cod d 210 [.ref 154, .int (dep + (Int32.ofInt 1))] h258 (fun vv h' => pz_S 4 none am_r214 d Q 128 [(3, .int (Int32.ofInt (-1))), (2, .int (Int32.ofInt 0)), (0, .ref 154), (1, .int dep)] (vv.toList ++ []) h') from ⟨Or.inl ⟨by decide, ex_154 (r_P l259)⟩, by decide, ex_lim (r_P l259) rfl, k210 (s.1 + 1, s.2) _ _ l259 ht (fun F260 h261 c262 a263 e264 x265 b266 b267 b268 => ?_) (fun h269 t270 e271 l272 ht273 => ?_)⟩)
          ·
            try dsimp only at b266 b268
            have g0 := r_N l259
            try dsimp only at g0
            refine am_goX 3 (show am_rc h261 154 11 ∧ 0 ≤ 8 ∧ h261.2.2.2.2 + am_al 218 ≤ 175 ∧ am_call am_cod d 218 [.ref 154, .int (Int8.ofInt 41).toInt32] h261 (fun vv h' => pz_S 4 none am_r214 d Q 134 [(3, .int (Int32.ofInt (-1))), (2, .int (Int32.ofInt 0)), (0, .ref 154), (1, .int dep)] (vv.toList ++ []) h') from ⟨Or.inl ⟨by decide, ex_154 x265.1⟩, by decide, ex_lim x265.1 rfl, am_call.up (d_218 x265 ?_) (by omega)⟩)
            exact am_goX 2 (show (none : Option FieldType) = none ∧ h261.2.2.2.2 = 175 ∧ _ from ⟨rfl, ex_175 x265.1, hF (F260) _ (c262) a263 (by simp only [sp_pt, sp_b, sp_f, cond_true, cond_false, e227, e3, e235, e238, e264, Bool.and_true, Bool.and_false, Bool.true_and, Bool.false_and, Bool.not_true, Bool.not_false]) x265 (by omega) (by omega) (by omega)⟩)
          ·
            have g274 := (sp_wh_ok (sp_pt_ok r)) _ _ e271
            unfold sp_le at g274
            try dsimp only at g274
            have g0 := r_N l259
            try dsimp only at g0
            refine am_goX 3 (show am_rc h269 154 11 ∧ 0 ≤ 8 ∧ h269.2.2.2.2 + am_al 218 ≤ 175 ∧ am_call am_cod d 218 [.ref 154, .int (Int8.ofInt 41).toInt32] h269 (fun vv h' => pz_S 4 none am_r214 d Q 134 [(3, .int (Int32.ofInt (-1))), (2, .int (Int32.ofInt 0)), (0, .ref 154), (1, .int dep)] (vv.toList ++ []) h') from ⟨Or.inl ⟨by decide, ex_154 (r_P l272)⟩, by decide, ex_lim (r_P l272) rfl, am_call.up (r_218 (s := t270) l272 (fun F275 h276 e277 x278 => ?_) (fun h279 e280 l281 => ?_)) (by omega)⟩)
            ·
              have g9 := r_N l272
              exact am_goX 2 (show (none : Option FieldType) = none ∧ h276.2.2.2.2 = 175 ∧ _ from ⟨rfl, ex_175 x278.1, hF (F275) _ (t270.2.2.2.2.2.1 + 0) t270.1 (by simp only [sp_pt, sp_b, sp_f, cond_true, cond_false, e227, e3, e235, e238, e271, e277, Bool.and_true, Bool.and_false, Bool.true_and, Bool.false_and, Bool.not_true, Bool.not_false]) x278 (by omega) (by omega) (by omega)⟩)
            ·
              exact am_goX 2 (show (none : Option FieldType) = none ∧ h279.2.2.2.2 = 175 ∧ _ from ⟨rfl, ex_175 (r_P l281), hS _ _ (by simp only [sp_pt, sp_b, sp_f, cond_true, cond_false, e227, e3, e235, e238, e271, e280, Bool.and_true, Bool.and_false, Bool.true_and, Bool.false_and, Bool.not_true, Bool.not_false]) l281 ht273⟩)
      | false =>
        refine am_goX 1 (show (¬ (pz_b (false)) = 0 → pz_S 4 none am_r214 d Q 69 [(3, .int (Int32.ofInt (-1))), (2, .int (Int32.ofInt 0)), (0, .ref 154), (1, .int dep)] [] h) ∧ (¬ ¬ (pz_b (false)) = 0 → pz_S 4 none am_r214 d Q 52 [(3, .int (Int32.ofInt (-1))), (2, .int (Int32.ofInt 0)), (0, .ref 154), (1, .int dep)] [] h) from ⟨fun hz => absurd hz (by decide), fun _ => ?_⟩)
        refine am_goX 3 (show am_rc h 154 11 ∧ 0 ≤ 8 ∧ h.2.2.2.2 + am_al 195 ≤ 175 ∧ am_call am_cod d 195 [.ref 154, .int (Int8.ofInt 14).toInt32] h (fun vv h' => pz_S 4 none am_r214 d Q 58 [(3, .int (Int32.ofInt (-1))), (2, .int (Int32.ofInt 0)), (0, .ref 154), (1, .int dep)] (vv.toList ++ []) h') from ⟨Or.inl ⟨by decide, ex_154 (r_P l)⟩, by decide, ex_lim (r_P l) rfl, am_call.up (r_195 (w := 14) (W := 19741) (by decide) (by decide) (by decide) l ?_) (by omega)⟩)
        cases e282 : sp_w τ s.1 19741 with
        | true =>
          refine am_goX 1 (show (¬ (pz_b (true)) = 0 → pz_S 4 none am_r214 d Q 69 [(3, .int (Int32.ofInt (-1))), (2, .int (Int32.ofInt 0)), (0, .ref 154), (1, .int dep)] [] h) ∧ (¬ ¬ (pz_b (true)) = 0 → pz_S 4 none am_r214 d Q 61 [(3, .int (Int32.ofInt (-1))), (2, .int (Int32.ofInt 0)), (0, .ref 154), (1, .int dep)] [] h) from ⟨fun _ => ?_, fun hz => absurd (by decide) hz⟩)
          refine am_goX 3 (show (¬ dep = (Int32.ofInt 5) → pz_S 4 none am_r214 d Q 79 [(3, .int (Int32.ofInt (-1))), (2, .int (Int32.ofInt 0)), (0, .ref 154), (1, .int dep)] [] h) ∧ (¬ ¬ dep = (Int32.ofInt 5) → pz_S 4 none am_r214 d Q 74 [(3, .int (Int32.ofInt (-1))), (2, .int (Int32.ofInt 0)), (0, .ref 154), (1, .int dep)] [] h) from ⟨fun _ => ?_, fun hz => absurd hdp hz⟩)
          refine am_goX 2 (show am_sh h 154 = some (11, 0) ∧ pz_S 4 none am_r214 d Q 83 [(3, .int (Int32.ofInt (-1))), (2, .int (Int32.ofInt 0)), (0, .ref 154), (1, .int dep)] [.int (h.1 154 8)] h from ⟨ex_154 (r_P l), ?_⟩)
          rw [r_f l]
          refine am_goX 1 (show (0 ≤ 0 → pz_S 4 none am_r214 d Q 87 [(3, .int (Int32.ofInt (-1))), (2, .int (Int32.ofInt 0)), (0, .ref 154), (1, .int dep)] [] h) ∧ (¬ (0 ≤ 0) → pz_S 4 none am_r214 d Q 86 [(3, .int (Int32.ofInt (-1))), (2, .int (Int32.ofInt 0)), (0, .ref 154), (1, .int dep)] [] h) from ⟨fun _ => ?_, fun hz => absurd (by decide) hz⟩)
          refine am_goX 3 (show am_rc h 154 11 ∧ 0 ≤ 8 ∧ h.2.2.2.2 + am_al 204 ≤ 175 ∧ am_call am_cod d 204 [.ref 154, .int (Int8.ofInt 14).toInt32] h (fun vv h' => pz_S 4 none am_r214 d Q 93 [(3, .int (Int32.ofInt (-1))), (2, .int (Int32.ofInt 0)), (0, .ref 154), (1, .int dep)] (vv.toList ++ []) h') from ⟨Or.inl ⟨by decide, ex_154 (r_P l)⟩, by decide, ex_lim (r_P l) rfl, am_call.up (r_204 (w := 14) (W := 19741) (by decide) (by decide) (by decide) (s := s) l (fun h283 l284 => ?_)) (by omega)⟩)
          rw [e282] at l284 ⊢
          replace l284 : rr h0 0 τ N (s.1 + 1, s.2) h283 := l284
          refine am_goX 1 (show ((pz_b (true)) = 0 → pz_S 4 none am_r214 d Q 112 [(3, .int (Int32.ofInt (-1))), (2, .int (Int32.ofInt 0)), (0, .ref 154), (1, .int dep)] [] h283) ∧ (¬ ((pz_b (true)) = 0) → pz_S 4 none am_r214 d Q 96 [(3, .int (Int32.ofInt (-1))), (2, .int (Int32.ofInt 0)), (0, .ref 154), (1, .int dep)] [] h283) from ⟨fun hz => absurd hz (by decide), fun _ => ?_⟩)
          refine am_goX 5 (show am_rc h283 154 11 ∧ 0 ≤ 8 ∧ h283.2.2.2.2 + am_al 214 ≤ 175 ∧ am_call am_cod d 214 [.ref 154, .int (dep + (Int32.ofInt 1))] h283 (fun vv h' => pz_S 4 none am_r214 d Q 103 [(3, .int (Int32.ofInt (-1))), (2, .int (Int32.ofInt 0)), (0, .ref 154), (1, .int dep)] (vv.toList ++ []) h') from ⟨Or.inl ⟨by decide, ex_154 (r_P l284)⟩, by decide, ex_lim (r_P l284) rfl, k214 (s.1 + 1, s.2) _ _ l284 ht (fun F285 h286 c287 a288 e289 x290 b291 b292 b293 => ?_) (fun h294 t295 e296 l297 ht298 => ?_)⟩)
          ·
            try dsimp only at b291 b293
            have g0 := r_N l284
            try dsimp only at g0
            refine am_goX 4 (show am_rc h286 154 11 ∧ 0 ≤ 8 ∧ h286.2.2.2.2 + am_al 216 ≤ 175 ∧ am_call am_cod d 216 [.ref 154, .int (Int32.ofInt 3), .int (Int32.ofInt 0)] h286 (fun vv h' => pz_S 4 none am_r214 d Q 109 [(3, .int (Int32.ofInt (-1))), (2, .int (Int32.ofInt 0)), (0, .ref 154), (1, .int dep)] (vv.toList ++ []) h') from ⟨Or.inl ⟨by decide, ex_154 x290.1⟩, by decide, ex_lim x290.1 rfl, am_call.up (d_216 (by omega) x290 (fun h300 x301 => ?_)) (by omega)⟩)
            exact am_goX 2 (show (none : Option FieldType) = none ∧ h300.2.2.2.2 = 175 ∧ _ from ⟨rfl, ex_175 x301.1, hF (F285) _ (c287 + 1) a288 (by simp only [sp_pt, sp_b, sp_f, cond_true, cond_false, e227, e3, e235, e282, e289, Bool.and_true, Bool.and_false, Bool.true_and, Bool.false_and, Bool.not_true, Bool.not_false]) x301 (by omega) (by omega) (by omega)⟩)
          ·
            have g299 := (sp_pt_ok r) _ _ e296
            unfold sp_le at g299
            try dsimp only at g299
            have g0 := r_N l284
            try dsimp only at g0
            refine am_goX 4 (show am_rc h294 154 11 ∧ 0 ≤ 8 ∧ h294.2.2.2.2 + am_al 216 ≤ 175 ∧ am_call am_cod d 216 [.ref 154, .int (Int32.ofInt 3), .int (Int32.ofInt 0)] h294 (fun vv h' => pz_S 4 none am_r214 d Q 109 [(3, .int (Int32.ofInt (-1))), (2, .int (Int32.ofInt 0)), (0, .ref 154), (1, .int dep)] (vv.toList ++ []) h') from ⟨Or.inl ⟨by decide, ex_154 (r_P l297)⟩, by decide, ex_lim (r_P l297) rfl, am_call.up (r_216 (w := ((Int8.ofInt (-5)).toInt32)) (s := t295) l297 (by first | omega | (dsimp only; omega)) (by decide) (by decide) ht298 (fun h302 l303 => ?_)) (by omega)⟩)
            exact am_goX 2 (show (none : Option FieldType) = none ∧ h302.2.2.2.2 = 175 ∧ _ from ⟨rfl, ex_175 (r_P l303), hS _ _ (by simp only [sp_pt, sp_b, sp_f, cond_true, cond_false, e227, e3, e235, e282, e296, Bool.and_true, Bool.and_false, Bool.true_and, Bool.false_and, Bool.not_true, Bool.not_false]) l303 ht298⟩)
        | false =>
          refine am_goX 1 (show (¬ (pz_b (false)) = 0 → pz_S 4 none am_r214 d Q 69 [(3, .int (Int32.ofInt (-1))), (2, .int (Int32.ofInt 0)), (0, .ref 154), (1, .int dep)] [] h) ∧ (¬ ¬ (pz_b (false)) = 0 → pz_S 4 none am_r214 d Q 61 [(3, .int (Int32.ofInt (-1))), (2, .int (Int32.ofInt 0)), (0, .ref 154), (1, .int dep)] [] h) from ⟨fun hz => absurd hz (by decide), fun _ => ?_⟩)
          refine am_goX 3 (show am_rc h 154 11 ∧ 0 ≤ 8 ∧ h.2.2.2.2 + am_al 197 ≤ 175 ∧ am_call am_cod d 197 [.ref 154, .int (Int32.ofInt 1)] h (fun vv h' => pz_S 4 none am_r214 d Q 66 [(3, .int (Int32.ofInt (-1))), (2, .int (Int32.ofInt 0)), (0, .ref 154), (1, .int dep)] (vv.toList ++ []) h') from ⟨Or.inl ⟨by decide, ex_154 (r_P l)⟩, by decide, ex_lim (r_P l) rfl, am_call.up (r_197 l ?_) (by omega)⟩)
          have x304 : rx h0 (sp_ft τ s.1 (Int32.ofInt 1)) (s.2.2.2.2.2.1 + 0) (am_wI h 154 8 (sp_ft τ s.1 (Int32.ofInt 1))) := rr_x (s := s) l (by decide)
          refine am_goX 3 (show am_sh (am_wI h 154 8 (sp_ft τ s.1 (Int32.ofInt 1))) 154 = some (11, 0) ∧ pz_S 4 none am_r214 d Q 83 [(3, .int (Int32.ofInt (-1))), (2, .int (Int32.ofInt 0)), (0, .ref 154), (1, .int dep)] [.int ((am_wI h 154 8 (sp_ft τ s.1 (Int32.ofInt 1))).1 154 8)] (am_wI h 154 8 (sp_ft τ s.1 (Int32.ofInt 1))) from ⟨ex_154 x304.1, ?_⟩)
          rw [x304.2.1.1]
          refine am_goX 1 (show ((sp_ft τ s.1 (Int32.ofInt 1)) ≤ 0 → pz_S 4 none am_r214 d Q 87 [(3, .int (Int32.ofInt (-1))), (2, .int (Int32.ofInt 0)), (0, .ref 154), (1, .int dep)] [] (am_wI h 154 8 (sp_ft τ s.1 (Int32.ofInt 1)))) ∧ (¬ ((sp_ft τ s.1 (Int32.ofInt 1)) ≤ 0) → pz_S 4 none am_r214 d Q 86 [(3, .int (Int32.ofInt (-1))), (2, .int (Int32.ofInt 0)), (0, .ref 154), (1, .int dep)] [] (am_wI h 154 8 (sp_ft τ s.1 (Int32.ofInt 1)))) from ⟨fun hz => absurd hz (rx_le x304), fun _ => ?_⟩)
          exact am_goX 1 (show (none : Option FieldType) = none ∧ (am_wI h 154 8 (sp_ft τ s.1 (Int32.ofInt 1))).2.2.2.2 = 175 ∧ _ from ⟨rfl, ex_175 x304.1, hF (sp_ft τ s.1 (Int32.ofInt 1)) _ (s.2.2.2.2.2.1 + 0) s.1 (by simp only [sp_pt, sp_b, sp_f, cond_true, cond_false, e227, e3, e235, e282, Bool.and_true, Bool.and_false, Bool.true_and, Bool.false_and, Bool.not_true, Bool.not_false]) x304 (by omega) (by omega) (by omega)⟩)
    ·
      rw [w2]
      obtain ⟨f1, f2, f3, f4, f5⟩ := fa_1 w1 w3
      have e3 : decide (sp_fa τ s.1 = 0) = false := decide_eq_false f3
      have e6 : sp_s τ s.1 (Int8.ofInt 40).toInt32 = false := sp_s_n (sp_12 (j := 3) f4 (by decide))
      refine am_goX 3 (show 3 < 4 ∧ (0 ≤ (nI j) → pz_S 4 none am_r214 d Q 69 [(3, .int (nI j)), (2, .int (Int32.ofInt 0)), (0, .ref 154), (1, .int dep)] [] h) ∧ (¬ (0 ≤ (nI j)) → pz_S 4 none am_r214 d Q 39 [(3, .int (nI j)), (2, .int (Int32.ofInt 0)), (0, .ref 154), (1, .int dep)] [] h) from ⟨by decide, fun _ => ?_, fun hz => absurd (nI_0le (by omega)) hz⟩)
      refine am_goX 3 (show (¬ dep = (Int32.ofInt 5) → pz_S 4 none am_r214 d Q 79 [(3, .int (nI j)), (2, .int (Int32.ofInt 0)), (0, .ref 154), (1, .int dep)] [] h) ∧ (¬ ¬ dep = (Int32.ofInt 5) → pz_S 4 none am_r214 d Q 74 [(3, .int (nI j)), (2, .int (Int32.ofInt 0)), (0, .ref 154), (1, .int dep)] [] h) from ⟨fun _ => ?_, fun hz => absurd hdp hz⟩)
      refine am_goX 2 (show am_sh h 154 = some (11, 0) ∧ pz_S 4 none am_r214 d Q 83 [(3, .int (nI j)), (2, .int (Int32.ofInt 0)), (0, .ref 154), (1, .int dep)] [.int (h.1 154 8)] h from ⟨ex_154 (r_P l), ?_⟩)
      rw [r_f l]
      refine am_goX 1 (show (0 ≤ 0 → pz_S 4 none am_r214 d Q 87 [(3, .int (nI j)), (2, .int (Int32.ofInt 0)), (0, .ref 154), (1, .int dep)] [] h) ∧ (¬ (0 ≤ 0) → pz_S 4 none am_r214 d Q 86 [(3, .int (nI j)), (2, .int (Int32.ofInt 0)), (0, .ref 154), (1, .int dep)] [] h) from ⟨fun _ => ?_, fun hz => absurd (by decide) hz⟩)
      refine am_goX 3 (show am_rc h 154 11 ∧ 0 ≤ 8 ∧ h.2.2.2.2 + am_al 204 ≤ 175 ∧ am_call am_cod d 204 [.ref 154, .int (Int8.ofInt 14).toInt32] h (fun vv h' => pz_S 4 none am_r214 d Q 93 [(3, .int (nI j)), (2, .int (Int32.ofInt 0)), (0, .ref 154), (1, .int dep)] (vv.toList ++ []) h') from ⟨Or.inl ⟨by decide, ex_154 (r_P l)⟩, by decide, ex_lim (r_P l) rfl, am_call.up (r_204 (w := 14) (W := 19741) (by decide) (by decide) (by decide) (s := s) l (fun h305 l306 => ?_)) (by omega)⟩)
      rw [f5] at l306 ⊢
      replace l306 : rr h0 0 τ N s h305 := l306
      refine am_goX 1 (show ((pz_b (false)) = 0 → pz_S 4 none am_r214 d Q 112 [(3, .int (nI j)), (2, .int (Int32.ofInt 0)), (0, .ref 154), (1, .int dep)] [] h305) ∧ (¬ ((pz_b (false)) = 0) → pz_S 4 none am_r214 d Q 96 [(3, .int (nI j)), (2, .int (Int32.ofInt 0)), (0, .ref 154), (1, .int dep)] [] h305) from ⟨fun _ => ?_, fun hz => absurd (by decide) hz⟩)
      refine am_goX 3 (show am_rc h305 154 11 ∧ 0 ≤ 8 ∧ h305.2.2.2.2 + am_al 217 ≤ 175 ∧ am_call am_cod d 217 [.ref 154, .int (Int8.ofInt 40).toInt32] h305 (fun vv h' => pz_S 4 none am_r214 d Q 118 [(3, .int (nI j)), (2, .int (Int32.ofInt 0)), (0, .ref 154), (1, .int dep)] (vv.toList ++ []) h') from ⟨Or.inl ⟨by decide, ex_154 (r_P l306)⟩, by decide, ex_lim (r_P l306) rfl, am_call.up (r_217 (s := s) l306 (fun h307 l308 => ?_)) (by omega)⟩)
      rw [e6] at l308 ⊢
      replace l308 : rr h0 0 τ N s h307 := l308
      refine am_goX 1 (show ((pz_b (false)) = 0 → pz_S 4 none am_r214 d Q 137 [(3, .int (nI j)), (2, .int (Int32.ofInt 0)), (0, .ref 154), (1, .int dep)] [] h307) ∧ (¬ ((pz_b (false)) = 0) → pz_S 4 none am_r214 d Q 121 [(3, .int (nI j)), (2, .int (Int32.ofInt 0)), (0, .ref 154), (1, .int dep)] [] h307) from ⟨fun _ => ?_, fun hz => absurd (by decide) hz⟩)
      refine am_goX 3 (show ((Int32.ofInt 0) = 0 → pz_S 4 none am_r214 d Q 146 [(3, .int (nI j)), (2, .int (Int32.ofInt 0)), (0, .ref 154), (1, .int dep)] [.ref 154] h307) ∧ (¬ ((Int32.ofInt 0) = 0) → pz_S 4 none am_r214 d Q 142 [(3, .int (nI j)), (2, .int (Int32.ofInt 0)), (0, .ref 154), (1, .int dep)] [.ref 154] h307) from ⟨fun _ => ?_, fun hz => absurd (by decide) hz⟩)
      refine am_goX 3 (show ((Int32.ofInt 0) = 0 → pz_S 4 none am_r214 d Q 164 [(3, .int (nI j)), (2, .int (Int32.ofInt 0)), (0, .ref 154), (1, .int dep)] [.int (Int32.ofInt 2), .ref 154] h307) ∧ (¬ ((Int32.ofInt 0) = 0) → pz_S 4 none am_r214 d Q 151 [(3, .int (nI j)), (2, .int (Int32.ofInt 0)), (0, .ref 154), (1, .int dep)] [.int (Int32.ofInt 2), .ref 154] h307) from ⟨fun _ => ?_, fun hz => absurd (by decide) hz⟩)
      refine am_goX 2 (show am_rc h307 154 11 ∧ 0 ≤ 8 ∧ h307.2.2.2.2 + am_al 216 ≤ 175 ∧ am_call am_cod d 216 [.ref 154, .int (Int32.ofInt 2), .int (nI j)] h307 (fun vv h' => pz_S 4 none am_r214 d Q 168 [(3, .int (nI j)), (2, .int (Int32.ofInt 0)), (0, .ref 154), (1, .int dep)] (vv.toList ++ []) h') from ⟨Or.inl ⟨by decide, ex_154 (r_P l308)⟩, by decide, ex_lim (r_P l308) rfl, am_call.up (r_216n (w := (sp_fa τ s.1)) (s := s) l308 f1 f2 ht (fun h309 l310 => ?_)) (by omega)⟩)
      refine am_goX 6 (show (Value.ref 154).category = 1 ∧ am_sh h309 154 = some (11, 0) ∧ am_sh h309 154 = some (11, 0) ∧ narrow (am_fty 11 7) (.int (((h309.1 154 7) + (Int32.ofInt 1)))) = .int (((h309.1 154 7) + (Int32.ofInt 1))) ∧ fits (am_fty 11 7) (.int (((h309.1 154 7) + (Int32.ofInt 1)))) = true ∧ pz_S 4 none am_r214 d Q 178 [(3, .int (nI j)), (2, .int (Int32.ofInt 0)), (0, .ref 154), (1, .int dep)] [] (am_wI h309 154 7 (((h309.1 154 7) + (Int32.ofInt 1)))) from ⟨rfl, ex_154 l310.1.1.1, ex_154 l310.1.1.1, rfl, rfl, ?_⟩)
      rw [l310.1.2.1.1, xw_i1]
      have l311 : rr h0 0 τ N (s.1 + 1, sp_em s.2 (sp_fa τ s.1)) (am_wI h309 154 7 (nI (s.1 + 1))) := rr1_nx l310 (r_lt l (sp_kn (by decide) f4))
      exact am_goX 1 (show (none : Option FieldType) = none ∧ (am_wI h309 154 7 (nI (s.1 + 1))).2.2.2.2 = 175 ∧ _ from ⟨rfl, ex_175 (r_P l311), hS _ _ (by simp only [sp_pt, sp_b, sp_f, cond_true, cond_false, e227, e3, f5, e6, Bool.and_true, Bool.and_false, Bool.true_and, Bool.false_and, Bool.not_true, Bool.not_false]) l311 ht⟩)
theorem r_law : ∀ (r : Nat) (dep : Int32), r ≤ 5 → dep = Int32.ofInt (5 - r) → lw_r h0 τ N (3 + 5 * r) 214 dep (sp_pt τ r) ∧ lw_r h0 τ N (7 + 5 * r) 210 dep (sp_wh τ (sp_pt τ r)) := by
  have up : ∀ (r : Nat) (dep : Int32) (d : Nat), 2 ≤ d → lw_r h0 τ N d 214 dep (sp_pt τ r) → lw_r h0 τ N (d + 1 + 1 + 1 + 1) 210 dep (sp_wh τ (sp_pt τ r)) := fun r dep d hd k =>
    r_210 (by omega) (r_211 (by omega) (r_212 (by omega) (r_213 hd k (sp_pt_ok r)) (sp_p_ok (sp_pt_ok r))) (sp_su_ok (sp_pt_ok r))) (sp_te_ok (sp_pt_ok r))
  intro r
  induction r with
  | zero =>
    intro dep _ e
    have k : lw_r h0 τ N 3 214 dep (sp_pt τ 0) := r_214z (r := 0) (d := 2) (by omega) e
    exact ⟨k, up 0 dep 3 (by omega) k⟩
  | succ r ih =>
    intro dep hr e
    obtain ⟨i1, i2⟩ := ih (dep + Int32.ofInt 1) (by omega) (by
      rw [e, ← Int32.ofInt_add]
      congr 1
      omega)
    have hlt : ¬ dep = Int32.ofInt 5 := by
      rw [e]
      have h5 : r = 0 ∨ r = 1 ∨ r = 2 ∨ r = 3 ∨ r = 4 := by omega
      rcases h5 with rfl | rfl | rfl | rfl | rfl <;> decide
    have k : lw_r h0 τ N (3 + 5 * (r + 1)) 214 dep (sp_pt τ (r + 1)) := lr_up (r_214s (d := 7 + 5 * r) (by omega) hlt (lr_up i1 (by omega)) i2) (by omega)
    exact ⟨k, lr_up (up (r + 1) dep (3 + 5 * (r + 1)) (by omega) k) (by omega)⟩
end
section
/-! THE REFERENCE'S NAMES, EXACTLY -/
theorem sp_fd_none {f : Nat → Int64} {v : Int64} : ∀ {m i : Nat}, sp_fd f v m i = none → ∀ j, i ≤ j → j < i + m → ¬ f j = v
  | 0, i, _, j, h1, h2 => absurd h2 (by omega)
  | m + 1, i, e, j, h1, h2 => by
    unfold sp_fd at e
    cases hb : decide (f i = v) with
    | true => rw [hb] at e; cases e
    | false =>
      rw [hb] at e
      by_cases ej : j = i
      · rw [ej]; exact of_decide_eq_false hb
      · exact sp_fd_none e j (by omega) (by omega)
/-- the reference's number of a name -/
def sp_na (C : sp_C) (v : Int64) : Int32 := match sp_pf C v with
  | some p => nI p
  | none => match sp_ef C v with
    | some e => nI (20 + e)
    | none => Int32.ofInt (-1)
theorem rN_hit {C : sp_C} {h : am_H} {v : Int64} {k : Nat} (l : rcN C h) (hk : k < C.1.1 + C.2.1.1) (e : h.2.1 164 k = v) : h.1 166 k = sp_na C v := by
  obtain ⟨l1, l2, l3, l4, l5⟩ := l
  unfold sp_na
  cases hp : sp_pf C v with
  | some p =>
    have w := sp_fd_lt hp
    obtain ⟨q, q1, q2, q3⟩ := l3 p (by omega)
    have := l5 q k q1 hk (by rw [q3, e]; exact w.2.2)
    rw [← this]
    exact q2
  | none =>
    cases he : sp_ef C v with
    | some i =>
      have w := sp_fd_lt he
      obtain ⟨q, q1, q2, q3⟩ := l4 i (by omega)
      have := l5 q k q1 hk (by rw [q3, e]; exact w.2.2)
      rw [← this]
      exact q2
    | none =>
      rcases l2 k hk with ⟨i, i1, i2, i3⟩ | ⟨i, i1, i2, i3⟩
      · exact absurd (i3.symm.trans e) (sp_fd_none hp i (Nat.zero_le _) (by omega))
      · exact absurd (i3.symm.trans e) (sp_fd_none he i (Nat.zero_le _) (by omega))
theorem rN_none {C : sp_C} {h : am_H} {v : Int64} (l : rcN C h) (hk : ∀ k, k < C.1.1 + C.2.1.1 → ¬ h.2.1 164 k = v) : sp_na C v = Int32.ofInt (-1) := by
  obtain ⟨l1, l2, l3, l4, l5⟩ := l
  unfold sp_na
  cases hp : sp_pf C v with
  | some p =>
    have w := sp_fd_lt hp
    obtain ⟨q, q1, q2, q3⟩ := l3 p (by omega)
    exact absurd (q3.trans w.2.2) (hk q q1)
  | none =>
    cases he : sp_ef C v with
    | some i =>
      have w := sp_fd_lt he
      obtain ⟨q, q1, q2, q3⟩ := l4 i (by omega)
      exact absurd (q3.trans w.2.2) (hk q q1)
    | none => rfl
/-- an event's name is no person's -/
theorem rN_ef {C : sp_C} {h : am_H} {v : Int64} {i : Nat} (l : rcN C h) (hP : C.1.1 ≤ 6) (hE : C.2.1.1 ≤ 5) (he : sp_ef C v = some i) : sp_na C v = nI (20 + i) := by
  obtain ⟨l1, l2, l3, l4, l5⟩ := l
  unfold sp_na
  cases hp : sp_pf C v with
  | none => rw [he]
  | some p =>
    have w := sp_fd_lt hp
    have u := sp_fd_lt he
    obtain ⟨q, q1, q2, q3⟩ := l3 p (by omega)
    obtain ⟨r, r1, r2, r3⟩ := l4 i (by omega)
    have := l5 q r q1 r1 (by rw [q3, r3, w.2.2, u.2.2])
    rw [this, r2] at q2
    exact q2.symm
theorem na_new {C : sp_C} {v : Int64} (e : ((sp_pf C v).isSome || (sp_ef C v).isSome) = false) : sp_pf C v = none ∧ sp_ef C v = none ∧ sp_na C v = Int32.ofInt (-1) := by
  cases hp : sp_pf C v with
  | some p => rw [hp] at e; cases e
  | none =>
    cases he : sp_ef C v with
    | some i => rw [hp, he] at e; cases e
    | none =>
      refine ⟨rfl, rfl, ?_⟩
      unfold sp_na
      rw [hp, he]
theorem na_old {C : sp_C} {v : Int64} (hP : C.1.1 ≤ 6) (hE : C.2.1.1 ≤ 5) (e : ((sp_pf C v).isSome || (sp_ef C v).isSome) = true) : ¬ sp_na C v < 0 := by
  unfold sp_na
  cases hp : sp_pf C v with
  | some p =>
    have w := sp_fd_lt hp
    exact Int32.not_lt.mpr (nI_0le (by omega))
  | none =>
    cases he : sp_ef C v with
    | some i =>
      have w := sp_fd_lt he
      exact Int32.not_lt.mpr (nI_0le (by omega))
    | none => rw [hp, he] at e; cases e
def wi5 (x : Int32) : Bool := decide (Int32.ofInt 0 ≤ x) && decide (x ≤ Int32.ofInt 5)
theorem na_p0 {C : sp_C} {v : Int64} (hE : C.2.1.1 ≤ 5) (e : sp_pf C v = none) : wi5 (sp_na C v - Int32.ofInt 0) = false := by
  have key : ∀ i, i < 5 → wi5 (nI (20 + i) - Int32.ofInt 0) = false := by decide +kernel
  unfold sp_na
  rw [e]
  cases he : sp_ef C v with
  | some i =>
    have w := sp_fd_lt he
    exact key i (by omega)
  | none => decide +kernel
theorem na_e0 {C : sp_C} {v : Int64} (hP : C.1.1 ≤ 6) (e : sp_ef C v = none) : wi5 (sp_na C v - (Int8.ofInt 20).toInt32) = false := by
  have key : ∀ i, i < 6 → wi5 (nI i - (Int8.ofInt 20).toInt32) = false := by decide +kernel
  unfold sp_na
  cases hp : sp_pf C v with
  | some i =>
    have w := sp_fd_lt hp
    exact key i (by omega)
  | none =>
    rw [e]
    decide +kernel
theorem na_p1 {p : Nat} (hp : p < 6) : nI p - Int32.ofInt 0 = nI p ∧ wi5 (nI p) = true ∧ sp_bit (Int32.ofInt 0) (nI p) = false := by
  have key : ∀ p, p < 6 → nI p - Int32.ofInt 0 = nI p ∧ wi5 (nI p) = true ∧ sp_bit (Int32.ofInt 0) (nI p) = false := by decide +kernel
  exact key p hp
theorem na_e1 {p : Nat} (hp : p < 5) : nI (20 + p) - (Int8.ofInt 20).toInt32 = nI p ∧ wi5 (nI p) = true := by
  have key : ∀ p, p < 5 → nI (20 + p) - (Int8.ofInt 20).toInt32 = nI p ∧ wi5 (nI p) = true := by decide +kernel
  exact key p hp
theorem and1 (x : Int32) : x &&& Int32.ofInt 1 = 0 ∨ x &&& Int32.ofInt 1 = Int32.ofInt 1 := by
  have e : bN (x &&& Int32.ofInt 1) = bN x % 2 := by
    rw [bN_and, show bN (Int32.ofInt 1) = 1 from rfl, Nat.and_one_is_mod]
  rcases Nat.mod_two_eq_zero_or_one (bN x) with w | w
  · left
    exact bN_inj (e.trans w)
  · right
    exact bN_inj (e.trans w)
theorem bit_t {x i : Int32} (e : sp_bit x i = true) : x >>> (i &&& 31) &&& Int32.ofInt 1 = Int32.ofInt 1 := by
  rcases and1 (x >>> (i &&& 31)) with w | w
  · exact absurd w (of_decide_eq_true e)
  · exact w
theorem bit_f {x i : Int32} (e : sp_bit x i = false) : ¬ x >>> (i &&& 31) &&& Int32.ofInt 1 = Int32.ofInt 1 := by
  intro w
  have h1 := of_decide_eq_false e
  apply h1
  rw [w]
  decide
/-- one more name -/
theorem rcN_P {C : sp_C} {h : am_H} {v : Int64} {x y : Int32} {a : Nat} (l : rcN C h) (hp : sp_pf C v = none) (he : sp_ef C v = none) : rcN (sp_cP C v x y) (am_wI (am_wI (am_wI (am_wI (am_wL h 164 (C.1.1 + C.2.1.1) v) 166 (C.1.1 + C.2.1.1) (Int32.ofInt 0 + nI C.1.1)) 154 19 (nI (C.1.1 + C.2.1.1 + 1))) 154 7 (nI a)) 160 40 (nI (C.1.1 + 1))) := by
  obtain ⟨l1, l2, l3, l4, l5⟩ := l
  have e6 : ∀ k, ¬ k = C.1.1 + C.2.1.1 → (am_wI (am_wI (am_wI (am_wI (am_wL h 164 (C.1.1 + C.2.1.1) v) 166 (C.1.1 + C.2.1.1) (Int32.ofInt 0 + nI C.1.1)) 154 19 (nI (C.1.1 + C.2.1.1 + 1))) 154 7 (nI a)) 160 40 (nI (C.1.1 + 1))).1 166 k = h.1 166 k := fun k hk => by
    rw [em_wn _ _ (by omega), em_wn _ _ (by omega), em_wn _ _ (by omega), em_wn _ _ (by omega)]
    rfl
  have f6 : (am_wI (am_wI (am_wI (am_wI (am_wL h 164 (C.1.1 + C.2.1.1) v) 166 (C.1.1 + C.2.1.1) (Int32.ofInt 0 + nI C.1.1)) 154 19 (nI (C.1.1 + C.2.1.1 + 1))) 154 7 (nI a)) 160 40 (nI (C.1.1 + 1))).1 166 (C.1.1 + C.2.1.1) = nI C.1.1 := by
    rw [em_wn _ _ (by omega), em_wn _ _ (by omega), em_wn _ _ (by omega), em_we]
    exact Int32.zero_add _
  have e4 : ∀ k, ¬ k = C.1.1 + C.2.1.1 → (am_wL h 164 (C.1.1 + C.2.1.1) v).2.1 164 k = h.2.1 164 k := fun k hk => ex_ln (by omega)
  have f4 : (am_wL h 164 (C.1.1 + C.2.1.1) v).2.1 164 (C.1.1 + C.2.1.1) = v := ex_lq _ _ _
  have nv : ∀ k, k < C.1.1 + C.2.1.1 → ¬ h.2.1 164 k = v := by
    intro k hk e
    rcases l2 k hk with ⟨i, i1, i2, i3⟩ | ⟨i, i1, i2, i3⟩
    · exact absurd (i3.symm.trans e) (sp_fd_none hp i (Nat.zero_le _) (by omega))
    · exact absurd (i3.symm.trans e) (sp_fd_none he i (Nat.zero_le _) (by omega))
  have M1 : (sp_cP C v x y).1.1 + (sp_cP C v x y).2.1.1 = C.1.1 + C.2.1.1 + 1 := by
    show C.1.1 + 1 + C.2.1.1 = _
    omega
  have nm : ∀ i, i < C.1.1 → (sp_cP C v x y).1.2.1 i = C.1.2.1 i := fun i hi => if_neg (by omega)
  have nn : (sp_cP C v x y).1.2.1 C.1.1 = v := if_pos rfl
  refine ⟨?_, fun k hk => ?_, fun i hi => ?_, fun i hi => ?_, fun k k' hk hk' e => ?_⟩
  · rw [M1, em_wn _ _ (by omega), em_wn _ _ (by omega), em_we]
  · rw [M1] at hk
    by_cases ek : k = C.1.1 + C.2.1.1
    · left
      refine ⟨C.1.1, Nat.lt_succ_self _, ?_, ?_⟩
      · rw [ek]; exact f6
      · rw [ek, nn]; exact f4
    · rw [e6 k ek]
      rcases l2 k (by omega) with ⟨i, i1, i2, i3⟩ | ⟨i, i1, i2, i3⟩
      · left
        exact ⟨i, Nat.lt_succ_of_lt i1, i2, by rw [nm i i1]; exact (e4 k ek).trans i3⟩
      · right
        exact ⟨i, i1, i2, (e4 k ek).trans i3⟩
  · have hi : i < C.1.1 + 1 := hi
    rw [M1]
    by_cases ei : i = C.1.1
    · exact ⟨C.1.1 + C.2.1.1, by omega, by rw [ei]; exact f6, by rw [ei, nn]; exact f4⟩
    · obtain ⟨q, q1, q2, q3⟩ := l3 i (by omega)
      exact ⟨q, by omega, (e6 q (by omega)).trans q2, by rw [nm i (by omega)]; exact (e4 q (by omega)).trans q3⟩
  · rw [M1]
    obtain ⟨q, q1, q2, q3⟩ := l4 i hi
    exact ⟨q, by omega, (e6 q (by omega)).trans q2, (e4 q (by omega)).trans q3⟩
  · rw [M1] at hk hk'
    have e : (am_wL h 164 (C.1.1 + C.2.1.1) v).2.1 164 k = (am_wL h 164 (C.1.1 + C.2.1.1) v).2.1 164 k' := e
    by_cases ek : k = C.1.1 + C.2.1.1
    · by_cases ek' : k' = C.1.1 + C.2.1.1
      · omega
      · rw [ek, f4, e4 k' ek'] at e
        exact absurd e.symm (nv k' (by omega))
    · by_cases ek' : k' = C.1.1 + C.2.1.1
      · rw [ek', f4, e4 k ek] at e
        exact absurd e (nv k (by omega))
      · rw [e4 k ek, e4 k' ek'] at e
        exact l5 k k' (by omega) (by omega) e
theorem rcN_E {C : sp_C} {h : am_H} {v : Int64} {x y : Int32} {a : Nat} (l : rcN C h) (hp : sp_pf C v = none) (he : sp_ef C v = none) : rcN (sp_cE C v x y) (am_wI (am_wI (am_wI (am_wI (am_wL h 164 (C.1.1 + C.2.1.1) v) 166 (C.1.1 + C.2.1.1) ((Int8.ofInt 20).toInt32 + nI C.2.1.1)) 154 19 (nI (C.1.1 + C.2.1.1 + 1))) 154 7 (nI a)) 160 41 (nI (C.2.1.1 + 1))) := by
  obtain ⟨l1, l2, l3, l4, l5⟩ := l
  have e6 : ∀ k, ¬ k = C.1.1 + C.2.1.1 → (am_wI (am_wI (am_wI (am_wI (am_wL h 164 (C.1.1 + C.2.1.1) v) 166 (C.1.1 + C.2.1.1) ((Int8.ofInt 20).toInt32 + nI C.2.1.1)) 154 19 (nI (C.1.1 + C.2.1.1 + 1))) 154 7 (nI a)) 160 41 (nI (C.2.1.1 + 1))).1 166 k = h.1 166 k := fun k hk => by
    rw [em_wn _ _ (by omega), em_wn _ _ (by omega), em_wn _ _ (by omega), em_wn _ _ (by omega)]
    rfl
  have f6 : (am_wI (am_wI (am_wI (am_wI (am_wL h 164 (C.1.1 + C.2.1.1) v) 166 (C.1.1 + C.2.1.1) ((Int8.ofInt 20).toInt32 + nI C.2.1.1)) 154 19 (nI (C.1.1 + C.2.1.1 + 1))) 154 7 (nI a)) 160 41 (nI (C.2.1.1 + 1))).1 166 (C.1.1 + C.2.1.1) = nI (20 + C.2.1.1) := by
    rw [em_wn _ _ (by omega), em_wn _ _ (by omega), em_wn _ _ (by omega), em_we]
    exact nI_add 20 _
  have e4 : ∀ k, ¬ k = C.1.1 + C.2.1.1 → (am_wL h 164 (C.1.1 + C.2.1.1) v).2.1 164 k = h.2.1 164 k := fun k hk => ex_ln (by omega)
  have f4 : (am_wL h 164 (C.1.1 + C.2.1.1) v).2.1 164 (C.1.1 + C.2.1.1) = v := ex_lq _ _ _
  have nv : ∀ k, k < C.1.1 + C.2.1.1 → ¬ h.2.1 164 k = v := by
    intro k hk e
    rcases l2 k hk with ⟨i, i1, i2, i3⟩ | ⟨i, i1, i2, i3⟩
    · exact absurd (i3.symm.trans e) (sp_fd_none hp i (Nat.zero_le _) (by omega))
    · exact absurd (i3.symm.trans e) (sp_fd_none he i (Nat.zero_le _) (by omega))
  have M1 : (sp_cE C v x y).1.1 + (sp_cE C v x y).2.1.1 = C.1.1 + C.2.1.1 + 1 := by
    show C.1.1 + (C.2.1.1 + 1) = _
    omega
  have nm : ∀ i, i < C.2.1.1 → (sp_cE C v x y).2.1.2.1 i = C.2.1.2.1 i := fun i hi => if_neg (by omega)
  have nn : (sp_cE C v x y).2.1.2.1 C.2.1.1 = v := if_pos rfl
  refine ⟨?_, fun k hk => ?_, fun i hi => ?_, fun i hi => ?_, fun k k' hk hk' e => ?_⟩
  · rw [M1, em_wn _ _ (by omega), em_wn _ _ (by omega), em_we]
  · rw [M1] at hk
    by_cases ek : k = C.1.1 + C.2.1.1
    · right
      refine ⟨C.2.1.1, Nat.lt_succ_self _, ?_, ?_⟩
      · rw [ek]; exact f6
      · rw [ek, nn]; exact f4
    · rw [e6 k ek]
      rcases l2 k (by omega) with ⟨i, i1, i2, i3⟩ | ⟨i, i1, i2, i3⟩
      · left
        exact ⟨i, i1, i2, (e4 k ek).trans i3⟩
      · right
        exact ⟨i, Nat.lt_succ_of_lt i1, i2, by rw [nm i i1]; exact (e4 k ek).trans i3⟩
  · rw [M1]
    obtain ⟨q, q1, q2, q3⟩ := l3 i hi
    exact ⟨q, by omega, (e6 q (by omega)).trans q2, (e4 q (by omega)).trans q3⟩
  · have hi : i < C.2.1.1 + 1 := hi
    rw [M1]
    by_cases ei : i = C.2.1.1
    · exact ⟨C.1.1 + C.2.1.1, by omega, by rw [ei]; exact f6, by rw [ei, nn]; exact f4⟩
    · obtain ⟨q, q1, q2, q3⟩ := l4 i (by omega)
      exact ⟨q, by omega, (e6 q (by omega)).trans q2, by rw [nm i (by omega)]; exact (e4 q (by omega)).trans q3⟩
  · rw [M1] at hk hk'
    have e : (am_wL h 164 (C.1.1 + C.2.1.1) v).2.1 164 k = (am_wL h 164 (C.1.1 + C.2.1.1) v).2.1 164 k' := e
    by_cases ek : k = C.1.1 + C.2.1.1
    · by_cases ek' : k' = C.1.1 + C.2.1.1
      · omega
      · rw [ek, f4, e4 k' ek'] at e
        exact absurd e.symm (nv k' (by omega))
    · by_cases ek' : k' = C.1.1 + C.2.1.1
      · rw [ek', f4, e4 k ek] at e
        exact absurd e (nv k (by omega))
      · rw [e4 k ek, e4 k' ek'] at e
        exact l5 k k' (by omega) (by omega) e
theorem rr_nP {h h0 : am_H} {z N a : Nat} {τ : sp_T} {C : sp_C} {v : Int64} (l : rr h0 z τ N (a, C) h) (hn : ¬ (τ a).1 = 0) (hlt : C.1.1 < 6) (hp : sp_pf C v = none) (he : sp_ef C v = none) : rr h0 z τ N (a + 1, sp_cP C v (h.1 160 (44 + 3 * C.1.1)) (h.1 160 (45 + 3 * C.1.1))) (am_wI (am_wI (am_wI (am_wI (am_wL h 164 (C.1.1 + C.2.1.1) v) 166 (C.1.1 + C.2.1.1) (Int32.ofInt 0 + nI C.1.1)) 154 19 (nI (C.1.1 + C.2.1.1 + 1))) 154 7 (nI (a + 1))) 160 40 (nI (C.1.1 + 1))) := by
  have h1 := r_lt l hn
  obtain ⟨⟨l1, l2, l3⟩, ⟨⟨p1, p2, p3⟩, c2, c3, c4, c5, c6, c7⟩, l5, l6⟩ := l
  refine ⟨⟨rt_w (by omega) (rt_w (by omega) (rt_w (by omega) (rt_w (by omega) (rt_wL (by omega) l1)))), ⟨?_, h1⟩, ?_⟩, ⟨⟨em_we _ _ _ _, hlt, fun i hi => ?_⟩, rcE_w (by omega) (rcE_w (by omega) (rcE_w (by omega) (rcE_w (by omega) c2))), rcB_w (by omega) (rcB_w (by omega) (rcB_w (by omega) (rcB_w (by omega) c3))), rcS_w (by omega) (rcS_w (by omega) (rcS_w (by omega) (rcS_w (by omega) c4))), rcO_w (by omega) (rcO_w (by omega) (rcO_w (by omega) (rcO_w (by omega) c5))), rcL_w (by omega) (rcL_w (by omega) (rcL_w (by omega) (rcL_w (by omega) c6))), rcN_P c7 hp he⟩, rq_w (by unfold r_in; omega) (rq_w (by unfold r_in; omega) (rq_w (by unfold r_in; omega) (rq_w (by unfold r_in; omega) (rq_wL (by unfold r_in; omega) l5)))), Nat.le_succ_of_le l6⟩
  · rw [em_wn _ _ (by omega), em_we]
  · rw [em_wn _ _ (by omega), em_wn _ _ (by omega), em_wn _ _ (by omega), em_wn _ _ (by omega)]
    exact l3
  · have hi : i < C.1.1 + 1 := hi
    rw [em_wn _ _ (by omega), em_wn _ _ (by omega), em_wn _ _ (by omega), em_wn _ _ (by omega), em_wn _ _ (by omega), em_wn _ _ (by omega), em_wn _ _ (by omega), em_wn _ _ (by omega)]
    show h.1 160 (44 + 3 * i) = (if i = C.1.1 then h.1 160 (44 + 3 * C.1.1) else C.1.2.2.1 i) ∧ h.1 160 (45 + 3 * i) = (if i = C.1.1 then h.1 160 (45 + 3 * C.1.1) else C.1.2.2.2 i)
    by_cases ei : i = C.1.1
    · rw [if_pos ei, if_pos ei, ei]
      exact ⟨rfl, rfl⟩
    · rw [if_neg ei, if_neg ei]
      exact p3 i (show i < C.1.1 by omega)
theorem rr_nE {h h0 : am_H} {z N a : Nat} {τ : sp_T} {C : sp_C} {v : Int64} (l : rr h0 z τ N (a, C) h) (hn : ¬ (τ a).1 = 0) (hlt : C.2.1.1 < 5) (hp : sp_pf C v = none) (he : sp_ef C v = none) : rr h0 z τ N (a + 1, sp_cE C v (h.1 160 (62 + 2 * C.2.1.1)) (h.1 160 (63 + 2 * C.2.1.1))) (am_wI (am_wI (am_wI (am_wI (am_wL h 164 (C.1.1 + C.2.1.1) v) 166 (C.1.1 + C.2.1.1) ((Int8.ofInt 20).toInt32 + nI C.2.1.1)) 154 19 (nI (C.1.1 + C.2.1.1 + 1))) 154 7 (nI (a + 1))) 160 41 (nI (C.2.1.1 + 1))) := by
  have h1 := r_lt l hn
  obtain ⟨⟨l1, l2, l3⟩, ⟨c1, ⟨p1, p2, p3⟩, c3, c4, c5, c6, c7⟩, l5, l6⟩ := l
  refine ⟨⟨rt_w (by omega) (rt_w (by omega) (rt_w (by omega) (rt_w (by omega) (rt_wL (by omega) l1)))), ⟨?_, h1⟩, ?_⟩, ⟨rcP_w (by omega) (rcP_w (by omega) (rcP_w (by omega) (rcP_w (by omega) c1))), ⟨em_we _ _ _ _, hlt, fun i hi => ?_⟩, fun p e hp1 he1 => ?_, rcS_w (by omega) (rcS_w (by omega) (rcS_w (by omega) (rcS_w (by omega) c4))), rcO_w (by omega) (rcO_w (by omega) (rcO_w (by omega) (rcO_w (by omega) c5))), rcL_w (by omega) (rcL_w (by omega) (rcL_w (by omega) (rcL_w (by omega) c6))), rcN_E c7 hp he⟩, rq_w (by unfold r_in; omega) (rq_w (by unfold r_in; omega) (rq_w (by unfold r_in; omega) (rq_w (by unfold r_in; omega) (rq_wL (by unfold r_in; omega) l5)))), Nat.le_succ_of_le l6⟩
  · rw [em_wn _ _ (by omega), em_we]
  · rw [em_wn _ _ (by omega), em_wn _ _ (by omega), em_wn _ _ (by omega), em_wn _ _ (by omega)]
    exact l3
  · have hi : i < C.2.1.1 + 1 := hi
    rw [em_wn _ _ (by omega), em_wn _ _ (by omega), em_wn _ _ (by omega), em_wn _ _ (by omega), em_wn _ _ (by omega), em_wn _ _ (by omega), em_wn _ _ (by omega), em_wn _ _ (by omega)]
    show h.1 160 (62 + 2 * i) = (if i = C.2.1.1 then h.1 160 (62 + 2 * C.2.1.1) else C.2.1.2.2.1 i) ∧ h.1 160 (63 + 2 * i) = (if i = C.2.1.1 then h.1 160 (63 + 2 * C.2.1.1) else C.2.1.2.2.2.1 i)
    by_cases ei : i = C.2.1.1
    · rw [if_pos ei, if_pos ei, ei]
      exact ⟨rfl, rfl⟩
    · rw [if_neg ei, if_neg ei]
      exact p3 i (show i < C.2.1.1 by omega)
  · rw [em_wn _ _ (by omega), em_wn _ _ (by omega), em_wn _ _ (by omega), em_wn _ _ (by omega)]
    refine ⟨?_, (c3 p e hp1 he1).2⟩
    show sp_bit (h.1 160 (46 + 3 * p)) (nI e) = (decide (e < C.2.1.1 + 1) && sp_bit (if e = C.2.1.1 then 0 else C.2.1.2.2.2.2 e) (nI p))
    rw [(c3 p e hp1 he1).1]
    by_cases ee : e = C.2.1.1
    · rw [if_pos ee, decide_eq_false (show ¬ e < C.2.1.1 by omega)]
      have key : ∀ p, p < 6 → sp_bit 0 (nI p) = false := by decide +kernel
      rw [key p hp1, Bool.and_false]
      rfl
    · rw [if_neg ee]
      by_cases el : e < C.2.1.1
      · rw [decide_eq_true el, decide_eq_true (show e < C.2.1.1 + 1 by omega)]
      · rw [decide_eq_false el, decide_eq_false (show ¬ e < C.2.1.1 + 1 by omega)]
variable {h h0 : am_H} {z N a c : Nat} {τ : sp_T} {C : sp_C} {s : sp_S} {F : Int32} {Q : am_Q}
theorem ex_160 {h : am_H} (hP : ex_P h) : am_sh h 160 = some (13, 80) := (ex_so hP (by decide +kernel)).2
theorem ex_w160 {h : am_H} (hP : ex_P h) : am_so h 160 = some (13, 80) := (ex_so hP (by decide +kernel)).1
theorem ex_164 {h : am_H} (hP : ex_P h) : am_sh h 164 = some (14, 11) := (ex_so hP (by decide +kernel)).2
theorem ex_w164 {h : am_H} (hP : ex_P h) : am_so h 164 = some (14, 11) := (ex_so hP (by decide +kernel)).1
theorem ex_166 {h : am_H} (hP : ex_P h) : am_sh h 166 = some (13, 11) := (ex_so hP (by decide +kernel)).2
theorem ex_w166 {h : am_H} (hP : ex_P h) : am_so h 166 = some (13, 11) := (ex_so hP (by decide +kernel)).1
theorem ex_r154_10 {h : am_H} (hP : ex_P h) : h.2.2.1 154 10 = some 160 := hP.2 154 10 160 (by decide +kernel)
theorem ex_r154_15 {h : am_H} (hP : ex_P h) : h.2.2.1 154 15 = some 164 := hP.2 154 15 164 (by decide +kernel)
theorem ex_r154_17 {h : am_H} (hP : ex_P h) : h.2.2.1 154 17 = some 166 := hP.2 154 17 166 (by decide +kernel)
theorem r_200l (hn : ¬ (τ s.1).1 = 0) (l : rr h0 z τ N s h) (hQ : Q (some (.int (sp_na s.2 (τ s.1).2.1))) h) : ∀ (m k : Nat), k + m = (s.2.1.1 + s.2.2.1.1) → (∀ j, j < k → ¬ h.2.1 164 j = (τ s.1).2.1) → pz_S 3 (some .int) am_r200 0 Q 2 [(2, .int (nI k)), (0, .ref 154), (1, .int (Int32.ofInt 1))] [] h := by
  have hP := r_P l
  have eN : h.1 154 19 = nI (s.2.1.1 + s.2.2.1.1) := l.2.1.2.2.2.2.2.2.1
  have hM : (s.2.1.1 + s.2.2.1.1) ≤ 11 := by
    have h1 : s.2.1.1 ≤ 6 := l.2.1.1.2.1
    have h2 : s.2.2.1.1 ≤ 5 := l.2.1.2.1.2.1
    omega
  have gl := r_N l
  intro m
  induction m with
  | zero =>
    intro k hk hj
    have ek : k = (s.2.1.1 + s.2.2.1.1) := by omega
    refine am_goX 3 (show ((Int32.ofInt 1) = 0 → pz_S 3 (some .int) am_r200 0 Q 14 [(2, .int (nI k)), (0, .ref 154), (1, .int (Int32.ofInt 1))] [.int (nI k)] h) ∧ (¬ ((Int32.ofInt 1) = 0) → pz_S 3 (some .int) am_r200 0 Q 7 [(2, .int (nI k)), (0, .ref 154), (1, .int (Int32.ofInt 1))] [.int (nI k)] h) from ⟨fun hz => absurd hz (by decide), fun _ => ?_⟩)
    refine am_goX 3 (show am_sh h 154 = some (11, 0) ∧ pz_S 3 (some .int) am_r200 0 Q 18 [(2, .int (nI k)), (0, .ref 154), (1, .int (Int32.ofInt 1))] [.int (h.1 154 19), .int (nI k)] h from ⟨ex_154 (r_P l), ?_⟩)
    rw [eN]
    refine am_goX 1 (show ((nI (s.2.1.1 + s.2.2.1.1)) ≤ (nI k) → pz_S 3 (some .int) am_r200 0 Q 79 [(2, .int (nI k)), (0, .ref 154), (1, .int (Int32.ofInt 1))] [] h) ∧ (¬ ((nI (s.2.1.1 + s.2.2.1.1)) ≤ (nI k)) → pz_S 3 (some .int) am_r200 0 Q 21 [(2, .int (nI k)), (0, .ref 154), (1, .int (Int32.ofInt 1))] [] h) from ⟨fun _ => ?_, fun hz => absurd (nI_le (by omega) (by omega)) hz⟩)
    rw [rN_none l.2.1.2.2.2.2.2.2 (fun j hj1 => hj j (by omega))] at hQ
    exact am_goX 2 (show (∃ ty, (some .int) = some ty ∧ narrow ty (.int ((Int32.ofInt (-1)))) = .int ((Int32.ofInt (-1)))) ∧ h.2.2.2.2 = 175 ∧ _ from ⟨⟨.int, rfl, rfl⟩, ex_175 (r_P l), hQ⟩)
  | succ m ih =>
    intro k hk hj
    refine am_goX 3 (show ((Int32.ofInt 1) = 0 → pz_S 3 (some .int) am_r200 0 Q 14 [(2, .int (nI k)), (0, .ref 154), (1, .int (Int32.ofInt 1))] [.int (nI k)] h) ∧ (¬ ((Int32.ofInt 1) = 0) → pz_S 3 (some .int) am_r200 0 Q 7 [(2, .int (nI k)), (0, .ref 154), (1, .int (Int32.ofInt 1))] [.int (nI k)] h) from ⟨fun hz => absurd hz (by decide), fun _ => ?_⟩)
    refine am_goX 3 (show am_sh h 154 = some (11, 0) ∧ pz_S 3 (some .int) am_r200 0 Q 18 [(2, .int (nI k)), (0, .ref 154), (1, .int (Int32.ofInt 1))] [.int (h.1 154 19), .int (nI k)] h from ⟨ex_154 (r_P l), ?_⟩)
    rw [eN]
    refine am_goX 1 (show ((nI (s.2.1.1 + s.2.2.1.1)) ≤ (nI k) → pz_S 3 (some .int) am_r200 0 Q 79 [(2, .int (nI k)), (0, .ref 154), (1, .int (Int32.ofInt 1))] [] h) ∧ (¬ ((nI (s.2.1.1 + s.2.2.1.1)) ≤ (nI k)) → pz_S 3 (some .int) am_r200 0 Q 21 [(2, .int (nI k)), (0, .ref 154), (1, .int (Int32.ofInt 1))] [] h) from ⟨fun hz => absurd hz (by rw [nI_leI (by omega) (by omega)]; omega), fun _ => ?_⟩)
    refine am_goX 2 (show ((Int32.ofInt 1) = 0 → pz_S 3 (some .int) am_r200 0 Q 34 [(2, .int (nI k)), (0, .ref 154), (1, .int (Int32.ofInt 1))] [] h) ∧ (¬ ((Int32.ofInt 1) = 0) → pz_S 3 (some .int) am_r200 0 Q 25 [(2, .int (nI k)), (0, .ref 154), (1, .int (Int32.ofInt 1))] [] h) from ⟨fun hz => absurd hz (by decide), fun _ => ?_⟩)
    refine am_goX 2 (show am_sh h 154 = some (11, 0) ∧ pz_S 3 (some .int) am_r200 0 Q 29 [(2, .int (nI k)), (0, .ref 154), (1, .int (Int32.ofInt 1))] [am_rf (h.2.2.1 154 15)] h from ⟨ex_154 (r_P l), ?_⟩)
    rw [ex_r154_15 (h := h) (r_P l)]
    refine am_goX 2 (show ∃ jj nn : Nat, am_sh h 164 = some (14, nn) ∧ jj < nn ∧ (nI k) = nI jj ∧ pz_S 3 (some .int) am_r200 0 Q 31 [(2, .int (nI k)), (0, .ref 154), (1, .int (Int32.ofInt 1))] [.long (h.2.1 164 jj)] h from ⟨k, 11, ex_164 (r_P l), (by omega), rfl, ?_⟩)
    refine am_goX 3 (show am_sh h 154 = some (11, 0) ∧ pz_S 3 (some .int) am_r200 0 Q 44 [(2, .int (nI k)), (0, .ref 154), (1, .int (Int32.ofInt 1))] [am_rf (h.2.2.1 154 6), .long (h.2.1 164 k)] h from ⟨ex_154 (r_P l), ?_⟩)
    rw [ex_r154_6 (h := h) (r_P l)]
    refine am_goX 3 (show am_sh h 154 = some (11, 0) ∧ ∃ jj nn : Nat, am_sh h 158 = some (14, nn) ∧ jj < nn ∧ (h.1 154 7) = nI jj ∧ pz_S 3 (some .int) am_r200 0 Q 49 [(2, .int (nI k)), (0, .ref 154), (1, .int (Int32.ofInt 1))] [.long (h.2.1 158 jj), .long (h.2.1 164 k)] h from ⟨ex_154 (r_P l), s.1, 1002, ex_158 (r_P l), (by omega), r_a l, ?_⟩)
    rw [r_v l hn]
    refine am_goX 2 (show (¬ (lg_cmp ((h.2.1 164 k)) ((τ s.1).2.1)) = 0 → pz_S 3 (some .int) am_r200 0 Q 73 [(2, .int (nI k)), (0, .ref 154), (1, .int (Int32.ofInt 1))] [] h) ∧ (¬ ¬ (lg_cmp ((h.2.1 164 k)) ((τ s.1).2.1)) = 0 → pz_S 3 (some .int) am_r200 0 Q 53 [(2, .int (nI k)), (0, .ref 154), (1, .int (Int32.ofInt 1))] [] h) from ⟨fun hc => ?_, fun hc => ?_⟩)
    ·
      refine am_goX 2 (show 2 < 3 ∧ pz_S 3 (some .int) am_r200 0 Q 2 [(2, .int ((nI k) + Int32.ofInt 1)), (0, .ref 154), (1, .int (Int32.ofInt 1))] [] h from ⟨by decide, ?_⟩)
      rw [xw_i1]
      refine ih (k + 1) (by omega) (fun j hj1 => ?_)
      by_cases ej : j = k
      · rw [ej]; exact fun e => hc ((pz_cmp _ _).mpr e)
      · exact hj j (by omega)
    ·
      have e := (pz_cmp _ _).mp (Decidable.not_not.mp hc)
      refine am_goX 2 (show ((Int32.ofInt 1) = 0 → pz_S 3 (some .int) am_r200 0 Q 66 [(2, .int (nI k)), (0, .ref 154), (1, .int (Int32.ofInt 1))] [] h) ∧ (¬ ((Int32.ofInt 1) = 0) → pz_S 3 (some .int) am_r200 0 Q 57 [(2, .int (nI k)), (0, .ref 154), (1, .int (Int32.ofInt 1))] [] h) from ⟨fun hz => absurd hz (by decide), fun _ => ?_⟩)
      refine am_goX 2 (show am_sh h 154 = some (11, 0) ∧ pz_S 3 (some .int) am_r200 0 Q 61 [(2, .int (nI k)), (0, .ref 154), (1, .int (Int32.ofInt 1))] [am_rf (h.2.2.1 154 17)] h from ⟨ex_154 (r_P l), ?_⟩)
      rw [ex_r154_17 (h := h) (r_P l)]
      refine am_goX 2 (show ∃ jj nn : Nat, am_sh h 166 = some (13, nn) ∧ jj < nn ∧ (nI k) = nI jj ∧ pz_S 3 (some .int) am_r200 0 Q 63 [(2, .int (nI k)), (0, .ref 154), (1, .int (Int32.ofInt 1))] [.int (h.1 166 jj)] h from ⟨k, 11, ex_166 (r_P l), (by omega), rfl, ?_⟩)
      rw [rN_hit l.2.1.2.2.2.2.2.2 (show k < (s.2.1.1 + s.2.2.1.1) by omega) e]
      exact am_goX 2 (show (∃ ty, (some .int) = some ty ∧ narrow ty (.int ((sp_na s.2 (τ s.1).2.1))) = .int ((sp_na s.2 (τ s.1).2.1))) ∧ h.2.2.2.2 = 175 ∧ _ from ⟨⟨.int, rfl, rfl⟩, ex_175 (r_P l), hQ⟩)
theorem r_200 (hn : ¬ (τ s.1).1 = 0) (l : rr h0 z τ N s h) (hQ : Q (some (.int (sp_na s.2 (τ s.1).2.1))) h) : am_call am_cod 1 200 [.ref 154, .int (Int32.ofInt 1)] h Q := by
  have hP := r_P l
  refine pz_call (n := 200) (nL := 3) (rt := (some .int)) (rows := am_r200) (d := 0) (by decide +kernel) (by decide +kernel) rfl (by funext pc; rfl) (ex_175 hP) (by exact Nat.le_of_ble_eq_true rfl) ?_
  refine am_goX 2 (show 2 < 3 ∧ pz_S 3 (some .int) am_r200 0 Q 2 [(2, .int (Int32.ofInt 0)), (0, .ref 154), (1, .int (Int32.ofInt 1))] [] h from ⟨by decide, ?_⟩)
  exact r_200l hn l hQ (s.2.1.1 + s.2.2.1.1) 0 (Nat.zero_add _) (fun j hj => absurd hj (Nat.not_lt_zero j))
theorem r_207 {x : Int32} (hP : ex_P h) (hQ : Q (some (.int (pz_b (wi5 x)))) h) : am_call am_cod 1 207 [.int x, .int (Int32.ofInt 0), .int (Int32.ofInt 5)] h Q := by
  unfold wi5 at hQ
  refine pz_call (n := 207) (nL := 3) (rt := (some .boolean)) (rows := am_r207) (d := 0) (by decide +kernel) (by decide +kernel) rfl (by funext pc; rfl) (ex_175 hP) (by exact Nat.le_of_ble_eq_true rfl) ?_
  refine am_goX 3 (show (x < (Int32.ofInt 0) → pz_S 3 (some .boolean) am_r207 0 Q 14 [(0, .int x), (1, .int (Int32.ofInt 0)), (2, .int (Int32.ofInt 5))] [] h) ∧ (¬ (x < (Int32.ofInt 0)) → pz_S 3 (some .boolean) am_r207 0 Q 5 [(0, .int x), (1, .int (Int32.ofInt 0)), (2, .int (Int32.ofInt 5))] [] h) from ⟨fun hc => ?_, fun hc => ?_⟩)
  · rw [decide_eq_false (Int32.not_le.mpr hc), Bool.false_and] at hQ
    exact am_goX 2 (show (∃ ty, (some .boolean) = some ty ∧ narrow ty (.int ((Int32.ofInt 0))) = .int ((Int32.ofInt 0))) ∧ h.2.2.2.2 = 175 ∧ _ from ⟨⟨.boolean, rfl, rfl⟩, ex_175 hP, hQ⟩)
  rw [decide_eq_true (Int32.not_lt.mp hc), Bool.true_and] at hQ
  clear hc
  refine am_goX 3 (show ((Int32.ofInt 5) < x → pz_S 3 (some .boolean) am_r207 0 Q 14 [(0, .int x), (1, .int (Int32.ofInt 0)), (2, .int (Int32.ofInt 5))] [] h) ∧ (¬ ((Int32.ofInt 5) < x) → pz_S 3 (some .boolean) am_r207 0 Q 10 [(0, .int x), (1, .int (Int32.ofInt 0)), (2, .int (Int32.ofInt 5))] [] h) from ⟨fun hc => ?_, fun hc => ?_⟩)
  · rw [decide_eq_false (Int32.not_le.mpr hc)] at hQ
    exact am_goX 2 (show (∃ ty, (some .boolean) = some ty ∧ narrow ty (.int ((Int32.ofInt 0))) = .int ((Int32.ofInt 0))) ∧ h.2.2.2.2 = 175 ∧ _ from ⟨⟨.boolean, rfl, rfl⟩, ex_175 hP, hQ⟩)
  · rw [decide_eq_true (Int32.not_lt.mp hc)] at hQ
    exact am_goX 3 (show (∃ ty, (some .boolean) = some ty ∧ narrow ty (.int ((Int32.ofInt 1))) = .int ((Int32.ofInt 1))) ∧ h.2.2.2.2 = 175 ∧ _ from ⟨⟨.boolean, rfl, rfl⟩, ex_175 hP, hQ⟩)
theorem d_206 {r f b : Int32} (x : rx h0 F c h) (hQ : ∀ h1, rx h0 F c h1 → Q (some (.int (Int32.ofInt 0))) h1) : am_call am_cod 4 206 [.ref 154, .int r, .int f, .int b] h Q := by
  have hP := x.1
  refine pz_call (n := 206) (nL := 5) (rt := (some .int)) (rows := am_r206) (d := 3) (by decide +kernel) (by decide +kernel) rfl (by funext pc; rfl) (ex_175 hP) (by exact Nat.le_of_ble_eq_true rfl) ?_
  refine am_goX 2 (show am_sh h 154 = some (11, 0) ∧ pz_S 5 (some .int) am_r206 3 Q 4 [(0, .ref 154), (1, .int r), (2, .int f), (3, .int b)] [.int (h.1 154 8)] h from ⟨ex_154 x.1, ?_⟩)
  rw [x.2.1.1]
  refine am_goX 1 (show (¬ (F) = 0 → pz_S 5 (some .int) am_r206 3 Q 19 [(0, .ref 154), (1, .int r), (2, .int f), (3, .int b)] [] h) ∧ (¬ ¬ (F) = 0 → pz_S 5 (some .int) am_r206 3 Q 7 [(0, .ref 154), (1, .int r), (2, .int f), (3, .int b)] [] h) from ⟨fun _ => ?_, fun hz => absurd (rx_ne x) hz⟩)
  refine am_goX 2 (show am_sh h 154 = some (11, 0) ∧ pz_S 5 (some .int) am_r206 3 Q 23 [(0, .ref 154), (1, .int r), (2, .int f), (3, .int b)] [.int (h.1 154 8)] h from ⟨ex_154 x.1, ?_⟩)
  rw [x.2.1.1]
  refine am_goX 1 (show ((F) ≤ 0 → pz_S 5 (some .int) am_r206 3 Q 30 [(0, .ref 154), (1, .int r), (2, .int f), (3, .int b)] [] h) ∧ (¬ ((F) ≤ 0) → pz_S 5 (some .int) am_r206 3 Q 26 [(0, .ref 154), (1, .int r), (2, .int f), (3, .int b)] [] h) from ⟨fun hz => absurd hz (rx_le x), fun _ => ?_⟩)
  refine am_goX 5 (show 4 < 5 ∧ am_sh h 154 = some (11, 0) ∧ pz_S 5 (some .int) am_r206 3 Q 43 [(4, .int (Int32.ofInt (-1))), (0, .ref 154), (1, .int r), (2, .int f), (3, .int b)] [.int (h.1 154 8)] h from ⟨by decide, ex_154 x.1, ?_⟩)
  rw [x.2.1.1]
  refine am_goX 1 (show (¬ (F) = 0 → pz_S 5 (some .int) am_r206 3 Q 64 [(4, .int (Int32.ofInt (-1))), (0, .ref 154), (1, .int r), (2, .int f), (3, .int b)] [] h) ∧ (¬ ¬ (F) = 0 → pz_S 5 (some .int) am_r206 3 Q 46 [(4, .int (Int32.ofInt (-1))), (0, .ref 154), (1, .int r), (2, .int f), (3, .int b)] [] h) from ⟨fun _ => ?_, fun hz => absurd (rx_ne x) hz⟩)
  refine am_goX 2 (show am_sh h 154 = some (11, 0) ∧ pz_S 5 (some .int) am_r206 3 Q 68 [(4, .int (Int32.ofInt (-1))), (0, .ref 154), (1, .int r), (2, .int f), (3, .int b)] [.int (h.1 154 8)] h from ⟨ex_154 x.1, ?_⟩)
  rw [x.2.1.1]
  refine am_goX 1 (show (¬ (F) = 0 → pz_S 5 (some .int) am_r206 3 Q 86 [(4, .int (Int32.ofInt (-1))), (0, .ref 154), (1, .int r), (2, .int f), (3, .int b)] [] h) ∧ (¬ ¬ (F) = 0 → pz_S 5 (some .int) am_r206 3 Q 71 [(4, .int (Int32.ofInt (-1))), (0, .ref 154), (1, .int r), (2, .int f), (3, .int b)] [] h) from ⟨fun _ => ?_, fun hz => absurd (rx_ne x) hz⟩)
  refine am_goX 5 (show (Value.ref 154).category = 1 ∧ am_sh h 154 = some (11, 0) ∧ am_sh h 154 = some (11, 0) ∧ pz_S 5 (some .int) am_r206 3 Q 95 [(4, .int (Int32.ofInt (-1))), (0, .ref 154), (1, .int r), (2, .int f), (3, .int b)] [.int (h.1 154 8), .int (h.1 154 7), .ref 154] h from ⟨rfl, ex_154 x.1, ex_154 x.1, ?_⟩)
  rw [x.2.1.1]
  refine am_goX 1 (show ((F) ≤ 0 → pz_S 5 (some .int) am_r206 3 Q 102 [(4, .int (Int32.ofInt (-1))), (0, .ref 154), (1, .int r), (2, .int f), (3, .int b)] [.int (h.1 154 7), .ref 154] h) ∧ (¬ ((F) ≤ 0) → pz_S 5 (some .int) am_r206 3 Q 98 [(4, .int (Int32.ofInt (-1))), (0, .ref 154), (1, .int r), (2, .int f), (3, .int b)] [.int (h.1 154 7), .ref 154] h) from ⟨fun hz => absurd hz (rx_le x), fun _ => ?_⟩)
  refine am_goX 4 (show am_sh h 154 = some (11, 0) ∧ narrow (am_fty 11 7) (.int (((h.1 154 7) + (Int32.ofInt 0)))) = .int (((h.1 154 7) + (Int32.ofInt 0))) ∧ fits (am_fty 11 7) (.int (((h.1 154 7) + (Int32.ofInt 0)))) = true ∧ pz_S 5 (some .int) am_r206 3 Q 107 [(4, .int (Int32.ofInt (-1))), (0, .ref 154), (1, .int r), (2, .int f), (3, .int b)] [] (am_wI h 154 7 (((h.1 154 7) + (Int32.ofInt 0)))) from ⟨ex_154 x.1, rfl, rfl, ?_⟩)
  have x1 : rx h0 (F) (c) (am_wI h 154 7 (((h.1 154 7) + (Int32.ofInt 0)))) := rx_at x
  refine am_goX 2 (show am_sh (am_wI h 154 7 (((h.1 154 7) + (Int32.ofInt 0)))) 154 = some (11, 0) ∧ pz_S 5 (some .int) am_r206 3 Q 111 [(4, .int (Int32.ofInt (-1))), (0, .ref 154), (1, .int r), (2, .int f), (3, .int b)] [.int ((am_wI h 154 7 (((h.1 154 7) + (Int32.ofInt 0)))).1 154 8)] (am_wI h 154 7 (((h.1 154 7) + (Int32.ofInt 0)))) from ⟨ex_154 x1.1, ?_⟩)
  rw [x1.2.1.1]
  refine am_goX 1 (show ((F) ≤ 0 → pz_S 5 (some .int) am_r206 3 Q 118 [(4, .int (Int32.ofInt (-1))), (0, .ref 154), (1, .int r), (2, .int f), (3, .int b)] [] (am_wI h 154 7 (((h.1 154 7) + (Int32.ofInt 0))))) ∧ (¬ ((F) ≤ 0) → pz_S 5 (some .int) am_r206 3 Q 114 [(4, .int (Int32.ofInt (-1))), (0, .ref 154), (1, .int r), (2, .int f), (3, .int b)] [] (am_wI h 154 7 (((h.1 154 7) + (Int32.ofInt 0))))) from ⟨fun hz => absurd hz (rx_le x1), fun _ => ?_⟩)
  exact am_goX 3 (show (∃ ty, (some .int) = some ty ∧ narrow ty (.int ((Int32.ofInt 0))) = .int ((Int32.ofInt 0))) ∧ (am_wI h 154 7 (((h.1 154 7) + (Int32.ofInt 0)))).2.2.2.2 = 175 ∧ _ from ⟨⟨.int, rfl, rfl⟩, ex_175 x1.1, hQ _ x1⟩)
def tq_p (τ : sp_T) (s : sp_S) : sp_R := bif sp_n τ s.1 then (match sp_pf s.2 (τ s.1).2.1 with
  | none => sp_f τ s.1 (Int32.ofInt 2)
  | some _ => .inr s) else sp_f τ s.1 (Int32.ofInt 1)
def tq_e (τ : sp_T) (s : sp_S) (b : Int32) : sp_R := bif sp_n τ s.1 then (match sp_ef s.2 (τ s.1).2.1 with
  | none => sp_f τ s.1 (Int32.ofInt 2)
  | some e => bif sp_bit b (nI e) then sp_f τ s.1 (Int32.ofInt 3) else .inr s) else sp_f τ s.1 (Int32.ofInt 1)
theorem r_206p (l : rr h0 z τ N s h) (hF : ∀ F h1, tq_p τ s = .inl F → rx h0 F (s.2.2.2.2.2.1 + z) h1 → Q (some (.int (Int32.ofInt 0))) h1) (hS : ∀ p h1, sp_n τ s.1 = true → sp_pf s.2 (τ s.1).2.1 = some p → rr h0 z τ N (s.1 + 1, s.2) h1 → Q (some (.int (nI p))) h1) : am_call am_cod 4 206 [.ref 154, .int (Int32.ofInt 1), .int (Int32.ofInt 0), .int (Int32.ofInt 0)] h Q := by
  have hP := r_P l
  have hp6 : s.2.1.1 ≤ 6 := l.2.1.1.2.1
  have he5 : s.2.2.1.1 ≤ 5 := l.2.1.2.1.2.1
  refine pz_call (n := 206) (nL := 5) (rt := (some .int)) (rows := am_r206) (d := 3) (by decide +kernel) (by decide +kernel) rfl (by funext pc; rfl) (ex_175 hP) (by exact Nat.le_of_ble_eq_true rfl) ?_
  refine am_goX 2 (show am_sh h 154 = some (11, 0) ∧ pz_S 5 (some .int) am_r206 3 Q 4 [(0, .ref 154), (1, .int (Int32.ofInt 1)), (2, .int (Int32.ofInt 0)), (3, .int (Int32.ofInt 0))] [.int (h.1 154 8)] h from ⟨ex_154 (r_P l), ?_⟩)
  rw [r_f l]
  refine am_goX 1 (show (¬ 0 = 0 → pz_S 5 (some .int) am_r206 3 Q 19 [(0, .ref 154), (1, .int (Int32.ofInt 1)), (2, .int (Int32.ofInt 0)), (3, .int (Int32.ofInt 0))] [] h) ∧ (¬ ¬ 0 = 0 → pz_S 5 (some .int) am_r206 3 Q 7 [(0, .ref 154), (1, .int (Int32.ofInt 1)), (2, .int (Int32.ofInt 0)), (3, .int (Int32.ofInt 0))] [] h) from ⟨fun hz => absurd hz (by decide), fun _ => ?_⟩)
  refine am_goX 2 (show am_rc h 154 11 ∧ 0 ≤ 8 ∧ h.2.2.2.2 + am_al 198 ≤ 175 ∧ am_call am_cod 3 198 [.ref 154] h (fun vv h' => pz_S 5 (some .int) am_r206 3 Q 11 [(0, .ref 154), (1, .int (Int32.ofInt 1)), (2, .int (Int32.ofInt 0)), (3, .int (Int32.ofInt 0))] (vv.toList ++ []) h') from ⟨Or.inl ⟨by decide, ex_154 (r_P l)⟩, by decide, ex_lim (r_P l) rfl, am_call.up (r_198 l ?_) (by omega)⟩)
  cases e2 : sp_n τ s.1 with
  | true =>
    refine am_goX 1 (show (¬ (pz_b (true)) = 0 → pz_S 5 (some .int) am_r206 3 Q 19 [(0, .ref 154), (1, .int (Int32.ofInt 1)), (2, .int (Int32.ofInt 0)), (3, .int (Int32.ofInt 0))] [] h) ∧ (¬ ¬ (pz_b (true)) = 0 → pz_S 5 (some .int) am_r206 3 Q 14 [(0, .ref 154), (1, .int (Int32.ofInt 1)), (2, .int (Int32.ofInt 0)), (3, .int (Int32.ofInt 0))] [] h) from ⟨fun _ => ?_, fun hz => absurd (by decide) hz⟩)
    refine am_goX 2 (show am_sh h 154 = some (11, 0) ∧ pz_S 5 (some .int) am_r206 3 Q 23 [(0, .ref 154), (1, .int (Int32.ofInt 1)), (2, .int (Int32.ofInt 0)), (3, .int (Int32.ofInt 0))] [.int (h.1 154 8)] h from ⟨ex_154 (r_P l), ?_⟩)
    rw [r_f l]
    refine am_goX 1 (show (0 ≤ 0 → pz_S 5 (some .int) am_r206 3 Q 30 [(0, .ref 154), (1, .int (Int32.ofInt 1)), (2, .int (Int32.ofInt 0)), (3, .int (Int32.ofInt 0))] [] h) ∧ (¬ (0 ≤ 0) → pz_S 5 (some .int) am_r206 3 Q 26 [(0, .ref 154), (1, .int (Int32.ofInt 1)), (2, .int (Int32.ofInt 0)), (3, .int (Int32.ofInt 0))] [] h) from ⟨fun _ => ?_, fun hz => absurd (by decide) hz⟩)
    refine am_goX 3 (show am_rc h 154 11 ∧ 0 ≤ 8 ∧ h.2.2.2.2 + am_al 200 ≤ 175 ∧ am_call am_cod 3 200 [.ref 154, .int (Int32.ofInt 1)] h (fun vv h' => pz_S 5 (some .int) am_r206 3 Q 35 [(0, .ref 154), (1, .int (Int32.ofInt 1)), (2, .int (Int32.ofInt 0)), (3, .int (Int32.ofInt 0))] (vv.toList ++ []) h') from ⟨Or.inl ⟨by decide, ex_154 (r_P l)⟩, by decide, ex_lim (r_P l) rfl, am_call.up (r_200 (sp_nn e2) l ?_) (by omega)⟩)
    cases e1 : sp_pf s.2 (τ s.1).2.1 with
    | none =>
      have hw := na_p0 (v := (τ s.1).2.1) he5 e1
      refine am_goX 5 (show 4 < 5 ∧ am_sh h 154 = some (11, 0) ∧ pz_S 5 (some .int) am_r206 3 Q 43 [(4, .int ((sp_na s.2 (τ s.1).2.1) - (Int32.ofInt 0))), (0, .ref 154), (1, .int (Int32.ofInt 1)), (2, .int (Int32.ofInt 0)), (3, .int (Int32.ofInt 0))] [.int (h.1 154 8)] h from ⟨by decide, ex_154 (r_P l), ?_⟩)
      rw [r_f l]
      refine am_goX 1 (show (¬ 0 = 0 → pz_S 5 (some .int) am_r206 3 Q 64 [(4, .int ((sp_na s.2 (τ s.1).2.1) - (Int32.ofInt 0))), (0, .ref 154), (1, .int (Int32.ofInt 1)), (2, .int (Int32.ofInt 0)), (3, .int (Int32.ofInt 0))] [] h) ∧ (¬ ¬ 0 = 0 → pz_S 5 (some .int) am_r206 3 Q 46 [(4, .int ((sp_na s.2 (τ s.1).2.1) - (Int32.ofInt 0))), (0, .ref 154), (1, .int (Int32.ofInt 1)), (2, .int (Int32.ofInt 0)), (3, .int (Int32.ofInt 0))] [] h) from ⟨fun hz => absurd hz (by decide), fun _ => ?_⟩)
      refine am_goX 3 (show pz_S 5 (some .int) am_r206 3 Q 50 [(4, .int ((sp_na s.2 (τ s.1).2.1) - (Int32.ofInt 0))), (0, .ref 154), (1, .int (Int32.ofInt 1)), (2, .int (Int32.ofInt 0)), (3, .int (Int32.ofInt 0))] [.int (Int32.ofInt 5), .int (Int32.ofInt 0), .int ((sp_na s.2 (τ s.1).2.1) - (Int32.ofInt 0))] h from ?_)
      refine am_goX 1 (show 0 ≤ 8 ∧ h.2.2.2.2 + am_al 207 ≤ 175 ∧ am_call am_cod 3 207 [.int ((sp_na s.2 (τ s.1).2.1) - (Int32.ofInt 0)), .int (Int32.ofInt 0), .int (Int32.ofInt 5)] h (fun vv h' => pz_S 5 (some .int) am_r206 3 Q 53 [(4, .int ((sp_na s.2 (τ s.1).2.1) - (Int32.ofInt 0))), (0, .ref 154), (1, .int (Int32.ofInt 1)), (2, .int (Int32.ofInt 0)), (3, .int (Int32.ofInt 0))] (vv.toList ++ []) h') from ⟨by decide, ex_lim (r_P l) rfl, am_call.up (r_207 (r_P l) ?_) (by omega)⟩)
      rw [hw]
      refine am_goX 1 (show (¬ (pz_b (false)) = 0 → pz_S 5 (some .int) am_r206 3 Q 64 [(4, .int ((sp_na s.2 (τ s.1).2.1) - (Int32.ofInt 0))), (0, .ref 154), (1, .int (Int32.ofInt 1)), (2, .int (Int32.ofInt 0)), (3, .int (Int32.ofInt 0))] [] h) ∧ (¬ ¬ (pz_b (false)) = 0 → pz_S 5 (some .int) am_r206 3 Q 56 [(4, .int ((sp_na s.2 (τ s.1).2.1) - (Int32.ofInt 0))), (0, .ref 154), (1, .int (Int32.ofInt 1)), (2, .int (Int32.ofInt 0)), (3, .int (Int32.ofInt 0))] [] h) from ⟨fun hz => absurd hz (by decide), fun _ => ?_⟩)
      refine am_goX 3 (show am_rc h 154 11 ∧ 0 ≤ 8 ∧ h.2.2.2.2 + am_al 197 ≤ 175 ∧ am_call am_cod 3 197 [.ref 154, .int (Int32.ofInt 2)] h (fun vv h' => pz_S 5 (some .int) am_r206 3 Q 61 [(4, .int ((sp_na s.2 (τ s.1).2.1) - (Int32.ofInt 0))), (0, .ref 154), (1, .int (Int32.ofInt 1)), (2, .int (Int32.ofInt 0)), (3, .int (Int32.ofInt 0))] (vv.toList ++ []) h') from ⟨Or.inl ⟨by decide, ex_154 (r_P l)⟩, by decide, ex_lim (r_P l) rfl, am_call.up (r_197 l ?_) (by omega)⟩)
      have x3 : rx h0 (sp_ft τ s.1 (Int32.ofInt 2)) (s.2.2.2.2.2.1 + z) (am_wI h 154 8 (sp_ft τ s.1 (Int32.ofInt 2))) := rr_x (s := s) l (by decide)
      refine am_goX 6 (show (Value.ref 154).category = 1 ∧ am_sh (am_wI h 154 8 (sp_ft τ s.1 (Int32.ofInt 2))) 154 = some (11, 0) ∧ am_sh (am_wI h 154 8 (sp_ft τ s.1 (Int32.ofInt 2))) 154 = some (11, 0) ∧ pz_S 5 (some .int) am_r206 3 Q 95 [(4, .int ((sp_na s.2 (τ s.1).2.1) - (Int32.ofInt 0))), (0, .ref 154), (1, .int (Int32.ofInt 1)), (2, .int (Int32.ofInt 0)), (3, .int (Int32.ofInt 0))] [.int ((am_wI h 154 8 (sp_ft τ s.1 (Int32.ofInt 2))).1 154 8), .int ((am_wI h 154 8 (sp_ft τ s.1 (Int32.ofInt 2))).1 154 7), .ref 154] (am_wI h 154 8 (sp_ft τ s.1 (Int32.ofInt 2))) from ⟨rfl, ex_154 x3.1, ex_154 x3.1, ?_⟩)
      rw [x3.2.1.1]
      refine am_goX 1 (show ((sp_ft τ s.1 (Int32.ofInt 2)) ≤ 0 → pz_S 5 (some .int) am_r206 3 Q 102 [(4, .int ((sp_na s.2 (τ s.1).2.1) - (Int32.ofInt 0))), (0, .ref 154), (1, .int (Int32.ofInt 1)), (2, .int (Int32.ofInt 0)), (3, .int (Int32.ofInt 0))] [.int ((am_wI h 154 8 (sp_ft τ s.1 (Int32.ofInt 2))).1 154 7), .ref 154] (am_wI h 154 8 (sp_ft τ s.1 (Int32.ofInt 2)))) ∧ (¬ ((sp_ft τ s.1 (Int32.ofInt 2)) ≤ 0) → pz_S 5 (some .int) am_r206 3 Q 98 [(4, .int ((sp_na s.2 (τ s.1).2.1) - (Int32.ofInt 0))), (0, .ref 154), (1, .int (Int32.ofInt 1)), (2, .int (Int32.ofInt 0)), (3, .int (Int32.ofInt 0))] [.int ((am_wI h 154 8 (sp_ft τ s.1 (Int32.ofInt 2))).1 154 7), .ref 154] (am_wI h 154 8 (sp_ft τ s.1 (Int32.ofInt 2)))) from ⟨fun hz => absurd hz (rx_le x3), fun _ => ?_⟩)
      refine am_goX 4 (show am_sh (am_wI h 154 8 (sp_ft τ s.1 (Int32.ofInt 2))) 154 = some (11, 0) ∧ narrow (am_fty 11 7) (.int ((((am_wI h 154 8 (sp_ft τ s.1 (Int32.ofInt 2))).1 154 7) + (Int32.ofInt 0)))) = .int ((((am_wI h 154 8 (sp_ft τ s.1 (Int32.ofInt 2))).1 154 7) + (Int32.ofInt 0))) ∧ fits (am_fty 11 7) (.int ((((am_wI h 154 8 (sp_ft τ s.1 (Int32.ofInt 2))).1 154 7) + (Int32.ofInt 0)))) = true ∧ pz_S 5 (some .int) am_r206 3 Q 107 [(4, .int ((sp_na s.2 (τ s.1).2.1) - (Int32.ofInt 0))), (0, .ref 154), (1, .int (Int32.ofInt 1)), (2, .int (Int32.ofInt 0)), (3, .int (Int32.ofInt 0))] [] (am_wI (am_wI h 154 8 (sp_ft τ s.1 (Int32.ofInt 2))) 154 7 ((((am_wI h 154 8 (sp_ft τ s.1 (Int32.ofInt 2))).1 154 7) + (Int32.ofInt 0)))) from ⟨ex_154 x3.1, rfl, rfl, ?_⟩)
      have x4 : rx h0 (sp_ft τ s.1 (Int32.ofInt 2)) (s.2.2.2.2.2.1 + z) (am_wI (am_wI h 154 8 (sp_ft τ s.1 (Int32.ofInt 2))) 154 7 ((((am_wI h 154 8 (sp_ft τ s.1 (Int32.ofInt 2))).1 154 7) + (Int32.ofInt 0)))) := rx_at x3
      refine am_goX 2 (show am_sh (am_wI (am_wI h 154 8 (sp_ft τ s.1 (Int32.ofInt 2))) 154 7 ((((am_wI h 154 8 (sp_ft τ s.1 (Int32.ofInt 2))).1 154 7) + (Int32.ofInt 0)))) 154 = some (11, 0) ∧ pz_S 5 (some .int) am_r206 3 Q 111 [(4, .int ((sp_na s.2 (τ s.1).2.1) - (Int32.ofInt 0))), (0, .ref 154), (1, .int (Int32.ofInt 1)), (2, .int (Int32.ofInt 0)), (3, .int (Int32.ofInt 0))] [.int ((am_wI (am_wI h 154 8 (sp_ft τ s.1 (Int32.ofInt 2))) 154 7 ((((am_wI h 154 8 (sp_ft τ s.1 (Int32.ofInt 2))).1 154 7) + (Int32.ofInt 0)))).1 154 8)] (am_wI (am_wI h 154 8 (sp_ft τ s.1 (Int32.ofInt 2))) 154 7 ((((am_wI h 154 8 (sp_ft τ s.1 (Int32.ofInt 2))).1 154 7) + (Int32.ofInt 0)))) from ⟨ex_154 x4.1, ?_⟩)
      rw [x4.2.1.1]
      refine am_goX 1 (show ((sp_ft τ s.1 (Int32.ofInt 2)) ≤ 0 → pz_S 5 (some .int) am_r206 3 Q 118 [(4, .int ((sp_na s.2 (τ s.1).2.1) - (Int32.ofInt 0))), (0, .ref 154), (1, .int (Int32.ofInt 1)), (2, .int (Int32.ofInt 0)), (3, .int (Int32.ofInt 0))] [] (am_wI (am_wI h 154 8 (sp_ft τ s.1 (Int32.ofInt 2))) 154 7 ((((am_wI h 154 8 (sp_ft τ s.1 (Int32.ofInt 2))).1 154 7) + (Int32.ofInt 0))))) ∧ (¬ ((sp_ft τ s.1 (Int32.ofInt 2)) ≤ 0) → pz_S 5 (some .int) am_r206 3 Q 114 [(4, .int ((sp_na s.2 (τ s.1).2.1) - (Int32.ofInt 0))), (0, .ref 154), (1, .int (Int32.ofInt 1)), (2, .int (Int32.ofInt 0)), (3, .int (Int32.ofInt 0))] [] (am_wI (am_wI h 154 8 (sp_ft τ s.1 (Int32.ofInt 2))) 154 7 ((((am_wI h 154 8 (sp_ft τ s.1 (Int32.ofInt 2))).1 154 7) + (Int32.ofInt 0))))) from ⟨fun hz => absurd hz (rx_le x4), fun _ => ?_⟩)
      exact am_goX 3 (show (∃ ty, (some .int) = some ty ∧ narrow ty (.int ((Int32.ofInt 0))) = .int ((Int32.ofInt 0))) ∧ (am_wI (am_wI h 154 8 (sp_ft τ s.1 (Int32.ofInt 2))) 154 7 ((((am_wI h 154 8 (sp_ft τ s.1 (Int32.ofInt 2))).1 154 7) + (Int32.ofInt 0)))).2.2.2.2 = 175 ∧ _ from ⟨⟨.int, rfl, rfl⟩, ex_175 x4.1, hF (sp_ft τ s.1 (Int32.ofInt 2)) _ (by simp only [tq_p, sp_b, sp_f, cond_true, cond_false, e2, e1]) x4⟩)
    | some p =>
      have hp := (sp_fd_lt e1).2.1
      rw [show sp_na s.2 (τ s.1).2.1 = nI p by unfold sp_na; rw [e1]]
      obtain ⟨hs, hw, hb⟩ := na_p1 (show p < 6 by omega)
      refine am_goX 5 (show 4 < 5 ∧ am_sh h 154 = some (11, 0) ∧ pz_S 5 (some .int) am_r206 3 Q 43 [(4, .int ((nI p) - (Int32.ofInt 0))), (0, .ref 154), (1, .int (Int32.ofInt 1)), (2, .int (Int32.ofInt 0)), (3, .int (Int32.ofInt 0))] [.int (h.1 154 8)] h from ⟨by decide, ex_154 (r_P l), ?_⟩)
      rw [r_f l]
      refine am_goX 1 (show (¬ 0 = 0 → pz_S 5 (some .int) am_r206 3 Q 64 [(4, .int ((nI p) - (Int32.ofInt 0))), (0, .ref 154), (1, .int (Int32.ofInt 1)), (2, .int (Int32.ofInt 0)), (3, .int (Int32.ofInt 0))] [] h) ∧ (¬ ¬ 0 = 0 → pz_S 5 (some .int) am_r206 3 Q 46 [(4, .int ((nI p) - (Int32.ofInt 0))), (0, .ref 154), (1, .int (Int32.ofInt 1)), (2, .int (Int32.ofInt 0)), (3, .int (Int32.ofInt 0))] [] h) from ⟨fun hz => absurd hz (by decide), fun _ => ?_⟩)
      refine am_goX 3 (show pz_S 5 (some .int) am_r206 3 Q 50 [(4, .int ((nI p) - (Int32.ofInt 0))), (0, .ref 154), (1, .int (Int32.ofInt 1)), (2, .int (Int32.ofInt 0)), (3, .int (Int32.ofInt 0))] [.int (Int32.ofInt 5), .int (Int32.ofInt 0), .int ((nI p) - (Int32.ofInt 0))] h from ?_)
      rw [hs]
      refine am_goX 1 (show 0 ≤ 8 ∧ h.2.2.2.2 + am_al 207 ≤ 175 ∧ am_call am_cod 3 207 [.int (nI p), .int (Int32.ofInt 0), .int (Int32.ofInt 5)] h (fun vv h' => pz_S 5 (some .int) am_r206 3 Q 53 [(4, .int (nI p)), (0, .ref 154), (1, .int (Int32.ofInt 1)), (2, .int (Int32.ofInt 0)), (3, .int (Int32.ofInt 0))] (vv.toList ++ []) h') from ⟨by decide, ex_lim (r_P l) rfl, am_call.up (r_207 (r_P l) ?_) (by omega)⟩)
      rw [hw]
      refine am_goX 1 (show (¬ (pz_b (true)) = 0 → pz_S 5 (some .int) am_r206 3 Q 64 [(4, .int (nI p)), (0, .ref 154), (1, .int (Int32.ofInt 1)), (2, .int (Int32.ofInt 0)), (3, .int (Int32.ofInt 0))] [] h) ∧ (¬ ¬ (pz_b (true)) = 0 → pz_S 5 (some .int) am_r206 3 Q 56 [(4, .int (nI p)), (0, .ref 154), (1, .int (Int32.ofInt 1)), (2, .int (Int32.ofInt 0)), (3, .int (Int32.ofInt 0))] [] h) from ⟨fun _ => ?_, fun hz => absurd (by decide) hz⟩)
      refine am_goX 2 (show am_sh h 154 = some (11, 0) ∧ pz_S 5 (some .int) am_r206 3 Q 68 [(4, .int (nI p)), (0, .ref 154), (1, .int (Int32.ofInt 1)), (2, .int (Int32.ofInt 0)), (3, .int (Int32.ofInt 0))] [.int (h.1 154 8)] h from ⟨ex_154 (r_P l), ?_⟩)
      rw [r_f l]
      refine am_goX 1 (show (¬ 0 = 0 → pz_S 5 (some .int) am_r206 3 Q 86 [(4, .int (nI p)), (0, .ref 154), (1, .int (Int32.ofInt 1)), (2, .int (Int32.ofInt 0)), (3, .int (Int32.ofInt 0))] [] h) ∧ (¬ ¬ 0 = 0 → pz_S 5 (some .int) am_r206 3 Q 71 [(4, .int (nI p)), (0, .ref 154), (1, .int (Int32.ofInt 1)), (2, .int (Int32.ofInt 0)), (3, .int (Int32.ofInt 0))] [] h) from ⟨fun hz => absurd hz (by decide), fun _ => ?_⟩)
      refine am_goX 7 (show (¬ (((Int32.ofInt 0) >>> ((nI p) &&& 31)) &&& (Int32.ofInt 1)) = (Int32.ofInt 1) → pz_S 5 (some .int) am_r206 3 Q 86 [(4, .int (nI p)), (0, .ref 154), (1, .int (Int32.ofInt 1)), (2, .int (Int32.ofInt 0)), (3, .int (Int32.ofInt 0))] [] h) ∧ (¬ ¬ (((Int32.ofInt 0) >>> ((nI p) &&& 31)) &&& (Int32.ofInt 1)) = (Int32.ofInt 1) → pz_S 5 (some .int) am_r206 3 Q 81 [(4, .int (nI p)), (0, .ref 154), (1, .int (Int32.ofInt 1)), (2, .int (Int32.ofInt 0)), (3, .int (Int32.ofInt 0))] [] h) from ⟨fun _ => ?_, fun hz => absurd (bit_f hb) hz⟩)
      refine am_goX 5 (show (Value.ref 154).category = 1 ∧ am_sh h 154 = some (11, 0) ∧ am_sh h 154 = some (11, 0) ∧ pz_S 5 (some .int) am_r206 3 Q 95 [(4, .int (nI p)), (0, .ref 154), (1, .int (Int32.ofInt 1)), (2, .int (Int32.ofInt 0)), (3, .int (Int32.ofInt 0))] [.int (h.1 154 8), .int (h.1 154 7), .ref 154] h from ⟨rfl, ex_154 (r_P l), ex_154 (r_P l), ?_⟩)
      rw [r_f l]
      refine am_goX 1 (show (0 ≤ 0 → pz_S 5 (some .int) am_r206 3 Q 102 [(4, .int (nI p)), (0, .ref 154), (1, .int (Int32.ofInt 1)), (2, .int (Int32.ofInt 0)), (3, .int (Int32.ofInt 0))] [.int (h.1 154 7), .ref 154] h) ∧ (¬ (0 ≤ 0) → pz_S 5 (some .int) am_r206 3 Q 98 [(4, .int (nI p)), (0, .ref 154), (1, .int (Int32.ofInt 1)), (2, .int (Int32.ofInt 0)), (3, .int (Int32.ofInt 0))] [.int (h.1 154 7), .ref 154] h) from ⟨fun _ => ?_, fun hz => absurd (by decide) hz⟩)
      refine am_goX 3 (show am_sh h 154 = some (11, 0) ∧ narrow (am_fty 11 7) (.int (((h.1 154 7) + (Int32.ofInt 1)))) = .int (((h.1 154 7) + (Int32.ofInt 1))) ∧ fits (am_fty 11 7) (.int (((h.1 154 7) + (Int32.ofInt 1)))) = true ∧ pz_S 5 (some .int) am_r206 3 Q 107 [(4, .int (nI p)), (0, .ref 154), (1, .int (Int32.ofInt 1)), (2, .int (Int32.ofInt 0)), (3, .int (Int32.ofInt 0))] [] (am_wI h 154 7 (((h.1 154 7) + (Int32.ofInt 1)))) from ⟨ex_154 (r_P l), rfl, rfl, ?_⟩)
      rw [r_a l, xw_i1]
      have l5 : rr h0 z τ N (s.1 + 1, s.2) (am_wI h 154 7 (nI (s.1 + 1))) := rr_nx (a := s.1) (C := s.2) l (sp_nn e2)
      refine am_goX 2 (show am_sh (am_wI h 154 7 (nI (s.1 + 1))) 154 = some (11, 0) ∧ pz_S 5 (some .int) am_r206 3 Q 111 [(4, .int (nI p)), (0, .ref 154), (1, .int (Int32.ofInt 1)), (2, .int (Int32.ofInt 0)), (3, .int (Int32.ofInt 0))] [.int ((am_wI h 154 7 (nI (s.1 + 1))).1 154 8)] (am_wI h 154 7 (nI (s.1 + 1))) from ⟨ex_154 (r_P l5), ?_⟩)
      rw [r_f l5]
      refine am_goX 1 (show (0 ≤ 0 → pz_S 5 (some .int) am_r206 3 Q 118 [(4, .int (nI p)), (0, .ref 154), (1, .int (Int32.ofInt 1)), (2, .int (Int32.ofInt 0)), (3, .int (Int32.ofInt 0))] [] (am_wI h 154 7 (nI (s.1 + 1)))) ∧ (¬ (0 ≤ 0) → pz_S 5 (some .int) am_r206 3 Q 114 [(4, .int (nI p)), (0, .ref 154), (1, .int (Int32.ofInt 1)), (2, .int (Int32.ofInt 0)), (3, .int (Int32.ofInt 0))] [] (am_wI h 154 7 (nI (s.1 + 1)))) from ⟨fun _ => ?_, fun hz => absurd (by decide) hz⟩)
      exact am_goX 2 (show (∃ ty, (some .int) = some ty ∧ narrow ty (.int ((nI p))) = .int ((nI p))) ∧ (am_wI h 154 7 (nI (s.1 + 1))).2.2.2.2 = 175 ∧ _ from ⟨⟨.int, rfl, rfl⟩, ex_175 (r_P l5), hS p _ e2 e1 l5⟩)
  | false =>
    refine am_goX 1 (show (¬ (pz_b (false)) = 0 → pz_S 5 (some .int) am_r206 3 Q 19 [(0, .ref 154), (1, .int (Int32.ofInt 1)), (2, .int (Int32.ofInt 0)), (3, .int (Int32.ofInt 0))] [] h) ∧ (¬ ¬ (pz_b (false)) = 0 → pz_S 5 (some .int) am_r206 3 Q 14 [(0, .ref 154), (1, .int (Int32.ofInt 1)), (2, .int (Int32.ofInt 0)), (3, .int (Int32.ofInt 0))] [] h) from ⟨fun hz => absurd hz (by decide), fun _ => ?_⟩)
    refine am_goX 3 (show am_rc h 154 11 ∧ 0 ≤ 8 ∧ h.2.2.2.2 + am_al 197 ≤ 175 ∧ am_call am_cod 3 197 [.ref 154, .int (Int32.ofInt 1)] h (fun vv h' => pz_S 5 (some .int) am_r206 3 Q 19 [(0, .ref 154), (1, .int (Int32.ofInt 1)), (2, .int (Int32.ofInt 0)), (3, .int (Int32.ofInt 0))] (vv.toList ++ []) h') from ⟨Or.inl ⟨by decide, ex_154 (r_P l)⟩, by decide, ex_lim (r_P l) rfl, am_call.up (r_197 l ?_) (by omega)⟩)
    have x6 : rx h0 (sp_ft τ s.1 (Int32.ofInt 1)) (s.2.2.2.2.2.1 + z) (am_wI h 154 8 (sp_ft τ s.1 (Int32.ofInt 1))) := rr_x (s := s) l (by decide)
    refine am_goX 2 (show am_sh (am_wI h 154 8 (sp_ft τ s.1 (Int32.ofInt 1))) 154 = some (11, 0) ∧ pz_S 5 (some .int) am_r206 3 Q 23 [(0, .ref 154), (1, .int (Int32.ofInt 1)), (2, .int (Int32.ofInt 0)), (3, .int (Int32.ofInt 0))] [.int ((am_wI h 154 8 (sp_ft τ s.1 (Int32.ofInt 1))).1 154 8)] (am_wI h 154 8 (sp_ft τ s.1 (Int32.ofInt 1))) from ⟨ex_154 x6.1, ?_⟩)
    rw [x6.2.1.1]
    refine am_goX 1 (show ((sp_ft τ s.1 (Int32.ofInt 1)) ≤ 0 → pz_S 5 (some .int) am_r206 3 Q 30 [(0, .ref 154), (1, .int (Int32.ofInt 1)), (2, .int (Int32.ofInt 0)), (3, .int (Int32.ofInt 0))] [] (am_wI h 154 8 (sp_ft τ s.1 (Int32.ofInt 1)))) ∧ (¬ ((sp_ft τ s.1 (Int32.ofInt 1)) ≤ 0) → pz_S 5 (some .int) am_r206 3 Q 26 [(0, .ref 154), (1, .int (Int32.ofInt 1)), (2, .int (Int32.ofInt 0)), (3, .int (Int32.ofInt 0))] [] (am_wI h 154 8 (sp_ft τ s.1 (Int32.ofInt 1)))) from ⟨fun hz => absurd hz (rx_le x6), fun _ => ?_⟩)
    refine am_goX 5 (show 4 < 5 ∧ am_sh (am_wI h 154 8 (sp_ft τ s.1 (Int32.ofInt 1))) 154 = some (11, 0) ∧ pz_S 5 (some .int) am_r206 3 Q 43 [(4, .int (Int32.ofInt (-1))), (0, .ref 154), (1, .int (Int32.ofInt 1)), (2, .int (Int32.ofInt 0)), (3, .int (Int32.ofInt 0))] [.int ((am_wI h 154 8 (sp_ft τ s.1 (Int32.ofInt 1))).1 154 8)] (am_wI h 154 8 (sp_ft τ s.1 (Int32.ofInt 1))) from ⟨by decide, ex_154 x6.1, ?_⟩)
    rw [x6.2.1.1]
    refine am_goX 1 (show (¬ (sp_ft τ s.1 (Int32.ofInt 1)) = 0 → pz_S 5 (some .int) am_r206 3 Q 64 [(4, .int (Int32.ofInt (-1))), (0, .ref 154), (1, .int (Int32.ofInt 1)), (2, .int (Int32.ofInt 0)), (3, .int (Int32.ofInt 0))] [] (am_wI h 154 8 (sp_ft τ s.1 (Int32.ofInt 1)))) ∧ (¬ ¬ (sp_ft τ s.1 (Int32.ofInt 1)) = 0 → pz_S 5 (some .int) am_r206 3 Q 46 [(4, .int (Int32.ofInt (-1))), (0, .ref 154), (1, .int (Int32.ofInt 1)), (2, .int (Int32.ofInt 0)), (3, .int (Int32.ofInt 0))] [] (am_wI h 154 8 (sp_ft τ s.1 (Int32.ofInt 1)))) from ⟨fun _ => ?_, fun hz => absurd (rx_ne x6) hz⟩)
    refine am_goX 2 (show am_sh (am_wI h 154 8 (sp_ft τ s.1 (Int32.ofInt 1))) 154 = some (11, 0) ∧ pz_S 5 (some .int) am_r206 3 Q 68 [(4, .int (Int32.ofInt (-1))), (0, .ref 154), (1, .int (Int32.ofInt 1)), (2, .int (Int32.ofInt 0)), (3, .int (Int32.ofInt 0))] [.int ((am_wI h 154 8 (sp_ft τ s.1 (Int32.ofInt 1))).1 154 8)] (am_wI h 154 8 (sp_ft τ s.1 (Int32.ofInt 1))) from ⟨ex_154 x6.1, ?_⟩)
    rw [x6.2.1.1]
    refine am_goX 1 (show (¬ (sp_ft τ s.1 (Int32.ofInt 1)) = 0 → pz_S 5 (some .int) am_r206 3 Q 86 [(4, .int (Int32.ofInt (-1))), (0, .ref 154), (1, .int (Int32.ofInt 1)), (2, .int (Int32.ofInt 0)), (3, .int (Int32.ofInt 0))] [] (am_wI h 154 8 (sp_ft τ s.1 (Int32.ofInt 1)))) ∧ (¬ ¬ (sp_ft τ s.1 (Int32.ofInt 1)) = 0 → pz_S 5 (some .int) am_r206 3 Q 71 [(4, .int (Int32.ofInt (-1))), (0, .ref 154), (1, .int (Int32.ofInt 1)), (2, .int (Int32.ofInt 0)), (3, .int (Int32.ofInt 0))] [] (am_wI h 154 8 (sp_ft τ s.1 (Int32.ofInt 1)))) from ⟨fun _ => ?_, fun hz => absurd (rx_ne x6) hz⟩)
    refine am_goX 5 (show (Value.ref 154).category = 1 ∧ am_sh (am_wI h 154 8 (sp_ft τ s.1 (Int32.ofInt 1))) 154 = some (11, 0) ∧ am_sh (am_wI h 154 8 (sp_ft τ s.1 (Int32.ofInt 1))) 154 = some (11, 0) ∧ pz_S 5 (some .int) am_r206 3 Q 95 [(4, .int (Int32.ofInt (-1))), (0, .ref 154), (1, .int (Int32.ofInt 1)), (2, .int (Int32.ofInt 0)), (3, .int (Int32.ofInt 0))] [.int ((am_wI h 154 8 (sp_ft τ s.1 (Int32.ofInt 1))).1 154 8), .int ((am_wI h 154 8 (sp_ft τ s.1 (Int32.ofInt 1))).1 154 7), .ref 154] (am_wI h 154 8 (sp_ft τ s.1 (Int32.ofInt 1))) from ⟨rfl, ex_154 x6.1, ex_154 x6.1, ?_⟩)
    rw [x6.2.1.1]
    refine am_goX 1 (show ((sp_ft τ s.1 (Int32.ofInt 1)) ≤ 0 → pz_S 5 (some .int) am_r206 3 Q 102 [(4, .int (Int32.ofInt (-1))), (0, .ref 154), (1, .int (Int32.ofInt 1)), (2, .int (Int32.ofInt 0)), (3, .int (Int32.ofInt 0))] [.int ((am_wI h 154 8 (sp_ft τ s.1 (Int32.ofInt 1))).1 154 7), .ref 154] (am_wI h 154 8 (sp_ft τ s.1 (Int32.ofInt 1)))) ∧ (¬ ((sp_ft τ s.1 (Int32.ofInt 1)) ≤ 0) → pz_S 5 (some .int) am_r206 3 Q 98 [(4, .int (Int32.ofInt (-1))), (0, .ref 154), (1, .int (Int32.ofInt 1)), (2, .int (Int32.ofInt 0)), (3, .int (Int32.ofInt 0))] [.int ((am_wI h 154 8 (sp_ft τ s.1 (Int32.ofInt 1))).1 154 7), .ref 154] (am_wI h 154 8 (sp_ft τ s.1 (Int32.ofInt 1)))) from ⟨fun hz => absurd hz (rx_le x6), fun _ => ?_⟩)
    refine am_goX 4 (show am_sh (am_wI h 154 8 (sp_ft τ s.1 (Int32.ofInt 1))) 154 = some (11, 0) ∧ narrow (am_fty 11 7) (.int ((((am_wI h 154 8 (sp_ft τ s.1 (Int32.ofInt 1))).1 154 7) + (Int32.ofInt 0)))) = .int ((((am_wI h 154 8 (sp_ft τ s.1 (Int32.ofInt 1))).1 154 7) + (Int32.ofInt 0))) ∧ fits (am_fty 11 7) (.int ((((am_wI h 154 8 (sp_ft τ s.1 (Int32.ofInt 1))).1 154 7) + (Int32.ofInt 0)))) = true ∧ pz_S 5 (some .int) am_r206 3 Q 107 [(4, .int (Int32.ofInt (-1))), (0, .ref 154), (1, .int (Int32.ofInt 1)), (2, .int (Int32.ofInt 0)), (3, .int (Int32.ofInt 0))] [] (am_wI (am_wI h 154 8 (sp_ft τ s.1 (Int32.ofInt 1))) 154 7 ((((am_wI h 154 8 (sp_ft τ s.1 (Int32.ofInt 1))).1 154 7) + (Int32.ofInt 0)))) from ⟨ex_154 x6.1, rfl, rfl, ?_⟩)
    have x7 : rx h0 (sp_ft τ s.1 (Int32.ofInt 1)) (s.2.2.2.2.2.1 + z) (am_wI (am_wI h 154 8 (sp_ft τ s.1 (Int32.ofInt 1))) 154 7 ((((am_wI h 154 8 (sp_ft τ s.1 (Int32.ofInt 1))).1 154 7) + (Int32.ofInt 0)))) := rx_at x6
    refine am_goX 2 (show am_sh (am_wI (am_wI h 154 8 (sp_ft τ s.1 (Int32.ofInt 1))) 154 7 ((((am_wI h 154 8 (sp_ft τ s.1 (Int32.ofInt 1))).1 154 7) + (Int32.ofInt 0)))) 154 = some (11, 0) ∧ pz_S 5 (some .int) am_r206 3 Q 111 [(4, .int (Int32.ofInt (-1))), (0, .ref 154), (1, .int (Int32.ofInt 1)), (2, .int (Int32.ofInt 0)), (3, .int (Int32.ofInt 0))] [.int ((am_wI (am_wI h 154 8 (sp_ft τ s.1 (Int32.ofInt 1))) 154 7 ((((am_wI h 154 8 (sp_ft τ s.1 (Int32.ofInt 1))).1 154 7) + (Int32.ofInt 0)))).1 154 8)] (am_wI (am_wI h 154 8 (sp_ft τ s.1 (Int32.ofInt 1))) 154 7 ((((am_wI h 154 8 (sp_ft τ s.1 (Int32.ofInt 1))).1 154 7) + (Int32.ofInt 0)))) from ⟨ex_154 x7.1, ?_⟩)
    rw [x7.2.1.1]
    refine am_goX 1 (show ((sp_ft τ s.1 (Int32.ofInt 1)) ≤ 0 → pz_S 5 (some .int) am_r206 3 Q 118 [(4, .int (Int32.ofInt (-1))), (0, .ref 154), (1, .int (Int32.ofInt 1)), (2, .int (Int32.ofInt 0)), (3, .int (Int32.ofInt 0))] [] (am_wI (am_wI h 154 8 (sp_ft τ s.1 (Int32.ofInt 1))) 154 7 ((((am_wI h 154 8 (sp_ft τ s.1 (Int32.ofInt 1))).1 154 7) + (Int32.ofInt 0))))) ∧ (¬ ((sp_ft τ s.1 (Int32.ofInt 1)) ≤ 0) → pz_S 5 (some .int) am_r206 3 Q 114 [(4, .int (Int32.ofInt (-1))), (0, .ref 154), (1, .int (Int32.ofInt 1)), (2, .int (Int32.ofInt 0)), (3, .int (Int32.ofInt 0))] [] (am_wI (am_wI h 154 8 (sp_ft τ s.1 (Int32.ofInt 1))) 154 7 ((((am_wI h 154 8 (sp_ft τ s.1 (Int32.ofInt 1))).1 154 7) + (Int32.ofInt 0))))) from ⟨fun hz => absurd hz (rx_le x7), fun _ => ?_⟩)
    exact am_goX 3 (show (∃ ty, (some .int) = some ty ∧ narrow ty (.int ((Int32.ofInt 0))) = .int ((Int32.ofInt 0))) ∧ (am_wI (am_wI h 154 8 (sp_ft τ s.1 (Int32.ofInt 1))) 154 7 ((((am_wI h 154 8 (sp_ft τ s.1 (Int32.ofInt 1))).1 154 7) + (Int32.ofInt 0)))).2.2.2.2 = 175 ∧ _ from ⟨⟨.int, rfl, rfl⟩, ex_175 x7.1, hF (sp_ft τ s.1 (Int32.ofInt 1)) _ (by simp only [tq_p, sp_b, sp_f, cond_true, cond_false, e2]) x7⟩)
theorem r_206e {b : Int32} (l : rr h0 z τ N s h) (hF : ∀ F h1, tq_e τ s b = .inl F → rx h0 F (s.2.2.2.2.2.1 + z) h1 → Q (some (.int (Int32.ofInt 0))) h1) (hS : ∀ p h1, sp_n τ s.1 = true → sp_ef s.2 (τ s.1).2.1 = some p → sp_bit b (nI p) = false → rr h0 z τ N (s.1 + 1, s.2) h1 → Q (some (.int (nI p))) h1) : am_call am_cod 4 206 [.ref 154, .int (Int32.ofInt 1), .int ((Int8.ofInt 20).toInt32), .int (b)] h Q := by
  have hP := r_P l
  have hp6 : s.2.1.1 ≤ 6 := l.2.1.1.2.1
  have he5 : s.2.2.1.1 ≤ 5 := l.2.1.2.1.2.1
  refine pz_call (n := 206) (nL := 5) (rt := (some .int)) (rows := am_r206) (d := 3) (by decide +kernel) (by decide +kernel) rfl (by funext pc; rfl) (ex_175 hP) (by exact Nat.le_of_ble_eq_true rfl) ?_
  refine am_goX 2 (show am_sh h 154 = some (11, 0) ∧ pz_S 5 (some .int) am_r206 3 Q 4 [(0, .ref 154), (1, .int (Int32.ofInt 1)), (2, .int ((Int8.ofInt 20).toInt32)), (3, .int (b))] [.int (h.1 154 8)] h from ⟨ex_154 (r_P l), ?_⟩)
  rw [r_f l]
  refine am_goX 1 (show (¬ 0 = 0 → pz_S 5 (some .int) am_r206 3 Q 19 [(0, .ref 154), (1, .int (Int32.ofInt 1)), (2, .int ((Int8.ofInt 20).toInt32)), (3, .int (b))] [] h) ∧ (¬ ¬ 0 = 0 → pz_S 5 (some .int) am_r206 3 Q 7 [(0, .ref 154), (1, .int (Int32.ofInt 1)), (2, .int ((Int8.ofInt 20).toInt32)), (3, .int (b))] [] h) from ⟨fun hz => absurd hz (by decide), fun _ => ?_⟩)
  refine am_goX 2 (show am_rc h 154 11 ∧ 0 ≤ 8 ∧ h.2.2.2.2 + am_al 198 ≤ 175 ∧ am_call am_cod 3 198 [.ref 154] h (fun vv h' => pz_S 5 (some .int) am_r206 3 Q 11 [(0, .ref 154), (1, .int (Int32.ofInt 1)), (2, .int ((Int8.ofInt 20).toInt32)), (3, .int (b))] (vv.toList ++ []) h') from ⟨Or.inl ⟨by decide, ex_154 (r_P l)⟩, by decide, ex_lim (r_P l) rfl, am_call.up (r_198 l ?_) (by omega)⟩)
  cases e8 : sp_n τ s.1 with
  | true =>
    refine am_goX 1 (show (¬ (pz_b (true)) = 0 → pz_S 5 (some .int) am_r206 3 Q 19 [(0, .ref 154), (1, .int (Int32.ofInt 1)), (2, .int ((Int8.ofInt 20).toInt32)), (3, .int (b))] [] h) ∧ (¬ ¬ (pz_b (true)) = 0 → pz_S 5 (some .int) am_r206 3 Q 14 [(0, .ref 154), (1, .int (Int32.ofInt 1)), (2, .int ((Int8.ofInt 20).toInt32)), (3, .int (b))] [] h) from ⟨fun _ => ?_, fun hz => absurd (by decide) hz⟩)
    refine am_goX 2 (show am_sh h 154 = some (11, 0) ∧ pz_S 5 (some .int) am_r206 3 Q 23 [(0, .ref 154), (1, .int (Int32.ofInt 1)), (2, .int ((Int8.ofInt 20).toInt32)), (3, .int (b))] [.int (h.1 154 8)] h from ⟨ex_154 (r_P l), ?_⟩)
    rw [r_f l]
    refine am_goX 1 (show (0 ≤ 0 → pz_S 5 (some .int) am_r206 3 Q 30 [(0, .ref 154), (1, .int (Int32.ofInt 1)), (2, .int ((Int8.ofInt 20).toInt32)), (3, .int (b))] [] h) ∧ (¬ (0 ≤ 0) → pz_S 5 (some .int) am_r206 3 Q 26 [(0, .ref 154), (1, .int (Int32.ofInt 1)), (2, .int ((Int8.ofInt 20).toInt32)), (3, .int (b))] [] h) from ⟨fun _ => ?_, fun hz => absurd (by decide) hz⟩)
    refine am_goX 3 (show am_rc h 154 11 ∧ 0 ≤ 8 ∧ h.2.2.2.2 + am_al 200 ≤ 175 ∧ am_call am_cod 3 200 [.ref 154, .int (Int32.ofInt 1)] h (fun vv h' => pz_S 5 (some .int) am_r206 3 Q 35 [(0, .ref 154), (1, .int (Int32.ofInt 1)), (2, .int ((Int8.ofInt 20).toInt32)), (3, .int (b))] (vv.toList ++ []) h') from ⟨Or.inl ⟨by decide, ex_154 (r_P l)⟩, by decide, ex_lim (r_P l) rfl, am_call.up (r_200 (sp_nn e8) l ?_) (by omega)⟩)
    cases e1 : sp_ef s.2 (τ s.1).2.1 with
    | none =>
      have hw := na_e0 (v := (τ s.1).2.1) hp6 e1
      refine am_goX 5 (show 4 < 5 ∧ am_sh h 154 = some (11, 0) ∧ pz_S 5 (some .int) am_r206 3 Q 43 [(4, .int ((sp_na s.2 (τ s.1).2.1) - ((Int8.ofInt 20).toInt32))), (0, .ref 154), (1, .int (Int32.ofInt 1)), (2, .int ((Int8.ofInt 20).toInt32)), (3, .int (b))] [.int (h.1 154 8)] h from ⟨by decide, ex_154 (r_P l), ?_⟩)
      rw [r_f l]
      refine am_goX 1 (show (¬ 0 = 0 → pz_S 5 (some .int) am_r206 3 Q 64 [(4, .int ((sp_na s.2 (τ s.1).2.1) - ((Int8.ofInt 20).toInt32))), (0, .ref 154), (1, .int (Int32.ofInt 1)), (2, .int ((Int8.ofInt 20).toInt32)), (3, .int (b))] [] h) ∧ (¬ ¬ 0 = 0 → pz_S 5 (some .int) am_r206 3 Q 46 [(4, .int ((sp_na s.2 (τ s.1).2.1) - ((Int8.ofInt 20).toInt32))), (0, .ref 154), (1, .int (Int32.ofInt 1)), (2, .int ((Int8.ofInt 20).toInt32)), (3, .int (b))] [] h) from ⟨fun hz => absurd hz (by decide), fun _ => ?_⟩)
      refine am_goX 3 (show pz_S 5 (some .int) am_r206 3 Q 50 [(4, .int ((sp_na s.2 (τ s.1).2.1) - ((Int8.ofInt 20).toInt32))), (0, .ref 154), (1, .int (Int32.ofInt 1)), (2, .int ((Int8.ofInt 20).toInt32)), (3, .int (b))] [.int (Int32.ofInt 5), .int (Int32.ofInt 0), .int ((sp_na s.2 (τ s.1).2.1) - ((Int8.ofInt 20).toInt32))] h from ?_)
      refine am_goX 1 (show 0 ≤ 8 ∧ h.2.2.2.2 + am_al 207 ≤ 175 ∧ am_call am_cod 3 207 [.int ((sp_na s.2 (τ s.1).2.1) - ((Int8.ofInt 20).toInt32)), .int (Int32.ofInt 0), .int (Int32.ofInt 5)] h (fun vv h' => pz_S 5 (some .int) am_r206 3 Q 53 [(4, .int ((sp_na s.2 (τ s.1).2.1) - ((Int8.ofInt 20).toInt32))), (0, .ref 154), (1, .int (Int32.ofInt 1)), (2, .int ((Int8.ofInt 20).toInt32)), (3, .int (b))] (vv.toList ++ []) h') from ⟨by decide, ex_lim (r_P l) rfl, am_call.up (r_207 (r_P l) ?_) (by omega)⟩)
      rw [hw]
      refine am_goX 1 (show (¬ (pz_b (false)) = 0 → pz_S 5 (some .int) am_r206 3 Q 64 [(4, .int ((sp_na s.2 (τ s.1).2.1) - ((Int8.ofInt 20).toInt32))), (0, .ref 154), (1, .int (Int32.ofInt 1)), (2, .int ((Int8.ofInt 20).toInt32)), (3, .int (b))] [] h) ∧ (¬ ¬ (pz_b (false)) = 0 → pz_S 5 (some .int) am_r206 3 Q 56 [(4, .int ((sp_na s.2 (τ s.1).2.1) - ((Int8.ofInt 20).toInt32))), (0, .ref 154), (1, .int (Int32.ofInt 1)), (2, .int ((Int8.ofInt 20).toInt32)), (3, .int (b))] [] h) from ⟨fun hz => absurd hz (by decide), fun _ => ?_⟩)
      refine am_goX 3 (show am_rc h 154 11 ∧ 0 ≤ 8 ∧ h.2.2.2.2 + am_al 197 ≤ 175 ∧ am_call am_cod 3 197 [.ref 154, .int (Int32.ofInt 2)] h (fun vv h' => pz_S 5 (some .int) am_r206 3 Q 61 [(4, .int ((sp_na s.2 (τ s.1).2.1) - ((Int8.ofInt 20).toInt32))), (0, .ref 154), (1, .int (Int32.ofInt 1)), (2, .int ((Int8.ofInt 20).toInt32)), (3, .int (b))] (vv.toList ++ []) h') from ⟨Or.inl ⟨by decide, ex_154 (r_P l)⟩, by decide, ex_lim (r_P l) rfl, am_call.up (r_197 l ?_) (by omega)⟩)
      have x9 : rx h0 (sp_ft τ s.1 (Int32.ofInt 2)) (s.2.2.2.2.2.1 + z) (am_wI h 154 8 (sp_ft τ s.1 (Int32.ofInt 2))) := rr_x (s := s) l (by decide)
      refine am_goX 6 (show (Value.ref 154).category = 1 ∧ am_sh (am_wI h 154 8 (sp_ft τ s.1 (Int32.ofInt 2))) 154 = some (11, 0) ∧ am_sh (am_wI h 154 8 (sp_ft τ s.1 (Int32.ofInt 2))) 154 = some (11, 0) ∧ pz_S 5 (some .int) am_r206 3 Q 95 [(4, .int ((sp_na s.2 (τ s.1).2.1) - ((Int8.ofInt 20).toInt32))), (0, .ref 154), (1, .int (Int32.ofInt 1)), (2, .int ((Int8.ofInt 20).toInt32)), (3, .int (b))] [.int ((am_wI h 154 8 (sp_ft τ s.1 (Int32.ofInt 2))).1 154 8), .int ((am_wI h 154 8 (sp_ft τ s.1 (Int32.ofInt 2))).1 154 7), .ref 154] (am_wI h 154 8 (sp_ft τ s.1 (Int32.ofInt 2))) from ⟨rfl, ex_154 x9.1, ex_154 x9.1, ?_⟩)
      rw [x9.2.1.1]
      refine am_goX 1 (show ((sp_ft τ s.1 (Int32.ofInt 2)) ≤ 0 → pz_S 5 (some .int) am_r206 3 Q 102 [(4, .int ((sp_na s.2 (τ s.1).2.1) - ((Int8.ofInt 20).toInt32))), (0, .ref 154), (1, .int (Int32.ofInt 1)), (2, .int ((Int8.ofInt 20).toInt32)), (3, .int (b))] [.int ((am_wI h 154 8 (sp_ft τ s.1 (Int32.ofInt 2))).1 154 7), .ref 154] (am_wI h 154 8 (sp_ft τ s.1 (Int32.ofInt 2)))) ∧ (¬ ((sp_ft τ s.1 (Int32.ofInt 2)) ≤ 0) → pz_S 5 (some .int) am_r206 3 Q 98 [(4, .int ((sp_na s.2 (τ s.1).2.1) - ((Int8.ofInt 20).toInt32))), (0, .ref 154), (1, .int (Int32.ofInt 1)), (2, .int ((Int8.ofInt 20).toInt32)), (3, .int (b))] [.int ((am_wI h 154 8 (sp_ft τ s.1 (Int32.ofInt 2))).1 154 7), .ref 154] (am_wI h 154 8 (sp_ft τ s.1 (Int32.ofInt 2)))) from ⟨fun hz => absurd hz (rx_le x9), fun _ => ?_⟩)
      refine am_goX 4 (show am_sh (am_wI h 154 8 (sp_ft τ s.1 (Int32.ofInt 2))) 154 = some (11, 0) ∧ narrow (am_fty 11 7) (.int ((((am_wI h 154 8 (sp_ft τ s.1 (Int32.ofInt 2))).1 154 7) + (Int32.ofInt 0)))) = .int ((((am_wI h 154 8 (sp_ft τ s.1 (Int32.ofInt 2))).1 154 7) + (Int32.ofInt 0))) ∧ fits (am_fty 11 7) (.int ((((am_wI h 154 8 (sp_ft τ s.1 (Int32.ofInt 2))).1 154 7) + (Int32.ofInt 0)))) = true ∧ pz_S 5 (some .int) am_r206 3 Q 107 [(4, .int ((sp_na s.2 (τ s.1).2.1) - ((Int8.ofInt 20).toInt32))), (0, .ref 154), (1, .int (Int32.ofInt 1)), (2, .int ((Int8.ofInt 20).toInt32)), (3, .int (b))] [] (am_wI (am_wI h 154 8 (sp_ft τ s.1 (Int32.ofInt 2))) 154 7 ((((am_wI h 154 8 (sp_ft τ s.1 (Int32.ofInt 2))).1 154 7) + (Int32.ofInt 0)))) from ⟨ex_154 x9.1, rfl, rfl, ?_⟩)
      have x10 : rx h0 (sp_ft τ s.1 (Int32.ofInt 2)) (s.2.2.2.2.2.1 + z) (am_wI (am_wI h 154 8 (sp_ft τ s.1 (Int32.ofInt 2))) 154 7 ((((am_wI h 154 8 (sp_ft τ s.1 (Int32.ofInt 2))).1 154 7) + (Int32.ofInt 0)))) := rx_at x9
      refine am_goX 2 (show am_sh (am_wI (am_wI h 154 8 (sp_ft τ s.1 (Int32.ofInt 2))) 154 7 ((((am_wI h 154 8 (sp_ft τ s.1 (Int32.ofInt 2))).1 154 7) + (Int32.ofInt 0)))) 154 = some (11, 0) ∧ pz_S 5 (some .int) am_r206 3 Q 111 [(4, .int ((sp_na s.2 (τ s.1).2.1) - ((Int8.ofInt 20).toInt32))), (0, .ref 154), (1, .int (Int32.ofInt 1)), (2, .int ((Int8.ofInt 20).toInt32)), (3, .int (b))] [.int ((am_wI (am_wI h 154 8 (sp_ft τ s.1 (Int32.ofInt 2))) 154 7 ((((am_wI h 154 8 (sp_ft τ s.1 (Int32.ofInt 2))).1 154 7) + (Int32.ofInt 0)))).1 154 8)] (am_wI (am_wI h 154 8 (sp_ft τ s.1 (Int32.ofInt 2))) 154 7 ((((am_wI h 154 8 (sp_ft τ s.1 (Int32.ofInt 2))).1 154 7) + (Int32.ofInt 0)))) from ⟨ex_154 x10.1, ?_⟩)
      rw [x10.2.1.1]
      refine am_goX 1 (show ((sp_ft τ s.1 (Int32.ofInt 2)) ≤ 0 → pz_S 5 (some .int) am_r206 3 Q 118 [(4, .int ((sp_na s.2 (τ s.1).2.1) - ((Int8.ofInt 20).toInt32))), (0, .ref 154), (1, .int (Int32.ofInt 1)), (2, .int ((Int8.ofInt 20).toInt32)), (3, .int (b))] [] (am_wI (am_wI h 154 8 (sp_ft τ s.1 (Int32.ofInt 2))) 154 7 ((((am_wI h 154 8 (sp_ft τ s.1 (Int32.ofInt 2))).1 154 7) + (Int32.ofInt 0))))) ∧ (¬ ((sp_ft τ s.1 (Int32.ofInt 2)) ≤ 0) → pz_S 5 (some .int) am_r206 3 Q 114 [(4, .int ((sp_na s.2 (τ s.1).2.1) - ((Int8.ofInt 20).toInt32))), (0, .ref 154), (1, .int (Int32.ofInt 1)), (2, .int ((Int8.ofInt 20).toInt32)), (3, .int (b))] [] (am_wI (am_wI h 154 8 (sp_ft τ s.1 (Int32.ofInt 2))) 154 7 ((((am_wI h 154 8 (sp_ft τ s.1 (Int32.ofInt 2))).1 154 7) + (Int32.ofInt 0))))) from ⟨fun hz => absurd hz (rx_le x10), fun _ => ?_⟩)
      exact am_goX 3 (show (∃ ty, (some .int) = some ty ∧ narrow ty (.int ((Int32.ofInt 0))) = .int ((Int32.ofInt 0))) ∧ (am_wI (am_wI h 154 8 (sp_ft τ s.1 (Int32.ofInt 2))) 154 7 ((((am_wI h 154 8 (sp_ft τ s.1 (Int32.ofInt 2))).1 154 7) + (Int32.ofInt 0)))).2.2.2.2 = 175 ∧ _ from ⟨⟨.int, rfl, rfl⟩, ex_175 x10.1, hF (sp_ft τ s.1 (Int32.ofInt 2)) _ (by simp only [tq_e, sp_b, sp_f, cond_true, cond_false, e8, e1]) x10⟩)
    | some p =>
      have hp := (sp_fd_lt e1).2.1
      rw [rN_ef l.2.1.2.2.2.2.2.2 hp6 he5 e1]
      obtain ⟨hs, hw⟩ := na_e1 (show p < 5 by omega)
      refine am_goX 5 (show 4 < 5 ∧ am_sh h 154 = some (11, 0) ∧ pz_S 5 (some .int) am_r206 3 Q 43 [(4, .int ((nI (20 + p)) - ((Int8.ofInt 20).toInt32))), (0, .ref 154), (1, .int (Int32.ofInt 1)), (2, .int ((Int8.ofInt 20).toInt32)), (3, .int (b))] [.int (h.1 154 8)] h from ⟨by decide, ex_154 (r_P l), ?_⟩)
      rw [r_f l]
      refine am_goX 1 (show (¬ 0 = 0 → pz_S 5 (some .int) am_r206 3 Q 64 [(4, .int ((nI (20 + p)) - ((Int8.ofInt 20).toInt32))), (0, .ref 154), (1, .int (Int32.ofInt 1)), (2, .int ((Int8.ofInt 20).toInt32)), (3, .int (b))] [] h) ∧ (¬ ¬ 0 = 0 → pz_S 5 (some .int) am_r206 3 Q 46 [(4, .int ((nI (20 + p)) - ((Int8.ofInt 20).toInt32))), (0, .ref 154), (1, .int (Int32.ofInt 1)), (2, .int ((Int8.ofInt 20).toInt32)), (3, .int (b))] [] h) from ⟨fun hz => absurd hz (by decide), fun _ => ?_⟩)
      refine am_goX 3 (show pz_S 5 (some .int) am_r206 3 Q 50 [(4, .int ((nI (20 + p)) - ((Int8.ofInt 20).toInt32))), (0, .ref 154), (1, .int (Int32.ofInt 1)), (2, .int ((Int8.ofInt 20).toInt32)), (3, .int (b))] [.int (Int32.ofInt 5), .int (Int32.ofInt 0), .int ((nI (20 + p)) - ((Int8.ofInt 20).toInt32))] h from ?_)
      rw [hs]
      refine am_goX 1 (show 0 ≤ 8 ∧ h.2.2.2.2 + am_al 207 ≤ 175 ∧ am_call am_cod 3 207 [.int (nI p), .int (Int32.ofInt 0), .int (Int32.ofInt 5)] h (fun vv h' => pz_S 5 (some .int) am_r206 3 Q 53 [(4, .int (nI p)), (0, .ref 154), (1, .int (Int32.ofInt 1)), (2, .int ((Int8.ofInt 20).toInt32)), (3, .int (b))] (vv.toList ++ []) h') from ⟨by decide, ex_lim (r_P l) rfl, am_call.up (r_207 (r_P l) ?_) (by omega)⟩)
      rw [hw]
      refine am_goX 1 (show (¬ (pz_b (true)) = 0 → pz_S 5 (some .int) am_r206 3 Q 64 [(4, .int (nI p)), (0, .ref 154), (1, .int (Int32.ofInt 1)), (2, .int ((Int8.ofInt 20).toInt32)), (3, .int (b))] [] h) ∧ (¬ ¬ (pz_b (true)) = 0 → pz_S 5 (some .int) am_r206 3 Q 56 [(4, .int (nI p)), (0, .ref 154), (1, .int (Int32.ofInt 1)), (2, .int ((Int8.ofInt 20).toInt32)), (3, .int (b))] [] h) from ⟨fun _ => ?_, fun hz => absurd (by decide) hz⟩)
      refine am_goX 2 (show am_sh h 154 = some (11, 0) ∧ pz_S 5 (some .int) am_r206 3 Q 68 [(4, .int (nI p)), (0, .ref 154), (1, .int (Int32.ofInt 1)), (2, .int ((Int8.ofInt 20).toInt32)), (3, .int (b))] [.int (h.1 154 8)] h from ⟨ex_154 (r_P l), ?_⟩)
      rw [r_f l]
      refine am_goX 1 (show (¬ 0 = 0 → pz_S 5 (some .int) am_r206 3 Q 86 [(4, .int (nI p)), (0, .ref 154), (1, .int (Int32.ofInt 1)), (2, .int ((Int8.ofInt 20).toInt32)), (3, .int (b))] [] h) ∧ (¬ ¬ 0 = 0 → pz_S 5 (some .int) am_r206 3 Q 71 [(4, .int (nI p)), (0, .ref 154), (1, .int (Int32.ofInt 1)), (2, .int ((Int8.ofInt 20).toInt32)), (3, .int (b))] [] h) from ⟨fun hz => absurd hz (by decide), fun _ => ?_⟩)
      refine am_goX 6 (show pz_S 5 (some .int) am_r206 3 Q 78 [(4, .int (nI p)), (0, .ref 154), (1, .int (Int32.ofInt 1)), (2, .int ((Int8.ofInt 20).toInt32)), (3, .int (b))] [.int (Int32.ofInt 1), .int (((b) >>> ((nI p) &&& 31)) &&& (Int32.ofInt 1))] h from ?_)
      cases e4 : sp_bit b (nI p) with
      | true =>
        refine am_goX 1 (show (¬ (((b) >>> ((nI p) &&& 31)) &&& (Int32.ofInt 1)) = (Int32.ofInt 1) → pz_S 5 (some .int) am_r206 3 Q 86 [(4, .int (nI p)), (0, .ref 154), (1, .int (Int32.ofInt 1)), (2, .int ((Int8.ofInt 20).toInt32)), (3, .int (b))] [] h) ∧ (¬ ¬ (((b) >>> ((nI p) &&& 31)) &&& (Int32.ofInt 1)) = (Int32.ofInt 1) → pz_S 5 (some .int) am_r206 3 Q 81 [(4, .int (nI p)), (0, .ref 154), (1, .int (Int32.ofInt 1)), (2, .int ((Int8.ofInt 20).toInt32)), (3, .int (b))] [] h) from ⟨fun hz => absurd hz (fun w => w (bit_t e4)), fun _ => ?_⟩)
        refine am_goX 3 (show am_rc h 154 11 ∧ 0 ≤ 8 ∧ h.2.2.2.2 + am_al 197 ≤ 175 ∧ am_call am_cod 3 197 [.ref 154, .int (Int32.ofInt 3)] h (fun vv h' => pz_S 5 (some .int) am_r206 3 Q 86 [(4, .int (nI p)), (0, .ref 154), (1, .int (Int32.ofInt 1)), (2, .int ((Int8.ofInt 20).toInt32)), (3, .int (b))] (vv.toList ++ []) h') from ⟨Or.inl ⟨by decide, ex_154 (r_P l)⟩, by decide, ex_lim (r_P l) rfl, am_call.up (r_197 l ?_) (by omega)⟩)
        have x11 : rx h0 (sp_ft τ s.1 (Int32.ofInt 3)) (s.2.2.2.2.2.1 + z) (am_wI h 154 8 (sp_ft τ s.1 (Int32.ofInt 3))) := rr_x (s := s) l (by decide)
        refine am_goX 5 (show (Value.ref 154).category = 1 ∧ am_sh (am_wI h 154 8 (sp_ft τ s.1 (Int32.ofInt 3))) 154 = some (11, 0) ∧ am_sh (am_wI h 154 8 (sp_ft τ s.1 (Int32.ofInt 3))) 154 = some (11, 0) ∧ pz_S 5 (some .int) am_r206 3 Q 95 [(4, .int (nI p)), (0, .ref 154), (1, .int (Int32.ofInt 1)), (2, .int ((Int8.ofInt 20).toInt32)), (3, .int (b))] [.int ((am_wI h 154 8 (sp_ft τ s.1 (Int32.ofInt 3))).1 154 8), .int ((am_wI h 154 8 (sp_ft τ s.1 (Int32.ofInt 3))).1 154 7), .ref 154] (am_wI h 154 8 (sp_ft τ s.1 (Int32.ofInt 3))) from ⟨rfl, ex_154 x11.1, ex_154 x11.1, ?_⟩)
        rw [x11.2.1.1]
        refine am_goX 1 (show ((sp_ft τ s.1 (Int32.ofInt 3)) ≤ 0 → pz_S 5 (some .int) am_r206 3 Q 102 [(4, .int (nI p)), (0, .ref 154), (1, .int (Int32.ofInt 1)), (2, .int ((Int8.ofInt 20).toInt32)), (3, .int (b))] [.int ((am_wI h 154 8 (sp_ft τ s.1 (Int32.ofInt 3))).1 154 7), .ref 154] (am_wI h 154 8 (sp_ft τ s.1 (Int32.ofInt 3)))) ∧ (¬ ((sp_ft τ s.1 (Int32.ofInt 3)) ≤ 0) → pz_S 5 (some .int) am_r206 3 Q 98 [(4, .int (nI p)), (0, .ref 154), (1, .int (Int32.ofInt 1)), (2, .int ((Int8.ofInt 20).toInt32)), (3, .int (b))] [.int ((am_wI h 154 8 (sp_ft τ s.1 (Int32.ofInt 3))).1 154 7), .ref 154] (am_wI h 154 8 (sp_ft τ s.1 (Int32.ofInt 3)))) from ⟨fun hz => absurd hz (rx_le x11), fun _ => ?_⟩)
        refine am_goX 4 (show am_sh (am_wI h 154 8 (sp_ft τ s.1 (Int32.ofInt 3))) 154 = some (11, 0) ∧ narrow (am_fty 11 7) (.int ((((am_wI h 154 8 (sp_ft τ s.1 (Int32.ofInt 3))).1 154 7) + (Int32.ofInt 0)))) = .int ((((am_wI h 154 8 (sp_ft τ s.1 (Int32.ofInt 3))).1 154 7) + (Int32.ofInt 0))) ∧ fits (am_fty 11 7) (.int ((((am_wI h 154 8 (sp_ft τ s.1 (Int32.ofInt 3))).1 154 7) + (Int32.ofInt 0)))) = true ∧ pz_S 5 (some .int) am_r206 3 Q 107 [(4, .int (nI p)), (0, .ref 154), (1, .int (Int32.ofInt 1)), (2, .int ((Int8.ofInt 20).toInt32)), (3, .int (b))] [] (am_wI (am_wI h 154 8 (sp_ft τ s.1 (Int32.ofInt 3))) 154 7 ((((am_wI h 154 8 (sp_ft τ s.1 (Int32.ofInt 3))).1 154 7) + (Int32.ofInt 0)))) from ⟨ex_154 x11.1, rfl, rfl, ?_⟩)
        have x12 : rx h0 (sp_ft τ s.1 (Int32.ofInt 3)) (s.2.2.2.2.2.1 + z) (am_wI (am_wI h 154 8 (sp_ft τ s.1 (Int32.ofInt 3))) 154 7 ((((am_wI h 154 8 (sp_ft τ s.1 (Int32.ofInt 3))).1 154 7) + (Int32.ofInt 0)))) := rx_at x11
        refine am_goX 2 (show am_sh (am_wI (am_wI h 154 8 (sp_ft τ s.1 (Int32.ofInt 3))) 154 7 ((((am_wI h 154 8 (sp_ft τ s.1 (Int32.ofInt 3))).1 154 7) + (Int32.ofInt 0)))) 154 = some (11, 0) ∧ pz_S 5 (some .int) am_r206 3 Q 111 [(4, .int (nI p)), (0, .ref 154), (1, .int (Int32.ofInt 1)), (2, .int ((Int8.ofInt 20).toInt32)), (3, .int (b))] [.int ((am_wI (am_wI h 154 8 (sp_ft τ s.1 (Int32.ofInt 3))) 154 7 ((((am_wI h 154 8 (sp_ft τ s.1 (Int32.ofInt 3))).1 154 7) + (Int32.ofInt 0)))).1 154 8)] (am_wI (am_wI h 154 8 (sp_ft τ s.1 (Int32.ofInt 3))) 154 7 ((((am_wI h 154 8 (sp_ft τ s.1 (Int32.ofInt 3))).1 154 7) + (Int32.ofInt 0)))) from ⟨ex_154 x12.1, ?_⟩)
        rw [x12.2.1.1]
        refine am_goX 1 (show ((sp_ft τ s.1 (Int32.ofInt 3)) ≤ 0 → pz_S 5 (some .int) am_r206 3 Q 118 [(4, .int (nI p)), (0, .ref 154), (1, .int (Int32.ofInt 1)), (2, .int ((Int8.ofInt 20).toInt32)), (3, .int (b))] [] (am_wI (am_wI h 154 8 (sp_ft τ s.1 (Int32.ofInt 3))) 154 7 ((((am_wI h 154 8 (sp_ft τ s.1 (Int32.ofInt 3))).1 154 7) + (Int32.ofInt 0))))) ∧ (¬ ((sp_ft τ s.1 (Int32.ofInt 3)) ≤ 0) → pz_S 5 (some .int) am_r206 3 Q 114 [(4, .int (nI p)), (0, .ref 154), (1, .int (Int32.ofInt 1)), (2, .int ((Int8.ofInt 20).toInt32)), (3, .int (b))] [] (am_wI (am_wI h 154 8 (sp_ft τ s.1 (Int32.ofInt 3))) 154 7 ((((am_wI h 154 8 (sp_ft τ s.1 (Int32.ofInt 3))).1 154 7) + (Int32.ofInt 0))))) from ⟨fun hz => absurd hz (rx_le x12), fun _ => ?_⟩)
        exact am_goX 3 (show (∃ ty, (some .int) = some ty ∧ narrow ty (.int ((Int32.ofInt 0))) = .int ((Int32.ofInt 0))) ∧ (am_wI (am_wI h 154 8 (sp_ft τ s.1 (Int32.ofInt 3))) 154 7 ((((am_wI h 154 8 (sp_ft τ s.1 (Int32.ofInt 3))).1 154 7) + (Int32.ofInt 0)))).2.2.2.2 = 175 ∧ _ from ⟨⟨.int, rfl, rfl⟩, ex_175 x12.1, hF (sp_ft τ s.1 (Int32.ofInt 3)) _ (by simp only [tq_e, sp_b, sp_f, cond_true, cond_false, e8, e1, e4]) x12⟩)
      | false =>
        refine am_goX 1 (show (¬ (((b) >>> ((nI p) &&& 31)) &&& (Int32.ofInt 1)) = (Int32.ofInt 1) → pz_S 5 (some .int) am_r206 3 Q 86 [(4, .int (nI p)), (0, .ref 154), (1, .int (Int32.ofInt 1)), (2, .int ((Int8.ofInt 20).toInt32)), (3, .int (b))] [] h) ∧ (¬ ¬ (((b) >>> ((nI p) &&& 31)) &&& (Int32.ofInt 1)) = (Int32.ofInt 1) → pz_S 5 (some .int) am_r206 3 Q 81 [(4, .int (nI p)), (0, .ref 154), (1, .int (Int32.ofInt 1)), (2, .int ((Int8.ofInt 20).toInt32)), (3, .int (b))] [] h) from ⟨fun _ => ?_, fun hz => absurd (bit_f e4) hz⟩)
        refine am_goX 5 (show (Value.ref 154).category = 1 ∧ am_sh h 154 = some (11, 0) ∧ am_sh h 154 = some (11, 0) ∧ pz_S 5 (some .int) am_r206 3 Q 95 [(4, .int (nI p)), (0, .ref 154), (1, .int (Int32.ofInt 1)), (2, .int ((Int8.ofInt 20).toInt32)), (3, .int (b))] [.int (h.1 154 8), .int (h.1 154 7), .ref 154] h from ⟨rfl, ex_154 (r_P l), ex_154 (r_P l), ?_⟩)
        rw [r_f l]
        refine am_goX 1 (show (0 ≤ 0 → pz_S 5 (some .int) am_r206 3 Q 102 [(4, .int (nI p)), (0, .ref 154), (1, .int (Int32.ofInt 1)), (2, .int ((Int8.ofInt 20).toInt32)), (3, .int (b))] [.int (h.1 154 7), .ref 154] h) ∧ (¬ (0 ≤ 0) → pz_S 5 (some .int) am_r206 3 Q 98 [(4, .int (nI p)), (0, .ref 154), (1, .int (Int32.ofInt 1)), (2, .int ((Int8.ofInt 20).toInt32)), (3, .int (b))] [.int (h.1 154 7), .ref 154] h) from ⟨fun _ => ?_, fun hz => absurd (by decide) hz⟩)
        refine am_goX 3 (show am_sh h 154 = some (11, 0) ∧ narrow (am_fty 11 7) (.int (((h.1 154 7) + (Int32.ofInt 1)))) = .int (((h.1 154 7) + (Int32.ofInt 1))) ∧ fits (am_fty 11 7) (.int (((h.1 154 7) + (Int32.ofInt 1)))) = true ∧ pz_S 5 (some .int) am_r206 3 Q 107 [(4, .int (nI p)), (0, .ref 154), (1, .int (Int32.ofInt 1)), (2, .int ((Int8.ofInt 20).toInt32)), (3, .int (b))] [] (am_wI h 154 7 (((h.1 154 7) + (Int32.ofInt 1)))) from ⟨ex_154 (r_P l), rfl, rfl, ?_⟩)
        rw [r_a l, xw_i1]
        have l13 : rr h0 z τ N (s.1 + 1, s.2) (am_wI h 154 7 (nI (s.1 + 1))) := rr_nx (a := s.1) (C := s.2) l (sp_nn e8)
        refine am_goX 2 (show am_sh (am_wI h 154 7 (nI (s.1 + 1))) 154 = some (11, 0) ∧ pz_S 5 (some .int) am_r206 3 Q 111 [(4, .int (nI p)), (0, .ref 154), (1, .int (Int32.ofInt 1)), (2, .int ((Int8.ofInt 20).toInt32)), (3, .int (b))] [.int ((am_wI h 154 7 (nI (s.1 + 1))).1 154 8)] (am_wI h 154 7 (nI (s.1 + 1))) from ⟨ex_154 (r_P l13), ?_⟩)
        rw [r_f l13]
        refine am_goX 1 (show (0 ≤ 0 → pz_S 5 (some .int) am_r206 3 Q 118 [(4, .int (nI p)), (0, .ref 154), (1, .int (Int32.ofInt 1)), (2, .int ((Int8.ofInt 20).toInt32)), (3, .int (b))] [] (am_wI h 154 7 (nI (s.1 + 1)))) ∧ (¬ (0 ≤ 0) → pz_S 5 (some .int) am_r206 3 Q 114 [(4, .int (nI p)), (0, .ref 154), (1, .int (Int32.ofInt 1)), (2, .int ((Int8.ofInt 20).toInt32)), (3, .int (b))] [] (am_wI h 154 7 (nI (s.1 + 1)))) from ⟨fun _ => ?_, fun hz => absurd (by decide) hz⟩)
        exact am_goX 2 (show (∃ ty, (some .int) = some ty ∧ narrow ty (.int ((nI p))) = .int ((nI p))) ∧ (am_wI h 154 7 (nI (s.1 + 1))).2.2.2.2 = 175 ∧ _ from ⟨⟨.int, rfl, rfl⟩, ex_175 (r_P l13), hS p _ e8 e1 e4 l13⟩)
  | false =>
    refine am_goX 1 (show (¬ (pz_b (false)) = 0 → pz_S 5 (some .int) am_r206 3 Q 19 [(0, .ref 154), (1, .int (Int32.ofInt 1)), (2, .int ((Int8.ofInt 20).toInt32)), (3, .int (b))] [] h) ∧ (¬ ¬ (pz_b (false)) = 0 → pz_S 5 (some .int) am_r206 3 Q 14 [(0, .ref 154), (1, .int (Int32.ofInt 1)), (2, .int ((Int8.ofInt 20).toInt32)), (3, .int (b))] [] h) from ⟨fun hz => absurd hz (by decide), fun _ => ?_⟩)
    refine am_goX 3 (show am_rc h 154 11 ∧ 0 ≤ 8 ∧ h.2.2.2.2 + am_al 197 ≤ 175 ∧ am_call am_cod 3 197 [.ref 154, .int (Int32.ofInt 1)] h (fun vv h' => pz_S 5 (some .int) am_r206 3 Q 19 [(0, .ref 154), (1, .int (Int32.ofInt 1)), (2, .int ((Int8.ofInt 20).toInt32)), (3, .int (b))] (vv.toList ++ []) h') from ⟨Or.inl ⟨by decide, ex_154 (r_P l)⟩, by decide, ex_lim (r_P l) rfl, am_call.up (r_197 l ?_) (by omega)⟩)
    have x14 : rx h0 (sp_ft τ s.1 (Int32.ofInt 1)) (s.2.2.2.2.2.1 + z) (am_wI h 154 8 (sp_ft τ s.1 (Int32.ofInt 1))) := rr_x (s := s) l (by decide)
    refine am_goX 2 (show am_sh (am_wI h 154 8 (sp_ft τ s.1 (Int32.ofInt 1))) 154 = some (11, 0) ∧ pz_S 5 (some .int) am_r206 3 Q 23 [(0, .ref 154), (1, .int (Int32.ofInt 1)), (2, .int ((Int8.ofInt 20).toInt32)), (3, .int (b))] [.int ((am_wI h 154 8 (sp_ft τ s.1 (Int32.ofInt 1))).1 154 8)] (am_wI h 154 8 (sp_ft τ s.1 (Int32.ofInt 1))) from ⟨ex_154 x14.1, ?_⟩)
    rw [x14.2.1.1]
    refine am_goX 1 (show ((sp_ft τ s.1 (Int32.ofInt 1)) ≤ 0 → pz_S 5 (some .int) am_r206 3 Q 30 [(0, .ref 154), (1, .int (Int32.ofInt 1)), (2, .int ((Int8.ofInt 20).toInt32)), (3, .int (b))] [] (am_wI h 154 8 (sp_ft τ s.1 (Int32.ofInt 1)))) ∧ (¬ ((sp_ft τ s.1 (Int32.ofInt 1)) ≤ 0) → pz_S 5 (some .int) am_r206 3 Q 26 [(0, .ref 154), (1, .int (Int32.ofInt 1)), (2, .int ((Int8.ofInt 20).toInt32)), (3, .int (b))] [] (am_wI h 154 8 (sp_ft τ s.1 (Int32.ofInt 1)))) from ⟨fun hz => absurd hz (rx_le x14), fun _ => ?_⟩)
    refine am_goX 5 (show 4 < 5 ∧ am_sh (am_wI h 154 8 (sp_ft τ s.1 (Int32.ofInt 1))) 154 = some (11, 0) ∧ pz_S 5 (some .int) am_r206 3 Q 43 [(4, .int (Int32.ofInt (-1))), (0, .ref 154), (1, .int (Int32.ofInt 1)), (2, .int ((Int8.ofInt 20).toInt32)), (3, .int (b))] [.int ((am_wI h 154 8 (sp_ft τ s.1 (Int32.ofInt 1))).1 154 8)] (am_wI h 154 8 (sp_ft τ s.1 (Int32.ofInt 1))) from ⟨by decide, ex_154 x14.1, ?_⟩)
    rw [x14.2.1.1]
    refine am_goX 1 (show (¬ (sp_ft τ s.1 (Int32.ofInt 1)) = 0 → pz_S 5 (some .int) am_r206 3 Q 64 [(4, .int (Int32.ofInt (-1))), (0, .ref 154), (1, .int (Int32.ofInt 1)), (2, .int ((Int8.ofInt 20).toInt32)), (3, .int (b))] [] (am_wI h 154 8 (sp_ft τ s.1 (Int32.ofInt 1)))) ∧ (¬ ¬ (sp_ft τ s.1 (Int32.ofInt 1)) = 0 → pz_S 5 (some .int) am_r206 3 Q 46 [(4, .int (Int32.ofInt (-1))), (0, .ref 154), (1, .int (Int32.ofInt 1)), (2, .int ((Int8.ofInt 20).toInt32)), (3, .int (b))] [] (am_wI h 154 8 (sp_ft τ s.1 (Int32.ofInt 1)))) from ⟨fun _ => ?_, fun hz => absurd (rx_ne x14) hz⟩)
    refine am_goX 2 (show am_sh (am_wI h 154 8 (sp_ft τ s.1 (Int32.ofInt 1))) 154 = some (11, 0) ∧ pz_S 5 (some .int) am_r206 3 Q 68 [(4, .int (Int32.ofInt (-1))), (0, .ref 154), (1, .int (Int32.ofInt 1)), (2, .int ((Int8.ofInt 20).toInt32)), (3, .int (b))] [.int ((am_wI h 154 8 (sp_ft τ s.1 (Int32.ofInt 1))).1 154 8)] (am_wI h 154 8 (sp_ft τ s.1 (Int32.ofInt 1))) from ⟨ex_154 x14.1, ?_⟩)
    rw [x14.2.1.1]
    refine am_goX 1 (show (¬ (sp_ft τ s.1 (Int32.ofInt 1)) = 0 → pz_S 5 (some .int) am_r206 3 Q 86 [(4, .int (Int32.ofInt (-1))), (0, .ref 154), (1, .int (Int32.ofInt 1)), (2, .int ((Int8.ofInt 20).toInt32)), (3, .int (b))] [] (am_wI h 154 8 (sp_ft τ s.1 (Int32.ofInt 1)))) ∧ (¬ ¬ (sp_ft τ s.1 (Int32.ofInt 1)) = 0 → pz_S 5 (some .int) am_r206 3 Q 71 [(4, .int (Int32.ofInt (-1))), (0, .ref 154), (1, .int (Int32.ofInt 1)), (2, .int ((Int8.ofInt 20).toInt32)), (3, .int (b))] [] (am_wI h 154 8 (sp_ft τ s.1 (Int32.ofInt 1)))) from ⟨fun _ => ?_, fun hz => absurd (rx_ne x14) hz⟩)
    refine am_goX 5 (show (Value.ref 154).category = 1 ∧ am_sh (am_wI h 154 8 (sp_ft τ s.1 (Int32.ofInt 1))) 154 = some (11, 0) ∧ am_sh (am_wI h 154 8 (sp_ft τ s.1 (Int32.ofInt 1))) 154 = some (11, 0) ∧ pz_S 5 (some .int) am_r206 3 Q 95 [(4, .int (Int32.ofInt (-1))), (0, .ref 154), (1, .int (Int32.ofInt 1)), (2, .int ((Int8.ofInt 20).toInt32)), (3, .int (b))] [.int ((am_wI h 154 8 (sp_ft τ s.1 (Int32.ofInt 1))).1 154 8), .int ((am_wI h 154 8 (sp_ft τ s.1 (Int32.ofInt 1))).1 154 7), .ref 154] (am_wI h 154 8 (sp_ft τ s.1 (Int32.ofInt 1))) from ⟨rfl, ex_154 x14.1, ex_154 x14.1, ?_⟩)
    rw [x14.2.1.1]
    refine am_goX 1 (show ((sp_ft τ s.1 (Int32.ofInt 1)) ≤ 0 → pz_S 5 (some .int) am_r206 3 Q 102 [(4, .int (Int32.ofInt (-1))), (0, .ref 154), (1, .int (Int32.ofInt 1)), (2, .int ((Int8.ofInt 20).toInt32)), (3, .int (b))] [.int ((am_wI h 154 8 (sp_ft τ s.1 (Int32.ofInt 1))).1 154 7), .ref 154] (am_wI h 154 8 (sp_ft τ s.1 (Int32.ofInt 1)))) ∧ (¬ ((sp_ft τ s.1 (Int32.ofInt 1)) ≤ 0) → pz_S 5 (some .int) am_r206 3 Q 98 [(4, .int (Int32.ofInt (-1))), (0, .ref 154), (1, .int (Int32.ofInt 1)), (2, .int ((Int8.ofInt 20).toInt32)), (3, .int (b))] [.int ((am_wI h 154 8 (sp_ft τ s.1 (Int32.ofInt 1))).1 154 7), .ref 154] (am_wI h 154 8 (sp_ft τ s.1 (Int32.ofInt 1)))) from ⟨fun hz => absurd hz (rx_le x14), fun _ => ?_⟩)
    refine am_goX 4 (show am_sh (am_wI h 154 8 (sp_ft τ s.1 (Int32.ofInt 1))) 154 = some (11, 0) ∧ narrow (am_fty 11 7) (.int ((((am_wI h 154 8 (sp_ft τ s.1 (Int32.ofInt 1))).1 154 7) + (Int32.ofInt 0)))) = .int ((((am_wI h 154 8 (sp_ft τ s.1 (Int32.ofInt 1))).1 154 7) + (Int32.ofInt 0))) ∧ fits (am_fty 11 7) (.int ((((am_wI h 154 8 (sp_ft τ s.1 (Int32.ofInt 1))).1 154 7) + (Int32.ofInt 0)))) = true ∧ pz_S 5 (some .int) am_r206 3 Q 107 [(4, .int (Int32.ofInt (-1))), (0, .ref 154), (1, .int (Int32.ofInt 1)), (2, .int ((Int8.ofInt 20).toInt32)), (3, .int (b))] [] (am_wI (am_wI h 154 8 (sp_ft τ s.1 (Int32.ofInt 1))) 154 7 ((((am_wI h 154 8 (sp_ft τ s.1 (Int32.ofInt 1))).1 154 7) + (Int32.ofInt 0)))) from ⟨ex_154 x14.1, rfl, rfl, ?_⟩)
    have x15 : rx h0 (sp_ft τ s.1 (Int32.ofInt 1)) (s.2.2.2.2.2.1 + z) (am_wI (am_wI h 154 8 (sp_ft τ s.1 (Int32.ofInt 1))) 154 7 ((((am_wI h 154 8 (sp_ft τ s.1 (Int32.ofInt 1))).1 154 7) + (Int32.ofInt 0)))) := rx_at x14
    refine am_goX 2 (show am_sh (am_wI (am_wI h 154 8 (sp_ft τ s.1 (Int32.ofInt 1))) 154 7 ((((am_wI h 154 8 (sp_ft τ s.1 (Int32.ofInt 1))).1 154 7) + (Int32.ofInt 0)))) 154 = some (11, 0) ∧ pz_S 5 (some .int) am_r206 3 Q 111 [(4, .int (Int32.ofInt (-1))), (0, .ref 154), (1, .int (Int32.ofInt 1)), (2, .int ((Int8.ofInt 20).toInt32)), (3, .int (b))] [.int ((am_wI (am_wI h 154 8 (sp_ft τ s.1 (Int32.ofInt 1))) 154 7 ((((am_wI h 154 8 (sp_ft τ s.1 (Int32.ofInt 1))).1 154 7) + (Int32.ofInt 0)))).1 154 8)] (am_wI (am_wI h 154 8 (sp_ft τ s.1 (Int32.ofInt 1))) 154 7 ((((am_wI h 154 8 (sp_ft τ s.1 (Int32.ofInt 1))).1 154 7) + (Int32.ofInt 0)))) from ⟨ex_154 x15.1, ?_⟩)
    rw [x15.2.1.1]
    refine am_goX 1 (show ((sp_ft τ s.1 (Int32.ofInt 1)) ≤ 0 → pz_S 5 (some .int) am_r206 3 Q 118 [(4, .int (Int32.ofInt (-1))), (0, .ref 154), (1, .int (Int32.ofInt 1)), (2, .int ((Int8.ofInt 20).toInt32)), (3, .int (b))] [] (am_wI (am_wI h 154 8 (sp_ft τ s.1 (Int32.ofInt 1))) 154 7 ((((am_wI h 154 8 (sp_ft τ s.1 (Int32.ofInt 1))).1 154 7) + (Int32.ofInt 0))))) ∧ (¬ ((sp_ft τ s.1 (Int32.ofInt 1)) ≤ 0) → pz_S 5 (some .int) am_r206 3 Q 114 [(4, .int (Int32.ofInt (-1))), (0, .ref 154), (1, .int (Int32.ofInt 1)), (2, .int ((Int8.ofInt 20).toInt32)), (3, .int (b))] [] (am_wI (am_wI h 154 8 (sp_ft τ s.1 (Int32.ofInt 1))) 154 7 ((((am_wI h 154 8 (sp_ft τ s.1 (Int32.ofInt 1))).1 154 7) + (Int32.ofInt 0))))) from ⟨fun hz => absurd hz (rx_le x15), fun _ => ?_⟩)
    exact am_goX 3 (show (∃ ty, (some .int) = some ty ∧ narrow ty (.int ((Int32.ofInt 0))) = .int ((Int32.ofInt 0))) ∧ (am_wI (am_wI h 154 8 (sp_ft τ s.1 (Int32.ofInt 1))) 154 7 ((((am_wI h 154 8 (sp_ft τ s.1 (Int32.ofInt 1))).1 154 7) + (Int32.ofInt 0)))).2.2.2.2 = 175 ∧ _ from ⟨⟨.int, rfl, rfl⟩, ex_175 x15.1, hF (sp_ft τ s.1 (Int32.ofInt 1)) _ (by simp only [tq_e, sp_b, sp_f, cond_true, cond_false, e8]) x15⟩)
theorem r_196p (hn : ¬ (τ s.1).1 = 0) (l : rr h0 z τ N s h) (hF : ∀ F h1, (bif Nat.ble 6 s.2.1.1 then sp_f τ s.1 (Int32.ofInt 5) else sp_fn τ (s.1 + 1, s.2)) = .inl F → rx h0 F (s.2.2.2.2.2.1 + z) h1 → Q none h1) (hS : ∀ x y h1, Nat.ble 6 s.2.1.1 = false → sp_fn τ (s.1 + 1, s.2) = .inr (s.1 + 1, s.2) → rr h0 z τ N (s.1 + 1 + 1, sp_cP s.2 (τ (s.1 + 1)).2.1 x y) h1 → Q none h1) : am_call am_cod 4 196 [.ref 154, .int (Int32.ofInt 0), .int (Int8.ofInt 6).toInt32, .int (Int32.ofInt 0)] h Q := by
  have hP := r_P l
  have hp6 : s.2.1.1 ≤ 6 := l.2.1.1.2.1
  have he5 : s.2.2.1.1 ≤ 5 := l.2.1.2.1.2.1
  refine pz_call (n := 196) (nL := 5) (rt := none) (rows := am_r196) (d := 3) (by decide +kernel) (by decide +kernel) rfl (by funext pc; rfl) (ex_175 hP) (by exact Nat.le_of_ble_eq_true rfl) ?_
  refine am_goX 2 (show am_sh h 154 = some (11, 0) ∧ pz_S 5 none am_r196 3 Q 4 [(0, .ref 154), (1, .int (Int32.ofInt 0)), (2, .int (Int8.ofInt 6).toInt32), (3, .int (Int32.ofInt 0))] [am_rf (h.2.2.1 154 10)] h from ⟨ex_154 (r_P l), ?_⟩)
  rw [ex_r154_10 (h := h) (r_P l)]
  refine am_goX 4 (show ∃ jj nn : Nat, am_sh h 160 = some (13, nn) ∧ jj < nn ∧ ((Int8.ofInt 40).toInt32 + (Int32.ofInt 0)) = nI jj ∧ pz_S 5 none am_r196 3 Q 9 [(0, .ref 154), (1, .int (Int32.ofInt 0)), (2, .int (Int8.ofInt 6).toInt32), (3, .int (Int32.ofInt 0))] [.int (h.1 160 jj)] h from ⟨40, 80, ex_160 (r_P l), (by decide), (by decide), ?_⟩)
  rw [show h.1 160 40 = nI s.2.1.1 from l.2.1.1.1]
  refine am_goX 3 (show 4 < 5 ∧ pz_S 5 none am_r196 3 Q 14 [(4, .int (nI s.2.1.1)), (0, .ref 154), (1, .int (Int32.ofInt 0)), (2, .int (Int8.ofInt 6).toInt32), (3, .int (Int32.ofInt 0))] [.int (Int8.ofInt 6).toInt32, .int (nI s.2.1.1)] h from ⟨by decide, ?_⟩)
  cases e0 : Nat.ble 6 s.2.1.1 with
  | true =>
    refine am_goX 1 (show (¬ (nI s.2.1.1) = (Int8.ofInt 6).toInt32 → pz_S 5 none am_r196 3 Q 23 [(4, .int (nI s.2.1.1)), (0, .ref 154), (1, .int (Int32.ofInt 0)), (2, .int (Int8.ofInt 6).toInt32), (3, .int (Int32.ofInt 0))] [] h) ∧ (¬ ¬ (nI s.2.1.1) = (Int8.ofInt 6).toInt32 → pz_S 5 none am_r196 3 Q 17 [(4, .int (nI s.2.1.1)), (0, .ref 154), (1, .int (Int32.ofInt 0)), (2, .int (Int8.ofInt 6).toInt32), (3, .int (Int32.ofInt 0))] [] h) from ⟨fun hz => absurd hz (fun w => w (by rw [show s.2.1.1 = 6 from Nat.le_antisymm (by omega) (Nat.le_of_ble_eq_true e0)]; decide)), fun _ => ?_⟩)
    refine am_goX 3 (show am_rc h 154 11 ∧ 0 ≤ 8 ∧ h.2.2.2.2 + am_al 197 ≤ 175 ∧ am_call am_cod 3 197 [.ref 154, .int (Int32.ofInt 5)] h (fun vv h' => pz_S 5 none am_r196 3 Q 22 [(4, .int (nI s.2.1.1)), (0, .ref 154), (1, .int (Int32.ofInt 0)), (2, .int (Int8.ofInt 6).toInt32), (3, .int (Int32.ofInt 0))] (vv.toList ++ []) h') from ⟨Or.inl ⟨by decide, ex_154 (r_P l)⟩, by decide, ex_lim (r_P l) rfl, am_call.up (r_197 l ?_) (by omega)⟩)
    have x16 : rx h0 (sp_ft τ s.1 (Int32.ofInt 5)) (s.2.2.2.2.2.1 + z) (am_wI h 154 8 (sp_ft τ s.1 (Int32.ofInt 5))) := rr_x (s := s) l (by decide)
    exact am_goX 1 (show (none : Option FieldType) = none ∧ (am_wI h 154 8 (sp_ft τ s.1 (Int32.ofInt 5))).2.2.2.2 = 175 ∧ _ from ⟨rfl, ex_175 x16.1, hF (sp_ft τ s.1 (Int32.ofInt 5)) _ (by simp only [sp_fn, sp_b, sp_f, cond_true, cond_false, e0]) x16⟩)
  | false =>
    refine am_goX 1 (show (¬ (nI s.2.1.1) = (Int8.ofInt 6).toInt32 → pz_S 5 none am_r196 3 Q 23 [(4, .int (nI s.2.1.1)), (0, .ref 154), (1, .int (Int32.ofInt 0)), (2, .int (Int8.ofInt 6).toInt32), (3, .int (Int32.ofInt 0))] [] h) ∧ (¬ ¬ (nI s.2.1.1) = (Int8.ofInt 6).toInt32 → pz_S 5 none am_r196 3 Q 17 [(4, .int (nI s.2.1.1)), (0, .ref 154), (1, .int (Int32.ofInt 0)), (2, .int (Int8.ofInt 6).toInt32), (3, .int (Int32.ofInt 0))] [] h) from ⟨fun _ => ?_, fun hz => absurd (fun w => by have h1 := j6n e0; have h2 := congrArg Int32.toInt w; rw [nI_toInt (by omega), show ((Int8.ofInt 6).toInt32 : Int32).toInt = 6 from rfl] at h2; omega) hz⟩)
    have hlt := j6n e0
    refine am_goX 6 (show (Value.ref 154).category = 1 ∧ am_sh h 154 = some (11, 0) ∧ am_sh h 154 = some (11, 0) ∧ narrow (am_fty 11 7) (.int (((h.1 154 7) + (Int32.ofInt 1)))) = .int (((h.1 154 7) + (Int32.ofInt 1))) ∧ fits (am_fty 11 7) (.int (((h.1 154 7) + (Int32.ofInt 1)))) = true ∧ pz_S 5 none am_r196 3 Q 33 [(4, .int (nI s.2.1.1)), (0, .ref 154), (1, .int (Int32.ofInt 0)), (2, .int (Int8.ofInt 6).toInt32), (3, .int (Int32.ofInt 0))] [] (am_wI h 154 7 (((h.1 154 7) + (Int32.ofInt 1)))) from ⟨rfl, ex_154 (r_P l), ex_154 (r_P l), rfl, rfl, ?_⟩)
    rw [r_a l, xw_i1]
    have l17 : rr h0 z τ N (s.1 + 1, s.2) (am_wI h 154 7 (nI (s.1 + 1))) := rr_nx (a := s.1) (C := s.2) l (hn)
    refine am_goX 2 (show am_rc (am_wI h 154 7 (nI (s.1 + 1))) 154 11 ∧ 0 ≤ 8 ∧ (am_wI h 154 7 (nI (s.1 + 1))).2.2.2.2 + am_al 198 ≤ 175 ∧ am_call am_cod 3 198 [.ref 154] (am_wI h 154 7 (nI (s.1 + 1))) (fun vv h' => pz_S 5 none am_r196 3 Q 37 [(4, .int (nI s.2.1.1)), (0, .ref 154), (1, .int (Int32.ofInt 0)), (2, .int (Int8.ofInt 6).toInt32), (3, .int (Int32.ofInt 0))] (vv.toList ++ []) h') from ⟨Or.inl ⟨by decide, ex_154 (r_P l17)⟩, by decide, ex_lim (r_P l17) rfl, am_call.up (r_198 l17 ?_) (by omega)⟩)
    cases e18 : sp_n τ (s.1 + 1) with
    | true =>
      refine am_goX 1 (show (¬ (pz_b (true)) = 0 → pz_S 5 none am_r196 3 Q 48 [(4, .int (nI s.2.1.1)), (0, .ref 154), (1, .int (Int32.ofInt 0)), (2, .int (Int8.ofInt 6).toInt32), (3, .int (Int32.ofInt 0))] [] (am_wI h 154 7 (nI (s.1 + 1)))) ∧ (¬ ¬ (pz_b (true)) = 0 → pz_S 5 none am_r196 3 Q 40 [(4, .int (nI s.2.1.1)), (0, .ref 154), (1, .int (Int32.ofInt 0)), (2, .int (Int8.ofInt 6).toInt32), (3, .int (Int32.ofInt 0))] [] (am_wI h 154 7 (nI (s.1 + 1)))) from ⟨fun _ => ?_, fun hz => absurd (by decide) hz⟩)
      refine am_goX 3 (show am_rc (am_wI h 154 7 (nI (s.1 + 1))) 154 11 ∧ 0 ≤ 8 ∧ (am_wI h 154 7 (nI (s.1 + 1))).2.2.2.2 + am_al 200 ≤ 175 ∧ am_call am_cod 3 200 [.ref 154, .int (Int32.ofInt 1)] (am_wI h 154 7 (nI (s.1 + 1))) (fun vv h' => pz_S 5 none am_r196 3 Q 53 [(4, .int (nI s.2.1.1)), (0, .ref 154), (1, .int (Int32.ofInt 0)), (2, .int (Int8.ofInt 6).toInt32), (3, .int (Int32.ofInt 0))] (vv.toList ++ []) h') from ⟨Or.inl ⟨by decide, ex_154 (r_P l17)⟩, by decide, ex_lim (r_P l17) rfl, am_call.up (r_200 (s := (s.1 + 1, s.2)) (sp_nn e18) l17 ?_) (by omega)⟩)
      cases e3 : (sp_pf s.2 (τ (s.1 + 1)).2.1).isSome || (sp_ef s.2 (τ (s.1 + 1)).2.1).isSome with
      | true =>
        refine am_goX 1 (show ((sp_na s.2 (τ (s.1 + 1)).2.1) < 0 → pz_S 5 none am_r196 3 Q 61 [(4, .int (nI s.2.1.1)), (0, .ref 154), (1, .int (Int32.ofInt 0)), (2, .int (Int8.ofInt 6).toInt32), (3, .int (Int32.ofInt 0))] [] (am_wI h 154 7 (nI (s.1 + 1)))) ∧ (¬ ((sp_na s.2 (τ (s.1 + 1)).2.1) < 0) → pz_S 5 none am_r196 3 Q 56 [(4, .int (nI s.2.1.1)), (0, .ref 154), (1, .int (Int32.ofInt 0)), (2, .int (Int8.ofInt 6).toInt32), (3, .int (Int32.ofInt 0))] [] (am_wI h 154 7 (nI (s.1 + 1)))) from ⟨fun hz => absurd hz (na_old hp6 he5 e3), fun _ => ?_⟩)
        refine am_goX 3 (show am_rc (am_wI h 154 7 (nI (s.1 + 1))) 154 11 ∧ 0 ≤ 8 ∧ (am_wI h 154 7 (nI (s.1 + 1))).2.2.2.2 + am_al 197 ≤ 175 ∧ am_call am_cod 3 197 [.ref 154, .int (Int32.ofInt 3)] (am_wI h 154 7 (nI (s.1 + 1))) (fun vv h' => pz_S 5 none am_r196 3 Q 61 [(4, .int (nI s.2.1.1)), (0, .ref 154), (1, .int (Int32.ofInt 0)), (2, .int (Int8.ofInt 6).toInt32), (3, .int (Int32.ofInt 0))] (vv.toList ++ []) h') from ⟨Or.inl ⟨by decide, ex_154 (r_P l17)⟩, by decide, ex_lim (r_P l17) rfl, am_call.up (r_197 l17 ?_) (by omega)⟩)
        have x19 : rx h0 (sp_ft τ (s.1 + 1) (Int32.ofInt 3)) (s.2.2.2.2.2.1 + z) (am_wI (am_wI h 154 7 (nI (s.1 + 1))) 154 8 (sp_ft τ (s.1 + 1) (Int32.ofInt 3))) := rr_x (s := (s.1 + 1, s.2)) l17 (by decide)
        refine am_goX 2 (show am_sh (am_wI (am_wI h 154 7 (nI (s.1 + 1))) 154 8 (sp_ft τ (s.1 + 1) (Int32.ofInt 3))) 154 = some (11, 0) ∧ pz_S 5 none am_r196 3 Q 65 [(4, .int (nI s.2.1.1)), (0, .ref 154), (1, .int (Int32.ofInt 0)), (2, .int (Int8.ofInt 6).toInt32), (3, .int (Int32.ofInt 0))] [.int ((am_wI (am_wI h 154 7 (nI (s.1 + 1))) 154 8 (sp_ft τ (s.1 + 1) (Int32.ofInt 3))).1 154 8)] (am_wI (am_wI h 154 7 (nI (s.1 + 1))) 154 8 (sp_ft τ (s.1 + 1) (Int32.ofInt 3))) from ⟨ex_154 x19.1, ?_⟩)
        rw [x19.2.1.1]
        refine am_goX 1 (show (¬ (sp_ft τ (s.1 + 1) (Int32.ofInt 3)) = 0 → pz_S 5 none am_r196 3 Q 132 [(4, .int (nI s.2.1.1)), (0, .ref 154), (1, .int (Int32.ofInt 0)), (2, .int (Int8.ofInt 6).toInt32), (3, .int (Int32.ofInt 0))] [] (am_wI (am_wI h 154 7 (nI (s.1 + 1))) 154 8 (sp_ft τ (s.1 + 1) (Int32.ofInt 3)))) ∧ (¬ ¬ (sp_ft τ (s.1 + 1) (Int32.ofInt 3)) = 0 → pz_S 5 none am_r196 3 Q 68 [(4, .int (nI s.2.1.1)), (0, .ref 154), (1, .int (Int32.ofInt 0)), (2, .int (Int8.ofInt 6).toInt32), (3, .int (Int32.ofInt 0))] [] (am_wI (am_wI h 154 7 (nI (s.1 + 1))) 154 8 (sp_ft τ (s.1 + 1) (Int32.ofInt 3)))) from ⟨fun _ => ?_, fun hz => absurd (rx_ne x19) hz⟩)
        exact am_goX 1 (show (none : Option FieldType) = none ∧ (am_wI (am_wI h 154 7 (nI (s.1 + 1))) 154 8 (sp_ft τ (s.1 + 1) (Int32.ofInt 3))).2.2.2.2 = 175 ∧ _ from ⟨rfl, ex_175 x19.1, hF (sp_ft τ (s.1 + 1) (Int32.ofInt 3)) _ (by simp only [sp_fn, sp_b, sp_f, cond_true, cond_false, e0, e18, e3]) x19⟩)
      | false =>
        obtain ⟨n1, n2, n3⟩ := na_new e3
        rw [n3]
        refine am_goX 1 (show ((Int32.ofInt (-1)) < 0 → pz_S 5 none am_r196 3 Q 61 [(4, .int (nI s.2.1.1)), (0, .ref 154), (1, .int (Int32.ofInt 0)), (2, .int (Int8.ofInt 6).toInt32), (3, .int (Int32.ofInt 0))] [] (am_wI h 154 7 (nI (s.1 + 1)))) ∧ (¬ ((Int32.ofInt (-1)) < 0) → pz_S 5 none am_r196 3 Q 56 [(4, .int (nI s.2.1.1)), (0, .ref 154), (1, .int (Int32.ofInt 0)), (2, .int (Int8.ofInt 6).toInt32), (3, .int (Int32.ofInt 0))] [] (am_wI h 154 7 (nI (s.1 + 1)))) from ⟨fun _ => ?_, fun hz => absurd (by decide) hz⟩)
        refine am_goX 2 (show am_sh (am_wI h 154 7 (nI (s.1 + 1))) 154 = some (11, 0) ∧ pz_S 5 none am_r196 3 Q 65 [(4, .int (nI s.2.1.1)), (0, .ref 154), (1, .int (Int32.ofInt 0)), (2, .int (Int8.ofInt 6).toInt32), (3, .int (Int32.ofInt 0))] [.int ((am_wI h 154 7 (nI (s.1 + 1))).1 154 8)] (am_wI h 154 7 (nI (s.1 + 1))) from ⟨ex_154 (r_P l17), ?_⟩)
        rw [r_f l17]
        refine am_goX 1 (show (¬ 0 = 0 → pz_S 5 none am_r196 3 Q 132 [(4, .int (nI s.2.1.1)), (0, .ref 154), (1, .int (Int32.ofInt 0)), (2, .int (Int8.ofInt 6).toInt32), (3, .int (Int32.ofInt 0))] [] (am_wI h 154 7 (nI (s.1 + 1)))) ∧ (¬ ¬ 0 = 0 → pz_S 5 none am_r196 3 Q 68 [(4, .int (nI s.2.1.1)), (0, .ref 154), (1, .int (Int32.ofInt 0)), (2, .int (Int8.ofInt 6).toInt32), (3, .int (Int32.ofInt 0))] [] (am_wI h 154 7 (nI (s.1 + 1)))) from ⟨fun hz => absurd hz (by decide), fun _ => ?_⟩)
        refine am_goX 2 (show am_sh (am_wI h 154 7 (nI (s.1 + 1))) 154 = some (11, 0) ∧ pz_S 5 none am_r196 3 Q 72 [(4, .int (nI s.2.1.1)), (0, .ref 154), (1, .int (Int32.ofInt 0)), (2, .int (Int8.ofInt 6).toInt32), (3, .int (Int32.ofInt 0))] [am_rf ((am_wI h 154 7 (nI (s.1 + 1))).2.2.1 154 15)] (am_wI h 154 7 (nI (s.1 + 1))) from ⟨ex_154 (r_P l17), ?_⟩)
        rw [ex_r154_15 (h := am_wI h 154 7 (nI (s.1 + 1))) (r_P l17)]
        refine am_goX 4 (show am_sh (am_wI h 154 7 (nI (s.1 + 1))) 154 = some (11, 0) ∧ am_sh (am_wI h 154 7 (nI (s.1 + 1))) 154 = some (11, 0) ∧ pz_S 5 none am_r196 3 Q 80 [(4, .int (nI s.2.1.1)), (0, .ref 154), (1, .int (Int32.ofInt 0)), (2, .int (Int8.ofInt 6).toInt32), (3, .int (Int32.ofInt 0))] [am_rf ((am_wI h 154 7 (nI (s.1 + 1))).2.2.1 154 6), .int ((am_wI h 154 7 (nI (s.1 + 1))).1 154 19), .ref 164] (am_wI h 154 7 (nI (s.1 + 1))) from ⟨ex_154 (r_P l17), ex_154 (r_P l17), ?_⟩)
        rw [ex_r154_6 (h := am_wI h 154 7 (nI (s.1 + 1))) (r_P l17)]
        refine am_goX 3 (show am_sh (am_wI h 154 7 (nI (s.1 + 1))) 154 = some (11, 0) ∧ ∃ jj nn : Nat, am_sh (am_wI h 154 7 (nI (s.1 + 1))) 158 = some (14, nn) ∧ jj < nn ∧ ((am_wI h 154 7 (nI (s.1 + 1))).1 154 7) = nI jj ∧ pz_S 5 none am_r196 3 Q 85 [(4, .int (nI s.2.1.1)), (0, .ref 154), (1, .int (Int32.ofInt 0)), (2, .int (Int8.ofInt 6).toInt32), (3, .int (Int32.ofInt 0))] [.long ((am_wI h 154 7 (nI (s.1 + 1))).2.1 158 jj), .int ((am_wI h 154 7 (nI (s.1 + 1))).1 154 19), .ref 164] (am_wI h 154 7 (nI (s.1 + 1))) from ⟨ex_154 (r_P l17), (s.1 + 1), 1002, ex_158 (r_P l17), (by have := r_N l17; first | omega | (dsimp only at this; omega) | (dsimp only at this ⊢; omega)), r_a l17, ?_⟩)
        rw [r_v l17 (sp_nn e18)]
        have eN : (am_wI h 154 7 (nI (s.1 + 1))).1 154 19 = nI (s.2.1.1 + s.2.2.1.1) := l17.2.1.2.2.2.2.2.2.1
        have eA : (am_wI h 154 7 (nI (s.1 + 1))).1 154 7 = nI (s.1 + 1) := r_a l17
        have eC : (am_wI h 154 7 (nI (s.1 + 1))).1 160 40 = nI s.2.1.1 := l17.2.1.1.1
        have hPx := r_P l17
        refine am_goX 1 (show ∃ jj nn : Nat, am_so (am_wI h 154 7 (nI (s.1 + 1))) 164 = some (14, nn) ∧ jj < nn ∧ ((am_wI h 154 7 (nI (s.1 + 1))).1 154 19) = nI jj ∧ pz_S 5 none am_r196 3 Q 86 [(4, .int (nI s.2.1.1)), (0, .ref 154), (1, .int (Int32.ofInt 0)), (2, .int (Int8.ofInt 6).toInt32), (3, .int (Int32.ofInt 0))] [] (am_wL (am_wI h 154 7 (nI (s.1 + 1))) 164 jj ((τ (s.1 + 1)).2.1)) from ⟨(s.2.1.1 + s.2.2.1.1), 11, ex_w164 hPx, (by omega), eN, ?_⟩)
        refine am_goX 2 (show am_sh (am_wL (am_wI h 154 7 (nI (s.1 + 1))) 164 (s.2.1.1 + s.2.2.1.1) ((τ (s.1 + 1)).2.1)) 154 = some (11, 0) ∧ pz_S 5 none am_r196 3 Q 90 [(4, .int (nI s.2.1.1)), (0, .ref 154), (1, .int (Int32.ofInt 0)), (2, .int (Int8.ofInt 6).toInt32), (3, .int (Int32.ofInt 0))] [am_rf ((am_wL (am_wI h 154 7 (nI (s.1 + 1))) 164 (s.2.1.1 + s.2.2.1.1) ((τ (s.1 + 1)).2.1)).2.2.1 154 17)] (am_wL (am_wI h 154 7 (nI (s.1 + 1))) 164 (s.2.1.1 + s.2.2.1.1) ((τ (s.1 + 1)).2.1)) from ⟨ex_154 hPx, ?_⟩)
        rw [ex_r154_17 (h := am_wL (am_wI h 154 7 (nI (s.1 + 1))) 164 (s.2.1.1 + s.2.2.1.1) ((τ (s.1 + 1)).2.1)) hPx]
        refine am_goX 6 (show am_sh (am_wL (am_wI h 154 7 (nI (s.1 + 1))) 164 (s.2.1.1 + s.2.2.1.1) ((τ (s.1 + 1)).2.1)) 154 = some (11, 0) ∧ ∃ jj nn : Nat, am_so (am_wL (am_wI h 154 7 (nI (s.1 + 1))) 164 (s.2.1.1 + s.2.2.1.1) ((τ (s.1 + 1)).2.1)) 166 = some (13, nn) ∧ jj < nn ∧ ((am_wL (am_wI h 154 7 (nI (s.1 + 1))) 164 (s.2.1.1 + s.2.2.1.1) ((τ (s.1 + 1)).2.1)).1 154 19) = nI jj ∧ pz_S 5 none am_r196 3 Q 99 [(4, .int (nI s.2.1.1)), (0, .ref 154), (1, .int (Int32.ofInt 0)), (2, .int (Int8.ofInt 6).toInt32), (3, .int (Int32.ofInt 0))] [] (am_wI (am_wL (am_wI h 154 7 (nI (s.1 + 1))) 164 (s.2.1.1 + s.2.2.1.1) ((τ (s.1 + 1)).2.1)) 166 jj (((Int32.ofInt 0) + (nI s.2.1.1)))) from ⟨ex_154 hPx, (s.2.1.1 + s.2.2.1.1), 11, ex_w166 hPx, (by omega), eN, ?_⟩)
        refine am_goX 6 (show (Value.ref 154).category = 1 ∧ am_sh (am_wI (am_wL (am_wI h 154 7 (nI (s.1 + 1))) 164 (s.2.1.1 + s.2.2.1.1) (τ (s.1 + 1)).2.1) 166 (s.2.1.1 + s.2.2.1.1) (Int32.ofInt 0 + nI s.2.1.1)) 154 = some (11, 0) ∧ am_sh (am_wI (am_wL (am_wI h 154 7 (nI (s.1 + 1))) 164 (s.2.1.1 + s.2.2.1.1) (τ (s.1 + 1)).2.1) 166 (s.2.1.1 + s.2.2.1.1) (Int32.ofInt 0 + nI s.2.1.1)) 154 = some (11, 0) ∧ narrow (am_fty 11 19) (.int ((((am_wI (am_wL (am_wI h 154 7 (nI (s.1 + 1))) 164 (s.2.1.1 + s.2.2.1.1) (τ (s.1 + 1)).2.1) 166 (s.2.1.1 + s.2.2.1.1) (Int32.ofInt 0 + nI s.2.1.1)).1 154 19) + (Int32.ofInt 1)))) = .int ((((am_wI (am_wL (am_wI h 154 7 (nI (s.1 + 1))) 164 (s.2.1.1 + s.2.2.1.1) (τ (s.1 + 1)).2.1) 166 (s.2.1.1 + s.2.2.1.1) (Int32.ofInt 0 + nI s.2.1.1)).1 154 19) + (Int32.ofInt 1))) ∧ fits (am_fty 11 19) (.int ((((am_wI (am_wL (am_wI h 154 7 (nI (s.1 + 1))) 164 (s.2.1.1 + s.2.2.1.1) (τ (s.1 + 1)).2.1) 166 (s.2.1.1 + s.2.2.1.1) (Int32.ofInt 0 + nI s.2.1.1)).1 154 19) + (Int32.ofInt 1)))) = true ∧ pz_S 5 none am_r196 3 Q 109 [(4, .int (nI s.2.1.1)), (0, .ref 154), (1, .int (Int32.ofInt 0)), (2, .int (Int8.ofInt 6).toInt32), (3, .int (Int32.ofInt 0))] [] (am_wI (am_wI (am_wL (am_wI h 154 7 (nI (s.1 + 1))) 164 (s.2.1.1 + s.2.2.1.1) (τ (s.1 + 1)).2.1) 166 (s.2.1.1 + s.2.2.1.1) (Int32.ofInt 0 + nI s.2.1.1)) 154 19 ((((am_wI (am_wL (am_wI h 154 7 (nI (s.1 + 1))) 164 (s.2.1.1 + s.2.2.1.1) (τ (s.1 + 1)).2.1) 166 (s.2.1.1 + s.2.2.1.1) (Int32.ofInt 0 + nI s.2.1.1)).1 154 19) + (Int32.ofInt 1)))) from ⟨rfl, ex_154 hPx, ex_154 hPx, rfl, rfl, ?_⟩)
        rw [show (am_wI (am_wL (am_wI h 154 7 (nI (s.1 + 1))) 164 (s.2.1.1 + s.2.2.1.1) (τ (s.1 + 1)).2.1) 166 (s.2.1.1 + s.2.2.1.1) (Int32.ofInt 0 + nI s.2.1.1)).1 154 19 = nI (s.2.1.1 + s.2.2.1.1) from (em_wn _ _ (by omega)).trans eN, xw_i1]
        refine am_goX 6 (show (Value.ref 154).category = 1 ∧ am_sh (am_wI (am_wI (am_wL (am_wI h 154 7 (nI (s.1 + 1))) 164 (s.2.1.1 + s.2.2.1.1) (τ (s.1 + 1)).2.1) 166 (s.2.1.1 + s.2.2.1.1) (Int32.ofInt 0 + nI s.2.1.1)) 154 19 (nI (s.2.1.1 + s.2.2.1.1 + 1))) 154 = some (11, 0) ∧ am_sh (am_wI (am_wI (am_wL (am_wI h 154 7 (nI (s.1 + 1))) 164 (s.2.1.1 + s.2.2.1.1) (τ (s.1 + 1)).2.1) 166 (s.2.1.1 + s.2.2.1.1) (Int32.ofInt 0 + nI s.2.1.1)) 154 19 (nI (s.2.1.1 + s.2.2.1.1 + 1))) 154 = some (11, 0) ∧ narrow (am_fty 11 7) (.int ((((am_wI (am_wI (am_wL (am_wI h 154 7 (nI (s.1 + 1))) 164 (s.2.1.1 + s.2.2.1.1) (τ (s.1 + 1)).2.1) 166 (s.2.1.1 + s.2.2.1.1) (Int32.ofInt 0 + nI s.2.1.1)) 154 19 (nI (s.2.1.1 + s.2.2.1.1 + 1))).1 154 7) + (Int32.ofInt 1)))) = .int ((((am_wI (am_wI (am_wL (am_wI h 154 7 (nI (s.1 + 1))) 164 (s.2.1.1 + s.2.2.1.1) (τ (s.1 + 1)).2.1) 166 (s.2.1.1 + s.2.2.1.1) (Int32.ofInt 0 + nI s.2.1.1)) 154 19 (nI (s.2.1.1 + s.2.2.1.1 + 1))).1 154 7) + (Int32.ofInt 1))) ∧ fits (am_fty 11 7) (.int ((((am_wI (am_wI (am_wL (am_wI h 154 7 (nI (s.1 + 1))) 164 (s.2.1.1 + s.2.2.1.1) (τ (s.1 + 1)).2.1) 166 (s.2.1.1 + s.2.2.1.1) (Int32.ofInt 0 + nI s.2.1.1)) 154 19 (nI (s.2.1.1 + s.2.2.1.1 + 1))).1 154 7) + (Int32.ofInt 1)))) = true ∧ pz_S 5 none am_r196 3 Q 119 [(4, .int (nI s.2.1.1)), (0, .ref 154), (1, .int (Int32.ofInt 0)), (2, .int (Int8.ofInt 6).toInt32), (3, .int (Int32.ofInt 0))] [] (am_wI (am_wI (am_wI (am_wL (am_wI h 154 7 (nI (s.1 + 1))) 164 (s.2.1.1 + s.2.2.1.1) (τ (s.1 + 1)).2.1) 166 (s.2.1.1 + s.2.2.1.1) (Int32.ofInt 0 + nI s.2.1.1)) 154 19 (nI (s.2.1.1 + s.2.2.1.1 + 1))) 154 7 ((((am_wI (am_wI (am_wL (am_wI h 154 7 (nI (s.1 + 1))) 164 (s.2.1.1 + s.2.2.1.1) (τ (s.1 + 1)).2.1) 166 (s.2.1.1 + s.2.2.1.1) (Int32.ofInt 0 + nI s.2.1.1)) 154 19 (nI (s.2.1.1 + s.2.2.1.1 + 1))).1 154 7) + (Int32.ofInt 1)))) from ⟨rfl, ex_154 hPx, ex_154 hPx, rfl, rfl, ?_⟩)
        rw [show (am_wI (am_wI (am_wL (am_wI h 154 7 (nI (s.1 + 1))) 164 (s.2.1.1 + s.2.2.1.1) (τ (s.1 + 1)).2.1) 166 (s.2.1.1 + s.2.2.1.1) (Int32.ofInt 0 + nI s.2.1.1)) 154 19 (nI (s.2.1.1 + s.2.2.1.1 + 1))).1 154 7 = nI (s.1 + 1) from (em_wn _ _ (by omega)).trans ((em_wn _ _ (by omega)).trans eA), xw_i1]
        refine am_goX 2 (show am_sh (am_wI (am_wI (am_wI (am_wL (am_wI h 154 7 (nI (s.1 + 1))) 164 (s.2.1.1 + s.2.2.1.1) (τ (s.1 + 1)).2.1) 166 (s.2.1.1 + s.2.2.1.1) (Int32.ofInt 0 + nI s.2.1.1)) 154 19 (nI (s.2.1.1 + s.2.2.1.1 + 1))) 154 7 (nI (s.1 + 1 + 1))) 154 = some (11, 0) ∧ pz_S 5 none am_r196 3 Q 123 [(4, .int (nI s.2.1.1)), (0, .ref 154), (1, .int (Int32.ofInt 0)), (2, .int (Int8.ofInt 6).toInt32), (3, .int (Int32.ofInt 0))] [am_rf ((am_wI (am_wI (am_wI (am_wL (am_wI h 154 7 (nI (s.1 + 1))) 164 (s.2.1.1 + s.2.2.1.1) (τ (s.1 + 1)).2.1) 166 (s.2.1.1 + s.2.2.1.1) (Int32.ofInt 0 + nI s.2.1.1)) 154 19 (nI (s.2.1.1 + s.2.2.1.1 + 1))) 154 7 (nI (s.1 + 1 + 1))).2.2.1 154 10)] (am_wI (am_wI (am_wI (am_wL (am_wI h 154 7 (nI (s.1 + 1))) 164 (s.2.1.1 + s.2.2.1.1) (τ (s.1 + 1)).2.1) 166 (s.2.1.1 + s.2.2.1.1) (Int32.ofInt 0 + nI s.2.1.1)) 154 19 (nI (s.2.1.1 + s.2.2.1.1 + 1))) 154 7 (nI (s.1 + 1 + 1))) from ⟨ex_154 hPx, ?_⟩)
        rw [ex_r154_10 (h := am_wI (am_wI (am_wI (am_wL (am_wI h 154 7 (nI (s.1 + 1))) 164 (s.2.1.1 + s.2.2.1.1) (τ (s.1 + 1)).2.1) 166 (s.2.1.1 + s.2.2.1.1) (Int32.ofInt 0 + nI s.2.1.1)) 154 19 (nI (s.2.1.1 + s.2.2.1.1 + 1))) 154 7 (nI (s.1 + 1 + 1))) hPx]
        refine am_goX 5 (show (Value.int ((Int8.ofInt 40).toInt32 + (Int32.ofInt 0))).category = 1 ∧ (Value.ref 160).category = 1 ∧ ∃ jj nn : Nat, am_sh (am_wI (am_wI (am_wI (am_wL (am_wI h 154 7 (nI (s.1 + 1))) 164 (s.2.1.1 + s.2.2.1.1) (τ (s.1 + 1)).2.1) 166 (s.2.1.1 + s.2.2.1.1) (Int32.ofInt 0 + nI s.2.1.1)) 154 19 (nI (s.2.1.1 + s.2.2.1.1 + 1))) 154 7 (nI (s.1 + 1 + 1))) 160 = some (13, nn) ∧ jj < nn ∧ ((Int8.ofInt 40).toInt32 + (Int32.ofInt 0)) = nI jj ∧ pz_S 5 none am_r196 3 Q 129 [(4, .int (nI s.2.1.1)), (0, .ref 154), (1, .int (Int32.ofInt 0)), (2, .int (Int8.ofInt 6).toInt32), (3, .int (Int32.ofInt 0))] [.int ((am_wI (am_wI (am_wI (am_wL (am_wI h 154 7 (nI (s.1 + 1))) 164 (s.2.1.1 + s.2.2.1.1) (τ (s.1 + 1)).2.1) 166 (s.2.1.1 + s.2.2.1.1) (Int32.ofInt 0 + nI s.2.1.1)) 154 19 (nI (s.2.1.1 + s.2.2.1.1 + 1))) 154 7 (nI (s.1 + 1 + 1))).1 160 jj), .int ((Int8.ofInt 40).toInt32 + (Int32.ofInt 0)), .ref 160] (am_wI (am_wI (am_wI (am_wL (am_wI h 154 7 (nI (s.1 + 1))) 164 (s.2.1.1 + s.2.2.1.1) (τ (s.1 + 1)).2.1) 166 (s.2.1.1 + s.2.2.1.1) (Int32.ofInt 0 + nI s.2.1.1)) 154 19 (nI (s.2.1.1 + s.2.2.1.1 + 1))) 154 7 (nI (s.1 + 1 + 1))) from ⟨rfl, rfl, 40, 80, ex_160 hPx, (by decide), (by decide), ?_⟩)
        rw [show (am_wI (am_wI (am_wI (am_wL (am_wI h 154 7 (nI (s.1 + 1))) 164 (s.2.1.1 + s.2.2.1.1) (τ (s.1 + 1)).2.1) 166 (s.2.1.1 + s.2.2.1.1) (Int32.ofInt 0 + nI s.2.1.1)) 154 19 (nI (s.2.1.1 + s.2.2.1.1 + 1))) 154 7 (nI (s.1 + 1 + 1))).1 160 40 = nI s.2.1.1 from (em_wn _ _ (by omega)).trans ((em_wn _ _ (by omega)).trans ((em_wn _ _ (by omega)).trans eC))]
        refine am_goX 3 (show ∃ jj nn : Nat, am_so (am_wI (am_wI (am_wI (am_wL (am_wI h 154 7 (nI (s.1 + 1))) 164 (s.2.1.1 + s.2.2.1.1) (τ (s.1 + 1)).2.1) 166 (s.2.1.1 + s.2.2.1.1) (Int32.ofInt 0 + nI s.2.1.1)) 154 19 (nI (s.2.1.1 + s.2.2.1.1 + 1))) 154 7 (nI (s.1 + 1 + 1))) 160 = some (13, nn) ∧ jj < nn ∧ ((Int8.ofInt 40).toInt32 + (Int32.ofInt 0)) = nI jj ∧ pz_S 5 none am_r196 3 Q 132 [(4, .int (nI s.2.1.1)), (0, .ref 154), (1, .int (Int32.ofInt 0)), (2, .int (Int8.ofInt 6).toInt32), (3, .int (Int32.ofInt 0))] [] (am_wI (am_wI (am_wI (am_wI (am_wL (am_wI h 154 7 (nI (s.1 + 1))) 164 (s.2.1.1 + s.2.2.1.1) (τ (s.1 + 1)).2.1) 166 (s.2.1.1 + s.2.2.1.1) (Int32.ofInt 0 + nI s.2.1.1)) 154 19 (nI (s.2.1.1 + s.2.2.1.1 + 1))) 154 7 (nI (s.1 + 1 + 1))) 160 jj (((nI s.2.1.1) + (Int32.ofInt 1)))) from ⟨40, 80, ex_w160 hPx, (by decide), (by decide), ?_⟩)
        rw [xw_i1]
        have l20 : rr h0 z τ N (s.1 + 1 + 1, sp_cP s.2 (τ (s.1 + 1)).2.1 ((am_wI h 154 7 (nI (s.1 + 1))).1 160 (44 + 3 * s.2.1.1)) ((am_wI h 154 7 (nI (s.1 + 1))).1 160 (45 + 3 * s.2.1.1))) (am_wI (am_wI (am_wI (am_wI (am_wL (am_wI h 154 7 (nI (s.1 + 1))) 164 (s.2.1.1 + s.2.2.1.1) (τ (s.1 + 1)).2.1) 166 (s.2.1.1 + s.2.2.1.1) (Int32.ofInt 0 + nI s.2.1.1)) 154 19 (nI (s.2.1.1 + s.2.2.1.1 + 1))) 154 7 (nI (s.1 + 1 + 1))) 160 40 (nI (s.2.1.1 + 1))) := rr_nP (a := s.1 + 1) (C := s.2) l17 (sp_nn e18) hlt n1 n2
        exact am_goX 1 (show (none : Option FieldType) = none ∧ (am_wI (am_wI (am_wI (am_wI (am_wL (am_wI h 154 7 (nI (s.1 + 1))) 164 (s.2.1.1 + s.2.2.1.1) (τ (s.1 + 1)).2.1) 166 (s.2.1.1 + s.2.2.1.1) (Int32.ofInt 0 + nI s.2.1.1)) 154 19 (nI (s.2.1.1 + s.2.2.1.1 + 1))) 154 7 (nI (s.1 + 1 + 1))) 160 40 (nI (s.2.1.1 + 1))).2.2.2.2 = 175 ∧ _ from ⟨rfl, ex_175 hPx, hS _ _ _ e0 (by simp only [sp_fn, sp_b, sp_f, cond_true, cond_false, e0, e18, e3]) l20⟩)
    | false =>
      refine am_goX 1 (show (¬ (pz_b (false)) = 0 → pz_S 5 none am_r196 3 Q 48 [(4, .int (nI s.2.1.1)), (0, .ref 154), (1, .int (Int32.ofInt 0)), (2, .int (Int8.ofInt 6).toInt32), (3, .int (Int32.ofInt 0))] [] (am_wI h 154 7 (nI (s.1 + 1)))) ∧ (¬ ¬ (pz_b (false)) = 0 → pz_S 5 none am_r196 3 Q 40 [(4, .int (nI s.2.1.1)), (0, .ref 154), (1, .int (Int32.ofInt 0)), (2, .int (Int8.ofInt 6).toInt32), (3, .int (Int32.ofInt 0))] [] (am_wI h 154 7 (nI (s.1 + 1)))) from ⟨fun hz => absurd hz (by decide), fun _ => ?_⟩)
      refine am_goX 3 (show am_rc (am_wI h 154 7 (nI (s.1 + 1))) 154 11 ∧ 0 ≤ 8 ∧ (am_wI h 154 7 (nI (s.1 + 1))).2.2.2.2 + am_al 197 ≤ 175 ∧ am_call am_cod 3 197 [.ref 154, .int (Int32.ofInt 1)] (am_wI h 154 7 (nI (s.1 + 1))) (fun vv h' => pz_S 5 none am_r196 3 Q 45 [(4, .int (nI s.2.1.1)), (0, .ref 154), (1, .int (Int32.ofInt 0)), (2, .int (Int8.ofInt 6).toInt32), (3, .int (Int32.ofInt 0))] (vv.toList ++ []) h') from ⟨Or.inl ⟨by decide, ex_154 (r_P l17)⟩, by decide, ex_lim (r_P l17) rfl, am_call.up (r_197 l17 ?_) (by omega)⟩)
      have x21 : rx h0 (sp_ft τ (s.1 + 1) (Int32.ofInt 1)) (s.2.2.2.2.2.1 + z) (am_wI (am_wI h 154 7 (nI (s.1 + 1))) 154 8 (sp_ft τ (s.1 + 1) (Int32.ofInt 1))) := rr_x (s := (s.1 + 1, s.2)) l17 (by decide)
      refine am_goX 3 (show am_sh (am_wI (am_wI h 154 7 (nI (s.1 + 1))) 154 8 (sp_ft τ (s.1 + 1) (Int32.ofInt 1))) 154 = some (11, 0) ∧ pz_S 5 none am_r196 3 Q 65 [(4, .int (nI s.2.1.1)), (0, .ref 154), (1, .int (Int32.ofInt 0)), (2, .int (Int8.ofInt 6).toInt32), (3, .int (Int32.ofInt 0))] [.int ((am_wI (am_wI h 154 7 (nI (s.1 + 1))) 154 8 (sp_ft τ (s.1 + 1) (Int32.ofInt 1))).1 154 8)] (am_wI (am_wI h 154 7 (nI (s.1 + 1))) 154 8 (sp_ft τ (s.1 + 1) (Int32.ofInt 1))) from ⟨ex_154 x21.1, ?_⟩)
      rw [x21.2.1.1]
      refine am_goX 1 (show (¬ (sp_ft τ (s.1 + 1) (Int32.ofInt 1)) = 0 → pz_S 5 none am_r196 3 Q 132 [(4, .int (nI s.2.1.1)), (0, .ref 154), (1, .int (Int32.ofInt 0)), (2, .int (Int8.ofInt 6).toInt32), (3, .int (Int32.ofInt 0))] [] (am_wI (am_wI h 154 7 (nI (s.1 + 1))) 154 8 (sp_ft τ (s.1 + 1) (Int32.ofInt 1)))) ∧ (¬ ¬ (sp_ft τ (s.1 + 1) (Int32.ofInt 1)) = 0 → pz_S 5 none am_r196 3 Q 68 [(4, .int (nI s.2.1.1)), (0, .ref 154), (1, .int (Int32.ofInt 0)), (2, .int (Int8.ofInt 6).toInt32), (3, .int (Int32.ofInt 0))] [] (am_wI (am_wI h 154 7 (nI (s.1 + 1))) 154 8 (sp_ft τ (s.1 + 1) (Int32.ofInt 1)))) from ⟨fun _ => ?_, fun hz => absurd (rx_ne x21) hz⟩)
      exact am_goX 1 (show (none : Option FieldType) = none ∧ (am_wI (am_wI h 154 7 (nI (s.1 + 1))) 154 8 (sp_ft τ (s.1 + 1) (Int32.ofInt 1))).2.2.2.2 = 175 ∧ _ from ⟨rfl, ex_175 x21.1, hF (sp_ft τ (s.1 + 1) (Int32.ofInt 1)) _ (by simp only [sp_fn, sp_b, sp_f, cond_true, cond_false, e0, e18]) x21⟩)
theorem r_196e (hn : ¬ (τ s.1).1 = 0) (l : rr h0 z τ N s h) (hF : ∀ F h1, (bif Nat.ble 5 s.2.2.1.1 then sp_f τ s.1 (Int32.ofInt 5) else sp_fn τ (s.1 + 1, s.2)) = .inl F → rx h0 F (s.2.2.2.2.2.1 + z) h1 → Q none h1) (hS : ∀ x y h1, Nat.ble 5 s.2.2.1.1 = false → sp_fn τ (s.1 + 1, s.2) = .inr (s.1 + 1, s.2) → rr h0 z τ N (s.1 + 1 + 1, sp_cE s.2 (τ (s.1 + 1)).2.1 x y) h1 → Q none h1) : am_call am_cod 4 196 [.ref 154, .int (Int32.ofInt 1), .int (Int32.ofInt 5), .int (Int8.ofInt 20).toInt32] h Q := by
  have hP := r_P l
  have hp6 : s.2.1.1 ≤ 6 := l.2.1.1.2.1
  have he5 : s.2.2.1.1 ≤ 5 := l.2.1.2.1.2.1
  refine pz_call (n := 196) (nL := 5) (rt := none) (rows := am_r196) (d := 3) (by decide +kernel) (by decide +kernel) rfl (by funext pc; rfl) (ex_175 hP) (by exact Nat.le_of_ble_eq_true rfl) ?_
  refine am_goX 2 (show am_sh h 154 = some (11, 0) ∧ pz_S 5 none am_r196 3 Q 4 [(0, .ref 154), (1, .int (Int32.ofInt 1)), (2, .int (Int32.ofInt 5)), (3, .int (Int8.ofInt 20).toInt32)] [am_rf (h.2.2.1 154 10)] h from ⟨ex_154 (r_P l), ?_⟩)
  rw [ex_r154_10 (h := h) (r_P l)]
  refine am_goX 4 (show ∃ jj nn : Nat, am_sh h 160 = some (13, nn) ∧ jj < nn ∧ ((Int8.ofInt 40).toInt32 + (Int32.ofInt 1)) = nI jj ∧ pz_S 5 none am_r196 3 Q 9 [(0, .ref 154), (1, .int (Int32.ofInt 1)), (2, .int (Int32.ofInt 5)), (3, .int (Int8.ofInt 20).toInt32)] [.int (h.1 160 jj)] h from ⟨41, 80, ex_160 (r_P l), (by decide), (by decide), ?_⟩)
  rw [show h.1 160 41 = nI s.2.2.1.1 from l.2.1.2.1.1]
  refine am_goX 3 (show 4 < 5 ∧ pz_S 5 none am_r196 3 Q 14 [(4, .int (nI s.2.2.1.1)), (0, .ref 154), (1, .int (Int32.ofInt 1)), (2, .int (Int32.ofInt 5)), (3, .int (Int8.ofInt 20).toInt32)] [.int (Int32.ofInt 5), .int (nI s.2.2.1.1)] h from ⟨by decide, ?_⟩)
  cases e0 : Nat.ble 5 s.2.2.1.1 with
  | true =>
    refine am_goX 1 (show (¬ (nI s.2.2.1.1) = (Int32.ofInt 5) → pz_S 5 none am_r196 3 Q 23 [(4, .int (nI s.2.2.1.1)), (0, .ref 154), (1, .int (Int32.ofInt 1)), (2, .int (Int32.ofInt 5)), (3, .int (Int8.ofInt 20).toInt32)] [] h) ∧ (¬ ¬ (nI s.2.2.1.1) = (Int32.ofInt 5) → pz_S 5 none am_r196 3 Q 17 [(4, .int (nI s.2.2.1.1)), (0, .ref 154), (1, .int (Int32.ofInt 1)), (2, .int (Int32.ofInt 5)), (3, .int (Int8.ofInt 20).toInt32)] [] h) from ⟨fun hz => absurd hz (fun w => w (by rw [show s.2.2.1.1 = 5 from Nat.le_antisymm (by omega) (Nat.le_of_ble_eq_true e0)]; decide)), fun _ => ?_⟩)
    refine am_goX 3 (show am_rc h 154 11 ∧ 0 ≤ 8 ∧ h.2.2.2.2 + am_al 197 ≤ 175 ∧ am_call am_cod 3 197 [.ref 154, .int (Int32.ofInt 5)] h (fun vv h' => pz_S 5 none am_r196 3 Q 22 [(4, .int (nI s.2.2.1.1)), (0, .ref 154), (1, .int (Int32.ofInt 1)), (2, .int (Int32.ofInt 5)), (3, .int (Int8.ofInt 20).toInt32)] (vv.toList ++ []) h') from ⟨Or.inl ⟨by decide, ex_154 (r_P l)⟩, by decide, ex_lim (r_P l) rfl, am_call.up (r_197 l ?_) (by omega)⟩)
    have x22 : rx h0 (sp_ft τ s.1 (Int32.ofInt 5)) (s.2.2.2.2.2.1 + z) (am_wI h 154 8 (sp_ft τ s.1 (Int32.ofInt 5))) := rr_x (s := s) l (by decide)
    exact am_goX 1 (show (none : Option FieldType) = none ∧ (am_wI h 154 8 (sp_ft τ s.1 (Int32.ofInt 5))).2.2.2.2 = 175 ∧ _ from ⟨rfl, ex_175 x22.1, hF (sp_ft τ s.1 (Int32.ofInt 5)) _ (by simp only [sp_fn, sp_b, sp_f, cond_true, cond_false, e0]) x22⟩)
  | false =>
    refine am_goX 1 (show (¬ (nI s.2.2.1.1) = (Int32.ofInt 5) → pz_S 5 none am_r196 3 Q 23 [(4, .int (nI s.2.2.1.1)), (0, .ref 154), (1, .int (Int32.ofInt 1)), (2, .int (Int32.ofInt 5)), (3, .int (Int8.ofInt 20).toInt32)] [] h) ∧ (¬ ¬ (nI s.2.2.1.1) = (Int32.ofInt 5) → pz_S 5 none am_r196 3 Q 17 [(4, .int (nI s.2.2.1.1)), (0, .ref 154), (1, .int (Int32.ofInt 1)), (2, .int (Int32.ofInt 5)), (3, .int (Int8.ofInt 20).toInt32)] [] h) from ⟨fun _ => ?_, fun hz => absurd (fun w => by have h1 := j5n e0; have h2 := congrArg Int32.toInt w; rw [nI_toInt (by omega), show (Int32.ofInt 5 : Int32).toInt = 5 from rfl] at h2; omega) hz⟩)
    have hlt := j5n e0
    refine am_goX 6 (show (Value.ref 154).category = 1 ∧ am_sh h 154 = some (11, 0) ∧ am_sh h 154 = some (11, 0) ∧ narrow (am_fty 11 7) (.int (((h.1 154 7) + (Int32.ofInt 1)))) = .int (((h.1 154 7) + (Int32.ofInt 1))) ∧ fits (am_fty 11 7) (.int (((h.1 154 7) + (Int32.ofInt 1)))) = true ∧ pz_S 5 none am_r196 3 Q 33 [(4, .int (nI s.2.2.1.1)), (0, .ref 154), (1, .int (Int32.ofInt 1)), (2, .int (Int32.ofInt 5)), (3, .int (Int8.ofInt 20).toInt32)] [] (am_wI h 154 7 (((h.1 154 7) + (Int32.ofInt 1)))) from ⟨rfl, ex_154 (r_P l), ex_154 (r_P l), rfl, rfl, ?_⟩)
    rw [r_a l, xw_i1]
    have l23 : rr h0 z τ N (s.1 + 1, s.2) (am_wI h 154 7 (nI (s.1 + 1))) := rr_nx (a := s.1) (C := s.2) l (hn)
    refine am_goX 2 (show am_rc (am_wI h 154 7 (nI (s.1 + 1))) 154 11 ∧ 0 ≤ 8 ∧ (am_wI h 154 7 (nI (s.1 + 1))).2.2.2.2 + am_al 198 ≤ 175 ∧ am_call am_cod 3 198 [.ref 154] (am_wI h 154 7 (nI (s.1 + 1))) (fun vv h' => pz_S 5 none am_r196 3 Q 37 [(4, .int (nI s.2.2.1.1)), (0, .ref 154), (1, .int (Int32.ofInt 1)), (2, .int (Int32.ofInt 5)), (3, .int (Int8.ofInt 20).toInt32)] (vv.toList ++ []) h') from ⟨Or.inl ⟨by decide, ex_154 (r_P l23)⟩, by decide, ex_lim (r_P l23) rfl, am_call.up (r_198 l23 ?_) (by omega)⟩)
    cases e24 : sp_n τ (s.1 + 1) with
    | true =>
      refine am_goX 1 (show (¬ (pz_b (true)) = 0 → pz_S 5 none am_r196 3 Q 48 [(4, .int (nI s.2.2.1.1)), (0, .ref 154), (1, .int (Int32.ofInt 1)), (2, .int (Int32.ofInt 5)), (3, .int (Int8.ofInt 20).toInt32)] [] (am_wI h 154 7 (nI (s.1 + 1)))) ∧ (¬ ¬ (pz_b (true)) = 0 → pz_S 5 none am_r196 3 Q 40 [(4, .int (nI s.2.2.1.1)), (0, .ref 154), (1, .int (Int32.ofInt 1)), (2, .int (Int32.ofInt 5)), (3, .int (Int8.ofInt 20).toInt32)] [] (am_wI h 154 7 (nI (s.1 + 1)))) from ⟨fun _ => ?_, fun hz => absurd (by decide) hz⟩)
      refine am_goX 3 (show am_rc (am_wI h 154 7 (nI (s.1 + 1))) 154 11 ∧ 0 ≤ 8 ∧ (am_wI h 154 7 (nI (s.1 + 1))).2.2.2.2 + am_al 200 ≤ 175 ∧ am_call am_cod 3 200 [.ref 154, .int (Int32.ofInt 1)] (am_wI h 154 7 (nI (s.1 + 1))) (fun vv h' => pz_S 5 none am_r196 3 Q 53 [(4, .int (nI s.2.2.1.1)), (0, .ref 154), (1, .int (Int32.ofInt 1)), (2, .int (Int32.ofInt 5)), (3, .int (Int8.ofInt 20).toInt32)] (vv.toList ++ []) h') from ⟨Or.inl ⟨by decide, ex_154 (r_P l23)⟩, by decide, ex_lim (r_P l23) rfl, am_call.up (r_200 (s := (s.1 + 1, s.2)) (sp_nn e24) l23 ?_) (by omega)⟩)
      cases e3 : (sp_pf s.2 (τ (s.1 + 1)).2.1).isSome || (sp_ef s.2 (τ (s.1 + 1)).2.1).isSome with
      | true =>
        refine am_goX 1 (show ((sp_na s.2 (τ (s.1 + 1)).2.1) < 0 → pz_S 5 none am_r196 3 Q 61 [(4, .int (nI s.2.2.1.1)), (0, .ref 154), (1, .int (Int32.ofInt 1)), (2, .int (Int32.ofInt 5)), (3, .int (Int8.ofInt 20).toInt32)] [] (am_wI h 154 7 (nI (s.1 + 1)))) ∧ (¬ ((sp_na s.2 (τ (s.1 + 1)).2.1) < 0) → pz_S 5 none am_r196 3 Q 56 [(4, .int (nI s.2.2.1.1)), (0, .ref 154), (1, .int (Int32.ofInt 1)), (2, .int (Int32.ofInt 5)), (3, .int (Int8.ofInt 20).toInt32)] [] (am_wI h 154 7 (nI (s.1 + 1)))) from ⟨fun hz => absurd hz (na_old hp6 he5 e3), fun _ => ?_⟩)
        refine am_goX 3 (show am_rc (am_wI h 154 7 (nI (s.1 + 1))) 154 11 ∧ 0 ≤ 8 ∧ (am_wI h 154 7 (nI (s.1 + 1))).2.2.2.2 + am_al 197 ≤ 175 ∧ am_call am_cod 3 197 [.ref 154, .int (Int32.ofInt 3)] (am_wI h 154 7 (nI (s.1 + 1))) (fun vv h' => pz_S 5 none am_r196 3 Q 61 [(4, .int (nI s.2.2.1.1)), (0, .ref 154), (1, .int (Int32.ofInt 1)), (2, .int (Int32.ofInt 5)), (3, .int (Int8.ofInt 20).toInt32)] (vv.toList ++ []) h') from ⟨Or.inl ⟨by decide, ex_154 (r_P l23)⟩, by decide, ex_lim (r_P l23) rfl, am_call.up (r_197 l23 ?_) (by omega)⟩)
        have x25 : rx h0 (sp_ft τ (s.1 + 1) (Int32.ofInt 3)) (s.2.2.2.2.2.1 + z) (am_wI (am_wI h 154 7 (nI (s.1 + 1))) 154 8 (sp_ft τ (s.1 + 1) (Int32.ofInt 3))) := rr_x (s := (s.1 + 1, s.2)) l23 (by decide)
        refine am_goX 2 (show am_sh (am_wI (am_wI h 154 7 (nI (s.1 + 1))) 154 8 (sp_ft τ (s.1 + 1) (Int32.ofInt 3))) 154 = some (11, 0) ∧ pz_S 5 none am_r196 3 Q 65 [(4, .int (nI s.2.2.1.1)), (0, .ref 154), (1, .int (Int32.ofInt 1)), (2, .int (Int32.ofInt 5)), (3, .int (Int8.ofInt 20).toInt32)] [.int ((am_wI (am_wI h 154 7 (nI (s.1 + 1))) 154 8 (sp_ft τ (s.1 + 1) (Int32.ofInt 3))).1 154 8)] (am_wI (am_wI h 154 7 (nI (s.1 + 1))) 154 8 (sp_ft τ (s.1 + 1) (Int32.ofInt 3))) from ⟨ex_154 x25.1, ?_⟩)
        rw [x25.2.1.1]
        refine am_goX 1 (show (¬ (sp_ft τ (s.1 + 1) (Int32.ofInt 3)) = 0 → pz_S 5 none am_r196 3 Q 132 [(4, .int (nI s.2.2.1.1)), (0, .ref 154), (1, .int (Int32.ofInt 1)), (2, .int (Int32.ofInt 5)), (3, .int (Int8.ofInt 20).toInt32)] [] (am_wI (am_wI h 154 7 (nI (s.1 + 1))) 154 8 (sp_ft τ (s.1 + 1) (Int32.ofInt 3)))) ∧ (¬ ¬ (sp_ft τ (s.1 + 1) (Int32.ofInt 3)) = 0 → pz_S 5 none am_r196 3 Q 68 [(4, .int (nI s.2.2.1.1)), (0, .ref 154), (1, .int (Int32.ofInt 1)), (2, .int (Int32.ofInt 5)), (3, .int (Int8.ofInt 20).toInt32)] [] (am_wI (am_wI h 154 7 (nI (s.1 + 1))) 154 8 (sp_ft τ (s.1 + 1) (Int32.ofInt 3)))) from ⟨fun _ => ?_, fun hz => absurd (rx_ne x25) hz⟩)
        exact am_goX 1 (show (none : Option FieldType) = none ∧ (am_wI (am_wI h 154 7 (nI (s.1 + 1))) 154 8 (sp_ft τ (s.1 + 1) (Int32.ofInt 3))).2.2.2.2 = 175 ∧ _ from ⟨rfl, ex_175 x25.1, hF (sp_ft τ (s.1 + 1) (Int32.ofInt 3)) _ (by simp only [sp_fn, sp_b, sp_f, cond_true, cond_false, e0, e24, e3]) x25⟩)
      | false =>
        obtain ⟨n1, n2, n3⟩ := na_new e3
        rw [n3]
        refine am_goX 1 (show ((Int32.ofInt (-1)) < 0 → pz_S 5 none am_r196 3 Q 61 [(4, .int (nI s.2.2.1.1)), (0, .ref 154), (1, .int (Int32.ofInt 1)), (2, .int (Int32.ofInt 5)), (3, .int (Int8.ofInt 20).toInt32)] [] (am_wI h 154 7 (nI (s.1 + 1)))) ∧ (¬ ((Int32.ofInt (-1)) < 0) → pz_S 5 none am_r196 3 Q 56 [(4, .int (nI s.2.2.1.1)), (0, .ref 154), (1, .int (Int32.ofInt 1)), (2, .int (Int32.ofInt 5)), (3, .int (Int8.ofInt 20).toInt32)] [] (am_wI h 154 7 (nI (s.1 + 1)))) from ⟨fun _ => ?_, fun hz => absurd (by decide) hz⟩)
        refine am_goX 2 (show am_sh (am_wI h 154 7 (nI (s.1 + 1))) 154 = some (11, 0) ∧ pz_S 5 none am_r196 3 Q 65 [(4, .int (nI s.2.2.1.1)), (0, .ref 154), (1, .int (Int32.ofInt 1)), (2, .int (Int32.ofInt 5)), (3, .int (Int8.ofInt 20).toInt32)] [.int ((am_wI h 154 7 (nI (s.1 + 1))).1 154 8)] (am_wI h 154 7 (nI (s.1 + 1))) from ⟨ex_154 (r_P l23), ?_⟩)
        rw [r_f l23]
        refine am_goX 1 (show (¬ 0 = 0 → pz_S 5 none am_r196 3 Q 132 [(4, .int (nI s.2.2.1.1)), (0, .ref 154), (1, .int (Int32.ofInt 1)), (2, .int (Int32.ofInt 5)), (3, .int (Int8.ofInt 20).toInt32)] [] (am_wI h 154 7 (nI (s.1 + 1)))) ∧ (¬ ¬ 0 = 0 → pz_S 5 none am_r196 3 Q 68 [(4, .int (nI s.2.2.1.1)), (0, .ref 154), (1, .int (Int32.ofInt 1)), (2, .int (Int32.ofInt 5)), (3, .int (Int8.ofInt 20).toInt32)] [] (am_wI h 154 7 (nI (s.1 + 1)))) from ⟨fun hz => absurd hz (by decide), fun _ => ?_⟩)
        refine am_goX 2 (show am_sh (am_wI h 154 7 (nI (s.1 + 1))) 154 = some (11, 0) ∧ pz_S 5 none am_r196 3 Q 72 [(4, .int (nI s.2.2.1.1)), (0, .ref 154), (1, .int (Int32.ofInt 1)), (2, .int (Int32.ofInt 5)), (3, .int (Int8.ofInt 20).toInt32)] [am_rf ((am_wI h 154 7 (nI (s.1 + 1))).2.2.1 154 15)] (am_wI h 154 7 (nI (s.1 + 1))) from ⟨ex_154 (r_P l23), ?_⟩)
        rw [ex_r154_15 (h := am_wI h 154 7 (nI (s.1 + 1))) (r_P l23)]
        refine am_goX 4 (show am_sh (am_wI h 154 7 (nI (s.1 + 1))) 154 = some (11, 0) ∧ am_sh (am_wI h 154 7 (nI (s.1 + 1))) 154 = some (11, 0) ∧ pz_S 5 none am_r196 3 Q 80 [(4, .int (nI s.2.2.1.1)), (0, .ref 154), (1, .int (Int32.ofInt 1)), (2, .int (Int32.ofInt 5)), (3, .int (Int8.ofInt 20).toInt32)] [am_rf ((am_wI h 154 7 (nI (s.1 + 1))).2.2.1 154 6), .int ((am_wI h 154 7 (nI (s.1 + 1))).1 154 19), .ref 164] (am_wI h 154 7 (nI (s.1 + 1))) from ⟨ex_154 (r_P l23), ex_154 (r_P l23), ?_⟩)
        rw [ex_r154_6 (h := am_wI h 154 7 (nI (s.1 + 1))) (r_P l23)]
        refine am_goX 3 (show am_sh (am_wI h 154 7 (nI (s.1 + 1))) 154 = some (11, 0) ∧ ∃ jj nn : Nat, am_sh (am_wI h 154 7 (nI (s.1 + 1))) 158 = some (14, nn) ∧ jj < nn ∧ ((am_wI h 154 7 (nI (s.1 + 1))).1 154 7) = nI jj ∧ pz_S 5 none am_r196 3 Q 85 [(4, .int (nI s.2.2.1.1)), (0, .ref 154), (1, .int (Int32.ofInt 1)), (2, .int (Int32.ofInt 5)), (3, .int (Int8.ofInt 20).toInt32)] [.long ((am_wI h 154 7 (nI (s.1 + 1))).2.1 158 jj), .int ((am_wI h 154 7 (nI (s.1 + 1))).1 154 19), .ref 164] (am_wI h 154 7 (nI (s.1 + 1))) from ⟨ex_154 (r_P l23), (s.1 + 1), 1002, ex_158 (r_P l23), (by have := r_N l23; first | omega | (dsimp only at this; omega) | (dsimp only at this ⊢; omega)), r_a l23, ?_⟩)
        rw [r_v l23 (sp_nn e24)]
        have eN : (am_wI h 154 7 (nI (s.1 + 1))).1 154 19 = nI (s.2.1.1 + s.2.2.1.1) := l23.2.1.2.2.2.2.2.2.1
        have eA : (am_wI h 154 7 (nI (s.1 + 1))).1 154 7 = nI (s.1 + 1) := r_a l23
        have eC : (am_wI h 154 7 (nI (s.1 + 1))).1 160 41 = nI s.2.2.1.1 := l23.2.1.2.1.1
        have hPx := r_P l23
        refine am_goX 1 (show ∃ jj nn : Nat, am_so (am_wI h 154 7 (nI (s.1 + 1))) 164 = some (14, nn) ∧ jj < nn ∧ ((am_wI h 154 7 (nI (s.1 + 1))).1 154 19) = nI jj ∧ pz_S 5 none am_r196 3 Q 86 [(4, .int (nI s.2.2.1.1)), (0, .ref 154), (1, .int (Int32.ofInt 1)), (2, .int (Int32.ofInt 5)), (3, .int (Int8.ofInt 20).toInt32)] [] (am_wL (am_wI h 154 7 (nI (s.1 + 1))) 164 jj ((τ (s.1 + 1)).2.1)) from ⟨(s.2.1.1 + s.2.2.1.1), 11, ex_w164 hPx, (by omega), eN, ?_⟩)
        refine am_goX 2 (show am_sh (am_wL (am_wI h 154 7 (nI (s.1 + 1))) 164 (s.2.1.1 + s.2.2.1.1) ((τ (s.1 + 1)).2.1)) 154 = some (11, 0) ∧ pz_S 5 none am_r196 3 Q 90 [(4, .int (nI s.2.2.1.1)), (0, .ref 154), (1, .int (Int32.ofInt 1)), (2, .int (Int32.ofInt 5)), (3, .int (Int8.ofInt 20).toInt32)] [am_rf ((am_wL (am_wI h 154 7 (nI (s.1 + 1))) 164 (s.2.1.1 + s.2.2.1.1) ((τ (s.1 + 1)).2.1)).2.2.1 154 17)] (am_wL (am_wI h 154 7 (nI (s.1 + 1))) 164 (s.2.1.1 + s.2.2.1.1) ((τ (s.1 + 1)).2.1)) from ⟨ex_154 hPx, ?_⟩)
        rw [ex_r154_17 (h := am_wL (am_wI h 154 7 (nI (s.1 + 1))) 164 (s.2.1.1 + s.2.2.1.1) ((τ (s.1 + 1)).2.1)) hPx]
        refine am_goX 6 (show am_sh (am_wL (am_wI h 154 7 (nI (s.1 + 1))) 164 (s.2.1.1 + s.2.2.1.1) ((τ (s.1 + 1)).2.1)) 154 = some (11, 0) ∧ ∃ jj nn : Nat, am_so (am_wL (am_wI h 154 7 (nI (s.1 + 1))) 164 (s.2.1.1 + s.2.2.1.1) ((τ (s.1 + 1)).2.1)) 166 = some (13, nn) ∧ jj < nn ∧ ((am_wL (am_wI h 154 7 (nI (s.1 + 1))) 164 (s.2.1.1 + s.2.2.1.1) ((τ (s.1 + 1)).2.1)).1 154 19) = nI jj ∧ pz_S 5 none am_r196 3 Q 99 [(4, .int (nI s.2.2.1.1)), (0, .ref 154), (1, .int (Int32.ofInt 1)), (2, .int (Int32.ofInt 5)), (3, .int (Int8.ofInt 20).toInt32)] [] (am_wI (am_wL (am_wI h 154 7 (nI (s.1 + 1))) 164 (s.2.1.1 + s.2.2.1.1) ((τ (s.1 + 1)).2.1)) 166 jj (((Int8.ofInt 20).toInt32 + (nI s.2.2.1.1)))) from ⟨ex_154 hPx, (s.2.1.1 + s.2.2.1.1), 11, ex_w166 hPx, (by omega), eN, ?_⟩)
        refine am_goX 6 (show (Value.ref 154).category = 1 ∧ am_sh (am_wI (am_wL (am_wI h 154 7 (nI (s.1 + 1))) 164 (s.2.1.1 + s.2.2.1.1) (τ (s.1 + 1)).2.1) 166 (s.2.1.1 + s.2.2.1.1) ((Int8.ofInt 20).toInt32 + nI s.2.2.1.1)) 154 = some (11, 0) ∧ am_sh (am_wI (am_wL (am_wI h 154 7 (nI (s.1 + 1))) 164 (s.2.1.1 + s.2.2.1.1) (τ (s.1 + 1)).2.1) 166 (s.2.1.1 + s.2.2.1.1) ((Int8.ofInt 20).toInt32 + nI s.2.2.1.1)) 154 = some (11, 0) ∧ narrow (am_fty 11 19) (.int ((((am_wI (am_wL (am_wI h 154 7 (nI (s.1 + 1))) 164 (s.2.1.1 + s.2.2.1.1) (τ (s.1 + 1)).2.1) 166 (s.2.1.1 + s.2.2.1.1) ((Int8.ofInt 20).toInt32 + nI s.2.2.1.1)).1 154 19) + (Int32.ofInt 1)))) = .int ((((am_wI (am_wL (am_wI h 154 7 (nI (s.1 + 1))) 164 (s.2.1.1 + s.2.2.1.1) (τ (s.1 + 1)).2.1) 166 (s.2.1.1 + s.2.2.1.1) ((Int8.ofInt 20).toInt32 + nI s.2.2.1.1)).1 154 19) + (Int32.ofInt 1))) ∧ fits (am_fty 11 19) (.int ((((am_wI (am_wL (am_wI h 154 7 (nI (s.1 + 1))) 164 (s.2.1.1 + s.2.2.1.1) (τ (s.1 + 1)).2.1) 166 (s.2.1.1 + s.2.2.1.1) ((Int8.ofInt 20).toInt32 + nI s.2.2.1.1)).1 154 19) + (Int32.ofInt 1)))) = true ∧ pz_S 5 none am_r196 3 Q 109 [(4, .int (nI s.2.2.1.1)), (0, .ref 154), (1, .int (Int32.ofInt 1)), (2, .int (Int32.ofInt 5)), (3, .int (Int8.ofInt 20).toInt32)] [] (am_wI (am_wI (am_wL (am_wI h 154 7 (nI (s.1 + 1))) 164 (s.2.1.1 + s.2.2.1.1) (τ (s.1 + 1)).2.1) 166 (s.2.1.1 + s.2.2.1.1) ((Int8.ofInt 20).toInt32 + nI s.2.2.1.1)) 154 19 ((((am_wI (am_wL (am_wI h 154 7 (nI (s.1 + 1))) 164 (s.2.1.1 + s.2.2.1.1) (τ (s.1 + 1)).2.1) 166 (s.2.1.1 + s.2.2.1.1) ((Int8.ofInt 20).toInt32 + nI s.2.2.1.1)).1 154 19) + (Int32.ofInt 1)))) from ⟨rfl, ex_154 hPx, ex_154 hPx, rfl, rfl, ?_⟩)
        rw [show (am_wI (am_wL (am_wI h 154 7 (nI (s.1 + 1))) 164 (s.2.1.1 + s.2.2.1.1) (τ (s.1 + 1)).2.1) 166 (s.2.1.1 + s.2.2.1.1) ((Int8.ofInt 20).toInt32 + nI s.2.2.1.1)).1 154 19 = nI (s.2.1.1 + s.2.2.1.1) from (em_wn _ _ (by omega)).trans eN, xw_i1]
        refine am_goX 6 (show (Value.ref 154).category = 1 ∧ am_sh (am_wI (am_wI (am_wL (am_wI h 154 7 (nI (s.1 + 1))) 164 (s.2.1.1 + s.2.2.1.1) (τ (s.1 + 1)).2.1) 166 (s.2.1.1 + s.2.2.1.1) ((Int8.ofInt 20).toInt32 + nI s.2.2.1.1)) 154 19 (nI (s.2.1.1 + s.2.2.1.1 + 1))) 154 = some (11, 0) ∧ am_sh (am_wI (am_wI (am_wL (am_wI h 154 7 (nI (s.1 + 1))) 164 (s.2.1.1 + s.2.2.1.1) (τ (s.1 + 1)).2.1) 166 (s.2.1.1 + s.2.2.1.1) ((Int8.ofInt 20).toInt32 + nI s.2.2.1.1)) 154 19 (nI (s.2.1.1 + s.2.2.1.1 + 1))) 154 = some (11, 0) ∧ narrow (am_fty 11 7) (.int ((((am_wI (am_wI (am_wL (am_wI h 154 7 (nI (s.1 + 1))) 164 (s.2.1.1 + s.2.2.1.1) (τ (s.1 + 1)).2.1) 166 (s.2.1.1 + s.2.2.1.1) ((Int8.ofInt 20).toInt32 + nI s.2.2.1.1)) 154 19 (nI (s.2.1.1 + s.2.2.1.1 + 1))).1 154 7) + (Int32.ofInt 1)))) = .int ((((am_wI (am_wI (am_wL (am_wI h 154 7 (nI (s.1 + 1))) 164 (s.2.1.1 + s.2.2.1.1) (τ (s.1 + 1)).2.1) 166 (s.2.1.1 + s.2.2.1.1) ((Int8.ofInt 20).toInt32 + nI s.2.2.1.1)) 154 19 (nI (s.2.1.1 + s.2.2.1.1 + 1))).1 154 7) + (Int32.ofInt 1))) ∧ fits (am_fty 11 7) (.int ((((am_wI (am_wI (am_wL (am_wI h 154 7 (nI (s.1 + 1))) 164 (s.2.1.1 + s.2.2.1.1) (τ (s.1 + 1)).2.1) 166 (s.2.1.1 + s.2.2.1.1) ((Int8.ofInt 20).toInt32 + nI s.2.2.1.1)) 154 19 (nI (s.2.1.1 + s.2.2.1.1 + 1))).1 154 7) + (Int32.ofInt 1)))) = true ∧ pz_S 5 none am_r196 3 Q 119 [(4, .int (nI s.2.2.1.1)), (0, .ref 154), (1, .int (Int32.ofInt 1)), (2, .int (Int32.ofInt 5)), (3, .int (Int8.ofInt 20).toInt32)] [] (am_wI (am_wI (am_wI (am_wL (am_wI h 154 7 (nI (s.1 + 1))) 164 (s.2.1.1 + s.2.2.1.1) (τ (s.1 + 1)).2.1) 166 (s.2.1.1 + s.2.2.1.1) ((Int8.ofInt 20).toInt32 + nI s.2.2.1.1)) 154 19 (nI (s.2.1.1 + s.2.2.1.1 + 1))) 154 7 ((((am_wI (am_wI (am_wL (am_wI h 154 7 (nI (s.1 + 1))) 164 (s.2.1.1 + s.2.2.1.1) (τ (s.1 + 1)).2.1) 166 (s.2.1.1 + s.2.2.1.1) ((Int8.ofInt 20).toInt32 + nI s.2.2.1.1)) 154 19 (nI (s.2.1.1 + s.2.2.1.1 + 1))).1 154 7) + (Int32.ofInt 1)))) from ⟨rfl, ex_154 hPx, ex_154 hPx, rfl, rfl, ?_⟩)
        rw [show (am_wI (am_wI (am_wL (am_wI h 154 7 (nI (s.1 + 1))) 164 (s.2.1.1 + s.2.2.1.1) (τ (s.1 + 1)).2.1) 166 (s.2.1.1 + s.2.2.1.1) ((Int8.ofInt 20).toInt32 + nI s.2.2.1.1)) 154 19 (nI (s.2.1.1 + s.2.2.1.1 + 1))).1 154 7 = nI (s.1 + 1) from (em_wn _ _ (by omega)).trans ((em_wn _ _ (by omega)).trans eA), xw_i1]
        refine am_goX 2 (show am_sh (am_wI (am_wI (am_wI (am_wL (am_wI h 154 7 (nI (s.1 + 1))) 164 (s.2.1.1 + s.2.2.1.1) (τ (s.1 + 1)).2.1) 166 (s.2.1.1 + s.2.2.1.1) ((Int8.ofInt 20).toInt32 + nI s.2.2.1.1)) 154 19 (nI (s.2.1.1 + s.2.2.1.1 + 1))) 154 7 (nI (s.1 + 1 + 1))) 154 = some (11, 0) ∧ pz_S 5 none am_r196 3 Q 123 [(4, .int (nI s.2.2.1.1)), (0, .ref 154), (1, .int (Int32.ofInt 1)), (2, .int (Int32.ofInt 5)), (3, .int (Int8.ofInt 20).toInt32)] [am_rf ((am_wI (am_wI (am_wI (am_wL (am_wI h 154 7 (nI (s.1 + 1))) 164 (s.2.1.1 + s.2.2.1.1) (τ (s.1 + 1)).2.1) 166 (s.2.1.1 + s.2.2.1.1) ((Int8.ofInt 20).toInt32 + nI s.2.2.1.1)) 154 19 (nI (s.2.1.1 + s.2.2.1.1 + 1))) 154 7 (nI (s.1 + 1 + 1))).2.2.1 154 10)] (am_wI (am_wI (am_wI (am_wL (am_wI h 154 7 (nI (s.1 + 1))) 164 (s.2.1.1 + s.2.2.1.1) (τ (s.1 + 1)).2.1) 166 (s.2.1.1 + s.2.2.1.1) ((Int8.ofInt 20).toInt32 + nI s.2.2.1.1)) 154 19 (nI (s.2.1.1 + s.2.2.1.1 + 1))) 154 7 (nI (s.1 + 1 + 1))) from ⟨ex_154 hPx, ?_⟩)
        rw [ex_r154_10 (h := am_wI (am_wI (am_wI (am_wL (am_wI h 154 7 (nI (s.1 + 1))) 164 (s.2.1.1 + s.2.2.1.1) (τ (s.1 + 1)).2.1) 166 (s.2.1.1 + s.2.2.1.1) ((Int8.ofInt 20).toInt32 + nI s.2.2.1.1)) 154 19 (nI (s.2.1.1 + s.2.2.1.1 + 1))) 154 7 (nI (s.1 + 1 + 1))) hPx]
        refine am_goX 5 (show (Value.int ((Int8.ofInt 40).toInt32 + (Int32.ofInt 1))).category = 1 ∧ (Value.ref 160).category = 1 ∧ ∃ jj nn : Nat, am_sh (am_wI (am_wI (am_wI (am_wL (am_wI h 154 7 (nI (s.1 + 1))) 164 (s.2.1.1 + s.2.2.1.1) (τ (s.1 + 1)).2.1) 166 (s.2.1.1 + s.2.2.1.1) ((Int8.ofInt 20).toInt32 + nI s.2.2.1.1)) 154 19 (nI (s.2.1.1 + s.2.2.1.1 + 1))) 154 7 (nI (s.1 + 1 + 1))) 160 = some (13, nn) ∧ jj < nn ∧ ((Int8.ofInt 40).toInt32 + (Int32.ofInt 1)) = nI jj ∧ pz_S 5 none am_r196 3 Q 129 [(4, .int (nI s.2.2.1.1)), (0, .ref 154), (1, .int (Int32.ofInt 1)), (2, .int (Int32.ofInt 5)), (3, .int (Int8.ofInt 20).toInt32)] [.int ((am_wI (am_wI (am_wI (am_wL (am_wI h 154 7 (nI (s.1 + 1))) 164 (s.2.1.1 + s.2.2.1.1) (τ (s.1 + 1)).2.1) 166 (s.2.1.1 + s.2.2.1.1) ((Int8.ofInt 20).toInt32 + nI s.2.2.1.1)) 154 19 (nI (s.2.1.1 + s.2.2.1.1 + 1))) 154 7 (nI (s.1 + 1 + 1))).1 160 jj), .int ((Int8.ofInt 40).toInt32 + (Int32.ofInt 1)), .ref 160] (am_wI (am_wI (am_wI (am_wL (am_wI h 154 7 (nI (s.1 + 1))) 164 (s.2.1.1 + s.2.2.1.1) (τ (s.1 + 1)).2.1) 166 (s.2.1.1 + s.2.2.1.1) ((Int8.ofInt 20).toInt32 + nI s.2.2.1.1)) 154 19 (nI (s.2.1.1 + s.2.2.1.1 + 1))) 154 7 (nI (s.1 + 1 + 1))) from ⟨rfl, rfl, 41, 80, ex_160 hPx, (by decide), (by decide), ?_⟩)
        rw [show (am_wI (am_wI (am_wI (am_wL (am_wI h 154 7 (nI (s.1 + 1))) 164 (s.2.1.1 + s.2.2.1.1) (τ (s.1 + 1)).2.1) 166 (s.2.1.1 + s.2.2.1.1) ((Int8.ofInt 20).toInt32 + nI s.2.2.1.1)) 154 19 (nI (s.2.1.1 + s.2.2.1.1 + 1))) 154 7 (nI (s.1 + 1 + 1))).1 160 41 = nI s.2.2.1.1 from (em_wn _ _ (by omega)).trans ((em_wn _ _ (by omega)).trans ((em_wn _ _ (by omega)).trans eC))]
        refine am_goX 3 (show ∃ jj nn : Nat, am_so (am_wI (am_wI (am_wI (am_wL (am_wI h 154 7 (nI (s.1 + 1))) 164 (s.2.1.1 + s.2.2.1.1) (τ (s.1 + 1)).2.1) 166 (s.2.1.1 + s.2.2.1.1) ((Int8.ofInt 20).toInt32 + nI s.2.2.1.1)) 154 19 (nI (s.2.1.1 + s.2.2.1.1 + 1))) 154 7 (nI (s.1 + 1 + 1))) 160 = some (13, nn) ∧ jj < nn ∧ ((Int8.ofInt 40).toInt32 + (Int32.ofInt 1)) = nI jj ∧ pz_S 5 none am_r196 3 Q 132 [(4, .int (nI s.2.2.1.1)), (0, .ref 154), (1, .int (Int32.ofInt 1)), (2, .int (Int32.ofInt 5)), (3, .int (Int8.ofInt 20).toInt32)] [] (am_wI (am_wI (am_wI (am_wI (am_wL (am_wI h 154 7 (nI (s.1 + 1))) 164 (s.2.1.1 + s.2.2.1.1) (τ (s.1 + 1)).2.1) 166 (s.2.1.1 + s.2.2.1.1) ((Int8.ofInt 20).toInt32 + nI s.2.2.1.1)) 154 19 (nI (s.2.1.1 + s.2.2.1.1 + 1))) 154 7 (nI (s.1 + 1 + 1))) 160 jj (((nI s.2.2.1.1) + (Int32.ofInt 1)))) from ⟨41, 80, ex_w160 hPx, (by decide), (by decide), ?_⟩)
        rw [xw_i1]
        have l26 : rr h0 z τ N (s.1 + 1 + 1, sp_cE s.2 (τ (s.1 + 1)).2.1 ((am_wI h 154 7 (nI (s.1 + 1))).1 160 (62 + 2 * s.2.2.1.1)) ((am_wI h 154 7 (nI (s.1 + 1))).1 160 (63 + 2 * s.2.2.1.1))) (am_wI (am_wI (am_wI (am_wI (am_wL (am_wI h 154 7 (nI (s.1 + 1))) 164 (s.2.1.1 + s.2.2.1.1) (τ (s.1 + 1)).2.1) 166 (s.2.1.1 + s.2.2.1.1) ((Int8.ofInt 20).toInt32 + nI s.2.2.1.1)) 154 19 (nI (s.2.1.1 + s.2.2.1.1 + 1))) 154 7 (nI (s.1 + 1 + 1))) 160 41 (nI (s.2.2.1.1 + 1))) := rr_nE (a := s.1 + 1) (C := s.2) l23 (sp_nn e24) hlt n1 n2
        exact am_goX 1 (show (none : Option FieldType) = none ∧ (am_wI (am_wI (am_wI (am_wI (am_wL (am_wI h 154 7 (nI (s.1 + 1))) 164 (s.2.1.1 + s.2.2.1.1) (τ (s.1 + 1)).2.1) 166 (s.2.1.1 + s.2.2.1.1) ((Int8.ofInt 20).toInt32 + nI s.2.2.1.1)) 154 19 (nI (s.2.1.1 + s.2.2.1.1 + 1))) 154 7 (nI (s.1 + 1 + 1))) 160 41 (nI (s.2.2.1.1 + 1))).2.2.2.2 = 175 ∧ _ from ⟨rfl, ex_175 hPx, hS _ _ _ e0 (by simp only [sp_fn, sp_b, sp_f, cond_true, cond_false, e0, e24, e3]) l26⟩)
    | false =>
      refine am_goX 1 (show (¬ (pz_b (false)) = 0 → pz_S 5 none am_r196 3 Q 48 [(4, .int (nI s.2.2.1.1)), (0, .ref 154), (1, .int (Int32.ofInt 1)), (2, .int (Int32.ofInt 5)), (3, .int (Int8.ofInt 20).toInt32)] [] (am_wI h 154 7 (nI (s.1 + 1)))) ∧ (¬ ¬ (pz_b (false)) = 0 → pz_S 5 none am_r196 3 Q 40 [(4, .int (nI s.2.2.1.1)), (0, .ref 154), (1, .int (Int32.ofInt 1)), (2, .int (Int32.ofInt 5)), (3, .int (Int8.ofInt 20).toInt32)] [] (am_wI h 154 7 (nI (s.1 + 1)))) from ⟨fun hz => absurd hz (by decide), fun _ => ?_⟩)
      refine am_goX 3 (show am_rc (am_wI h 154 7 (nI (s.1 + 1))) 154 11 ∧ 0 ≤ 8 ∧ (am_wI h 154 7 (nI (s.1 + 1))).2.2.2.2 + am_al 197 ≤ 175 ∧ am_call am_cod 3 197 [.ref 154, .int (Int32.ofInt 1)] (am_wI h 154 7 (nI (s.1 + 1))) (fun vv h' => pz_S 5 none am_r196 3 Q 45 [(4, .int (nI s.2.2.1.1)), (0, .ref 154), (1, .int (Int32.ofInt 1)), (2, .int (Int32.ofInt 5)), (3, .int (Int8.ofInt 20).toInt32)] (vv.toList ++ []) h') from ⟨Or.inl ⟨by decide, ex_154 (r_P l23)⟩, by decide, ex_lim (r_P l23) rfl, am_call.up (r_197 l23 ?_) (by omega)⟩)
      have x27 : rx h0 (sp_ft τ (s.1 + 1) (Int32.ofInt 1)) (s.2.2.2.2.2.1 + z) (am_wI (am_wI h 154 7 (nI (s.1 + 1))) 154 8 (sp_ft τ (s.1 + 1) (Int32.ofInt 1))) := rr_x (s := (s.1 + 1, s.2)) l23 (by decide)
      refine am_goX 3 (show am_sh (am_wI (am_wI h 154 7 (nI (s.1 + 1))) 154 8 (sp_ft τ (s.1 + 1) (Int32.ofInt 1))) 154 = some (11, 0) ∧ pz_S 5 none am_r196 3 Q 65 [(4, .int (nI s.2.2.1.1)), (0, .ref 154), (1, .int (Int32.ofInt 1)), (2, .int (Int32.ofInt 5)), (3, .int (Int8.ofInt 20).toInt32)] [.int ((am_wI (am_wI h 154 7 (nI (s.1 + 1))) 154 8 (sp_ft τ (s.1 + 1) (Int32.ofInt 1))).1 154 8)] (am_wI (am_wI h 154 7 (nI (s.1 + 1))) 154 8 (sp_ft τ (s.1 + 1) (Int32.ofInt 1))) from ⟨ex_154 x27.1, ?_⟩)
      rw [x27.2.1.1]
      refine am_goX 1 (show (¬ (sp_ft τ (s.1 + 1) (Int32.ofInt 1)) = 0 → pz_S 5 none am_r196 3 Q 132 [(4, .int (nI s.2.2.1.1)), (0, .ref 154), (1, .int (Int32.ofInt 1)), (2, .int (Int32.ofInt 5)), (3, .int (Int8.ofInt 20).toInt32)] [] (am_wI (am_wI h 154 7 (nI (s.1 + 1))) 154 8 (sp_ft τ (s.1 + 1) (Int32.ofInt 1)))) ∧ (¬ ¬ (sp_ft τ (s.1 + 1) (Int32.ofInt 1)) = 0 → pz_S 5 none am_r196 3 Q 68 [(4, .int (nI s.2.2.1.1)), (0, .ref 154), (1, .int (Int32.ofInt 1)), (2, .int (Int32.ofInt 5)), (3, .int (Int8.ofInt 20).toInt32)] [] (am_wI (am_wI h 154 7 (nI (s.1 + 1))) 154 8 (sp_ft τ (s.1 + 1) (Int32.ofInt 1)))) from ⟨fun _ => ?_, fun hz => absurd (rx_ne x27) hz⟩)
      exact am_goX 1 (show (none : Option FieldType) = none ∧ (am_wI (am_wI h 154 7 (nI (s.1 + 1))) 154 8 (sp_ft τ (s.1 + 1) (Int32.ofInt 1))).2.2.2.2 = 175 ∧ _ from ⟨rfl, ex_175 x27.1, hF (sp_ft τ (s.1 + 1) (Int32.ofInt 1)) _ (by simp only [sp_fn, sp_b, sp_f, cond_true, cond_false, e0, e24]) x27⟩)
end
section
/-! THE REFERENCE'S LINES, EXACTLY -/
theorem sp_bit_tg {x : Int32} {m : Nat} (hm : m < 28) : sp_bit x (nI m) = (bN x).testBit m := by
  have k0 : ∀ m, m < 28 → ((nI m &&& 31).toBitVec.smod 32).toNat = m := by decide +kernel
  have e : sp_bit x (nI m) = (bN (x >>> (nI m &&& 31))).testBit 0 := by
    have e1 : bN ((x >>> (nI m &&& 31)) &&& Int32.ofInt 1) = bN (x >>> (nI m &&& 31)) % 2 := by
      rw [bN_and, show bN (Int32.ofInt 1) = 1 from rfl, Nat.and_one_is_mod]
    unfold sp_bit
    rw [Nat.testBit_zero]
    rcases and1 (x >>> (nI m &&& 31)) with w | w
    · rw [w] at e1 ⊢
      have e2 : bN (x >>> (nI m &&& 31)) % 2 = 0 := e1.symm
      rw [e2]
      rfl
    · rw [w] at e1 ⊢
      have e2 : bN (x >>> (nI m &&& 31)) % 2 = 1 := e1.symm
      rw [e2]
      rfl
  rw [e]
  show (x >>> (nI m &&& 31)).toBitVec.getLsbD 0 = x.toBitVec.getLsbD m
  rw [Int32.toBitVec_shiftRight]
  show (x.toBitVec.sshiftRight ((nI m &&& 31).toBitVec.smod 32).toNat).getLsbD 0 = _
  rw [k0 m hm, BitVec.getLsbD_sshiftRight, if_pos (by omega)]
  rfl
theorem bN_1s {i : Nat} (hi : i < 28) : bN ((Int32.ofInt 1) <<< (nI i &&& 31)) = 2 ^ i := by
  have key : ∀ i, i < 28 → bN ((Int32.ofInt 1) <<< (nI i &&& 31)) = 2 ^ i := by decide +kernel
  exact key i hi
theorem bit_or {x : Int32} {i j : Nat} (hi : i < 28) (hj : j < 28) : sp_bit (x ||| ((Int32.ofInt 1) <<< (nI i &&& 31))) (nI j) = (sp_bit x (nI j) || decide (i = j)) := by
  rw [sp_bit_tg hj, sp_bit_tg hj, bN_or, Nat.testBit_or, bN_1s hi, Nat.testBit_two_pow]
theorem tbN_or {n D : Nat} (e : n.testBit D = false) : ∀ m, tbN (n ||| 2 ^ D) m = tbN n m + (if D < m then 1 else 0)
  | 0 => rfl
  | m + 1 => by
    show tbN (n ||| 2 ^ D) m + ((n ||| 2 ^ D).testBit m).toNat = tbN n m + (n.testBit m).toNat + _
    rw [tbN_or e m, Nat.testBit_or, Nat.testBit_two_pow]
    by_cases h1 : D = m
    · rw [decide_eq_true h1, ← h1, e, if_neg (Nat.lt_irrefl D), if_pos (Nat.lt_succ_self D)]
      rfl
    · rw [decide_eq_false h1, Bool.or_false]
      by_cases h2 : D < m
      · rw [if_pos h2, if_pos (by omega)]
        omega
      · rw [if_neg h2, if_neg (by omega)]
        omega
theorem pc_or {x : Int32} {D : Nat} (hx : sp_28 x) (hD : D < 28) (e : sp_bit x (nI D) = false) : sp_pc (x ||| ((Int32.ofInt 1) <<< (nI D &&& 31))) 28 = sp_pc x 28 + 1 := by
  rw [sp_pc_tb hx 28 (Nat.le_refl _), sp_pc_tb (sp_28_or hx hD) 28 (Nat.le_refl _), bN_or, bN_1s hD, tbN_or (by rw [← sp_bit_tg hD]; exact e), if_pos hD]
theorem rb2_0 (x y : Bool) : (((rb2 x y) >>> ((nI 0) &&& 31)) &&& Int32.ofInt 1 = Int32.ofInt 1) = (x = true) := by
  cases x <;> cases y <;> decide
theorem rb2_1 (x y : Bool) : (((rb2 x y) >>> ((nI 1) &&& 31)) &&& Int32.ofInt 1 = Int32.ofInt 1) = (y = true) := by
  cases x <;> cases y <;> decide
theorem rb2_s (x y : Bool) : (rb2 x y) ||| ((Int32.ofInt 1) <<< ((nI 0) &&& 31)) = rb2 true y := by
  cases x <;> cases y <;> decide
theorem rb2_g (x y : Bool) : (rb2 x y) ||| ((Int32.ofInt 1) <<< ((nI 1) &&& 31)) = rb2 x true := by
  cases x <;> cases y <;> decide
def rz (C : sp_C) : Nat := bif C.2.2.2.1 then 1 else 0
section
variable {h h0 : am_H} {z N a : Nat} {τ : sp_T} {C : sp_C} {v : Int64} {x y k : Int32}
theorem rr_P1 (l : rr h0 z τ N (a, sp_cP C v x y) h) : rr h0 z τ N (a, sp_cP C v k y) (am_wI h 160 (44 + 3 * C.1.1) k) := by
  obtain ⟨⟨l1, l2, l3⟩, ⟨⟨p1, p2, p3⟩, c2, c3, c4, c5, c6, c7⟩, l5, l6⟩ := l
  have p2 : C.1.1 + 1 ≤ 6 := p2
  refine ⟨⟨rt_w (by omega) l1, ⟨?_, l2.2⟩, ?_⟩, ⟨⟨?_, p2, fun i hi => ?_⟩, rcE_w (by omega) c2, rcB_w (by omega) c3, rcS_w (by omega) c4, rcO_w (by omega) c5, rcL_w (by omega) c6, rcN_w (by omega) c7⟩, rq_w (by unfold r_in; omega) l5, l6⟩
  · rw [em_wn _ _ (by omega)]; exact l2.1
  · rw [em_wn _ _ (by omega)]; exact l3
  · rw [em_wn _ _ (by omega)]; exact p1
  · have hi : i < C.1.1 + 1 := hi
    have hh := p3 i hi
    have h1 : h.1 160 (44 + 3 * i) = (if i = C.1.1 then x else C.1.2.2.1 i) := hh.1
    have h2 : h.1 160 (45 + 3 * i) = (if i = C.1.1 then y else C.1.2.2.2 i) := hh.2
    show _ = (if i = C.1.1 then k else C.1.2.2.1 i) ∧ _ = (if i = C.1.1 then y else C.1.2.2.2 i)
    rw [em_wn (o' := 160) (k' := 45 + 3 * i) _ _ (by omega), h2]
    by_cases ei : i = C.1.1
    · rw [if_pos ei, ei, em_we]
      exact ⟨rfl, rfl⟩
    · rw [if_neg ei, em_wn _ _ (by omega), h1, if_neg ei]
      exact ⟨rfl, rfl⟩
theorem rr_P2 (l : rr h0 z τ N (a, sp_cP C v x y) h) : rr h0 z τ N (a, sp_cP C v x k) (am_wI h 160 (45 + 3 * C.1.1) k) := by
  obtain ⟨⟨l1, l2, l3⟩, ⟨⟨p1, p2, p3⟩, c2, c3, c4, c5, c6, c7⟩, l5, l6⟩ := l
  have p2 : C.1.1 + 1 ≤ 6 := p2
  refine ⟨⟨rt_w (by omega) l1, ⟨?_, l2.2⟩, ?_⟩, ⟨⟨?_, p2, fun i hi => ?_⟩, rcE_w (by omega) c2, rcB_w (by omega) c3, rcS_w (by omega) c4, rcO_w (by omega) c5, rcL_w (by omega) c6, rcN_w (by omega) c7⟩, rq_w (by unfold r_in; omega) l5, l6⟩
  · rw [em_wn _ _ (by omega)]; exact l2.1
  · rw [em_wn _ _ (by omega)]; exact l3
  · rw [em_wn _ _ (by omega)]; exact p1
  · have hi : i < C.1.1 + 1 := hi
    have hh := p3 i hi
    have h1 : h.1 160 (44 + 3 * i) = (if i = C.1.1 then x else C.1.2.2.1 i) := hh.1
    have h2 : h.1 160 (45 + 3 * i) = (if i = C.1.1 then y else C.1.2.2.2 i) := hh.2
    show _ = (if i = C.1.1 then x else C.1.2.2.1 i) ∧ _ = (if i = C.1.1 then k else C.1.2.2.2 i)
    rw [em_wn (o' := 160) (k' := 44 + 3 * i) _ _ (by omega), h1]
    by_cases ei : i = C.1.1
    · rw [if_pos ei, if_pos ei, ei, em_we]
      exact ⟨rfl, rfl⟩
    · rw [if_neg ei, if_neg ei, em_wn _ _ (by omega), h2, if_neg ei]
      exact ⟨rfl, rfl⟩
theorem rr_E1 (l : rr h0 z τ N (a, sp_cE C v x y) h) : rr h0 z τ N (a, sp_cE C v k y) (am_wI h 160 (62 + 2 * C.2.1.1) k) := by
  obtain ⟨⟨l1, l2, l3⟩, ⟨c1, ⟨p1, p2, p3⟩, c3, c4, c5, c6, c7⟩, l5, l6⟩ := l
  have p2 : C.2.1.1 + 1 ≤ 5 := p2
  refine ⟨⟨rt_w (by omega) l1, ⟨?_, l2.2⟩, ?_⟩, ⟨rcP_w (by omega) c1, ⟨?_, p2, fun i hi => ?_⟩, rcB_w (C := sp_cE C v k y) (by omega) c3, rcS_w (by omega) c4, rcO_w (by omega) c5, rcL_w (by omega) c6, rcN_w (by omega) c7⟩, rq_w (by unfold r_in; omega) l5, l6⟩
  · rw [em_wn _ _ (by omega)]; exact l2.1
  · rw [em_wn _ _ (by omega)]; exact l3
  · rw [em_wn _ _ (by omega)]; exact p1
  · have hi : i < C.2.1.1 + 1 := hi
    have hh := p3 i hi
    have h1 : h.1 160 (62 + 2 * i) = (if i = C.2.1.1 then x else C.2.1.2.2.1 i) := hh.1
    have h2 : h.1 160 (63 + 2 * i) = (if i = C.2.1.1 then y else C.2.1.2.2.2.1 i) := hh.2
    show _ = (if i = C.2.1.1 then k else C.2.1.2.2.1 i) ∧ _ = (if i = C.2.1.1 then y else C.2.1.2.2.2.1 i)
    rw [em_wn (o' := 160) (k' := 63 + 2 * i) _ _ (by omega), h2]
    by_cases ei : i = C.2.1.1
    · rw [if_pos ei, ei, em_we]
      exact ⟨rfl, rfl⟩
    · rw [if_neg ei, em_wn _ _ (by omega), h1, if_neg ei]
      exact ⟨rfl, rfl⟩
theorem rr_E2 (l : rr h0 z τ N (a, sp_cE C v x y) h) : rr h0 z τ N (a, sp_cE C v x k) (am_wI h 160 (63 + 2 * C.2.1.1) k) := by
  obtain ⟨⟨l1, l2, l3⟩, ⟨c1, ⟨p1, p2, p3⟩, c3, c4, c5, c6, c7⟩, l5, l6⟩ := l
  have p2 : C.2.1.1 + 1 ≤ 5 := p2
  refine ⟨⟨rt_w (by omega) l1, ⟨?_, l2.2⟩, ?_⟩, ⟨rcP_w (by omega) c1, ⟨?_, p2, fun i hi => ?_⟩, rcB_w (C := sp_cE C v x k) (by omega) c3, rcS_w (by omega) c4, rcO_w (by omega) c5, rcL_w (by omega) c6, rcN_w (by omega) c7⟩, rq_w (by unfold r_in; omega) l5, l6⟩
  · rw [em_wn _ _ (by omega)]; exact l2.1
  · rw [em_wn _ _ (by omega)]; exact l3
  · rw [em_wn _ _ (by omega)]; exact p1
  · have hi : i < C.2.1.1 + 1 := hi
    have hh := p3 i hi
    have h1 : h.1 160 (62 + 2 * i) = (if i = C.2.1.1 then x else C.2.1.2.2.1 i) := hh.1
    have h2 : h.1 160 (63 + 2 * i) = (if i = C.2.1.1 then y else C.2.1.2.2.2.1 i) := hh.2
    show _ = (if i = C.2.1.1 then x else C.2.1.2.2.1 i) ∧ _ = (if i = C.2.1.1 then k else C.2.1.2.2.2.1 i)
    rw [em_wn (o' := 160) (k' := 62 + 2 * i) _ _ (by omega), h1]
    by_cases ei : i = C.2.1.1
    · rw [if_pos ei, if_pos ei, ei, em_we]
      exact ⟨rfl, rfl⟩
    · rw [if_neg ei, if_neg ei, em_wn _ _ (by omega), h2, if_neg ei]
      exact ⟨rfl, rfl⟩
theorem rr_G {e p : Nat} (l : rr h0 z τ N (a, C) h) (he : e < C.2.1.1) (hp : p < C.1.1) : rr h0 z τ N (a, sp_cG C e p) (am_wI h 160 (46 + 3 * p) (h.1 160 (46 + 3 * p) ||| ((Int32.ofInt 1) <<< (nI e &&& 31)))) := by
  obtain ⟨⟨l1, l2, l3⟩, ⟨c1, c2, c3, c4, c5, c6, c7⟩, l5, l6⟩ := l
  have p6 : C.1.1 ≤ 6 := c1.2.1
  have e5 : C.2.1.1 ≤ 5 := c2.2.1
  refine ⟨⟨rt_w (by omega) l1, ⟨?_, l2.2⟩, ?_⟩, ⟨rcP_w (by omega) c1, rcE_w (C := sp_cG C e p) (by omega) c2, fun p' e' hp' he' => ?_, rcS_w (by omega) c4, rcO_w (by omega) c5, rcL_w (by omega) c6, rcN_w (by omega) c7⟩, rq_w (by unfold r_in; omega) l5, l6⟩
  · rw [em_wn _ _ (by omega)]; exact l2.1
  · rw [em_wn _ _ (by omega)]; exact l3
  · have wb : bN ((am_wI h 160 (46 + 3 * p) (h.1 160 (46 + 3 * p) ||| ((Int32.ofInt 1) <<< (nI e &&& 31)))).1 160 (46 + 3 * p')) < 32 := by
      by_cases ep : p' = p
      · rw [ep, em_we, bN_or, bN_1s (by omega)]
        exact Nat.or_lt_two_pow (n := 5) (c3 p e (by omega) (by omega)).2 (Nat.pow_lt_pow_right (by decide) (by omega))
      · rw [em_wn _ _ (by omega)]
        exact (c3 p' e' hp' he').2
    refine ⟨?_, wb⟩
    show _ = (decide (e' < C.2.1.1) && sp_bit (if e' = e then C.2.1.2.2.2.2 e ||| ((Int32.ofInt 1) <<< (nI p &&& 31)) else C.2.1.2.2.2.2 e') (nI p'))
    have w : sp_bit (h.1 160 (46 + 3 * p')) (nI e') = (decide (e' < C.2.1.1) && sp_bit (C.2.1.2.2.2.2 e') (nI p')) := (c3 p' e' hp' he').1
    by_cases ep : p' = p
    · rw [ep, em_we, bit_or (by omega) (by omega)]
      rw [ep] at w
      rw [w]
      by_cases ee : e' = e
      · rw [if_pos ee, ee, bit_or (by omega) (by omega), decide_eq_true (rfl : e = e), decide_eq_true (rfl : p = p), decide_eq_true he]
        simp only [Bool.or_true, Bool.true_and]
      · rw [if_neg ee, decide_eq_false (fun q : e = e' => ee q.symm), Bool.or_false]
    · rw [em_wn _ _ (by omega), w]
      by_cases ee : e' = e
      · rw [if_pos ee, ee, bit_or (by omega) (by omega), decide_eq_false (fun q : p = p' => ep q.symm), Bool.or_false]
      · rw [if_neg ee]
theorem rr_S (hv : sp_sK (C.2.2.1.1, k)) (l : rr h0 z τ N (a, C) h) : rr h0 z τ N (a, sp_cS C C.2.2.1.1 k) (am_wI h 160 42 k) := by
  obtain ⟨⟨l1, l2, l3⟩, ⟨c1, c2, c3, c4, c5, c6, c7⟩, l5, l6⟩ := l
  refine ⟨⟨rt_w (by omega) l1, ⟨?_, l2.2⟩, ?_⟩, ⟨rcP_w (by omega) c1, rcE_w (by omega) c2, rcB_w (by omega) c3, ⟨em_we _ _ _ _, hv⟩, rcO_w (C := sp_cS C C.2.2.1.1 k) (by omega) c5, rcL_w (by omega) c6, rcN_w (by omega) c7⟩, rq_w (by unfold r_in; omega) l5, l6⟩
  · rw [em_wn _ _ (by omega)]; exact l2.1
  · rw [em_wn _ _ (by omega)]; exact l3
theorem rr_sn1 (l : rr h0 z τ N (a, C) h) (hn : ¬ (τ a).1 = 0) : rr h0 z τ N (a + 1, sp_cS C true C.2.2.1.2) (am_wI (am_wI h 154 20 (rb2 true C.2.2.2.1)) 154 7 (nI (a + 1))) := by
  have h1 := r_lt l hn
  obtain ⟨⟨l1, l2, l3⟩, ⟨c1, c2, c3, c4, c5, c6, c7⟩, l5, l6⟩ := l
  refine ⟨⟨rt_w (by omega) (rt_w (by omega) l1), ⟨em_we _ _ _ _, h1⟩, ?_⟩, ⟨rcP_w (by omega) (rcP_w (by omega) c1), rcE_w (by omega) (rcE_w (by omega) c2), rcB_w (by omega) (rcB_w (by omega) c3), rcS_w (by omega) (rcS_w (by omega) (show rcS (sp_cS C true C.2.2.1.2) h from ⟨c4.1, fun q => (by cases q), c4.2.2⟩)), ?_, rcL_w (by omega) (rcL_w (by omega) c6), rcN_w (by omega) (rcN_w (by omega) c7)⟩, rq_w (by unfold r_in; omega) (rq_w (by unfold r_in; omega) l5), Nat.le_succ_of_le l6⟩
  · rw [em_wn _ _ (by omega), em_wn _ _ (by omega)]; exact l3
  · show (am_wI (am_wI h 154 20 (rb2 true C.2.2.2.1)) 154 7 (nI (a + 1))).1 154 20 = rb2 true C.2.2.2.1
    rw [em_wn _ _ (by omega), em_we]
theorem rr_go1 (l : rr h0 0 τ N (a, C) h) (hn : ¬ (τ a).1 = 0) (ht : C.2.2.2.1 = false) : rr h0 0 τ N (a + 1, sp_cL C) (am_wI (am_wI (am_wI h 154 20 (rb2 C.2.2.1.1 true)) 154 7 (nI (a + 1))) 160 43 (nI 0)) := by
  have h1 := r_lt l hn
  obtain ⟨⟨l1, l2, l3⟩, ⟨c1, c2, c3, c4, c5, ⟨d1, d2, d3, d4, d5⟩, c7⟩, l5, l6⟩ := l
  refine ⟨⟨rt_w (by omega) (rt_w (by omega) (rt_w (by omega) l1)), ⟨?_, h1⟩, ?_⟩, ⟨rcP_w (by omega) (rcP_w (by omega) (rcP_w (by omega) c1)), rcE_w (by omega) (rcE_w (by omega) (rcE_w (by omega) c2)), rcB_w (by omega) (rcB_w (by omega) (rcB_w (by omega) c3)), rcS_w (by omega) (rcS_w (by omega) (rcS_w (by omega) c4)), ?_, ⟨?_, fun j hj => ?_, fun q => absurd q (by decide), fun q => (by cases q), em_we _ _ _ _⟩, rcN_w (by omega) (rcN_w (by omega) (rcN_w (by omega) c7))⟩, rq_w (by unfold r_in; omega) (rq_w (by unfold r_in; omega) (rq_w (by unfold r_in; omega) l5)), Nat.le_succ_of_le l6⟩
  · rw [em_wn _ _ (by omega), em_we]
  · rw [em_wn _ _ (by omega), em_wn _ _ (by omega), em_wn _ _ (by omega)]; exact l3
  · show (am_wI (am_wI (am_wI h 154 20 (rb2 C.2.2.1.1 true)) 154 7 (nI (a + 1))) 160 43 (nI 0)).1 154 20 = rb2 C.2.2.1.1 true
    rw [em_wn _ _ (by omega), em_wn _ _ (by omega), em_we]
  · rw [em_wn _ _ (by omega), em_wn _ _ (by omega), em_wn _ _ (by omega)]; exact d1
  · rw [em_wn _ _ (by omega), em_wn _ _ (by omega), em_wn _ _ (by omega), em_wn _ _ (by omega), em_wn _ _ (by omega), em_wn _ _ (by omega)]; exact d2 j hj
end
/-! lines without their sign -/
def sq_person (τ : sp_T) (s : sp_S) : sp_R := bif Nat.ble 6 s.2.1.1 then sp_f τ s.1 (Int32.ofInt 5) else
  sp_b (sp_fn τ (s.1 + 1, s.2)) fun s1 => match sp_kd τ (s1.1 + 1) with
    | none => sp_f τ (s1.1 + 1) (Int32.ofInt 1)
    | some k => sp_b (sp_tW τ 17003 (s1.1 + 1 + 1, s1.2)) fun s2 => sp_b (sp_tN τ (Int32.ofInt 0) (Int32.ofInt 4) s2) fun s3 => .inr (s3.1 + 1, sp_cP s3.2 (τ s1.1).2.1 k (sp_v τ s3.1))
def sq_event (τ : sp_T) (s : sp_S) : sp_R := bif Nat.ble 5 s.2.2.1.1 then sp_f τ s.1 (Int32.ofInt 5) else
  sp_b (sp_fn τ (s.1 + 1, s.2)) fun s1 => sp_b (sp_tW τ 569 (s1.1 + 1, s1.2)) fun s2 => sp_b (sp_tN τ (Int32.ofInt 0) (Int8.ofInt 6).toInt32 s2) fun s3 => sp_b (sp_tW τ 26498531 (s3.1 + 1, s3.2)) fun s4 => sp_b (sp_tN τ (Int32.ofInt 1) (Int8.ofInt 6).toInt32 s4) fun s5 => .inr (s5.1 + 1, sp_cE s5.2 (τ s1.1).2.1 (sp_v τ s3.1) (sp_v τ s5.1))
def sq_comes (τ : sp_T) (s : sp_S) : sp_R := bif sp_n τ (s.1 + 1) then (match sp_pf s.2 (τ (s.1 + 1)).2.1 with
    | none => sp_f τ (s.1 + 1) (Int32.ofInt 2)
    | some p => bif sp_n τ (s.1 + 1 + 1) then (match sp_ef s.2 (τ (s.1 + 1 + 1)).2.1 with
        | none => sp_f τ (s.1 + 1 + 1) (Int32.ofInt 2)
        | some e => bif sp_bit (s.2.2.1.2.2.2.2 e) (nI p) then sp_f τ (s.1 + 1 + 1) (Int32.ofInt 3) else .inr (s.1 + 1 + 1 + 1, sp_cG s.2 e p)) else sp_f τ (s.1 + 1 + 1) (Int32.ofInt 1)) else sp_f τ (s.1 + 1) (Int32.ofInt 1)
def sq_snow (τ : sp_T) (s : sp_S) : sp_R := bif s.2.2.2.1.1 then sp_f τ s.1 (Int32.ofInt 3) else sp_b (sp_sd τ (s.1 + 1, sp_cS s.2 true s.2.2.2.1.2)) fun s1 => sp_sl τ 1001 s1
def sq_goes (τ : sp_T) (s : sp_S) : sp_R := bif s.2.2.2.2.1 then sp_f τ s.1 (Int32.ofInt 3) else sp_wh τ (sp_pt τ 5) (s.1 + 1, sp_cL s.2)
def sq_once (τ : sp_T) (s : sp_S) : sp_R := bif sp_w τ s.1 982151 then sq_snow τ s else bif sp_w τ s.1 375310 then sq_goes τ s else sp_f τ s.1 (Int32.ofInt 1)
def sq_line (τ : sp_T) (s : sp_S) : sp_R := bif sp_w τ s.1 1119812451 then sq_person τ s else bif sp_w τ s.1 10492554 then sq_event τ s else bif sp_w τ s.1 6400279 then sq_comes τ s else sq_once τ s
theorem sp_b_as (r : sp_R) (f g : sp_S → sp_R) : sp_b (sp_b r f) g = sp_b r (fun s => sp_b (f s) g) := by
  cases r with
  | inl F => rfl
  | inr s => rfl
theorem sq_ok (τ : sp_T) (s : sp_S) : sp_line τ s = sp_b (sq_line τ s) (sp_tS τ (Int8.ofInt 59).toInt32) := by
  unfold sp_line sq_line
  cases sp_w τ s.1 1119812451 with
  | true =>
    show sp_person τ s = sp_b (sq_person τ s) _
    unfold sp_person sq_person
    cases Nat.ble 6 s.2.1.1 with
    | true => rfl
    | false =>
      show sp_b _ _ = sp_b (sp_b _ _) _
      rw [sp_b_as]
      cases sp_fn τ (s.1 + 1, s.2) with
      | inl F => rfl
      | inr s1 =>
        show (match sp_kd τ (s1.1 + 1) with
          | none => sp_f τ (s1.1 + 1) (Int32.ofInt 1)
          | some k => sp_b (sp_tW τ 17003 (s1.1 + 1 + 1, s1.2)) fun s2 => sp_b (sp_tN τ (Int32.ofInt 0) (Int32.ofInt 4) s2) fun s3 => sp_tS τ (Int8.ofInt 59).toInt32 (s3.1 + 1, sp_cP s3.2 (τ s1.1).2.1 k (sp_v τ s3.1))) = sp_b (match sp_kd τ (s1.1 + 1) with
          | none => sp_f τ (s1.1 + 1) (Int32.ofInt 1)
          | some k => sp_b (sp_tW τ 17003 (s1.1 + 1 + 1, s1.2)) fun s2 => sp_b (sp_tN τ (Int32.ofInt 0) (Int32.ofInt 4) s2) fun s3 => .inr (s3.1 + 1, sp_cP s3.2 (τ s1.1).2.1 k (sp_v τ s3.1))) _
        cases sp_kd τ (s1.1 + 1) with
        | none => rfl
        | some k =>
          show sp_b _ _ = sp_b (sp_b _ _) _
          rw [sp_b_as]
          cases sp_tW τ 17003 (s1.1 + 1 + 1, s1.2) with
          | inl F => rfl
          | inr s2 =>
            show sp_b _ _ = sp_b (sp_b _ _) _
            rw [sp_b_as]
            rfl
  | false =>
    cases sp_w τ s.1 10492554 with
    | true =>
      show sp_event τ s = sp_b (sq_event τ s) _
      unfold sp_event sq_event
      cases Nat.ble 5 s.2.2.1.1 with
      | true => rfl
      | false =>
        show sp_b _ _ = sp_b (sp_b _ _) _
        simp only [sp_b_as]
        rfl
    | false =>
      cases sp_w τ s.1 6400279 with
      | true =>
        show sp_comes τ s = sp_b (sq_comes τ s) _
        unfold sp_comes sq_comes
        cases sp_n τ (s.1 + 1) with
        | false => rfl
        | true =>
          cases sp_pf s.2 (τ (s.1 + 1)).2.1 with
          | none => rfl
          | some p =>
            cases sp_n τ (s.1 + 1 + 1) with
            | false => rfl
            | true =>
              cases sp_ef s.2 (τ (s.1 + 1 + 1)).2.1 with
              | none => rfl
              | some e =>
                show (bif sp_bit (s.2.2.1.2.2.2.2 e) (nI p) then _ else _) = sp_b (bif sp_bit (s.2.2.1.2.2.2.2 e) (nI p) then _ else _) _
                cases sp_bit (s.2.2.1.2.2.2.2 e) (nI p) with
                | true => rfl
                | false => rfl
      | false =>
        show _ = sp_b (sq_once τ s) _
        unfold sq_once
        cases sp_w τ s.1 982151 with
        | true =>
          show sp_snow τ s = sp_b (sq_snow τ s) _
          unfold sp_snow sq_snow
          cases s.2.2.2.1.1 with
          | true => rfl
          | false =>
            show sp_b _ _ = sp_b (sp_b _ _) _
            rw [sp_b_as]
        | false =>
          cases sp_w τ s.1 375310 with
          | true =>
            show sp_goes τ s = sp_b (sq_goes τ s) _
            unfold sp_goes sq_goes
            cases s.2.2.2.2.1 with
            | true => rfl
            | false => rfl
          | false => rfl
theorem sp_sd_told {τ : sp_T} {s t : sp_S} (e : sp_sd τ s = .inr t) : t.2.2.2.2 = s.2.2.2.2 := by
  unfold sp_sd at e
  cases h1 : sp_k τ s.1 2 with
  | false => simp only [h1, cond_false, sp_f] at e; cases e
  | true =>
    simp only [h1, cond_true] at e
    cases h2 : sp_in τ s.1 (Int32.ofInt 0) (Int8.ofInt 27).toInt32 with
    | false => simp only [h2, cond_false, sp_f] at e; cases e
    | true =>
      simp only [h2, cond_true] at e
      cases h3 : sp_bit s.2.2.2.1.2 (sp_v τ s.1) with
      | true => simp only [h3, cond_true, sp_f] at e; cases e
      | false =>
        simp only [h3, cond_false] at e
        cases h4 : Nat.ble 8 (sp_pc s.2.2.2.1.2 28) with
        | true => simp only [h4, cond_true, sp_f] at e; cases e
        | false => simp only [h4, cond_false] at e; cases e; rfl
theorem sd_inl {τ : sp_T} {s : sp_S} {F : Int32} (e : sp_tN τ (Int32.ofInt 0) (Int8.ofInt 27).toInt32 s = .inl F) : sp_sd τ s = .inl F := by
  unfold sp_tN at e
  unfold sp_sd
  cases h1 : sp_k τ s.1 2 with
  | false => simp only [h1, cond_false] at e ⊢; exact e
  | true =>
    simp only [h1, cond_true] at e ⊢
    cases h2 : sp_in τ s.1 (Int32.ofInt 0) (Int8.ofInt 27).toInt32 with
    | false => simp only [h2, cond_false] at e ⊢; exact e
    | true => simp only [h2, cond_true] at e; cases e
theorem sp_sl_told {τ : sp_T} : ∀ {m : Nat} {s t : sp_S}, sp_sl τ m s = .inr t → t.2.2.2.2 = s.2.2.2.2
  | 0, s, t, e => by cases e; rfl
  | m + 1, s, t, e => by
    unfold sp_sl at e
    cases h1 : sp_k τ s.1 2 with
    | false => simp only [h1, cond_false] at e; cases e; rfl
    | true =>
      simp only [h1, cond_true] at e
      obtain ⟨u, e1, e2⟩ := sp_b_inr e
      exact (sp_sl_told e2).trans (sp_sd_told e1)
theorem r_cg_W {τ : sp_T} {w : Int64} {a : Nat} {C D : sp_C} (e : sp_tW τ w (a, C) = .inr (a + 1, C)) : sp_tW τ w (a, D) = .inr (a + 1, D) := by
  unfold sp_tW at e ⊢
  cases h1 : sp_w τ a w with
  | true => simp only [h1, cond_true]
  | false => simp only [h1, cond_false, sp_f] at e; cases e
theorem r_cg_N {τ : sp_T} {lo hi : Int32} {a : Nat} {C D : sp_C} (e : sp_tN τ lo hi (a, C) = .inr (a, C)) : sp_tN τ lo hi (a, D) = .inr (a, D) := by
  unfold sp_tN at e ⊢
  cases h1 : sp_k τ a 2 with
  | false => simp only [h1, cond_false, sp_f] at e; cases e
  | true =>
    simp only [h1, cond_true] at e ⊢
    cases h2 : sp_in τ a lo hi with
    | false => simp only [h2, cond_false, sp_f] at e; cases e
    | true => simp only [h2, cond_true]
theorem r_cg_B {τ : sp_T} {w : Int64} {lo hi F : Int32} {a : Nat} {C D : sp_C} (e : sp_b (sp_tW τ w (a, C)) (sp_tN τ lo hi) = .inl F) (f : sp_S → sp_R) : sp_b (sp_tW τ w (a, D)) (fun s => sp_b (sp_tN τ lo hi s) f) = .inl F := by
  unfold sp_tW at e ⊢
  cases h1 : sp_w τ a w with
  | false => simp only [h1, cond_false, sp_f, sp_b] at e ⊢; exact e
  | true =>
    simp only [h1, cond_true, sp_b] at e ⊢
    unfold sp_tN at e ⊢
    cases h2 : sp_k τ (a + 1) 2 with
    | false => simp only [h2, cond_false, sp_f] at e ⊢; exact e
    | true =>
      simp only [h2, cond_true] at e ⊢
      cases h3 : sp_in τ (a + 1) lo hi with
      | false => simp only [h3, cond_false, sp_f] at e ⊢; exact e
      | true => simp only [h3, cond_true] at e; cases e
theorem pn_B {τ : sp_T} {s : sp_S} {F k : Int32} {C : sp_C} (e0 : Nat.ble 6 s.2.1.1 = false) (e1 : sp_fn τ (s.1 + 1, s.2) = .inr (s.1 + 1, s.2)) (ek : sp_kd τ (s.1 + 1 + 1) = some k) (eB : sp_b (sp_tW τ 17003 (s.1 + 1 + 1 + 1, C)) (sp_tN τ (Int32.ofInt 0) (Int32.ofInt 4)) = .inl F) : sq_person τ s = .inl F := by
  unfold sq_person
  rw [e0]
  show sp_b (sp_fn τ (s.1 + 1, s.2)) _ = _
  rw [e1]
  show (match sp_kd τ (s.1 + 1 + 1) with
    | none => _
    | some k => _) = _
  rw [ek]
  exact r_cg_B eB _
theorem ev_B1 {τ : sp_T} {s : sp_S} {F : Int32} {C : sp_C} (e0 : Nat.ble 5 s.2.2.1.1 = false) (e1 : sp_fn τ (s.1 + 1, s.2) = .inr (s.1 + 1, s.2)) (eB : sp_b (sp_tW τ 569 (s.1 + 1 + 1, C)) (sp_tN τ (Int32.ofInt 0) (Int8.ofInt 6).toInt32) = .inl F) : sq_event τ s = .inl F := by
  unfold sq_event
  rw [e0]
  show sp_b (sp_fn τ (s.1 + 1, s.2)) _ = _
  rw [e1]
  exact r_cg_B eB _
theorem ev_B2 {τ : sp_T} {s : sp_S} {F : Int32} {C D E : sp_C} (e0 : Nat.ble 5 s.2.2.1.1 = false) (e1 : sp_fn τ (s.1 + 1, s.2) = .inr (s.1 + 1, s.2)) (e2 : sp_tW τ 569 (s.1 + 1 + 1, D) = .inr (s.1 + 1 + 1 + 1, D)) (e3 : sp_tN τ (Int32.ofInt 0) (Int8.ofInt 6).toInt32 (s.1 + 1 + 1 + 1, E) = .inr (s.1 + 1 + 1 + 1, E)) (eB : sp_b (sp_tW τ 26498531 (s.1 + 1 + 1 + 1 + 1, C)) (sp_tN τ (Int32.ofInt 1) (Int8.ofInt 6).toInt32) = .inl F) : sq_event τ s = .inl F := by
  unfold sq_event
  rw [e0]
  show sp_b (sp_fn τ (s.1 + 1, s.2)) _ = _
  rw [e1]
  show sp_b (sp_tW τ 569 (s.1 + 1 + 1, s.2)) _ = _
  rw [r_cg_W e2]
  show sp_b (sp_tN τ (Int32.ofInt 0) (Int8.ofInt 6).toInt32 (s.1 + 1 + 1 + 1, s.2)) _ = _
  rw [r_cg_N e3]
  exact r_cg_B eB _
theorem nI_mul (a b : Nat) : nI a * nI b = nI (a * b) := by
  have e : ∀ n, bN (nI n) = n % 4294967296 := fun n => by
    show (BitVec.ofNat 32 n).toNat = _
    rw [BitVec.toNat_ofNat]
  apply bN_inj
  have e1 : bN (nI a * nI b) = (bN (nI a) * bN (nI b)) % 4294967296 := by
    unfold bN
    rw [Int32.toBitVec_mul, BitVec.toNat_mul]
  rw [e1, e, e, e]
  exact (Nat.mul_mod a b _).symm
theorem cm_i (p : Nat) : (Int8.ofInt 44).toInt32 + Int32.ofInt 3 * nI p + Int32.ofInt 2 = nI (46 + 3 * p) := by
  rw [show Int32.ofInt 3 * nI p = nI (3 * p) from nI_mul 3 _, show (Int8.ofInt 44).toInt32 + nI (3 * p) = nI (44 + 3 * p) from nI_add 44 _, show nI (44 + 3 * p) + Int32.ofInt 2 = nI (44 + 3 * p + 2) from nI_add _ 2]
  congr 1
  omega
theorem rx_160 {h h0 : am_H} {F v : Int32} {c k : Nat} (hk : 40 ≤ k) (x : rx h0 F c h) : rx h0 F c (am_wI h 160 k v) := by
  obtain ⟨x1, ⟨x2, x3⟩, x4, x5⟩ := x
  refine ⟨x1, ⟨?_, x3⟩, ?_, rq_w (by unfold r_in; omega) x5⟩
  · rw [em_wn _ _ (by omega)]; exact x2
  · rw [em_wn _ _ (by omega)]; exact x4
theorem cm_p {τ : sp_T} {s : sp_S} {F : Int32} (e : tq_p τ (s.1 + 1, s.2) = .inl F) : sq_comes τ s = .inl F := by
  unfold tq_p at e
  unfold sq_comes
  cases h1 : sp_n τ (s.1 + 1) with
  | false => simp only [h1, cond_false] at e ⊢; exact e
  | true =>
    simp only [h1, cond_true] at e ⊢
    cases h2 : sp_pf s.2 (τ (s.1 + 1)).2.1 with
    | none => simp only [h2] at e ⊢; exact e
    | some p => simp only [h2] at e; cases e
theorem cm_e {τ : sp_T} {s : sp_S} {F b : Int32} {p : Nat} (e1 : sp_n τ (s.1 + 1) = true) (e2 : sp_pf s.2 (τ (s.1 + 1)).2.1 = some p) (eb : ∀ e, e < s.2.2.1.1 → sp_bit b (nI e) = sp_bit (s.2.2.1.2.2.2.2 e) (nI p)) (e : tq_e τ (s.1 + 1 + 1, s.2) b = .inl F) : sq_comes τ s = .inl F := by
  unfold tq_e at e
  unfold sq_comes
  simp only [e1, cond_true, e2]
  cases h1 : sp_n τ (s.1 + 1 + 1) with
  | false => simp only [h1, cond_false] at e ⊢; exact e
  | true =>
    simp only [h1, cond_true] at e ⊢
    cases h2 : sp_ef s.2 (τ (s.1 + 1 + 1)).2.1 with
    | none => simp only [h2] at e ⊢; exact e
    | some q =>
      simp only [h2] at e ⊢
      have hq := (sp_fd_lt h2).2.1
      rw [eb q (by omega)] at e
      cases h3 : sp_bit (s.2.2.1.2.2.2.2 q) (nI p) with
      | true => simp only [h3, cond_true] at e ⊢; exact e
      | false => simp only [h3, cond_false] at e; cases e
variable {h h0 : am_H} {z N a c n : Nat} {τ : sp_T} {C : sp_C} {s : sp_S} {F : Int32} {Q : am_Q}

theorem r_209b (hn : n ≤ 8) (ht : s.2.2.2.1.1 = true) (en : sp_pc s.2.2.2.1.2 28 = n) (l : rr h0 z τ N s h) (hF : ∀ F h1, sp_sd τ s = .inl F → rx h0 F (s.2.2.2.2.2.1 + z) h1 → Q none h1) (hK : ∀ h1 t, sp_sd τ s = .inr t → sp_pc t.2.2.2.1.2 28 = n + 1 → n + 1 ≤ 8 → rr h0 z τ N t h1 → pz_S 3 none am_r209 2 Q 2 [(1, .int (nI (n + 1))), (2, .int (sp_v τ s.1)), (0, .ref 154)] [] h1) : pz_S 3 none am_r209 2 Q 26 [(1, .int (nI n)), (0, .ref 154)] [] h := by
  have hP := r_P l
  have gl := r_N l
  have hn8 := sp_pc_le s.2.2.2.1.2 28
  have hsK : sp_sK s.2.2.2.1 := l.2.1.2.2.2.1.2
  refine am_goX 4 (show am_rc h 154 11 ∧ 0 ≤ 8 ∧ h.2.2.2.2 + am_al 205 ≤ 175 ∧ am_call am_cod 2 205 [.ref 154, .int (Int32.ofInt 0), .int (Int8.ofInt 27).toInt32] h (fun vv h' => pz_S 3 none am_r209 2 Q 33 [(1, .int (nI n)), (0, .ref 154)] (vv.toList ++ []) h') from ⟨Or.inl ⟨by decide, ex_154 (r_P l)⟩, by decide, ex_lim (r_P l) rfl, am_call.up (r_205 (s := s) l (fun F1 h2 e3 x4 => ?_) (fun h5 e6 l7 => ?_)) (by omega)⟩)
  ·
    have e9 := sd_inl e3
    refine am_goX 6 (show 2 < 3 ∧ (Value.ref 154).category = 1 ∧ am_sh h2 154 = some (11, 0) ∧ am_sh h2 154 = some (11, 0) ∧ pz_S 3 none am_r209 2 Q 43 [(2, .int (Int32.ofInt 0)), (1, .int (nI n)), (0, .ref 154)] [.int (h2.1 154 8), .int (h2.1 154 7), .ref 154] h2 from ⟨by decide, rfl, ex_154 x4.1, ex_154 x4.1, ?_⟩)
    rw [x4.2.1.1]
    refine am_goX 1 (show ((F1) ≤ 0 → pz_S 3 none am_r209 2 Q 50 [(2, .int (Int32.ofInt 0)), (1, .int (nI n)), (0, .ref 154)] [.int (h2.1 154 7), .ref 154] h2) ∧ (¬ ((F1) ≤ 0) → pz_S 3 none am_r209 2 Q 46 [(2, .int (Int32.ofInt 0)), (1, .int (nI n)), (0, .ref 154)] [.int (h2.1 154 7), .ref 154] h2) from ⟨fun hz => absurd hz (rx_le x4), fun _ => ?_⟩)
    refine am_goX 4 (show am_sh h2 154 = some (11, 0) ∧ narrow (am_fty 11 7) (.int (((h2.1 154 7) - (Int32.ofInt 0)))) = .int (((h2.1 154 7) - (Int32.ofInt 0))) ∧ fits (am_fty 11 7) (.int (((h2.1 154 7) - (Int32.ofInt 0)))) = true ∧ pz_S 3 none am_r209 2 Q 55 [(2, .int (Int32.ofInt 0)), (1, .int (nI n)), (0, .ref 154)] [] (am_wI h2 154 7 (((h2.1 154 7) - (Int32.ofInt 0)))) from ⟨ex_154 x4.1, rfl, rfl, ?_⟩)
    have x10 : rx h0 (F1) (s.2.2.2.2.2.1 + z) (am_wI h2 154 7 (((h2.1 154 7) - (Int32.ofInt 0)))) := rx_at x4
    refine am_goX 2 (show am_sh (am_wI h2 154 7 (((h2.1 154 7) - (Int32.ofInt 0)))) 154 = some (11, 0) ∧ pz_S 3 none am_r209 2 Q 59 [(2, .int (Int32.ofInt 0)), (1, .int (nI n)), (0, .ref 154)] [am_rf ((am_wI h2 154 7 (((h2.1 154 7) - (Int32.ofInt 0)))).2.2.1 154 10)] (am_wI h2 154 7 (((h2.1 154 7) - (Int32.ofInt 0)))) from ⟨ex_154 x10.1, ?_⟩)
    rw [ex_r154_10 (h := am_wI h2 154 7 (((h2.1 154 7) - (Int32.ofInt 0)))) x10.1]
    refine am_goX 2 (show ∃ jj nn : Nat, am_sh (am_wI h2 154 7 (((h2.1 154 7) - (Int32.ofInt 0)))) 160 = some (13, nn) ∧ jj < nn ∧ (Int8.ofInt 42).toInt32 = nI jj ∧ pz_S 3 none am_r209 2 Q 62 [(2, .int (Int32.ofInt 0)), (1, .int (nI n)), (0, .ref 154)] [.int ((am_wI h2 154 7 (((h2.1 154 7) - (Int32.ofInt 0)))).1 160 jj)] (am_wI h2 154 7 (((h2.1 154 7) - (Int32.ofInt 0)))) from ⟨42, 80, ex_160 x10.1, (by decide), (by decide), ?_⟩)
    refine am_goX 6 (show (¬ ((((am_wI h2 154 7 (((h2.1 154 7) - (Int32.ofInt 0)))).1 160 42) >>> ((Int32.ofInt 0) &&& 31)) &&& (Int32.ofInt 1)) = (Int32.ofInt 1) → pz_S 3 none am_r209 2 Q 78 [(2, .int (Int32.ofInt 0)), (1, .int (nI n)), (0, .ref 154)] [] (am_wI h2 154 7 (((h2.1 154 7) - (Int32.ofInt 0))))) ∧ (¬ ¬ ((((am_wI h2 154 7 (((h2.1 154 7) - (Int32.ofInt 0)))).1 160 42) >>> ((Int32.ofInt 0) &&& 31)) &&& (Int32.ofInt 1)) = (Int32.ofInt 1) → pz_S 3 none am_r209 2 Q 70 [(2, .int (Int32.ofInt 0)), (1, .int (nI n)), (0, .ref 154)] [] (am_wI h2 154 7 (((h2.1 154 7) - (Int32.ofInt 0))))) from ⟨fun hc => ?_, fun hc => ?_⟩)
    ·
      refine am_goX 3 (show (¬ (nI n) = (Int8.ofInt 8).toInt32 → pz_S 3 none am_r209 2 Q 89 [(2, .int (Int32.ofInt 0)), (1, .int (nI n)), (0, .ref 154)] [] (am_wI h2 154 7 (((h2.1 154 7) - (Int32.ofInt 0))))) ∧ (¬ ¬ (nI n) = (Int8.ofInt 8).toInt32 → pz_S 3 none am_r209 2 Q 84 [(2, .int (Int32.ofInt 0)), (1, .int (nI n)), (0, .ref 154)] [] (am_wI h2 154 7 (((h2.1 154 7) - (Int32.ofInt 0))))) from ⟨fun hc => ?_, fun hc => ?_⟩)
      ·
        refine am_goX 2 (show am_sh (am_wI h2 154 7 (((h2.1 154 7) - (Int32.ofInt 0)))) 154 = some (11, 0) ∧ pz_S 3 none am_r209 2 Q 93 [(2, .int (Int32.ofInt 0)), (1, .int (nI n)), (0, .ref 154)] [.int ((am_wI h2 154 7 (((h2.1 154 7) - (Int32.ofInt 0)))).1 154 8)] (am_wI h2 154 7 (((h2.1 154 7) - (Int32.ofInt 0)))) from ⟨ex_154 x10.1, ?_⟩)
        rw [x10.2.1.1]
        refine am_goX 1 (show (¬ (F1) = 0 → pz_S 3 none am_r209 2 Q 122 [(2, .int (Int32.ofInt 0)), (1, .int (nI n)), (0, .ref 154)] [] (am_wI h2 154 7 (((h2.1 154 7) - (Int32.ofInt 0))))) ∧ (¬ ¬ (F1) = 0 → pz_S 3 none am_r209 2 Q 96 [(2, .int (Int32.ofInt 0)), (1, .int (nI n)), (0, .ref 154)] [] (am_wI h2 154 7 (((h2.1 154 7) - (Int32.ofInt 0))))) from ⟨fun _ => ?_, fun hz => absurd (rx_ne x10) hz⟩)
        refine am_goX 3 (show am_sh (am_wI h2 154 7 (((h2.1 154 7) - (Int32.ofInt 0)))) 154 = some (11, 0) ∧ pz_S 3 none am_r209 2 Q 6 [(2, .int (Int32.ofInt 0)), (1, .int (nI n)), (0, .ref 154)] [.int ((am_wI h2 154 7 (((h2.1 154 7) - (Int32.ofInt 0)))).1 154 8)] (am_wI h2 154 7 (((h2.1 154 7) - (Int32.ofInt 0)))) from ⟨ex_154 x10.1, ?_⟩)
        rw [x10.2.1.1]
        refine am_goX 1 (show (¬ (F1) = 0 → pz_S 3 none am_r209 2 Q 125 [(2, .int (Int32.ofInt 0)), (1, .int (nI n)), (0, .ref 154)] [] (am_wI h2 154 7 (((h2.1 154 7) - (Int32.ofInt 0))))) ∧ (¬ ¬ (F1) = 0 → pz_S 3 none am_r209 2 Q 9 [(2, .int (Int32.ofInt 0)), (1, .int (nI n)), (0, .ref 154)] [] (am_wI h2 154 7 (((h2.1 154 7) - (Int32.ofInt 0))))) from ⟨fun _ => ?_, fun hz => absurd (rx_ne x10) hz⟩)
        exact am_goX 1 (show (none : Option FieldType) = none ∧ (am_wI h2 154 7 (((h2.1 154 7) - (Int32.ofInt 0)))).2.2.2.2 = 175 ∧ _ from ⟨rfl, ex_175 x10.1, hF (F1) _ (e9) x10⟩)
      ·
        refine am_goX 3 (show am_rc (am_wI h2 154 7 (((h2.1 154 7) - (Int32.ofInt 0)))) 154 11 ∧ 0 ≤ 8 ∧ (am_wI h2 154 7 (((h2.1 154 7) - (Int32.ofInt 0)))).2.2.2.2 + am_al 197 ≤ 175 ∧ am_call am_cod 2 197 [.ref 154, .int (Int32.ofInt 5)] (am_wI h2 154 7 (((h2.1 154 7) - (Int32.ofInt 0)))) (fun vv h' => pz_S 3 none am_r209 2 Q 89 [(2, .int (Int32.ofInt 0)), (1, .int (nI n)), (0, .ref 154)] (vv.toList ++ []) h') from ⟨Or.inl ⟨by decide, ex_154 x10.1⟩, by decide, ex_lim x10.1 rfl, am_call.up (d_197 x10 ?_) (by omega)⟩)
        refine am_goX 2 (show am_sh (am_wI h2 154 7 (((h2.1 154 7) - (Int32.ofInt 0)))) 154 = some (11, 0) ∧ pz_S 3 none am_r209 2 Q 93 [(2, .int (Int32.ofInt 0)), (1, .int (nI n)), (0, .ref 154)] [.int ((am_wI h2 154 7 (((h2.1 154 7) - (Int32.ofInt 0)))).1 154 8)] (am_wI h2 154 7 (((h2.1 154 7) - (Int32.ofInt 0)))) from ⟨ex_154 x10.1, ?_⟩)
        rw [x10.2.1.1]
        refine am_goX 1 (show (¬ (F1) = 0 → pz_S 3 none am_r209 2 Q 122 [(2, .int (Int32.ofInt 0)), (1, .int (nI n)), (0, .ref 154)] [] (am_wI h2 154 7 (((h2.1 154 7) - (Int32.ofInt 0))))) ∧ (¬ ¬ (F1) = 0 → pz_S 3 none am_r209 2 Q 96 [(2, .int (Int32.ofInt 0)), (1, .int (nI n)), (0, .ref 154)] [] (am_wI h2 154 7 (((h2.1 154 7) - (Int32.ofInt 0))))) from ⟨fun _ => ?_, fun hz => absurd (rx_ne x10) hz⟩)
        refine am_goX 3 (show am_sh (am_wI h2 154 7 (((h2.1 154 7) - (Int32.ofInt 0)))) 154 = some (11, 0) ∧ pz_S 3 none am_r209 2 Q 6 [(2, .int (Int32.ofInt 0)), (1, .int (nI n)), (0, .ref 154)] [.int ((am_wI h2 154 7 (((h2.1 154 7) - (Int32.ofInt 0)))).1 154 8)] (am_wI h2 154 7 (((h2.1 154 7) - (Int32.ofInt 0)))) from ⟨ex_154 x10.1, ?_⟩)
        rw [x10.2.1.1]
        refine am_goX 1 (show (¬ (F1) = 0 → pz_S 3 none am_r209 2 Q 125 [(2, .int (Int32.ofInt 0)), (1, .int (nI n)), (0, .ref 154)] [] (am_wI h2 154 7 (((h2.1 154 7) - (Int32.ofInt 0))))) ∧ (¬ ¬ (F1) = 0 → pz_S 3 none am_r209 2 Q 9 [(2, .int (Int32.ofInt 0)), (1, .int (nI n)), (0, .ref 154)] [] (am_wI h2 154 7 (((h2.1 154 7) - (Int32.ofInt 0))))) from ⟨fun _ => ?_, fun hz => absurd (rx_ne x10) hz⟩)
        exact am_goX 1 (show (none : Option FieldType) = none ∧ (am_wI h2 154 7 (((h2.1 154 7) - (Int32.ofInt 0)))).2.2.2.2 = 175 ∧ _ from ⟨rfl, ex_175 x10.1, hF (F1) _ (e9) x10⟩)
    ·
      refine am_goX 3 (show am_rc (am_wI h2 154 7 (((h2.1 154 7) - (Int32.ofInt 0)))) 154 11 ∧ 0 ≤ 8 ∧ (am_wI h2 154 7 (((h2.1 154 7) - (Int32.ofInt 0)))).2.2.2.2 + am_al 197 ≤ 175 ∧ am_call am_cod 2 197 [.ref 154, .int (Int32.ofInt 3)] (am_wI h2 154 7 (((h2.1 154 7) - (Int32.ofInt 0)))) (fun vv h' => pz_S 3 none am_r209 2 Q 75 [(2, .int (Int32.ofInt 0)), (1, .int (nI n)), (0, .ref 154)] (vv.toList ++ []) h') from ⟨Or.inl ⟨by decide, ex_154 x10.1⟩, by decide, ex_lim x10.1 rfl, am_call.up (d_197 x10 ?_) (by omega)⟩)
      refine am_goX 3 (show am_sh (am_wI h2 154 7 (((h2.1 154 7) - (Int32.ofInt 0)))) 154 = some (11, 0) ∧ pz_S 3 none am_r209 2 Q 93 [(2, .int (Int32.ofInt 0)), (1, .int (nI n)), (0, .ref 154)] [.int ((am_wI h2 154 7 (((h2.1 154 7) - (Int32.ofInt 0)))).1 154 8)] (am_wI h2 154 7 (((h2.1 154 7) - (Int32.ofInt 0)))) from ⟨ex_154 x10.1, ?_⟩)
      rw [x10.2.1.1]
      refine am_goX 1 (show (¬ (F1) = 0 → pz_S 3 none am_r209 2 Q 122 [(2, .int (Int32.ofInt 0)), (1, .int (nI n)), (0, .ref 154)] [] (am_wI h2 154 7 (((h2.1 154 7) - (Int32.ofInt 0))))) ∧ (¬ ¬ (F1) = 0 → pz_S 3 none am_r209 2 Q 96 [(2, .int (Int32.ofInt 0)), (1, .int (nI n)), (0, .ref 154)] [] (am_wI h2 154 7 (((h2.1 154 7) - (Int32.ofInt 0))))) from ⟨fun _ => ?_, fun hz => absurd (rx_ne x10) hz⟩)
      refine am_goX 3 (show am_sh (am_wI h2 154 7 (((h2.1 154 7) - (Int32.ofInt 0)))) 154 = some (11, 0) ∧ pz_S 3 none am_r209 2 Q 6 [(2, .int (Int32.ofInt 0)), (1, .int (nI n)), (0, .ref 154)] [.int ((am_wI h2 154 7 (((h2.1 154 7) - (Int32.ofInt 0)))).1 154 8)] (am_wI h2 154 7 (((h2.1 154 7) - (Int32.ofInt 0)))) from ⟨ex_154 x10.1, ?_⟩)
      rw [x10.2.1.1]
      refine am_goX 1 (show (¬ (F1) = 0 → pz_S 3 none am_r209 2 Q 125 [(2, .int (Int32.ofInt 0)), (1, .int (nI n)), (0, .ref 154)] [] (am_wI h2 154 7 (((h2.1 154 7) - (Int32.ofInt 0))))) ∧ (¬ ¬ (F1) = 0 → pz_S 3 none am_r209 2 Q 9 [(2, .int (Int32.ofInt 0)), (1, .int (nI n)), (0, .ref 154)] [] (am_wI h2 154 7 (((h2.1 154 7) - (Int32.ofInt 0))))) from ⟨fun _ => ?_, fun hz => absurd (rx_ne x10) hz⟩)
      exact am_goX 1 (show (none : Option FieldType) = none ∧ (am_wI h2 154 7 (((h2.1 154 7) - (Int32.ofInt 0)))).2.2.2.2 = 175 ∧ _ from ⟨rfl, ex_175 x10.1, hF (F1) _ (e9) x10⟩)
  ·
    obtain ⟨-, k8, k9⟩ := sp_tN_inr e6
    refine am_goX 6 (show 2 < 3 ∧ (Value.ref 154).category = 1 ∧ am_sh h5 154 = some (11, 0) ∧ am_sh h5 154 = some (11, 0) ∧ pz_S 3 none am_r209 2 Q 43 [(2, .int (sp_v τ s.1)), (1, .int (nI n)), (0, .ref 154)] [.int (h5.1 154 8), .int (h5.1 154 7), .ref 154] h5 from ⟨by decide, rfl, ex_154 (r_P l7), ex_154 (r_P l7), ?_⟩)
    rw [r_f l7]
    refine am_goX 1 (show (0 ≤ 0 → pz_S 3 none am_r209 2 Q 50 [(2, .int (sp_v τ s.1)), (1, .int (nI n)), (0, .ref 154)] [.int (h5.1 154 7), .ref 154] h5) ∧ (¬ (0 ≤ 0) → pz_S 3 none am_r209 2 Q 46 [(2, .int (sp_v τ s.1)), (1, .int (nI n)), (0, .ref 154)] [.int (h5.1 154 7), .ref 154] h5) from ⟨fun _ => ?_, fun hz => absurd (by decide) hz⟩)
    refine am_goX 3 (show am_sh h5 154 = some (11, 0) ∧ narrow (am_fty 11 7) (.int (((h5.1 154 7) - (Int32.ofInt 1)))) = .int (((h5.1 154 7) - (Int32.ofInt 1))) ∧ fits (am_fty 11 7) (.int (((h5.1 154 7) - (Int32.ofInt 1)))) = true ∧ pz_S 3 none am_r209 2 Q 55 [(2, .int (sp_v τ s.1)), (1, .int (nI n)), (0, .ref 154)] [] (am_wI h5 154 7 (((h5.1 154 7) - (Int32.ofInt 1)))) from ⟨ex_154 (r_P l7), rfl, rfl, ?_⟩)
    rw [r_a l7, show nI (s.1 + 1) - Int32.ofInt 1 = nI s.1 from tk_sub (Nat.le_add_left 1 s.1)]
    have l11 : rr h0 z τ N s (am_wI h5 154 7 (nI s.1)) := rr_at (s := (s.1 + 1, s.2)) (a' := s.1) l7 gl.1 gl.2.2
    refine am_goX 2 (show am_sh (am_wI h5 154 7 (nI s.1)) 154 = some (11, 0) ∧ pz_S 3 none am_r209 2 Q 59 [(2, .int (sp_v τ s.1)), (1, .int (nI n)), (0, .ref 154)] [am_rf ((am_wI h5 154 7 (nI s.1)).2.2.1 154 10)] (am_wI h5 154 7 (nI s.1)) from ⟨ex_154 (r_P l11), ?_⟩)
    rw [ex_r154_10 (h := am_wI h5 154 7 (nI s.1)) (r_P l11)]
    refine am_goX 2 (show ∃ jj nn : Nat, am_sh (am_wI h5 154 7 (nI s.1)) 160 = some (13, nn) ∧ jj < nn ∧ (Int8.ofInt 42).toInt32 = nI jj ∧ pz_S 3 none am_r209 2 Q 62 [(2, .int (sp_v τ s.1)), (1, .int (nI n)), (0, .ref 154)] [.int ((am_wI h5 154 7 (nI s.1)).1 160 jj)] (am_wI h5 154 7 (nI s.1)) from ⟨42, 80, ex_160 (r_P l11), (by decide), (by decide), ?_⟩)
    rw [show (am_wI h5 154 7 (nI s.1)).1 160 42 = s.2.2.2.1.2 from l11.2.1.2.2.2.1.1]
    refine am_goX 5 (show pz_S 3 none am_r209 2 Q 67 [(2, .int (sp_v τ s.1)), (1, .int (nI n)), (0, .ref 154)] [.int (Int32.ofInt 1), .int ((s.2.2.2.1.2 >>> ((sp_v τ s.1) &&& 31)) &&& (Int32.ofInt 1))] (am_wI h5 154 7 (nI s.1)) from ?_)
    cases e4 : sp_bit s.2.2.2.1.2 (sp_v τ s.1) with
    | true =>
      refine am_goX 1 (show (¬ ((s.2.2.2.1.2 >>> ((sp_v τ s.1) &&& 31)) &&& (Int32.ofInt 1)) = (Int32.ofInt 1) → pz_S 3 none am_r209 2 Q 78 [(2, .int (sp_v τ s.1)), (1, .int (nI n)), (0, .ref 154)] [] (am_wI h5 154 7 (nI s.1))) ∧ (¬ ¬ ((s.2.2.2.1.2 >>> ((sp_v τ s.1) &&& 31)) &&& (Int32.ofInt 1)) = (Int32.ofInt 1) → pz_S 3 none am_r209 2 Q 70 [(2, .int (sp_v τ s.1)), (1, .int (nI n)), (0, .ref 154)] [] (am_wI h5 154 7 (nI s.1))) from ⟨fun hz => absurd hz (fun w => w (bit_t e4)), fun _ => ?_⟩)
      refine am_goX 3 (show am_rc (am_wI h5 154 7 (nI s.1)) 154 11 ∧ 0 ≤ 8 ∧ (am_wI h5 154 7 (nI s.1)).2.2.2.2 + am_al 197 ≤ 175 ∧ am_call am_cod 2 197 [.ref 154, .int (Int32.ofInt 3)] (am_wI h5 154 7 (nI s.1)) (fun vv h' => pz_S 3 none am_r209 2 Q 75 [(2, .int (sp_v τ s.1)), (1, .int (nI n)), (0, .ref 154)] (vv.toList ++ []) h') from ⟨Or.inl ⟨by decide, ex_154 (r_P l11)⟩, by decide, ex_lim (r_P l11) rfl, am_call.up (r_197 l11 ?_) (by omega)⟩)
      have x12 : rx h0 (sp_ft τ s.1 (Int32.ofInt 3)) (s.2.2.2.2.2.1 + z) (am_wI (am_wI h5 154 7 (nI s.1)) 154 8 (sp_ft τ s.1 (Int32.ofInt 3))) := rr_x (s := s) l11 (by decide)
      refine am_goX 3 (show am_sh (am_wI (am_wI h5 154 7 (nI s.1)) 154 8 (sp_ft τ s.1 (Int32.ofInt 3))) 154 = some (11, 0) ∧ pz_S 3 none am_r209 2 Q 93 [(2, .int (sp_v τ s.1)), (1, .int (nI n)), (0, .ref 154)] [.int ((am_wI (am_wI h5 154 7 (nI s.1)) 154 8 (sp_ft τ s.1 (Int32.ofInt 3))).1 154 8)] (am_wI (am_wI h5 154 7 (nI s.1)) 154 8 (sp_ft τ s.1 (Int32.ofInt 3))) from ⟨ex_154 x12.1, ?_⟩)
      rw [x12.2.1.1]
      refine am_goX 1 (show (¬ (sp_ft τ s.1 (Int32.ofInt 3)) = 0 → pz_S 3 none am_r209 2 Q 122 [(2, .int (sp_v τ s.1)), (1, .int (nI n)), (0, .ref 154)] [] (am_wI (am_wI h5 154 7 (nI s.1)) 154 8 (sp_ft τ s.1 (Int32.ofInt 3)))) ∧ (¬ ¬ (sp_ft τ s.1 (Int32.ofInt 3)) = 0 → pz_S 3 none am_r209 2 Q 96 [(2, .int (sp_v τ s.1)), (1, .int (nI n)), (0, .ref 154)] [] (am_wI (am_wI h5 154 7 (nI s.1)) 154 8 (sp_ft τ s.1 (Int32.ofInt 3)))) from ⟨fun _ => ?_, fun hz => absurd (rx_ne x12) hz⟩)
      refine am_goX 3 (show am_sh (am_wI (am_wI h5 154 7 (nI s.1)) 154 8 (sp_ft τ s.1 (Int32.ofInt 3))) 154 = some (11, 0) ∧ pz_S 3 none am_r209 2 Q 6 [(2, .int (sp_v τ s.1)), (1, .int (nI n)), (0, .ref 154)] [.int ((am_wI (am_wI h5 154 7 (nI s.1)) 154 8 (sp_ft τ s.1 (Int32.ofInt 3))).1 154 8)] (am_wI (am_wI h5 154 7 (nI s.1)) 154 8 (sp_ft τ s.1 (Int32.ofInt 3))) from ⟨ex_154 x12.1, ?_⟩)
      rw [x12.2.1.1]
      refine am_goX 1 (show (¬ (sp_ft τ s.1 (Int32.ofInt 3)) = 0 → pz_S 3 none am_r209 2 Q 125 [(2, .int (sp_v τ s.1)), (1, .int (nI n)), (0, .ref 154)] [] (am_wI (am_wI h5 154 7 (nI s.1)) 154 8 (sp_ft τ s.1 (Int32.ofInt 3)))) ∧ (¬ ¬ (sp_ft τ s.1 (Int32.ofInt 3)) = 0 → pz_S 3 none am_r209 2 Q 9 [(2, .int (sp_v τ s.1)), (1, .int (nI n)), (0, .ref 154)] [] (am_wI (am_wI h5 154 7 (nI s.1)) 154 8 (sp_ft τ s.1 (Int32.ofInt 3)))) from ⟨fun _ => ?_, fun hz => absurd (rx_ne x12) hz⟩)
      exact am_goX 1 (show (none : Option FieldType) = none ∧ (am_wI (am_wI h5 154 7 (nI s.1)) 154 8 (sp_ft τ s.1 (Int32.ofInt 3))).2.2.2.2 = 175 ∧ _ from ⟨rfl, ex_175 x12.1, hF (sp_ft τ s.1 (Int32.ofInt 3)) _ (by simp only [sp_sd, sp_b, sp_f, cond_true, cond_false, k8, k9, e4]) x12⟩)
    | false =>
      refine am_goX 1 (show (¬ ((s.2.2.2.1.2 >>> ((sp_v τ s.1) &&& 31)) &&& (Int32.ofInt 1)) = (Int32.ofInt 1) → pz_S 3 none am_r209 2 Q 78 [(2, .int (sp_v τ s.1)), (1, .int (nI n)), (0, .ref 154)] [] (am_wI h5 154 7 (nI s.1))) ∧ (¬ ¬ ((s.2.2.2.1.2 >>> ((sp_v τ s.1) &&& 31)) &&& (Int32.ofInt 1)) = (Int32.ofInt 1) → pz_S 3 none am_r209 2 Q 70 [(2, .int (sp_v τ s.1)), (1, .int (nI n)), (0, .ref 154)] [] (am_wI h5 154 7 (nI s.1))) from ⟨fun _ => ?_, fun hz => absurd (bit_f e4) hz⟩)
      refine am_goX 2 (show pz_S 3 none am_r209 2 Q 81 [(2, .int (sp_v τ s.1)), (1, .int (nI n)), (0, .ref 154)] [.int (Int8.ofInt 8).toInt32, .int (nI n)] (am_wI h5 154 7 (nI s.1)) from ?_)
      cases e5 : Nat.ble 8 (sp_pc s.2.2.2.1.2 28) with
      | true =>
        refine am_goX 1 (show (¬ (nI n) = (Int8.ofInt 8).toInt32 → pz_S 3 none am_r209 2 Q 89 [(2, .int (sp_v τ s.1)), (1, .int (nI n)), (0, .ref 154)] [] (am_wI h5 154 7 (nI s.1))) ∧ (¬ ¬ (nI n) = (Int8.ofInt 8).toInt32 → pz_S 3 none am_r209 2 Q 84 [(2, .int (sp_v τ s.1)), (1, .int (nI n)), (0, .ref 154)] [] (am_wI h5 154 7 (nI s.1))) from ⟨fun hz => absurd hz (fun w => w (by have := Nat.le_of_ble_eq_true e5; rw [show n = 8 by omega]; decide)), fun _ => ?_⟩)
        refine am_goX 3 (show am_rc (am_wI h5 154 7 (nI s.1)) 154 11 ∧ 0 ≤ 8 ∧ (am_wI h5 154 7 (nI s.1)).2.2.2.2 + am_al 197 ≤ 175 ∧ am_call am_cod 2 197 [.ref 154, .int (Int32.ofInt 5)] (am_wI h5 154 7 (nI s.1)) (fun vv h' => pz_S 3 none am_r209 2 Q 89 [(2, .int (sp_v τ s.1)), (1, .int (nI n)), (0, .ref 154)] (vv.toList ++ []) h') from ⟨Or.inl ⟨by decide, ex_154 (r_P l11)⟩, by decide, ex_lim (r_P l11) rfl, am_call.up (r_197 l11 ?_) (by omega)⟩)
        have x13 : rx h0 (sp_ft τ s.1 (Int32.ofInt 5)) (s.2.2.2.2.2.1 + z) (am_wI (am_wI h5 154 7 (nI s.1)) 154 8 (sp_ft τ s.1 (Int32.ofInt 5))) := rr_x (s := s) l11 (by decide)
        refine am_goX 2 (show am_sh (am_wI (am_wI h5 154 7 (nI s.1)) 154 8 (sp_ft τ s.1 (Int32.ofInt 5))) 154 = some (11, 0) ∧ pz_S 3 none am_r209 2 Q 93 [(2, .int (sp_v τ s.1)), (1, .int (nI n)), (0, .ref 154)] [.int ((am_wI (am_wI h5 154 7 (nI s.1)) 154 8 (sp_ft τ s.1 (Int32.ofInt 5))).1 154 8)] (am_wI (am_wI h5 154 7 (nI s.1)) 154 8 (sp_ft τ s.1 (Int32.ofInt 5))) from ⟨ex_154 x13.1, ?_⟩)
        rw [x13.2.1.1]
        refine am_goX 1 (show (¬ (sp_ft τ s.1 (Int32.ofInt 5)) = 0 → pz_S 3 none am_r209 2 Q 122 [(2, .int (sp_v τ s.1)), (1, .int (nI n)), (0, .ref 154)] [] (am_wI (am_wI h5 154 7 (nI s.1)) 154 8 (sp_ft τ s.1 (Int32.ofInt 5)))) ∧ (¬ ¬ (sp_ft τ s.1 (Int32.ofInt 5)) = 0 → pz_S 3 none am_r209 2 Q 96 [(2, .int (sp_v τ s.1)), (1, .int (nI n)), (0, .ref 154)] [] (am_wI (am_wI h5 154 7 (nI s.1)) 154 8 (sp_ft τ s.1 (Int32.ofInt 5)))) from ⟨fun _ => ?_, fun hz => absurd (rx_ne x13) hz⟩)
        refine am_goX 3 (show am_sh (am_wI (am_wI h5 154 7 (nI s.1)) 154 8 (sp_ft τ s.1 (Int32.ofInt 5))) 154 = some (11, 0) ∧ pz_S 3 none am_r209 2 Q 6 [(2, .int (sp_v τ s.1)), (1, .int (nI n)), (0, .ref 154)] [.int ((am_wI (am_wI h5 154 7 (nI s.1)) 154 8 (sp_ft τ s.1 (Int32.ofInt 5))).1 154 8)] (am_wI (am_wI h5 154 7 (nI s.1)) 154 8 (sp_ft τ s.1 (Int32.ofInt 5))) from ⟨ex_154 x13.1, ?_⟩)
        rw [x13.2.1.1]
        refine am_goX 1 (show (¬ (sp_ft τ s.1 (Int32.ofInt 5)) = 0 → pz_S 3 none am_r209 2 Q 125 [(2, .int (sp_v τ s.1)), (1, .int (nI n)), (0, .ref 154)] [] (am_wI (am_wI h5 154 7 (nI s.1)) 154 8 (sp_ft τ s.1 (Int32.ofInt 5)))) ∧ (¬ ¬ (sp_ft τ s.1 (Int32.ofInt 5)) = 0 → pz_S 3 none am_r209 2 Q 9 [(2, .int (sp_v τ s.1)), (1, .int (nI n)), (0, .ref 154)] [] (am_wI (am_wI h5 154 7 (nI s.1)) 154 8 (sp_ft τ s.1 (Int32.ofInt 5)))) from ⟨fun _ => ?_, fun hz => absurd (rx_ne x13) hz⟩)
        exact am_goX 1 (show (none : Option FieldType) = none ∧ (am_wI (am_wI h5 154 7 (nI s.1)) 154 8 (sp_ft τ s.1 (Int32.ofInt 5))).2.2.2.2 = 175 ∧ _ from ⟨rfl, ex_175 x13.1, hF (sp_ft τ s.1 (Int32.ofInt 5)) _ (by simp only [sp_sd, sp_b, sp_f, cond_true, cond_false, k8, k9, e4, e5]) x13⟩)
      | false =>
        refine am_goX 1 (show (¬ (nI n) = (Int8.ofInt 8).toInt32 → pz_S 3 none am_r209 2 Q 89 [(2, .int (sp_v τ s.1)), (1, .int (nI n)), (0, .ref 154)] [] (am_wI h5 154 7 (nI s.1))) ∧ (¬ ¬ (nI n) = (Int8.ofInt 8).toInt32 → pz_S 3 none am_r209 2 Q 84 [(2, .int (sp_v τ s.1)), (1, .int (nI n)), (0, .ref 154)] [] (am_wI h5 154 7 (nI s.1))) from ⟨fun _ => ?_, fun hz => absurd (fun w => by have h2 := congrArg Int32.toInt w; rw [nI_toInt (by omega), show ((Int8.ofInt 8).toInt32).toInt = 8 from rfl] at h2; rw [Nat.ble_eq_true_of_le (show 8 ≤ sp_pc s.2.2.2.1.2 28 by omega)] at e5; cases e5) hz⟩)
        refine am_goX 2 (show am_sh (am_wI h5 154 7 (nI s.1)) 154 = some (11, 0) ∧ pz_S 3 none am_r209 2 Q 93 [(2, .int (sp_v τ s.1)), (1, .int (nI n)), (0, .ref 154)] [.int ((am_wI h5 154 7 (nI s.1)).1 154 8)] (am_wI h5 154 7 (nI s.1)) from ⟨ex_154 (r_P l11), ?_⟩)
        rw [r_f l11]
        refine am_goX 1 (show (¬ 0 = 0 → pz_S 3 none am_r209 2 Q 122 [(2, .int (sp_v τ s.1)), (1, .int (nI n)), (0, .ref 154)] [] (am_wI h5 154 7 (nI s.1))) ∧ (¬ ¬ 0 = 0 → pz_S 3 none am_r209 2 Q 96 [(2, .int (sp_v τ s.1)), (1, .int (nI n)), (0, .ref 154)] [] (am_wI h5 154 7 (nI s.1))) from ⟨fun hz => absurd hz (by decide), fun _ => ?_⟩)
        refine am_goX 2 (show am_sh (am_wI h5 154 7 (nI s.1)) 154 = some (11, 0) ∧ pz_S 3 none am_r209 2 Q 100 [(2, .int (sp_v τ s.1)), (1, .int (nI n)), (0, .ref 154)] [am_rf ((am_wI h5 154 7 (nI s.1)).2.2.1 154 10)] (am_wI h5 154 7 (nI s.1)) from ⟨ex_154 (r_P l11), ?_⟩)
        rw [ex_r154_10 (h := am_wI h5 154 7 (nI s.1)) (r_P l11)]
        refine am_goX 3 (show (Value.int (Int8.ofInt 42).toInt32).category = 1 ∧ (Value.ref 160).category = 1 ∧ ∃ jj nn : Nat, am_sh (am_wI h5 154 7 (nI s.1)) 160 = some (13, nn) ∧ jj < nn ∧ (Int8.ofInt 42).toInt32 = nI jj ∧ pz_S 3 none am_r209 2 Q 104 [(2, .int (sp_v τ s.1)), (1, .int (nI n)), (0, .ref 154)] [.int ((am_wI h5 154 7 (nI s.1)).1 160 jj), .int (Int8.ofInt 42).toInt32, .ref 160] (am_wI h5 154 7 (nI s.1)) from ⟨rfl, rfl, 42, 80, ex_160 (r_P l11), (by decide), (by decide), ?_⟩)
        rw [show (am_wI h5 154 7 (nI s.1)).1 160 42 = s.2.2.2.1.2 from l11.2.1.2.2.2.1.1]
        refine am_goX 5 (show ∃ jj nn : Nat, am_so (am_wI h5 154 7 (nI s.1)) 160 = some (13, nn) ∧ jj < nn ∧ (Int8.ofInt 42).toInt32 = nI jj ∧ pz_S 3 none am_r209 2 Q 109 [(2, .int (sp_v τ s.1)), (1, .int (nI n)), (0, .ref 154)] [] (am_wI (am_wI h5 154 7 (nI s.1)) 160 jj ((s.2.2.2.1.2 ||| ((Int32.ofInt 1) <<< ((sp_v τ s.1) &&& 31))))) from ⟨42, 80, ex_w160 (r_P l11), (by decide), (by decide), ?_⟩)
        obtain ⟨D, hD, ev⟩ := l.1.1.2.2.2.2.2.2 s.1 (sp_kt k8)
        have ev2 : sp_v τ s.1 = nI D := by unfold sp_v; rw [ev]; exact Int64.toInt32_ofNat'
        have hD28 : D < 28 := of_decide_eq_true ((sp_in28 hD ev2).symm.trans k9)
        have l14 : rr h0 z τ N (s.1, sp_cS s.2 s.2.2.2.1.1 (s.2.2.2.1.2 ||| ((Int32.ofInt 1) <<< (sp_v τ s.1 &&& 31)))) (am_wI (am_wI h5 154 7 (nI s.1)) 160 42 (s.2.2.2.1.2 ||| ((Int32.ofInt 1) <<< (sp_v τ s.1 &&& 31)))) := rr_S ⟨fun z => absurd (ht.symm.trans z) (by decide), by rw [ev2]; exact sp_28_or hsK.2 hD28⟩ l11
        refine am_goX 6 (show (Value.ref 154).category = 1 ∧ am_sh (am_wI (am_wI h5 154 7 (nI s.1)) 160 42 (s.2.2.2.1.2 ||| ((Int32.ofInt 1) <<< (sp_v τ s.1 &&& 31)))) 154 = some (11, 0) ∧ am_sh (am_wI (am_wI h5 154 7 (nI s.1)) 160 42 (s.2.2.2.1.2 ||| ((Int32.ofInt 1) <<< (sp_v τ s.1 &&& 31)))) 154 = some (11, 0) ∧ narrow (am_fty 11 7) (.int ((((am_wI (am_wI h5 154 7 (nI s.1)) 160 42 (s.2.2.2.1.2 ||| ((Int32.ofInt 1) <<< (sp_v τ s.1 &&& 31)))).1 154 7) + (Int32.ofInt 1)))) = .int ((((am_wI (am_wI h5 154 7 (nI s.1)) 160 42 (s.2.2.2.1.2 ||| ((Int32.ofInt 1) <<< (sp_v τ s.1 &&& 31)))).1 154 7) + (Int32.ofInt 1))) ∧ fits (am_fty 11 7) (.int ((((am_wI (am_wI h5 154 7 (nI s.1)) 160 42 (s.2.2.2.1.2 ||| ((Int32.ofInt 1) <<< (sp_v τ s.1 &&& 31)))).1 154 7) + (Int32.ofInt 1)))) = true ∧ pz_S 3 none am_r209 2 Q 119 [(2, .int (sp_v τ s.1)), (1, .int (nI n)), (0, .ref 154)] [] (am_wI (am_wI (am_wI h5 154 7 (nI s.1)) 160 42 (s.2.2.2.1.2 ||| ((Int32.ofInt 1) <<< (sp_v τ s.1 &&& 31)))) 154 7 ((((am_wI (am_wI h5 154 7 (nI s.1)) 160 42 (s.2.2.2.1.2 ||| ((Int32.ofInt 1) <<< (sp_v τ s.1 &&& 31)))).1 154 7) + (Int32.ofInt 1)))) from ⟨rfl, ex_154 (r_P l14), ex_154 (r_P l14), rfl, rfl, ?_⟩)
        rw [r_a l14, xw_i1]
        have l15 : rr h0 z τ N (s.1 + 1, (sp_cS s.2 s.2.2.2.1.1 (s.2.2.2.1.2 ||| ((Int32.ofInt 1) <<< (sp_v τ s.1 &&& 31))))) (am_wI (am_wI (am_wI h5 154 7 (nI s.1)) 160 42 (s.2.2.2.1.2 ||| ((Int32.ofInt 1) <<< (sp_v τ s.1 &&& 31)))) 154 7 (nI (s.1 + 1))) := rr_nx (a := s.1) (C := (sp_cS s.2 s.2.2.2.1.1 (s.2.2.2.1.2 ||| ((Int32.ofInt 1) <<< (sp_v τ s.1 &&& 31))))) l14 (sp_kn (by decide) k8)
        refine am_goX 2 (show 1 < 3 ∧ pz_S 3 none am_r209 2 Q 2 [(1, .int ((nI n) + Int32.ofInt 1)), (2, .int (sp_v τ s.1)), (0, .ref 154)] [] (am_wI (am_wI (am_wI h5 154 7 (nI s.1)) 160 42 (s.2.2.2.1.2 ||| ((Int32.ofInt 1) <<< (sp_v τ s.1 &&& 31)))) 154 7 (nI (s.1 + 1))) from ⟨by decide, ?_⟩)
        rw [xw_i1]
        exact hK _ _ (by simp only [sp_sd, sp_b, sp_f, cond_true, cond_false, k8, k9, e4, e5]) (by
          show sp_pc (s.2.2.2.1.2 ||| ((Int32.ofInt 1) <<< (sp_v τ s.1 &&& 31))) 28 = n + 1
          rw [ev2, pc_or hsK.2 hD28 (by rw [← ev2]; exact e4), en]) (by
          apply Nat.lt_of_not_le
          intro q
          rw [Nat.ble_eq_true_of_le (show 8 ≤ sp_pc s.2.2.2.1.2 28 by omega)] at e5
          cases e5) l15
theorem r_209l : ∀ (m n : Nat) (s : sp_S) (h : am_H), N < s.1 + m → 1 ≤ n → n ≤ 8 → s.2.2.2.1.1 = true → sp_pc s.2.2.2.1.2 28 = n → rr h0 z τ N s h → (∀ F h1, sp_sl τ m s = .inl F → rx h0 F (s.2.2.2.2.2.1 + z) h1 → Q none h1) → (∀ h1 t, sp_sl τ m s = .inr t → rr h0 z τ N t h1 → Q none h1) → pz_S 3 none am_r209 2 Q 2 [(1, .int (nI n)), (0, .ref 154)] [] h := by
  intro m
  induction m with
  | zero =>
    intro n s h hm h1 hn ht en l hF hS
    have := (r_N l).1
    omega
  | succ m ih =>
    intro n s h hm h1 hn ht en l hF hS
    have hP := r_P l
    have gl := r_N l
    have hn8 := sp_pc_le s.2.2.2.1.2 28
    refine am_goX 2 (show am_sh h 154 = some (11, 0) ∧ pz_S 3 none am_r209 2 Q 6 [(1, .int (nI n)), (0, .ref 154)] [.int (h.1 154 8)] h from ⟨ex_154 (r_P l), ?_⟩)
    rw [r_f l]
    refine am_goX 1 (show (¬ 0 = 0 → pz_S 3 none am_r209 2 Q 125 [(1, .int (nI n)), (0, .ref 154)] [] h) ∧ (¬ ¬ 0 = 0 → pz_S 3 none am_r209 2 Q 9 [(1, .int (nI n)), (0, .ref 154)] [] h) from ⟨fun hz => absurd hz (by decide), fun _ => ?_⟩)
    refine am_goX 2 (show ((nI n) = 0 → pz_S 3 none am_r209 2 Q 26 [(1, .int (nI n)), (0, .ref 154)] [] h) ∧ (¬ ((nI n) = 0) → pz_S 3 none am_r209 2 Q 13 [(1, .int (nI n)), (0, .ref 154)] [] h) from ⟨fun hz => absurd hz (fun w => by have h2 := congrArg Int32.toInt w; rw [nI_toInt (by omega), show (0 : Int32).toInt = 0 from rfl] at h2; omega), fun _ => ?_⟩)
    refine am_goX 2 (show am_sh h 154 = some (11, 0) ∧ pz_S 3 none am_r209 2 Q 17 [(1, .int (nI n)), (0, .ref 154)] [am_rf (h.2.2.1 154 4)] h from ⟨ex_154 (r_P l), ?_⟩)
    rw [ex_r154_4 (h := h) (r_P l)]
    refine am_goX 3 (show am_sh h 154 = some (11, 0) ∧ ∃ jj nn : Nat, am_sh h 156 = some (13, nn) ∧ jj < nn ∧ (h.1 154 7) = nI jj ∧ pz_S 3 none am_r209 2 Q 22 [(1, .int (nI n)), (0, .ref 154)] [.int (h.1 156 jj)] h from ⟨ex_154 (r_P l), s.1, 1002, ex_156 (r_P l), (by have := r_N l; first | omega | (dsimp only at this; omega) | (dsimp only at this ⊢; omega)), r_a l, ?_⟩)
    rw [r_k l]
    refine am_goX 1 (show pz_S 3 none am_r209 2 Q 23 [(1, .int (nI n)), (0, .ref 154)] [.int (Int32.ofInt 2), .int (τ s.1).1] h from ?_)
    cases e16 : sp_k τ s.1 2 with
    | true =>
      refine am_goX 1 (show (¬ (τ s.1).1 = (Int32.ofInt 2) → pz_S 3 none am_r209 2 Q 125 [(1, .int (nI n)), (0, .ref 154)] [] h) ∧ (¬ ¬ (τ s.1).1 = (Int32.ofInt 2) → pz_S 3 none am_r209 2 Q 26 [(1, .int (nI n)), (0, .ref 154)] [] h) from ⟨fun hz => absurd hz (fun w => w (sp_kt e16)), fun _ => ?_⟩)
      refine r_209b hn ht en l (fun F h1 e x => hF F h1 (by simp only [sp_sl, e16, cond_true, sp_b, e]) x) (fun h1 t e e1 e8 l1 => ?_)
      obtain ⟨g1, g2⟩ := sp_sd_inr e
      have g3 := sp_sd_told e
      refine sv_S (by decide +kernel) (by intro q hq; simp only [List.mem_cons, List.not_mem_nil, or_false] at hq; rcases hq with rfl | rfl <;> rfl) (ih (n + 1) t h1 (by omega) (by omega) e8 (g2.trans ht) e1 l1 (fun F h2 e2 x => hF F h2 (by simp only [sp_sl, e16, cond_true, sp_b, e]; exact e2) (by rw [g3] at x; exact x)) (fun h2 u e2 l2 => hS h2 u (by simp only [sp_sl, e16, cond_true, sp_b, e]; exact e2) l2))
    | false =>
      refine am_goX 1 (show (¬ (τ s.1).1 = (Int32.ofInt 2) → pz_S 3 none am_r209 2 Q 125 [(1, .int (nI n)), (0, .ref 154)] [] h) ∧ (¬ ¬ (τ s.1).1 = (Int32.ofInt 2) → pz_S 3 none am_r209 2 Q 26 [(1, .int (nI n)), (0, .ref 154)] [] h) from ⟨fun _ => ?_, fun hz => absurd (of_decide_eq_false e16) hz⟩)
      exact am_goX 1 (show (none : Option FieldType) = none ∧ h.2.2.2.2 = 175 ∧ _ from ⟨rfl, ex_175 (r_P l), hS _ s (by simp only [sp_sl, sp_b, sp_f, cond_true, cond_false, e16]) l⟩)
theorem r_209 (ht : s.2.2.2.1.1 = true) (e0 : s.2.2.2.1.2 = 0) (l : rr h0 z τ N s h) (hF : ∀ F h1, sp_b (sp_sd τ s) (sp_sl τ 1001) = .inl F → rx h0 F (s.2.2.2.2.2.1 + z) h1 → Q none h1) (hS : ∀ h1 t, sp_b (sp_sd τ s) (sp_sl τ 1001) = .inr t → rr h0 z τ N t h1 → Q none h1) : am_call am_cod 3 209 [.ref 154] h Q := by
  have hP := r_P l
  refine pz_call (n := 209) (nL := 3) (rt := none) (rows := am_r209) (d := 2) (by decide +kernel) (by decide +kernel) rfl (by funext pc; rfl) (ex_175 hP) (by exact Nat.le_of_ble_eq_true rfl) ?_
  refine am_goX 4 (show 1 < 3 ∧ am_sh h 154 = some (11, 0) ∧ pz_S 3 none am_r209 2 Q 6 [(1, .int (Int32.ofInt 0)), (0, .ref 154)] [.int (h.1 154 8)] h from ⟨by decide, ex_154 (r_P l), ?_⟩)
  rw [r_f l]
  refine am_goX 1 (show (¬ 0 = 0 → pz_S 3 none am_r209 2 Q 125 [(1, .int (Int32.ofInt 0)), (0, .ref 154)] [] h) ∧ (¬ ¬ 0 = 0 → pz_S 3 none am_r209 2 Q 9 [(1, .int (Int32.ofInt 0)), (0, .ref 154)] [] h) from ⟨fun hz => absurd hz (by decide), fun _ => ?_⟩)
  refine am_goX 2 (show ((Int32.ofInt 0) = 0 → pz_S 3 none am_r209 2 Q 26 [(1, .int (Int32.ofInt 0)), (0, .ref 154)] [] h) ∧ (¬ ((Int32.ofInt 0) = 0) → pz_S 3 none am_r209 2 Q 13 [(1, .int (Int32.ofInt 0)), (0, .ref 154)] [] h) from ⟨fun _ => ?_, fun hz => absurd (by decide) hz⟩)
  refine r_209b (n := 0) (by decide) ht (by rw [e0]; decide +kernel) l (fun F h1 e x => hF F h1 (by simp only [sp_b, e]) x) (fun h1 t e e1 e8 l1 => ?_)
  obtain ⟨g1, g2⟩ := sp_sd_inr e
  have g3 := sp_sd_told e
  have gN := r_N l1
  exact sv_S (by decide +kernel) (by intro q hq; simp only [List.mem_cons, List.not_mem_nil, or_false] at hq; rcases hq with rfl | rfl <;> rfl) (r_209l 1001 (0 + 1) t h1 (by omega) (by omega) e8 (g2.trans ht) e1 l1 (fun F h2 e2 x => hF F h2 (by simp only [sp_b, e]; exact e2) (by rw [g3] at x; exact x)) (fun h2 u e2 l2 => hS h2 u (by simp only [sp_b, e]; exact e2) l2))
theorem r_208 (l : rr h0 (rz s.2) τ N s h) (hF : ∀ F h1 c', sq_once τ s = .inl F → rx h0 F c' h1 → Q none h1) (hS : ∀ h1 t, sq_once τ s = .inr t → rr h0 (rz t.2) τ N t h1 → Q none h1) : am_call am_cod 33 208 [.ref 154] h Q := by
  have hP := r_P l
  have gl := r_N l
  have eO : h.1 154 20 = rb2 s.2.2.2.1.1 s.2.2.2.2.1 := l.2.1.2.2.2.2.1
  refine pz_call (n := 208) (nL := 2) (rt := none) (rows := am_r208) (d := 32) (by decide +kernel) (by decide +kernel) rfl (by funext pc; rfl) (ex_175 hP) (by exact Nat.le_of_ble_eq_true rfl) ?_
  refine am_goX 4 (show am_rc h 154 11 ∧ 0 ≤ 8 ∧ h.2.2.2.2 + am_al 199 ≤ 175 ∧ am_call am_cod 32 199 [.ref 154, .int (Int8.ofInt 6).toInt32, .int (Int32.ofInt 2)] h (fun vv h' => pz_S 2 none am_r208 32 Q 7 [(0, .ref 154)] (vv.toList ++ []) h') from ⟨Or.inl ⟨by decide, ex_154 (r_P l)⟩, by decide, ex_lim (r_P l) rfl, am_call.up (r_199 (f := 6) (M := 2) (by decide) (by decide) (by decide) l ?_) (by omega)⟩)
  rcases wq_v τ s.1 6 2 (by decide) with ⟨w1, w2⟩ | ⟨j, w1, w2, w3⟩
  ·
    rw [w1]
    have e5 : sp_w τ s.1 982151 = false := w2 0 (by decide)
    have e6 : sp_w τ s.1 375310 = false := w2 1 (by decide)
    refine am_goX 3 (show 1 < 2 ∧ (0 ≤ (Int32.ofInt (-1)) → pz_S 2 none am_r208 32 Q 20 [(1, .int (Int32.ofInt (-1))), (0, .ref 154)] [] h) ∧ (¬ (0 ≤ (Int32.ofInt (-1))) → pz_S 2 none am_r208 32 Q 12 [(1, .int (Int32.ofInt (-1))), (0, .ref 154)] [] h) from ⟨by decide, fun hz => absurd hz (by decide), fun _ => ?_⟩)
    refine am_goX 3 (show am_rc h 154 11 ∧ 0 ≤ 8 ∧ h.2.2.2.2 + am_al 197 ≤ 175 ∧ am_call am_cod 32 197 [.ref 154, .int (Int32.ofInt 1)] h (fun vv h' => pz_S 2 none am_r208 32 Q 17 [(1, .int (Int32.ofInt (-1))), (0, .ref 154)] (vv.toList ++ []) h') from ⟨Or.inl ⟨by decide, ex_154 (r_P l)⟩, by decide, ex_lim (r_P l) rfl, am_call.up (r_197 l ?_) (by omega)⟩)
    have x17 : rx h0 (sp_ft τ s.1 (Int32.ofInt 1)) (s.2.2.2.2.2.1 + (rz s.2)) (am_wI h 154 8 (sp_ft τ s.1 (Int32.ofInt 1))) := rr_x (s := s) l (by decide)
    refine am_goX 3 (show am_sh (am_wI h 154 8 (sp_ft τ s.1 (Int32.ofInt 1))) 154 = some (11, 0) ∧ pz_S 2 none am_r208 32 Q 41 [(1, .int (Int32.ofInt (-1))), (0, .ref 154)] [.int ((am_wI h 154 8 (sp_ft τ s.1 (Int32.ofInt 1))).1 154 8)] (am_wI h 154 8 (sp_ft τ s.1 (Int32.ofInt 1))) from ⟨ex_154 x17.1, ?_⟩)
    rw [x17.2.1.1]
    refine am_goX 1 (show ((sp_ft τ s.1 (Int32.ofInt 1)) ≤ 0 → pz_S 2 none am_r208 32 Q 45 [(1, .int (Int32.ofInt (-1))), (0, .ref 154)] [] (am_wI h 154 8 (sp_ft τ s.1 (Int32.ofInt 1)))) ∧ (¬ ((sp_ft τ s.1 (Int32.ofInt 1)) ≤ 0) → pz_S 2 none am_r208 32 Q 44 [(1, .int (Int32.ofInt (-1))), (0, .ref 154)] [] (am_wI h 154 8 (sp_ft τ s.1 (Int32.ofInt 1)))) from ⟨fun hz => absurd hz (rx_le x17), fun _ => ?_⟩)
    exact am_goX 1 (show (none : Option FieldType) = none ∧ (am_wI h 154 8 (sp_ft τ s.1 (Int32.ofInt 1))).2.2.2.2 = 175 ∧ _ from ⟨rfl, ex_175 x17.1, hF (sp_ft τ s.1 (Int32.ofInt 1)) _ (s.2.2.2.2.2.1 + (rz s.2)) (by simp only [sq_once, sq_snow, sq_goes, sp_b, sp_f, cond_true, cond_false, e5, e6]) x17⟩)
  ·
    rw [w2]
    have hj : j = 0 ∨ j = 1 := by omega
    rcases hj with rfl | rfl
    ·
      have e5 : sp_w τ s.1 982151 = true := w3
      refine am_goX 3 (show 1 < 2 ∧ (0 ≤ (nI 0) → pz_S 2 none am_r208 32 Q 20 [(1, .int (nI 0)), (0, .ref 154)] [] h) ∧ (¬ (0 ≤ (nI 0)) → pz_S 2 none am_r208 32 Q 12 [(1, .int (nI 0)), (0, .ref 154)] [] h) from ⟨by decide, fun _ => ?_, fun hz => absurd (by decide) hz⟩)
      refine am_goX 7 (show am_sh h 154 = some (11, 0) ∧ pz_S 2 none am_r208 32 Q 29 [(1, .int (nI 0)), (0, .ref 154)] [.int (Int32.ofInt 1), .int (((h.1 154 20) >>> ((nI 0) &&& 31)) &&& (Int32.ofInt 1))] h from ⟨ex_154 (r_P l), ?_⟩)
      rw [eO]
      cases e1 : s.2.2.2.1.1 with
      | true =>
        refine am_goX 1 (show (¬ (((rb2 true s.2.2.2.2.1) >>> ((nI 0) &&& 31)) &&& (Int32.ofInt 1)) = (Int32.ofInt 1) → pz_S 2 none am_r208 32 Q 37 [(1, .int (nI 0)), (0, .ref 154)] [] h) ∧ (¬ ¬ (((rb2 true s.2.2.2.2.1) >>> ((nI 0) &&& 31)) &&& (Int32.ofInt 1)) = (Int32.ofInt 1) → pz_S 2 none am_r208 32 Q 32 [(1, .int (nI 0)), (0, .ref 154)] [] h) from ⟨fun hz => absurd hz (fun w => w (by rw [rb2_0])), fun _ => ?_⟩)
        refine am_goX 3 (show am_rc h 154 11 ∧ 0 ≤ 8 ∧ h.2.2.2.2 + am_al 197 ≤ 175 ∧ am_call am_cod 32 197 [.ref 154, .int (Int32.ofInt 3)] h (fun vv h' => pz_S 2 none am_r208 32 Q 37 [(1, .int (nI 0)), (0, .ref 154)] (vv.toList ++ []) h') from ⟨Or.inl ⟨by decide, ex_154 (r_P l)⟩, by decide, ex_lim (r_P l) rfl, am_call.up (r_197 l ?_) (by omega)⟩)
        have x18 : rx h0 (sp_ft τ s.1 (Int32.ofInt 3)) (s.2.2.2.2.2.1 + (rz s.2)) (am_wI h 154 8 (sp_ft τ s.1 (Int32.ofInt 3))) := rr_x (s := s) l (by decide)
        refine am_goX 2 (show am_sh (am_wI h 154 8 (sp_ft τ s.1 (Int32.ofInt 3))) 154 = some (11, 0) ∧ pz_S 2 none am_r208 32 Q 41 [(1, .int (nI 0)), (0, .ref 154)] [.int ((am_wI h 154 8 (sp_ft τ s.1 (Int32.ofInt 3))).1 154 8)] (am_wI h 154 8 (sp_ft τ s.1 (Int32.ofInt 3))) from ⟨ex_154 x18.1, ?_⟩)
        rw [x18.2.1.1]
        refine am_goX 1 (show ((sp_ft τ s.1 (Int32.ofInt 3)) ≤ 0 → pz_S 2 none am_r208 32 Q 45 [(1, .int (nI 0)), (0, .ref 154)] [] (am_wI h 154 8 (sp_ft τ s.1 (Int32.ofInt 3)))) ∧ (¬ ((sp_ft τ s.1 (Int32.ofInt 3)) ≤ 0) → pz_S 2 none am_r208 32 Q 44 [(1, .int (nI 0)), (0, .ref 154)] [] (am_wI h 154 8 (sp_ft τ s.1 (Int32.ofInt 3)))) from ⟨fun hz => absurd hz (rx_le x18), fun _ => ?_⟩)
        exact am_goX 1 (show (none : Option FieldType) = none ∧ (am_wI h 154 8 (sp_ft τ s.1 (Int32.ofInt 3))).2.2.2.2 = 175 ∧ _ from ⟨rfl, ex_175 x18.1, hF (sp_ft τ s.1 (Int32.ofInt 3)) _ (s.2.2.2.2.2.1 + (rz s.2)) (by simp only [sq_once, sq_snow, sq_goes, sp_b, sp_f, cond_true, cond_false, e5, e1]) x18⟩)
      | false =>
        refine am_goX 1 (show (¬ (((rb2 false s.2.2.2.2.1) >>> ((nI 0) &&& 31)) &&& (Int32.ofInt 1)) = (Int32.ofInt 1) → pz_S 2 none am_r208 32 Q 37 [(1, .int (nI 0)), (0, .ref 154)] [] h) ∧ (¬ ¬ (((rb2 false s.2.2.2.2.1) >>> ((nI 0) &&& 31)) &&& (Int32.ofInt 1)) = (Int32.ofInt 1) → pz_S 2 none am_r208 32 Q 32 [(1, .int (nI 0)), (0, .ref 154)] [] h) from ⟨fun _ => ?_, fun hz => absurd (by rw [rb2_0]; decide) hz⟩)
        refine am_goX 2 (show am_sh h 154 = some (11, 0) ∧ pz_S 2 none am_r208 32 Q 41 [(1, .int (nI 0)), (0, .ref 154)] [.int (h.1 154 8)] h from ⟨ex_154 (r_P l), ?_⟩)
        rw [r_f l]
        refine am_goX 1 (show (0 ≤ 0 → pz_S 2 none am_r208 32 Q 45 [(1, .int (nI 0)), (0, .ref 154)] [] h) ∧ (¬ (0 ≤ 0) → pz_S 2 none am_r208 32 Q 44 [(1, .int (nI 0)), (0, .ref 154)] [] h) from ⟨fun _ => ?_, fun hz => absurd (by decide) hz⟩)
        refine am_goX 8 (show (Value.ref 154).category = 1 ∧ am_sh h 154 = some (11, 0) ∧ am_sh h 154 = some (11, 0) ∧ narrow (am_fty 11 20) (.int (((h.1 154 20) ||| ((Int32.ofInt 1) <<< ((nI 0) &&& 31))))) = .int (((h.1 154 20) ||| ((Int32.ofInt 1) <<< ((nI 0) &&& 31)))) ∧ fits (am_fty 11 20) (.int (((h.1 154 20) ||| ((Int32.ofInt 1) <<< ((nI 0) &&& 31))))) = true ∧ pz_S 2 none am_r208 32 Q 57 [(1, .int (nI 0)), (0, .ref 154)] [] (am_wI h 154 20 (((h.1 154 20) ||| ((Int32.ofInt 1) <<< ((nI 0) &&& 31))))) from ⟨rfl, ex_154 (r_P l), ex_154 (r_P l), rfl, rfl, ?_⟩)
        rw [eO, rb2_s]
        refine am_goX 6 (show (Value.ref 154).category = 1 ∧ am_sh (am_wI h 154 20 (rb2 true s.2.2.2.2.1)) 154 = some (11, 0) ∧ am_sh (am_wI h 154 20 (rb2 true s.2.2.2.2.1)) 154 = some (11, 0) ∧ narrow (am_fty 11 7) (.int ((((am_wI h 154 20 (rb2 true s.2.2.2.2.1)).1 154 7) + (Int32.ofInt 1)))) = .int ((((am_wI h 154 20 (rb2 true s.2.2.2.2.1)).1 154 7) + (Int32.ofInt 1))) ∧ fits (am_fty 11 7) (.int ((((am_wI h 154 20 (rb2 true s.2.2.2.2.1)).1 154 7) + (Int32.ofInt 1)))) = true ∧ pz_S 2 none am_r208 32 Q 67 [(1, .int (nI 0)), (0, .ref 154)] [] (am_wI (am_wI h 154 20 (rb2 true s.2.2.2.2.1)) 154 7 ((((am_wI h 154 20 (rb2 true s.2.2.2.2.1)).1 154 7) + (Int32.ofInt 1)))) from ⟨rfl, ex_154 hP, ex_154 hP, rfl, rfl, ?_⟩)
        rw [em_wn _ _ (by omega), r_a l, xw_i1]
        have l19 : rr h0 (rz s.2) τ N (s.1 + 1, sp_cS s.2 true s.2.2.2.1.2) (am_wI (am_wI h 154 20 (rb2 true s.2.2.2.2.1)) 154 7 (nI (s.1 + 1))) := rr_sn1 (a := s.1) (C := s.2) l (sp_wn e5)
        refine am_goX 2 (show (¬ (nI 0) = 0 → pz_S 2 none am_r208 32 Q 78 [(1, .int (nI 0)), (0, .ref 154)] [] (am_wI (am_wI h 154 20 (rb2 true s.2.2.2.2.1)) 154 7 (nI (s.1 + 1)))) ∧ (¬ ¬ (nI 0) = 0 → pz_S 2 none am_r208 32 Q 71 [(1, .int (nI 0)), (0, .ref 154)] [] (am_wI (am_wI h 154 20 (rb2 true s.2.2.2.2.1)) 154 7 (nI (s.1 + 1)))) from ⟨fun hz => absurd hz (by decide), fun _ => ?_⟩)
        refine am_goX 2 (show am_rc (am_wI (am_wI h 154 20 (rb2 true s.2.2.2.2.1)) 154 7 (nI (s.1 + 1))) 154 11 ∧ 0 ≤ 8 ∧ (am_wI (am_wI h 154 20 (rb2 true s.2.2.2.2.1)) 154 7 (nI (s.1 + 1))).2.2.2.2 + am_al 209 ≤ 175 ∧ am_call am_cod 32 209 [.ref 154] (am_wI (am_wI h 154 20 (rb2 true s.2.2.2.2.1)) 154 7 (nI (s.1 + 1))) (fun vv h' => pz_S 2 none am_r208 32 Q 75 [(1, .int (nI 0)), (0, .ref 154)] (vv.toList ++ []) h') from ⟨Or.inl ⟨by decide, ex_154 (r_P l19)⟩, by decide, ex_lim (r_P l19) rfl, am_call.up (r_209 (s := (s.1 + 1, sp_cS s.2 true s.2.2.2.1.2)) rfl (l19.2.1.2.2.2.1.2.1 |> fun _ => (l.2.1.2.2.2.1.2.1 e1)) l19 (fun F20 h21 e22 x23 => ?_) (fun h24 t25 e26 l27 => ?_)) (by omega)⟩)
        ·
          exact am_goX 2 (show (none : Option FieldType) = none ∧ h21.2.2.2.2 = 175 ∧ _ from ⟨rfl, ex_175 x23.1, hF (F20) _ (s.2.2.2.2.2.1 + rz s.2) (by simp only [sq_once, sq_snow, cond_true, cond_false, e5, e1]; exact e22) x23⟩)
        ·
          exact am_goX 2 (show (none : Option FieldType) = none ∧ h24.2.2.2.2 = 175 ∧ _ from ⟨rfl, ex_175 (r_P l27), hS _ t25 (by simp only [sq_once, sq_snow, cond_true, cond_false, e5, e1]; exact e26) (by
  have g : rz t25.2 = rz s.2 := by
    obtain ⟨u, u1, u2⟩ := sp_b_inr e26
    have g3 := (sp_sl_told u2).trans (sp_sd_told u1)
    unfold rz
    rw [g3]
    rfl
  rw [g]
  exact l27)⟩)
    ·
      have e6 : sp_w τ s.1 375310 = true := w3
      have k1 : sp_k τ s.1 1 = true := (Bool.and_eq_true _ _ ▸ e6 : _ ∧ _).1
      have e5 : sp_w τ s.1 982151 = false := by
        rw [sp_w_e k1] at e6 ⊢
        rw [of_decide_eq_true e6]
        decide
      refine am_goX 3 (show 1 < 2 ∧ (0 ≤ (nI 1) → pz_S 2 none am_r208 32 Q 20 [(1, .int (nI 1)), (0, .ref 154)] [] h) ∧ (¬ (0 ≤ (nI 1)) → pz_S 2 none am_r208 32 Q 12 [(1, .int (nI 1)), (0, .ref 154)] [] h) from ⟨by decide, fun _ => ?_, fun hz => absurd (by decide) hz⟩)
      refine am_goX 7 (show am_sh h 154 = some (11, 0) ∧ pz_S 2 none am_r208 32 Q 29 [(1, .int (nI 1)), (0, .ref 154)] [.int (Int32.ofInt 1), .int (((h.1 154 20) >>> ((nI 1) &&& 31)) &&& (Int32.ofInt 1))] h from ⟨ex_154 (r_P l), ?_⟩)
      rw [eO]
      cases e1 : s.2.2.2.2.1 with
      | true =>
        refine am_goX 1 (show (¬ (((rb2 s.2.2.2.1.1 true) >>> ((nI 1) &&& 31)) &&& (Int32.ofInt 1)) = (Int32.ofInt 1) → pz_S 2 none am_r208 32 Q 37 [(1, .int (nI 1)), (0, .ref 154)] [] h) ∧ (¬ ¬ (((rb2 s.2.2.2.1.1 true) >>> ((nI 1) &&& 31)) &&& (Int32.ofInt 1)) = (Int32.ofInt 1) → pz_S 2 none am_r208 32 Q 32 [(1, .int (nI 1)), (0, .ref 154)] [] h) from ⟨fun hz => absurd hz (fun w => w (by rw [rb2_1])), fun _ => ?_⟩)
        refine am_goX 3 (show am_rc h 154 11 ∧ 0 ≤ 8 ∧ h.2.2.2.2 + am_al 197 ≤ 175 ∧ am_call am_cod 32 197 [.ref 154, .int (Int32.ofInt 3)] h (fun vv h' => pz_S 2 none am_r208 32 Q 37 [(1, .int (nI 1)), (0, .ref 154)] (vv.toList ++ []) h') from ⟨Or.inl ⟨by decide, ex_154 (r_P l)⟩, by decide, ex_lim (r_P l) rfl, am_call.up (r_197 l ?_) (by omega)⟩)
        have x28 : rx h0 (sp_ft τ s.1 (Int32.ofInt 3)) (s.2.2.2.2.2.1 + (rz s.2)) (am_wI h 154 8 (sp_ft τ s.1 (Int32.ofInt 3))) := rr_x (s := s) l (by decide)
        refine am_goX 2 (show am_sh (am_wI h 154 8 (sp_ft τ s.1 (Int32.ofInt 3))) 154 = some (11, 0) ∧ pz_S 2 none am_r208 32 Q 41 [(1, .int (nI 1)), (0, .ref 154)] [.int ((am_wI h 154 8 (sp_ft τ s.1 (Int32.ofInt 3))).1 154 8)] (am_wI h 154 8 (sp_ft τ s.1 (Int32.ofInt 3))) from ⟨ex_154 x28.1, ?_⟩)
        rw [x28.2.1.1]
        refine am_goX 1 (show ((sp_ft τ s.1 (Int32.ofInt 3)) ≤ 0 → pz_S 2 none am_r208 32 Q 45 [(1, .int (nI 1)), (0, .ref 154)] [] (am_wI h 154 8 (sp_ft τ s.1 (Int32.ofInt 3)))) ∧ (¬ ((sp_ft τ s.1 (Int32.ofInt 3)) ≤ 0) → pz_S 2 none am_r208 32 Q 44 [(1, .int (nI 1)), (0, .ref 154)] [] (am_wI h 154 8 (sp_ft τ s.1 (Int32.ofInt 3)))) from ⟨fun hz => absurd hz (rx_le x28), fun _ => ?_⟩)
        exact am_goX 1 (show (none : Option FieldType) = none ∧ (am_wI h 154 8 (sp_ft τ s.1 (Int32.ofInt 3))).2.2.2.2 = 175 ∧ _ from ⟨rfl, ex_175 x28.1, hF (sp_ft τ s.1 (Int32.ofInt 3)) _ (s.2.2.2.2.2.1 + (rz s.2)) (by simp only [sq_once, sq_snow, sq_goes, sp_b, sp_f, cond_true, cond_false, e5, e6, e1]) x28⟩)
      | false =>
        refine am_goX 1 (show (¬ (((rb2 s.2.2.2.1.1 false) >>> ((nI 1) &&& 31)) &&& (Int32.ofInt 1)) = (Int32.ofInt 1) → pz_S 2 none am_r208 32 Q 37 [(1, .int (nI 1)), (0, .ref 154)] [] h) ∧ (¬ ¬ (((rb2 s.2.2.2.1.1 false) >>> ((nI 1) &&& 31)) &&& (Int32.ofInt 1)) = (Int32.ofInt 1) → pz_S 2 none am_r208 32 Q 32 [(1, .int (nI 1)), (0, .ref 154)] [] h) from ⟨fun _ => ?_, fun hz => absurd (by rw [rb2_1]; decide) hz⟩)
        refine am_goX 2 (show am_sh h 154 = some (11, 0) ∧ pz_S 2 none am_r208 32 Q 41 [(1, .int (nI 1)), (0, .ref 154)] [.int (h.1 154 8)] h from ⟨ex_154 (r_P l), ?_⟩)
        rw [r_f l]
        refine am_goX 1 (show (0 ≤ 0 → pz_S 2 none am_r208 32 Q 45 [(1, .int (nI 1)), (0, .ref 154)] [] h) ∧ (¬ (0 ≤ 0) → pz_S 2 none am_r208 32 Q 44 [(1, .int (nI 1)), (0, .ref 154)] [] h) from ⟨fun _ => ?_, fun hz => absurd (by decide) hz⟩)
        refine am_goX 8 (show (Value.ref 154).category = 1 ∧ am_sh h 154 = some (11, 0) ∧ am_sh h 154 = some (11, 0) ∧ narrow (am_fty 11 20) (.int (((h.1 154 20) ||| ((Int32.ofInt 1) <<< ((nI 1) &&& 31))))) = .int (((h.1 154 20) ||| ((Int32.ofInt 1) <<< ((nI 1) &&& 31)))) ∧ fits (am_fty 11 20) (.int (((h.1 154 20) ||| ((Int32.ofInt 1) <<< ((nI 1) &&& 31))))) = true ∧ pz_S 2 none am_r208 32 Q 57 [(1, .int (nI 1)), (0, .ref 154)] [] (am_wI h 154 20 (((h.1 154 20) ||| ((Int32.ofInt 1) <<< ((nI 1) &&& 31))))) from ⟨rfl, ex_154 (r_P l), ex_154 (r_P l), rfl, rfl, ?_⟩)
        rw [eO, rb2_g]
        refine am_goX 6 (show (Value.ref 154).category = 1 ∧ am_sh (am_wI h 154 20 (rb2 s.2.2.2.1.1 true)) 154 = some (11, 0) ∧ am_sh (am_wI h 154 20 (rb2 s.2.2.2.1.1 true)) 154 = some (11, 0) ∧ narrow (am_fty 11 7) (.int ((((am_wI h 154 20 (rb2 s.2.2.2.1.1 true)).1 154 7) + (Int32.ofInt 1)))) = .int ((((am_wI h 154 20 (rb2 s.2.2.2.1.1 true)).1 154 7) + (Int32.ofInt 1))) ∧ fits (am_fty 11 7) (.int ((((am_wI h 154 20 (rb2 s.2.2.2.1.1 true)).1 154 7) + (Int32.ofInt 1)))) = true ∧ pz_S 2 none am_r208 32 Q 67 [(1, .int (nI 1)), (0, .ref 154)] [] (am_wI (am_wI h 154 20 (rb2 s.2.2.2.1.1 true)) 154 7 ((((am_wI h 154 20 (rb2 s.2.2.2.1.1 true)).1 154 7) + (Int32.ofInt 1)))) from ⟨rfl, ex_154 hP, ex_154 hP, rfl, rfl, ?_⟩)
        rw [em_wn _ _ (by omega), r_a l, xw_i1]
        refine am_goX 2 (show (¬ (nI 1) = 0 → pz_S 2 none am_r208 32 Q 78 [(1, .int (nI 1)), (0, .ref 154)] [] (am_wI (am_wI h 154 20 (rb2 s.2.2.2.1.1 true)) 154 7 (nI (s.1 + 1)))) ∧ (¬ ¬ (nI 1) = 0 → pz_S 2 none am_r208 32 Q 71 [(1, .int (nI 1)), (0, .ref 154)] [] (am_wI (am_wI h 154 20 (rb2 s.2.2.2.1.1 true)) 154 7 (nI (s.1 + 1)))) from ⟨fun _ => ?_, fun hz => absurd (by decide) hz⟩)
        refine am_goX 2 (show am_sh (am_wI (am_wI h 154 20 (rb2 s.2.2.2.1.1 true)) 154 7 (nI (s.1 + 1))) 154 = some (11, 0) ∧ pz_S 2 none am_r208 32 Q 82 [(1, .int (nI 1)), (0, .ref 154)] [am_rf ((am_wI (am_wI h 154 20 (rb2 s.2.2.2.1.1 true)) 154 7 (nI (s.1 + 1))).2.2.1 154 10)] (am_wI (am_wI h 154 20 (rb2 s.2.2.2.1.1 true)) 154 7 (nI (s.1 + 1))) from ⟨ex_154 hP, ?_⟩)
        rw [ex_r154_10 (h := am_wI (am_wI h 154 20 (rb2 s.2.2.2.1.1 true)) 154 7 (nI (s.1 + 1))) hP]
        refine am_goX 3 (show am_sh (am_wI (am_wI h 154 20 (rb2 s.2.2.2.1.1 true)) 154 7 (nI (s.1 + 1))) 154 = some (11, 0) ∧ pz_S 2 none am_r208 32 Q 88 [(1, .int (nI 1)), (0, .ref 154)] [.int ((am_wI (am_wI h 154 20 (rb2 s.2.2.2.1.1 true)) 154 7 (nI (s.1 + 1))).1 154 13), .int (Int8.ofInt 43).toInt32, .ref 160] (am_wI (am_wI h 154 20 (rb2 s.2.2.2.1.1 true)) 154 7 (nI (s.1 + 1))) from ⟨ex_154 hP, ?_⟩)
        have hz : rz s.2 = 0 := by unfold rz; rw [e1]; rfl
        rw [hz] at l
        have c0 : s.2.2.2.2.2.1 = 0 := l.2.1.2.2.2.2.2.1.2.2.2.1 e1
        have eC : h.1 154 13 = nI 0 := by
          have w := l.2.1.2.2.2.2.2.1.1
          rw [c0] at w
          exact w
        rw [show (am_wI (am_wI h 154 20 (rb2 s.2.2.2.1.1 true)) 154 7 (nI (s.1 + 1))).1 154 13 = nI 0 from (em_wn _ _ (by omega)).trans ((em_wn _ _ (by omega)).trans eC)]
        refine am_goX 1 (show ∃ jj nn : Nat, am_so (am_wI (am_wI h 154 20 (rb2 s.2.2.2.1.1 true)) 154 7 (nI (s.1 + 1))) 160 = some (13, nn) ∧ jj < nn ∧ (Int8.ofInt 43).toInt32 = nI jj ∧ pz_S 2 none am_r208 32 Q 89 [(1, .int (nI 1)), (0, .ref 154)] [] (am_wI (am_wI (am_wI h 154 20 (rb2 s.2.2.2.1.1 true)) 154 7 (nI (s.1 + 1))) 160 jj ((nI 0))) from ⟨43, 80, ex_w160 hP, (by decide), (by decide), ?_⟩)
        have l30 : rr h0 0 τ N (s.1 + 1, sp_cL s.2) (am_wI (am_wI (am_wI h 154 20 (rb2 s.2.2.2.1.1 true)) 154 7 (nI (s.1 + 1))) 160 43 ((nI 0))) := rr_go1 (a := s.1) (C := s.2) l (sp_wn e6) e1
        refine am_goX 3 (show am_rc (am_wI (am_wI (am_wI h 154 20 (rb2 s.2.2.2.1.1 true)) 154 7 (nI (s.1 + 1))) 160 43 ((nI 0))) 154 11 ∧ 0 ≤ 8 ∧ (am_wI (am_wI (am_wI h 154 20 (rb2 s.2.2.2.1.1 true)) 154 7 (nI (s.1 + 1))) 160 43 ((nI 0))).2.2.2.2 + am_al 210 ≤ 175 ∧ am_call am_cod 32 210 [.ref 154, .int (Int32.ofInt 0)] (am_wI (am_wI (am_wI h 154 20 (rb2 s.2.2.2.1.1 true)) 154 7 (nI (s.1 + 1))) 160 43 ((nI 0))) (fun vv h' => pz_S 2 none am_r208 32 Q 94 [(1, .int (nI 1)), (0, .ref 154)] (vv.toList ++ []) h') from ⟨Or.inl ⟨by decide, ex_154 (r_P l30)⟩, by decide, ex_lim (r_P l30) rfl, am_call.up ((r_law 5 (Int32.ofInt 0) (by decide) (by decide)).2 (s.1 + 1, sp_cL s.2) _ _ l30 rfl (fun F31 h32 c33 a34 e35 x36 b37 b38 b39 => ?_) (fun h40 t41 e42 l43 ht44 => ?_)) (by omega)⟩)
        ·
          dsimp only at b39
          have hc0 : (sp_cL s.2).2.2.2.2.1 = 0 := c0
          rw [hc0] at b39
          refine am_goX 4 (show am_rc h32 154 11 ∧ 0 ≤ 8 ∧ h32.2.2.2.2 + am_al 216 ≤ 175 ∧ am_call am_cod 32 216 [.ref 154, .int (Int32.ofInt 0), .int (Int32.ofInt 0)] h32 (fun vv h' => pz_S 2 none am_r208 32 Q 100 [(1, .int (nI 1)), (0, .ref 154)] (vv.toList ++ []) h') from ⟨Or.inl ⟨by decide, ex_154 x36.1⟩, by decide, ex_lim x36.1 rfl, am_call.up (d_216 (by omega) x36 (fun h45 x46 => ?_)) (by omega)⟩)
          exact am_goX 1 (show (none : Option FieldType) = none ∧ h45.2.2.2.2 = 175 ∧ _ from ⟨rfl, ex_175 x46.1, hF (F31) _ (c33 + 1) (by simp only [sq_once, sq_snow, sq_goes, sp_b, sp_f, cond_true, cond_false, e5, e6, e1, e35]) x46⟩)
        ·
          refine am_goX 4 (show am_rc h40 154 11 ∧ 0 ≤ 8 ∧ h40.2.2.2.2 + am_al 216 ≤ 175 ∧ am_call am_cod 32 216 [.ref 154, .int (Int32.ofInt 0), .int (Int32.ofInt 0)] h40 (fun vv h' => pz_S 2 none am_r208 32 Q 100 [(1, .int (nI 1)), (0, .ref 154)] (vv.toList ++ []) h') from ⟨Or.inl ⟨by decide, ex_154 (r_P l43)⟩, by decide, ex_lim (r_P l43) rfl, am_call.up (r_216e (s := t41) l43 ht44 (fun h47 l48 => ?_)) (by omega)⟩)
          exact am_goX 1 (show (none : Option FieldType) = none ∧ h47.2.2.2.2 = 175 ∧ _ from ⟨rfl, ex_175 (r_P l48), hS _ t41 (by simp only [sq_once, sq_goes, sp_b, sp_f, cond_true, cond_false, e5, e6, e1, e42]) (by
  have g : rz t41.2 = 1 := by unfold rz; rw [ht44]; rfl
  rw [g]
  exact l48)⟩)
theorem r_194 (l : rr h0 (rz s.2) τ N s h) (hF : ∀ F h1 c', sq_line τ s = .inl F → rx h0 F c' h1 → Q none h1) (hS : ∀ h1 t, sq_line τ s = .inr t → rr h0 (rz t.2) τ N t h1 → Q none h1) : am_call am_cod 34 194 [.ref 154] h Q := by
  have hP := r_P l
  have hp6 : s.2.1.1 ≤ 6 := l.2.1.1.2.1
  have he5 : s.2.2.1.1 ≤ 5 := l.2.1.2.1.2.1
  refine pz_call (n := 194) (nL := 4) (rt := none) (rows := am_r194) (d := 33) (by decide +kernel) (by decide +kernel) rfl (by funext pc; rfl) (ex_175 hP) (by exact Nat.le_of_ble_eq_true rfl) ?_
  refine am_goX 3 (show am_rc h 154 11 ∧ 0 ≤ 8 ∧ h.2.2.2.2 + am_al 195 ≤ 175 ∧ am_call am_cod 33 195 [.ref 154, .int (Int32.ofInt 0)] h (fun vv h' => pz_S 4 none am_r194 33 Q 5 [(0, .ref 154)] (vv.toList ++ []) h') from ⟨Or.inl ⟨by decide, ex_154 (r_P l)⟩, by decide, ex_lim (r_P l) rfl, am_call.up (r_195 (w := 0) (W := 1119812451) (by decide) (by decide) (by decide) l ?_) (by omega)⟩)
  cases e49 : sp_w τ s.1 1119812451 with
  | true =>
    refine am_goX 1 (show ((pz_b (true)) = 0 → pz_S 4 none am_r194 33 Q 71 [(0, .ref 154)] [] h) ∧ (¬ ((pz_b (true)) = 0) → pz_S 4 none am_r194 33 Q 8 [(0, .ref 154)] [] h) from ⟨fun hz => absurd hz (by decide), fun _ => ?_⟩)
    refine am_goX 4 (show am_sh h 154 = some (11, 0) ∧ pz_S 4 none am_r194 33 Q 15 [(0, .ref 154)] [am_rf (h.2.2.1 154 10), .int (Int32.ofInt 3), .int (Int8.ofInt 44).toInt32] h from ⟨ex_154 (r_P l), ?_⟩)
    rw [ex_r154_10 (h := h) (r_P l)]
    refine am_goX 2 (show ∃ jj nn : Nat, am_sh h 160 = some (13, nn) ∧ jj < nn ∧ (Int8.ofInt 40).toInt32 = nI jj ∧ pz_S 4 none am_r194 33 Q 18 [(0, .ref 154)] [.int (h.1 160 jj), .int (Int32.ofInt 3), .int (Int8.ofInt 44).toInt32] h from ⟨40, 80, ex_160 (r_P l), (by decide), (by decide), ?_⟩)
    rw [show h.1 160 40 = nI s.2.1.1 from l.2.1.1.1]
    refine am_goX 7 (show 1 < 4 ∧ pz_S 4 none am_r194 33 Q 26 [(1, .int ((Int8.ofInt 44).toInt32 + ((Int32.ofInt 3) * (nI s.2.1.1)))), (0, .ref 154)] [.int (Int32.ofInt 0), .int (Int8.ofInt 6).toInt32, .int (Int32.ofInt 0), .ref 154] h from ⟨by decide, ?_⟩)
    rw [show ((Int8.ofInt 44).toInt32 + ((Int32.ofInt 3) * (nI s.2.1.1))) = nI (44 + 3 * s.2.1.1) from (by
      rw [show Int32.ofInt 3 * nI s.2.1.1 = nI (3 * s.2.1.1) from nI_mul 3 _]
      exact nI_add 44 _)]
    refine am_goX 1 (show am_rc h 154 11 ∧ 0 ≤ 8 ∧ h.2.2.2.2 + am_al 196 ≤ 175 ∧ am_call am_cod 33 196 [.ref 154, .int (Int32.ofInt 0), .int (Int8.ofInt 6).toInt32, .int (Int32.ofInt 0)] h (fun vv h' => pz_S 4 none am_r194 33 Q 29 [(1, .int (nI (44 + 3 * s.2.1.1))), (0, .ref 154)] (vv.toList ++ []) h') from ⟨Or.inl ⟨by decide, ex_154 (r_P l)⟩, by decide, ex_lim (r_P l) rfl, am_call.up (r_196p (sp_wn e49) l (fun F50 h51 e52 x53 => ?_) (fun X54 Y55 h56 e57 e58 l59 => ?_)) (by omega)⟩)
    ·
      have e9 : sq_person τ s = .inl F50 := by
        unfold sq_person
        cases hb : Nat.ble 6 s.2.1.1 with
        | true => rw [hb] at e52; exact e52
        | false =>
          rw [hb] at e52
          have hfn : sp_fn τ (s.1 + 1, s.2) = .inl F50 := e52
          show sp_b _ _ = _
          rw [hfn]
          rfl
      refine am_goX 4 (show am_rc h51 154 11 ∧ 0 ≤ 8 ∧ h51.2.2.2.2 + am_al 201 ≤ 175 ∧ am_call am_cod 33 201 [.ref 154, .int (Int8.ofInt 10).toInt32, .int (Int32.ofInt 4)] h51 (fun vv h' => pz_S 4 none am_r194 33 Q 36 [(1, .int (nI (44 + 3 * s.2.1.1))), (0, .ref 154)] (vv.toList ++ []) h') from ⟨Or.inl ⟨by decide, ex_154 x53.1⟩, by decide, ex_lim x53.1 rfl, am_call.up (d_201 x53 (fun h60 x61 => ?_)) (by omega)⟩)
      refine am_goX 6 (show 2 < 4 ∧ am_rc h60 154 11 ∧ 0 ≤ 8 ∧ h60.2.2.2.2 + am_al 202 ≤ 175 ∧ am_call am_cod 33 202 [.ref 154, .int (Int32.ofInt 1), .int (Int32.ofInt 0), .int (Int32.ofInt 4)] h60 (fun vv h' => pz_S 4 none am_r194 33 Q 44 [(2, .int (Int32.ofInt 0)), (1, .int (nI (44 + 3 * s.2.1.1))), (0, .ref 154)] (vv.toList ++ []) h') from ⟨by decide, Or.inl ⟨by decide, ex_154 x61.1⟩, by decide, ex_lim x61.1 rfl, am_call.up (d_202 x61 (fun h62 x63 => ?_)) (by omega)⟩)
      refine am_goX 3 (show 3 < 4 ∧ am_sh h62 154 = some (11, 0) ∧ pz_S 4 none am_r194 33 Q 49 [(3, .int (Int32.ofInt 0)), (2, .int (Int32.ofInt 0)), (1, .int (nI (44 + 3 * s.2.1.1))), (0, .ref 154)] [.int (h62.1 154 8)] h62 from ⟨by decide, ex_154 x63.1, ?_⟩)
      rw [x63.2.1.1]
      refine am_goX 1 (show (¬ (F50) = 0 → pz_S 4 none am_r194 33 Q 68 [(3, .int (Int32.ofInt 0)), (2, .int (Int32.ofInt 0)), (1, .int (nI (44 + 3 * s.2.1.1))), (0, .ref 154)] [] h62) ∧ (¬ ¬ (F50) = 0 → pz_S 4 none am_r194 33 Q 52 [(3, .int (Int32.ofInt 0)), (2, .int (Int32.ofInt 0)), (1, .int (nI (44 + 3 * s.2.1.1))), (0, .ref 154)] [] h62) from ⟨fun _ => ?_, fun hz => absurd (rx_ne x63) hz⟩)
      exact am_goX 2 (show (none : Option FieldType) = none ∧ h62.2.2.2.2 = 175 ∧ _ from ⟨rfl, ex_175 x63.1, hF (F50) _ (s.2.2.2.2.2.1 + rz s.2) (by simp only [sq_line, sp_b, sp_f, cond_true, cond_false, e49, e9]) x63⟩)
    ·
      refine am_goX 4 (show am_rc h56 154 11 ∧ 0 ≤ 8 ∧ h56.2.2.2.2 + am_al 201 ≤ 175 ∧ am_call am_cod 33 201 [.ref 154, .int (Int8.ofInt 10).toInt32, .int (Int32.ofInt 4)] h56 (fun vv h' => pz_S 4 none am_r194 33 Q 36 [(1, .int (nI (44 + 3 * s.2.1.1))), (0, .ref 154)] (vv.toList ++ []) h') from ⟨Or.inl ⟨by decide, ex_154 (r_P l59)⟩, by decide, ex_lim (r_P l59) rfl, am_call.up (r_201 (s := (s.1 + 1 + 1, sp_cP s.2 (τ (s.1 + 1)).2.1 X54 Y55)) l59 (fun e65 h64 x66 => ?_) (fun k67 h68 e69 l70 => ?_)) (by omega)⟩)
      ·
        refine am_goX 6 (show 2 < 4 ∧ am_rc h64 154 11 ∧ 0 ≤ 8 ∧ h64.2.2.2.2 + am_al 202 ≤ 175 ∧ am_call am_cod 33 202 [.ref 154, .int (Int32.ofInt 1), .int (Int32.ofInt 0), .int (Int32.ofInt 4)] h64 (fun vv h' => pz_S 4 none am_r194 33 Q 44 [(2, .int (Int32.ofInt 0)), (1, .int (nI (44 + 3 * s.2.1.1))), (0, .ref 154)] (vv.toList ++ []) h') from ⟨by decide, Or.inl ⟨by decide, ex_154 x66.1⟩, by decide, ex_lim x66.1 rfl, am_call.up (d_202 x66 (fun h71 x72 => ?_)) (by omega)⟩)
        refine am_goX 3 (show 3 < 4 ∧ am_sh h71 154 = some (11, 0) ∧ pz_S 4 none am_r194 33 Q 49 [(3, .int (Int32.ofInt 0)), (2, .int (Int32.ofInt 0)), (1, .int (nI (44 + 3 * s.2.1.1))), (0, .ref 154)] [.int (h71.1 154 8)] h71 from ⟨by decide, ex_154 x72.1, ?_⟩)
        rw [x72.2.1.1]
        refine am_goX 1 (show (¬ (sp_ft τ (s.1 + 1 + 1) (Int32.ofInt 1)) = 0 → pz_S 4 none am_r194 33 Q 68 [(3, .int (Int32.ofInt 0)), (2, .int (Int32.ofInt 0)), (1, .int (nI (44 + 3 * s.2.1.1))), (0, .ref 154)] [] h71) ∧ (¬ ¬ (sp_ft τ (s.1 + 1 + 1) (Int32.ofInt 1)) = 0 → pz_S 4 none am_r194 33 Q 52 [(3, .int (Int32.ofInt 0)), (2, .int (Int32.ofInt 0)), (1, .int (nI (44 + 3 * s.2.1.1))), (0, .ref 154)] [] h71) from ⟨fun _ => ?_, fun hz => absurd (rx_ne x72) hz⟩)
        exact am_goX 2 (show (none : Option FieldType) = none ∧ h71.2.2.2.2 = 175 ∧ _ from ⟨rfl, ex_175 x72.1, hF (sp_ft τ (s.1 + 1 + 1) (Int32.ofInt 1)) _ ((sp_cP s.2 (τ (s.1 + 1)).2.1 X54 Y55).2.2.2.2.1 + (rz s.2)) (by simp only [sq_line, sq_person, sq_event, sq_comes, sp_b, sp_f, cond_true, cond_false, e49, e57, e58, e65]) x72⟩)
      ·
        refine am_goX 6 (show 2 < 4 ∧ am_rc h68 154 11 ∧ 0 ≤ 8 ∧ h68.2.2.2.2 + am_al 202 ≤ 175 ∧ am_call am_cod 33 202 [.ref 154, .int (Int32.ofInt 1), .int (Int32.ofInt 0), .int (Int32.ofInt 4)] h68 (fun vv h' => pz_S 4 none am_r194 33 Q 44 [(2, .int k67), (1, .int (nI (44 + 3 * s.2.1.1))), (0, .ref 154)] (vv.toList ++ []) h') from ⟨by decide, Or.inl ⟨by decide, ex_154 (r_P l70)⟩, by decide, ex_lim (r_P l70) rfl, am_call.up (r_202 (w := 1) (W := 17003) (by decide) (by decide) (by decide) (s := (s.1 + 1 + 1 + 1, (sp_cP s.2 (τ (s.1 + 1)).2.1 X54 Y55))) l70 (fun F73 h74 e75 x76 => ?_) (fun h77 e78 l79 => ?_)) (by omega)⟩)
        ·
          have e9 : sq_person τ s = .inl F73 := pn_B e57 e58 e69 e75
          refine am_goX 3 (show 3 < 4 ∧ am_sh h74 154 = some (11, 0) ∧ pz_S 4 none am_r194 33 Q 49 [(3, .int (Int32.ofInt 0)), (2, .int k67), (1, .int (nI (44 + 3 * s.2.1.1))), (0, .ref 154)] [.int (h74.1 154 8)] h74 from ⟨by decide, ex_154 x76.1, ?_⟩)
          rw [x76.2.1.1]
          refine am_goX 1 (show (¬ (F73) = 0 → pz_S 4 none am_r194 33 Q 68 [(3, .int (Int32.ofInt 0)), (2, .int k67), (1, .int (nI (44 + 3 * s.2.1.1))), (0, .ref 154)] [] h74) ∧ (¬ ¬ (F73) = 0 → pz_S 4 none am_r194 33 Q 52 [(3, .int (Int32.ofInt 0)), (2, .int k67), (1, .int (nI (44 + 3 * s.2.1.1))), (0, .ref 154)] [] h74) from ⟨fun _ => ?_, fun hz => absurd (rx_ne x76) hz⟩)
          exact am_goX 2 (show (none : Option FieldType) = none ∧ h74.2.2.2.2 = 175 ∧ _ from ⟨rfl, ex_175 x76.1, hF (F73) _ ((sp_cP s.2 (τ (s.1 + 1)).2.1 X54 Y55).2.2.2.2.1 + (rz s.2)) (by simp only [sq_line, sp_b, sp_f, cond_true, cond_false, e49, e57, e58, e69, e9]) x76⟩)
        ·
          obtain ⟨e80, e81⟩ := e78
          refine am_goX 3 (show 3 < 4 ∧ am_sh h77 154 = some (11, 0) ∧ pz_S 4 none am_r194 33 Q 49 [(3, .int (sp_v τ (s.1 + 1 + 1 + 1 + 1))), (2, .int k67), (1, .int (nI (44 + 3 * s.2.1.1))), (0, .ref 154)] [.int (h77.1 154 8)] h77 from ⟨by decide, ex_154 (r_P l79), ?_⟩)
          rw [r_f l79]
          refine am_goX 1 (show (¬ 0 = 0 → pz_S 4 none am_r194 33 Q 68 [(3, .int (sp_v τ (s.1 + 1 + 1 + 1 + 1))), (2, .int k67), (1, .int (nI (44 + 3 * s.2.1.1))), (0, .ref 154)] [] h77) ∧ (¬ ¬ 0 = 0 → pz_S 4 none am_r194 33 Q 52 [(3, .int (sp_v τ (s.1 + 1 + 1 + 1 + 1))), (2, .int k67), (1, .int (nI (44 + 3 * s.2.1.1))), (0, .ref 154)] [] h77) from ⟨fun hz => absurd hz (by decide), fun _ => ?_⟩)
          refine am_goX 2 (show am_sh h77 154 = some (11, 0) ∧ pz_S 4 none am_r194 33 Q 56 [(3, .int (sp_v τ (s.1 + 1 + 1 + 1 + 1))), (2, .int k67), (1, .int (nI (44 + 3 * s.2.1.1))), (0, .ref 154)] [am_rf (h77.2.2.1 154 10)] h77 from ⟨ex_154 (r_P l79), ?_⟩)
          rw [ex_r154_10 (h := h77) (r_P l79)]
          refine am_goX 3 (show ∃ jj nn : Nat, am_so h77 160 = some (13, nn) ∧ jj < nn ∧ (nI (44 + 3 * s.2.1.1)) = nI jj ∧ pz_S 4 none am_r194 33 Q 59 [(3, .int (sp_v τ (s.1 + 1 + 1 + 1 + 1))), (2, .int k67), (1, .int (nI (44 + 3 * s.2.1.1))), (0, .ref 154)] [] (am_wI h77 160 jj (k67)) from ⟨(44 + 3 * s.2.1.1), 80, ex_w160 (r_P l79), (by omega), rfl, ?_⟩)
          have l82 : rr h0 (rz s.2) τ N (s.1 + 1 + 1 + 1 + 1 + 1, sp_cP s.2 (τ (s.1 + 1)).2.1 k67 Y55) (am_wI h77 160 (44 + 3 * s.2.1.1) (k67)) := rr_P1 l79
          refine am_goX 2 (show am_sh (am_wI h77 160 (44 + 3 * s.2.1.1) (k67)) 154 = some (11, 0) ∧ pz_S 4 none am_r194 33 Q 63 [(3, .int (sp_v τ (s.1 + 1 + 1 + 1 + 1))), (2, .int k67), (1, .int (nI (44 + 3 * s.2.1.1))), (0, .ref 154)] [am_rf ((am_wI h77 160 (44 + 3 * s.2.1.1) (k67)).2.2.1 154 10)] (am_wI h77 160 (44 + 3 * s.2.1.1) (k67)) from ⟨ex_154 (r_P l82), ?_⟩)
          rw [ex_r154_10 (h := am_wI h77 160 (44 + 3 * s.2.1.1) (k67)) (r_P l82)]
          refine am_goX 5 (show ∃ jj nn : Nat, am_so (am_wI h77 160 (44 + 3 * s.2.1.1) (k67)) 160 = some (13, nn) ∧ jj < nn ∧ ((nI (44 + 3 * s.2.1.1)) + (Int32.ofInt 1)) = nI jj ∧ pz_S 4 none am_r194 33 Q 68 [(3, .int (sp_v τ (s.1 + 1 + 1 + 1 + 1))), (2, .int k67), (1, .int (nI (44 + 3 * s.2.1.1))), (0, .ref 154)] [] (am_wI (am_wI h77 160 (44 + 3 * s.2.1.1) (k67)) 160 jj ((sp_v τ (s.1 + 1 + 1 + 1 + 1)))) from ⟨(45 + 3 * s.2.1.1), 80, ex_w160 (r_P l82), (by omega), (by rw [xw_i1]; congr 1; omega), ?_⟩)
          have l83 : rr h0 (rz s.2) τ N (s.1 + 1 + 1 + 1 + 1 + 1, sp_cP s.2 (τ (s.1 + 1)).2.1 k67 (sp_v τ (s.1 + 1 + 1 + 1 + 1))) (am_wI (am_wI h77 160 (44 + 3 * s.2.1.1) (k67)) 160 (45 + 3 * s.2.1.1) ((sp_v τ (s.1 + 1 + 1 + 1 + 1)))) := rr_P2 l82
          exact am_goX 2 (show (none : Option FieldType) = none ∧ (am_wI (am_wI h77 160 (44 + 3 * s.2.1.1) (k67)) 160 (45 + 3 * s.2.1.1) ((sp_v τ (s.1 + 1 + 1 + 1 + 1)))).2.2.2.2 = 175 ∧ _ from ⟨rfl, ex_175 (r_P l83), hS _ _ (by simp only [sq_line, sq_person, sq_event, sq_comes, sp_b, sp_f, cond_true, cond_false, e49, e57, e58, e69, r_cg_W e80, r_cg_N e81]) l83⟩)
  | false =>
    refine am_goX 1 (show ((pz_b (false)) = 0 → pz_S 4 none am_r194 33 Q 71 [(0, .ref 154)] [] h) ∧ (¬ ((pz_b (false)) = 0) → pz_S 4 none am_r194 33 Q 8 [(0, .ref 154)] [] h) from ⟨fun _ => ?_, fun hz => absurd (by decide) hz⟩)
    refine am_goX 3 (show am_rc h 154 11 ∧ 0 ≤ 8 ∧ h.2.2.2.2 + am_al 195 ≤ 175 ∧ am_call am_cod 33 195 [.ref 154, .int (Int32.ofInt 2)] h (fun vv h' => pz_S 4 none am_r194 33 Q 76 [(0, .ref 154)] (vv.toList ++ []) h') from ⟨Or.inl ⟨by decide, ex_154 (r_P l)⟩, by decide, ex_lim (r_P l) rfl, am_call.up (r_195 (w := 2) (W := 10492554) (by decide) (by decide) (by decide) l ?_) (by omega)⟩)
    cases e84 : sp_w τ s.1 10492554 with
    | true =>
      refine am_goX 1 (show ((pz_b (true)) = 0 → pz_S 4 none am_r194 33 Q 144 [(0, .ref 154)] [] h) ∧ (¬ ((pz_b (true)) = 0) → pz_S 4 none am_r194 33 Q 79 [(0, .ref 154)] [] h) from ⟨fun hz => absurd hz (by decide), fun _ => ?_⟩)
      refine am_goX 4 (show am_sh h 154 = some (11, 0) ∧ pz_S 4 none am_r194 33 Q 86 [(0, .ref 154)] [am_rf (h.2.2.1 154 10), .int (Int32.ofInt 2), .int (Int8.ofInt 62).toInt32] h from ⟨ex_154 (r_P l), ?_⟩)
      rw [ex_r154_10 (h := h) (r_P l)]
      refine am_goX 2 (show ∃ jj nn : Nat, am_sh h 160 = some (13, nn) ∧ jj < nn ∧ (Int8.ofInt 41).toInt32 = nI jj ∧ pz_S 4 none am_r194 33 Q 89 [(0, .ref 154)] [.int (h.1 160 jj), .int (Int32.ofInt 2), .int (Int8.ofInt 62).toInt32] h from ⟨41, 80, ex_160 (r_P l), (by decide), (by decide), ?_⟩)
      rw [show h.1 160 41 = nI s.2.2.1.1 from l.2.1.2.1.1]
      refine am_goX 7 (show 1 < 4 ∧ pz_S 4 none am_r194 33 Q 97 [(1, .int ((Int8.ofInt 62).toInt32 + ((Int32.ofInt 2) * (nI s.2.2.1.1)))), (0, .ref 154)] [.int (Int8.ofInt 20).toInt32, .int (Int32.ofInt 5), .int (Int32.ofInt 1), .ref 154] h from ⟨by decide, ?_⟩)
      rw [show ((Int8.ofInt 62).toInt32 + ((Int32.ofInt 2) * (nI s.2.2.1.1))) = nI (62 + 2 * s.2.2.1.1) from (by
        rw [show Int32.ofInt 2 * nI s.2.2.1.1 = nI (2 * s.2.2.1.1) from nI_mul 2 _]
        exact nI_add 62 _)]
      refine am_goX 1 (show am_rc h 154 11 ∧ 0 ≤ 8 ∧ h.2.2.2.2 + am_al 196 ≤ 175 ∧ am_call am_cod 33 196 [.ref 154, .int (Int32.ofInt 1), .int (Int32.ofInt 5), .int (Int8.ofInt 20).toInt32] h (fun vv h' => pz_S 4 none am_r194 33 Q 100 [(1, .int (nI (62 + 2 * s.2.2.1.1))), (0, .ref 154)] (vv.toList ++ []) h') from ⟨Or.inl ⟨by decide, ex_154 (r_P l)⟩, by decide, ex_lim (r_P l) rfl, am_call.up (r_196e (sp_wn e84) l (fun F85 h86 e87 x88 => ?_) (fun X89 Y90 h91 e92 e93 l94 => ?_)) (by omega)⟩)
      ·
        have e9 : sq_event τ s = .inl F85 := by
          unfold sq_event
          cases hb : Nat.ble 5 s.2.2.1.1 with
          | true => rw [hb] at e87; exact e87
          | false =>
            rw [hb] at e87
            have hfn : sp_fn τ (s.1 + 1, s.2) = .inl F85 := e87
            show sp_b _ _ = _
            rw [hfn]
            rfl
        refine am_goX 5 (show am_rc h86 154 11 ∧ 0 ≤ 8 ∧ h86.2.2.2.2 + am_al 202 ≤ 175 ∧ am_call am_cod 33 202 [.ref 154, .int (Int32.ofInt 3), .int (Int32.ofInt 0), .int (Int8.ofInt 6).toInt32] h86 (fun vv h' => pz_S 4 none am_r194 33 Q 108 [(1, .int (nI (62 + 2 * s.2.2.1.1))), (0, .ref 154)] (vv.toList ++ []) h') from ⟨Or.inl ⟨by decide, ex_154 x88.1⟩, by decide, ex_lim x88.1 rfl, am_call.up (d_202 x88 (fun h95 x96 => ?_)) (by omega)⟩)
        refine am_goX 6 (show 2 < 4 ∧ am_rc h95 154 11 ∧ 0 ≤ 8 ∧ h95.2.2.2.2 + am_al 202 ≤ 175 ∧ am_call am_cod 33 202 [.ref 154, .int (Int32.ofInt 4), .int (Int32.ofInt 1), .int (Int8.ofInt 6).toInt32] h95 (fun vv h' => pz_S 4 none am_r194 33 Q 117 [(2, .int (Int32.ofInt 0)), (1, .int (nI (62 + 2 * s.2.2.1.1))), (0, .ref 154)] (vv.toList ++ []) h') from ⟨by decide, Or.inl ⟨by decide, ex_154 x96.1⟩, by decide, ex_lim x96.1 rfl, am_call.up (d_202 x96 (fun h97 x98 => ?_)) (by omega)⟩)
        refine am_goX 3 (show 3 < 4 ∧ am_sh h97 154 = some (11, 0) ∧ pz_S 4 none am_r194 33 Q 122 [(3, .int (Int32.ofInt 0)), (2, .int (Int32.ofInt 0)), (1, .int (nI (62 + 2 * s.2.2.1.1))), (0, .ref 154)] [.int (h97.1 154 8)] h97 from ⟨by decide, ex_154 x98.1, ?_⟩)
        rw [x98.2.1.1]
        refine am_goX 1 (show (¬ (F85) = 0 → pz_S 4 none am_r194 33 Q 141 [(3, .int (Int32.ofInt 0)), (2, .int (Int32.ofInt 0)), (1, .int (nI (62 + 2 * s.2.2.1.1))), (0, .ref 154)] [] h97) ∧ (¬ ¬ (F85) = 0 → pz_S 4 none am_r194 33 Q 125 [(3, .int (Int32.ofInt 0)), (2, .int (Int32.ofInt 0)), (1, .int (nI (62 + 2 * s.2.2.1.1))), (0, .ref 154)] [] h97) from ⟨fun _ => ?_, fun hz => absurd (rx_ne x98) hz⟩)
        exact am_goX 2 (show (none : Option FieldType) = none ∧ h97.2.2.2.2 = 175 ∧ _ from ⟨rfl, ex_175 x98.1, hF (F85) _ (s.2.2.2.2.2.1 + rz s.2) (by simp only [sq_line, sp_b, sp_f, cond_true, cond_false, e49, e84, e9]) x98⟩)
      ·
        refine am_goX 5 (show am_rc h91 154 11 ∧ 0 ≤ 8 ∧ h91.2.2.2.2 + am_al 202 ≤ 175 ∧ am_call am_cod 33 202 [.ref 154, .int (Int32.ofInt 3), .int (Int32.ofInt 0), .int (Int8.ofInt 6).toInt32] h91 (fun vv h' => pz_S 4 none am_r194 33 Q 108 [(1, .int (nI (62 + 2 * s.2.2.1.1))), (0, .ref 154)] (vv.toList ++ []) h') from ⟨Or.inl ⟨by decide, ex_154 (r_P l94)⟩, by decide, ex_lim (r_P l94) rfl, am_call.up (r_202 (w := 3) (W := 569) (by decide) (by decide) (by decide) (s := (s.1 + 1 + 1, sp_cE s.2 (τ (s.1 + 1)).2.1 X89 Y90)) l94 (fun F99 h100 e101 x102 => ?_) (fun h103 e104 l105 => ?_)) (by omega)⟩)
        ·
          have e9 : sq_event τ s = .inl F99 := ev_B1 e92 e93 e101
          refine am_goX 6 (show 2 < 4 ∧ am_rc h100 154 11 ∧ 0 ≤ 8 ∧ h100.2.2.2.2 + am_al 202 ≤ 175 ∧ am_call am_cod 33 202 [.ref 154, .int (Int32.ofInt 4), .int (Int32.ofInt 1), .int (Int8.ofInt 6).toInt32] h100 (fun vv h' => pz_S 4 none am_r194 33 Q 117 [(2, .int (Int32.ofInt 0)), (1, .int (nI (62 + 2 * s.2.2.1.1))), (0, .ref 154)] (vv.toList ++ []) h') from ⟨by decide, Or.inl ⟨by decide, ex_154 x102.1⟩, by decide, ex_lim x102.1 rfl, am_call.up (d_202 x102 (fun h108 x109 => ?_)) (by omega)⟩)
          refine am_goX 3 (show 3 < 4 ∧ am_sh h108 154 = some (11, 0) ∧ pz_S 4 none am_r194 33 Q 122 [(3, .int (Int32.ofInt 0)), (2, .int (Int32.ofInt 0)), (1, .int (nI (62 + 2 * s.2.2.1.1))), (0, .ref 154)] [.int (h108.1 154 8)] h108 from ⟨by decide, ex_154 x109.1, ?_⟩)
          rw [x109.2.1.1]
          refine am_goX 1 (show (¬ (F99) = 0 → pz_S 4 none am_r194 33 Q 141 [(3, .int (Int32.ofInt 0)), (2, .int (Int32.ofInt 0)), (1, .int (nI (62 + 2 * s.2.2.1.1))), (0, .ref 154)] [] h108) ∧ (¬ ¬ (F99) = 0 → pz_S 4 none am_r194 33 Q 125 [(3, .int (Int32.ofInt 0)), (2, .int (Int32.ofInt 0)), (1, .int (nI (62 + 2 * s.2.2.1.1))), (0, .ref 154)] [] h108) from ⟨fun _ => ?_, fun hz => absurd (rx_ne x109) hz⟩)
          exact am_goX 2 (show (none : Option FieldType) = none ∧ h108.2.2.2.2 = 175 ∧ _ from ⟨rfl, ex_175 x109.1, hF (F99) _ ((sp_cE s.2 (τ (s.1 + 1)).2.1 X89 Y90).2.2.2.2.1 + (rz s.2)) (by simp only [sq_line, sp_b, sp_f, cond_true, cond_false, e49, e84, e92, e93, e9]) x109⟩)
        ·
          obtain ⟨e106, e107⟩ := e104
          refine am_goX 6 (show 2 < 4 ∧ am_rc h103 154 11 ∧ 0 ≤ 8 ∧ h103.2.2.2.2 + am_al 202 ≤ 175 ∧ am_call am_cod 33 202 [.ref 154, .int (Int32.ofInt 4), .int (Int32.ofInt 1), .int (Int8.ofInt 6).toInt32] h103 (fun vv h' => pz_S 4 none am_r194 33 Q 117 [(2, .int (sp_v τ (s.1 + 1 + 1 + 1))), (1, .int (nI (62 + 2 * s.2.2.1.1))), (0, .ref 154)] (vv.toList ++ []) h') from ⟨by decide, Or.inl ⟨by decide, ex_154 (r_P l105)⟩, by decide, ex_lim (r_P l105) rfl, am_call.up (r_202 (w := 4) (W := 26498531) (by decide) (by decide) (by decide) (s := (s.1 + 1 + 1 + 1 + 1, (sp_cE s.2 (τ (s.1 + 1)).2.1 X89 Y90))) l105 (fun F110 h111 e112 x113 => ?_) (fun h114 e115 l116 => ?_)) (by omega)⟩)
          ·
            have e9 : sq_event τ s = .inl F110 := ev_B2 e92 e93 e106 e107 e112
            refine am_goX 3 (show 3 < 4 ∧ am_sh h111 154 = some (11, 0) ∧ pz_S 4 none am_r194 33 Q 122 [(3, .int (Int32.ofInt 0)), (2, .int (sp_v τ (s.1 + 1 + 1 + 1))), (1, .int (nI (62 + 2 * s.2.2.1.1))), (0, .ref 154)] [.int (h111.1 154 8)] h111 from ⟨by decide, ex_154 x113.1, ?_⟩)
            rw [x113.2.1.1]
            refine am_goX 1 (show (¬ (F110) = 0 → pz_S 4 none am_r194 33 Q 141 [(3, .int (Int32.ofInt 0)), (2, .int (sp_v τ (s.1 + 1 + 1 + 1))), (1, .int (nI (62 + 2 * s.2.2.1.1))), (0, .ref 154)] [] h111) ∧ (¬ ¬ (F110) = 0 → pz_S 4 none am_r194 33 Q 125 [(3, .int (Int32.ofInt 0)), (2, .int (sp_v τ (s.1 + 1 + 1 + 1))), (1, .int (nI (62 + 2 * s.2.2.1.1))), (0, .ref 154)] [] h111) from ⟨fun _ => ?_, fun hz => absurd (rx_ne x113) hz⟩)
            exact am_goX 2 (show (none : Option FieldType) = none ∧ h111.2.2.2.2 = 175 ∧ _ from ⟨rfl, ex_175 x113.1, hF (F110) _ ((sp_cE s.2 (τ (s.1 + 1)).2.1 X89 Y90).2.2.2.2.1 + (rz s.2)) (by simp only [sq_line, sp_b, sp_f, cond_true, cond_false, e49, e84, e92, e93, r_cg_W e106, r_cg_N e107, e9]) x113⟩)
          ·
            obtain ⟨e117, e118⟩ := e115
            refine am_goX 3 (show 3 < 4 ∧ am_sh h114 154 = some (11, 0) ∧ pz_S 4 none am_r194 33 Q 122 [(3, .int (sp_v τ (s.1 + 1 + 1 + 1 + 1 + 1))), (2, .int (sp_v τ (s.1 + 1 + 1 + 1))), (1, .int (nI (62 + 2 * s.2.2.1.1))), (0, .ref 154)] [.int (h114.1 154 8)] h114 from ⟨by decide, ex_154 (r_P l116), ?_⟩)
            rw [r_f l116]
            refine am_goX 1 (show (¬ 0 = 0 → pz_S 4 none am_r194 33 Q 141 [(3, .int (sp_v τ (s.1 + 1 + 1 + 1 + 1 + 1))), (2, .int (sp_v τ (s.1 + 1 + 1 + 1))), (1, .int (nI (62 + 2 * s.2.2.1.1))), (0, .ref 154)] [] h114) ∧ (¬ ¬ 0 = 0 → pz_S 4 none am_r194 33 Q 125 [(3, .int (sp_v τ (s.1 + 1 + 1 + 1 + 1 + 1))), (2, .int (sp_v τ (s.1 + 1 + 1 + 1))), (1, .int (nI (62 + 2 * s.2.2.1.1))), (0, .ref 154)] [] h114) from ⟨fun hz => absurd hz (by decide), fun _ => ?_⟩)
            refine am_goX 2 (show am_sh h114 154 = some (11, 0) ∧ pz_S 4 none am_r194 33 Q 129 [(3, .int (sp_v τ (s.1 + 1 + 1 + 1 + 1 + 1))), (2, .int (sp_v τ (s.1 + 1 + 1 + 1))), (1, .int (nI (62 + 2 * s.2.2.1.1))), (0, .ref 154)] [am_rf (h114.2.2.1 154 10)] h114 from ⟨ex_154 (r_P l116), ?_⟩)
            rw [ex_r154_10 (h := h114) (r_P l116)]
            refine am_goX 3 (show ∃ jj nn : Nat, am_so h114 160 = some (13, nn) ∧ jj < nn ∧ (nI (62 + 2 * s.2.2.1.1)) = nI jj ∧ pz_S 4 none am_r194 33 Q 132 [(3, .int (sp_v τ (s.1 + 1 + 1 + 1 + 1 + 1))), (2, .int (sp_v τ (s.1 + 1 + 1 + 1))), (1, .int (nI (62 + 2 * s.2.2.1.1))), (0, .ref 154)] [] (am_wI h114 160 jj ((sp_v τ (s.1 + 1 + 1 + 1)))) from ⟨(62 + 2 * s.2.2.1.1), 80, ex_w160 (r_P l116), (by omega), rfl, ?_⟩)
            have l119 : rr h0 (rz s.2) τ N (s.1 + 1 + 1 + 1 + 1 + 1 + 1, sp_cE s.2 (τ (s.1 + 1)).2.1 (sp_v τ (s.1 + 1 + 1 + 1)) Y90) (am_wI h114 160 (62 + 2 * s.2.2.1.1) ((sp_v τ (s.1 + 1 + 1 + 1)))) := rr_E1 l116
            refine am_goX 2 (show am_sh (am_wI h114 160 (62 + 2 * s.2.2.1.1) ((sp_v τ (s.1 + 1 + 1 + 1)))) 154 = some (11, 0) ∧ pz_S 4 none am_r194 33 Q 136 [(3, .int (sp_v τ (s.1 + 1 + 1 + 1 + 1 + 1))), (2, .int (sp_v τ (s.1 + 1 + 1 + 1))), (1, .int (nI (62 + 2 * s.2.2.1.1))), (0, .ref 154)] [am_rf ((am_wI h114 160 (62 + 2 * s.2.2.1.1) ((sp_v τ (s.1 + 1 + 1 + 1)))).2.2.1 154 10)] (am_wI h114 160 (62 + 2 * s.2.2.1.1) ((sp_v τ (s.1 + 1 + 1 + 1)))) from ⟨ex_154 (r_P l119), ?_⟩)
            rw [ex_r154_10 (h := am_wI h114 160 (62 + 2 * s.2.2.1.1) ((sp_v τ (s.1 + 1 + 1 + 1)))) (r_P l119)]
            refine am_goX 5 (show ∃ jj nn : Nat, am_so (am_wI h114 160 (62 + 2 * s.2.2.1.1) ((sp_v τ (s.1 + 1 + 1 + 1)))) 160 = some (13, nn) ∧ jj < nn ∧ ((nI (62 + 2 * s.2.2.1.1)) + (Int32.ofInt 1)) = nI jj ∧ pz_S 4 none am_r194 33 Q 141 [(3, .int (sp_v τ (s.1 + 1 + 1 + 1 + 1 + 1))), (2, .int (sp_v τ (s.1 + 1 + 1 + 1))), (1, .int (nI (62 + 2 * s.2.2.1.1))), (0, .ref 154)] [] (am_wI (am_wI h114 160 (62 + 2 * s.2.2.1.1) ((sp_v τ (s.1 + 1 + 1 + 1)))) 160 jj ((sp_v τ (s.1 + 1 + 1 + 1 + 1 + 1)))) from ⟨(63 + 2 * s.2.2.1.1), 80, ex_w160 (r_P l119), (by omega), (by rw [xw_i1]; congr 1; omega), ?_⟩)
            have l120 : rr h0 (rz s.2) τ N (s.1 + 1 + 1 + 1 + 1 + 1 + 1, sp_cE s.2 (τ (s.1 + 1)).2.1 (sp_v τ (s.1 + 1 + 1 + 1)) (sp_v τ (s.1 + 1 + 1 + 1 + 1 + 1))) (am_wI (am_wI h114 160 (62 + 2 * s.2.2.1.1) ((sp_v τ (s.1 + 1 + 1 + 1)))) 160 (63 + 2 * s.2.2.1.1) ((sp_v τ (s.1 + 1 + 1 + 1 + 1 + 1)))) := rr_E2 l119
            exact am_goX 2 (show (none : Option FieldType) = none ∧ (am_wI (am_wI h114 160 (62 + 2 * s.2.2.1.1) ((sp_v τ (s.1 + 1 + 1 + 1)))) 160 (63 + 2 * s.2.2.1.1) ((sp_v τ (s.1 + 1 + 1 + 1 + 1 + 1)))).2.2.2.2 = 175 ∧ _ from ⟨rfl, ex_175 (r_P l120), hS _ _ (by simp only [sq_line, sq_person, sq_event, sq_comes, sp_b, sp_f, cond_true, cond_false, e49, e84, e92, e93, r_cg_W e106, r_cg_N e107, r_cg_W e117, r_cg_N e118]) l120⟩)
    | false =>
      refine am_goX 1 (show ((pz_b (false)) = 0 → pz_S 4 none am_r194 33 Q 144 [(0, .ref 154)] [] h) ∧ (¬ ((pz_b (false)) = 0) → pz_S 4 none am_r194 33 Q 79 [(0, .ref 154)] [] h) from ⟨fun _ => ?_, fun hz => absurd (by decide) hz⟩)
      refine am_goX 3 (show am_rc h 154 11 ∧ 0 ≤ 8 ∧ h.2.2.2.2 + am_al 195 ≤ 175 ∧ am_call am_cod 33 195 [.ref 154, .int (Int32.ofInt 5)] h (fun vv h' => pz_S 4 none am_r194 33 Q 149 [(0, .ref 154)] (vv.toList ++ []) h') from ⟨Or.inl ⟨by decide, ex_154 (r_P l)⟩, by decide, ex_lim (r_P l) rfl, am_call.up (r_195 (w := 5) (W := 6400279) (by decide) (by decide) (by decide) l ?_) (by omega)⟩)
      cases e121 : sp_w τ s.1 6400279 with
      | true =>
        refine am_goX 1 (show ((pz_b (true)) = 0 → pz_S 4 none am_r194 33 Q 217 [(0, .ref 154)] [] h) ∧ (¬ ((pz_b (true)) = 0) → pz_S 4 none am_r194 33 Q 152 [(0, .ref 154)] [] h) from ⟨fun hz => absurd hz (by decide), fun _ => ?_⟩)
        refine am_goX 6 (show (Value.ref 154).category = 1 ∧ am_sh h 154 = some (11, 0) ∧ am_sh h 154 = some (11, 0) ∧ narrow (am_fty 11 7) (.int (((h.1 154 7) + (Int32.ofInt 1)))) = .int (((h.1 154 7) + (Int32.ofInt 1))) ∧ fits (am_fty 11 7) (.int (((h.1 154 7) + (Int32.ofInt 1)))) = true ∧ pz_S 4 none am_r194 33 Q 162 [(0, .ref 154)] [] (am_wI h 154 7 (((h.1 154 7) + (Int32.ofInt 1)))) from ⟨rfl, ex_154 (r_P l), ex_154 (r_P l), rfl, rfl, ?_⟩)
        rw [r_a l, xw_i1]
        have l122 : rr h0 (rz s.2) τ N (s.1 + 1, s.2) (am_wI h 154 7 (nI (s.1 + 1))) := rr_nx (a := s.1) (C := s.2) l (sp_wn e121)
        refine am_goX 7 (show am_rc (am_wI h 154 7 (nI (s.1 + 1))) 154 11 ∧ 2 ≤ 8 ∧ (am_wI h 154 7 (nI (s.1 + 1))).2.2.2.2 + am_al 206 ≤ 175 ∧ am_call am_cod 33 206 [.ref 154, .int (Int32.ofInt 1), .int (Int32.ofInt 0), .int (Int32.ofInt 0)] (am_wI h 154 7 (nI (s.1 + 1))) (fun vv h' => pz_S 4 none am_r194 33 Q 172 [(0, .ref 154)] (vv.toList ++ [.int (Int32.ofInt 3), .int (Int8.ofInt 44).toInt32]) h') from ⟨Or.inl ⟨by decide, ex_154 (r_P l122)⟩, by decide, ex_lim (r_P l122) rfl, am_call.up (r_206p (s := (s.1 + 1, s.2)) l122 (fun F123 h124 e125 x126 => ?_) (fun p127 h128 e129 e130 l132 => ?_)) (by omega)⟩)
        ·
          have e9 : sq_comes τ s = .inl F123 := cm_p e125
          refine am_goX 10 (show 1 < 4 ∧ am_sh h124 154 = some (11, 0) ∧ pz_S 4 none am_r194 33 Q 185 [(1, .int (((Int8.ofInt 44).toInt32 + ((Int32.ofInt 3) * (Int32.ofInt 0))) + (Int32.ofInt 2))), (0, .ref 154)] [am_rf (h124.2.2.1 154 10), .int (Int8.ofInt 20).toInt32, .int (Int32.ofInt 1), .ref 154] h124 from ⟨by decide, ex_154 x126.1, ?_⟩)
          rw [ex_r154_10 (h := h124) x126.1]
          refine am_goX 2 (show ∃ jj nn : Nat, am_sh h124 160 = some (13, nn) ∧ jj < nn ∧ (((Int8.ofInt 44).toInt32 + ((Int32.ofInt 3) * (Int32.ofInt 0))) + (Int32.ofInt 2)) = nI jj ∧ pz_S 4 none am_r194 33 Q 187 [(1, .int (((Int8.ofInt 44).toInt32 + ((Int32.ofInt 3) * (Int32.ofInt 0))) + (Int32.ofInt 2))), (0, .ref 154)] [.int (h124.1 160 jj), .int (Int8.ofInt 20).toInt32, .int (Int32.ofInt 1), .ref 154] h124 from ⟨46, 80, ex_160 x126.1, (by decide), (by decide), ?_⟩)
          refine am_goX 1 (show am_rc h124 154 11 ∧ 0 ≤ 8 ∧ h124.2.2.2.2 + am_al 206 ≤ 175 ∧ am_call am_cod 33 206 [.ref 154, .int (Int32.ofInt 1), .int (Int8.ofInt 20).toInt32, .int (h124.1 160 46)] h124 (fun vv h' => pz_S 4 none am_r194 33 Q 190 [(1, .int (((Int8.ofInt 44).toInt32 + ((Int32.ofInt 3) * (Int32.ofInt 0))) + (Int32.ofInt 2))), (0, .ref 154)] (vv.toList ++ []) h') from ⟨Or.inl ⟨by decide, ex_154 x126.1⟩, by decide, ex_lim x126.1 rfl, am_call.up (d_206 x126 (fun h133 x134 => ?_)) (by omega)⟩)
          refine am_goX 3 (show 2 < 4 ∧ am_sh h133 154 = some (11, 0) ∧ pz_S 4 none am_r194 33 Q 195 [(2, .int (Int32.ofInt 0)), (1, .int (((Int8.ofInt 44).toInt32 + ((Int32.ofInt 3) * (Int32.ofInt 0))) + (Int32.ofInt 2))), (0, .ref 154)] [am_rf (h133.2.2.1 154 10)] h133 from ⟨by decide, ex_154 x134.1, ?_⟩)
          rw [ex_r154_10 (h := h133) x134.1]
          refine am_goX 3 (show (Value.int (((Int8.ofInt 44).toInt32 + ((Int32.ofInt 3) * (Int32.ofInt 0))) + (Int32.ofInt 2))).category = 1 ∧ (Value.ref 160).category = 1 ∧ ∃ jj nn : Nat, am_sh h133 160 = some (13, nn) ∧ jj < nn ∧ (((Int8.ofInt 44).toInt32 + ((Int32.ofInt 3) * (Int32.ofInt 0))) + (Int32.ofInt 2)) = nI jj ∧ pz_S 4 none am_r194 33 Q 198 [(2, .int (Int32.ofInt 0)), (1, .int (((Int8.ofInt 44).toInt32 + ((Int32.ofInt 3) * (Int32.ofInt 0))) + (Int32.ofInt 2))), (0, .ref 154)] [.int (h133.1 160 jj), .int (((Int8.ofInt 44).toInt32 + ((Int32.ofInt 3) * (Int32.ofInt 0))) + (Int32.ofInt 2)), .ref 160] h133 from ⟨rfl, rfl, 46, 80, ex_160 x134.1, (by decide), (by decide), ?_⟩)
          refine am_goX 2 (show am_sh h133 154 = some (11, 0) ∧ pz_S 4 none am_r194 33 Q 202 [(2, .int (Int32.ofInt 0)), (1, .int (((Int8.ofInt 44).toInt32 + ((Int32.ofInt 3) * (Int32.ofInt 0))) + (Int32.ofInt 2))), (0, .ref 154)] [.int (h133.1 154 8), .int (h133.1 160 46), .int (((Int8.ofInt 44).toInt32 + ((Int32.ofInt 3) * (Int32.ofInt 0))) + (Int32.ofInt 2)), .ref 160] h133 from ⟨ex_154 x134.1, ?_⟩)
          rw [x134.2.1.1]
          refine am_goX 1 (show ((F123) ≤ 0 → pz_S 4 none am_r194 33 Q 209 [(2, .int (Int32.ofInt 0)), (1, .int (((Int8.ofInt 44).toInt32 + ((Int32.ofInt 3) * (Int32.ofInt 0))) + (Int32.ofInt 2))), (0, .ref 154)] [.int (h133.1 160 46), .int (((Int8.ofInt 44).toInt32 + ((Int32.ofInt 3) * (Int32.ofInt 0))) + (Int32.ofInt 2)), .ref 160] h133) ∧ (¬ ((F123) ≤ 0) → pz_S 4 none am_r194 33 Q 205 [(2, .int (Int32.ofInt 0)), (1, .int (((Int8.ofInt 44).toInt32 + ((Int32.ofInt 3) * (Int32.ofInt 0))) + (Int32.ofInt 2))), (0, .ref 154)] [.int (h133.1 160 46), .int (((Int8.ofInt 44).toInt32 + ((Int32.ofInt 3) * (Int32.ofInt 0))) + (Int32.ofInt 2)), .ref 160] h133) from ⟨fun hz => absurd hz (rx_le x134), fun _ => ?_⟩)
          refine am_goX 4 (show ∃ jj nn : Nat, am_so h133 160 = some (13, nn) ∧ jj < nn ∧ (((Int8.ofInt 44).toInt32 + ((Int32.ofInt 3) * (Int32.ofInt 0))) + (Int32.ofInt 2)) = nI jj ∧ pz_S 4 none am_r194 33 Q 214 [(2, .int (Int32.ofInt 0)), (1, .int (((Int8.ofInt 44).toInt32 + ((Int32.ofInt 3) * (Int32.ofInt 0))) + (Int32.ofInt 2))), (0, .ref 154)] [] (am_wI h133 160 jj (((h133.1 160 46) ||| (Int32.ofInt 0)))) from ⟨46, 80, ex_w160 x134.1, (by decide), (by decide), ?_⟩)
          have x135 : rx h0 (F123) (s.2.2.2.2.2.1 + (rz s.2)) (am_wI h133 160 46 (((h133.1 160 46) ||| (Int32.ofInt 0)))) := rx_160 (by omega) x134
          exact am_goX 2 (show (none : Option FieldType) = none ∧ (am_wI h133 160 46 (((h133.1 160 46) ||| (Int32.ofInt 0)))).2.2.2.2 = 175 ∧ _ from ⟨rfl, ex_175 x135.1, hF (F123) _ (s.2.2.2.2.2.1 + (rz s.2)) (by simp only [sq_line, sp_b, sp_f, cond_true, cond_false, e49, e84, e121, e9]) x135⟩)
        ·
          have hpl : p127 < 0 + s.2.1.1 := (sp_fd_lt e130).2.1
          refine am_goX 10 (show 1 < 4 ∧ am_sh h128 154 = some (11, 0) ∧ pz_S 4 none am_r194 33 Q 185 [(1, .int (((Int8.ofInt 44).toInt32 + ((Int32.ofInt 3) * (nI p127))) + (Int32.ofInt 2))), (0, .ref 154)] [am_rf (h128.2.2.1 154 10), .int (Int8.ofInt 20).toInt32, .int (Int32.ofInt 1), .ref 154] h128 from ⟨by decide, ex_154 (r_P l132), ?_⟩)
          rw [ex_r154_10 (h := h128) (r_P l132)]
          refine am_goX 2 (show ∃ jj nn : Nat, am_sh h128 160 = some (13, nn) ∧ jj < nn ∧ (((Int8.ofInt 44).toInt32 + ((Int32.ofInt 3) * (nI p127))) + (Int32.ofInt 2)) = nI jj ∧ pz_S 4 none am_r194 33 Q 187 [(1, .int (((Int8.ofInt 44).toInt32 + ((Int32.ofInt 3) * (nI p127))) + (Int32.ofInt 2))), (0, .ref 154)] [.int (h128.1 160 jj), .int (Int8.ofInt 20).toInt32, .int (Int32.ofInt 1), .ref 154] h128 from ⟨(46 + 3 * p127), 80, ex_160 (r_P l132), (by omega), (cm_i p127), ?_⟩)
          have hcell : ∀ e, e < s.2.2.1.1 → sp_bit (h128.1 160 (46 + 3 * p127)) (nI e) = sp_bit (s.2.2.1.2.2.2.2 e) (nI p127) := fun e he => (l132.2.1.2.2.1 p127 e (by omega) (by omega)).1.trans (by dsimp only; rw [decide_eq_true he]; rfl)
          refine am_goX 1 (show am_rc h128 154 11 ∧ 0 ≤ 8 ∧ h128.2.2.2.2 + am_al 206 ≤ 175 ∧ am_call am_cod 33 206 [.ref 154, .int (Int32.ofInt 1), .int (Int8.ofInt 20).toInt32, .int (h128.1 160 (46 + 3 * p127))] h128 (fun vv h' => pz_S 4 none am_r194 33 Q 190 [(1, .int (((Int8.ofInt 44).toInt32 + ((Int32.ofInt 3) * (nI p127))) + (Int32.ofInt 2))), (0, .ref 154)] (vv.toList ++ []) h') from ⟨Or.inl ⟨by decide, ex_154 (r_P l132)⟩, by decide, ex_lim (r_P l132) rfl, am_call.up (r_206e (s := (s.1 + 1 + 1, s.2)) l132 (fun F136 h137 e138 x139 => ?_) (fun p140 h141 e142 e143 e144 l145 => ?_)) (by omega)⟩)
          ·
            have e9 : sq_comes τ s = .inl F136 := cm_e e129 e130 (hcell) e138
            refine am_goX 3 (show 2 < 4 ∧ am_sh h137 154 = some (11, 0) ∧ pz_S 4 none am_r194 33 Q 195 [(2, .int (Int32.ofInt 0)), (1, .int (((Int8.ofInt 44).toInt32 + ((Int32.ofInt 3) * (nI p127))) + (Int32.ofInt 2))), (0, .ref 154)] [am_rf (h137.2.2.1 154 10)] h137 from ⟨by decide, ex_154 x139.1, ?_⟩)
            rw [ex_r154_10 (h := h137) x139.1]
            refine am_goX 3 (show (Value.int (((Int8.ofInt 44).toInt32 + ((Int32.ofInt 3) * (nI p127))) + (Int32.ofInt 2))).category = 1 ∧ (Value.ref 160).category = 1 ∧ ∃ jj nn : Nat, am_sh h137 160 = some (13, nn) ∧ jj < nn ∧ (((Int8.ofInt 44).toInt32 + ((Int32.ofInt 3) * (nI p127))) + (Int32.ofInt 2)) = nI jj ∧ pz_S 4 none am_r194 33 Q 198 [(2, .int (Int32.ofInt 0)), (1, .int (((Int8.ofInt 44).toInt32 + ((Int32.ofInt 3) * (nI p127))) + (Int32.ofInt 2))), (0, .ref 154)] [.int (h137.1 160 jj), .int (((Int8.ofInt 44).toInt32 + ((Int32.ofInt 3) * (nI p127))) + (Int32.ofInt 2)), .ref 160] h137 from ⟨rfl, rfl, (46 + 3 * p127), 80, ex_160 x139.1, (by omega), (cm_i p127), ?_⟩)
            refine am_goX 2 (show am_sh h137 154 = some (11, 0) ∧ pz_S 4 none am_r194 33 Q 202 [(2, .int (Int32.ofInt 0)), (1, .int (((Int8.ofInt 44).toInt32 + ((Int32.ofInt 3) * (nI p127))) + (Int32.ofInt 2))), (0, .ref 154)] [.int (h137.1 154 8), .int (h137.1 160 (46 + 3 * p127)), .int (((Int8.ofInt 44).toInt32 + ((Int32.ofInt 3) * (nI p127))) + (Int32.ofInt 2)), .ref 160] h137 from ⟨ex_154 x139.1, ?_⟩)
            rw [x139.2.1.1]
            refine am_goX 1 (show ((F136) ≤ 0 → pz_S 4 none am_r194 33 Q 209 [(2, .int (Int32.ofInt 0)), (1, .int (((Int8.ofInt 44).toInt32 + ((Int32.ofInt 3) * (nI p127))) + (Int32.ofInt 2))), (0, .ref 154)] [.int (h137.1 160 (46 + 3 * p127)), .int (((Int8.ofInt 44).toInt32 + ((Int32.ofInt 3) * (nI p127))) + (Int32.ofInt 2)), .ref 160] h137) ∧ (¬ ((F136) ≤ 0) → pz_S 4 none am_r194 33 Q 205 [(2, .int (Int32.ofInt 0)), (1, .int (((Int8.ofInt 44).toInt32 + ((Int32.ofInt 3) * (nI p127))) + (Int32.ofInt 2))), (0, .ref 154)] [.int (h137.1 160 (46 + 3 * p127)), .int (((Int8.ofInt 44).toInt32 + ((Int32.ofInt 3) * (nI p127))) + (Int32.ofInt 2)), .ref 160] h137) from ⟨fun hz => absurd hz (rx_le x139), fun _ => ?_⟩)
            refine am_goX 4 (show ∃ jj nn : Nat, am_so h137 160 = some (13, nn) ∧ jj < nn ∧ (((Int8.ofInt 44).toInt32 + ((Int32.ofInt 3) * (nI p127))) + (Int32.ofInt 2)) = nI jj ∧ pz_S 4 none am_r194 33 Q 214 [(2, .int (Int32.ofInt 0)), (1, .int (((Int8.ofInt 44).toInt32 + ((Int32.ofInt 3) * (nI p127))) + (Int32.ofInt 2))), (0, .ref 154)] [] (am_wI h137 160 jj (((h137.1 160 (46 + 3 * p127)) ||| (Int32.ofInt 0)))) from ⟨(46 + 3 * p127), 80, ex_w160 x139.1, (by omega), (cm_i p127), ?_⟩)
            have x146 : rx h0 (F136) (s.2.2.2.2.2.1 + (rz s.2)) (am_wI h137 160 (46 + 3 * p127) (((h137.1 160 (46 + 3 * p127)) ||| (Int32.ofInt 0)))) := rx_160 (by omega) x139
            exact am_goX 2 (show (none : Option FieldType) = none ∧ (am_wI h137 160 (46 + 3 * p127) (((h137.1 160 (46 + 3 * p127)) ||| (Int32.ofInt 0)))).2.2.2.2 = 175 ∧ _ from ⟨rfl, ex_175 x146.1, hF (F136) _ (s.2.2.2.2.2.1 + (rz s.2)) (by simp only [sq_line, sp_b, sp_f, cond_true, cond_false, e49, e84, e121, e129, e130, e9]) x146⟩)
          ·
            have hel : p140 < 0 + s.2.2.1.1 := (sp_fd_lt e143).2.1
            have e10 : sp_bit (s.2.2.1.2.2.2.2 p140) (nI p127) = false := ((hcell) p140 (show p140 < s.2.2.1.1 by omega)).symm.trans e144
            refine am_goX 3 (show 2 < 4 ∧ am_sh h141 154 = some (11, 0) ∧ pz_S 4 none am_r194 33 Q 195 [(2, .int (nI p140)), (1, .int (((Int8.ofInt 44).toInt32 + ((Int32.ofInt 3) * (nI p127))) + (Int32.ofInt 2))), (0, .ref 154)] [am_rf (h141.2.2.1 154 10)] h141 from ⟨by decide, ex_154 (r_P l145), ?_⟩)
            rw [ex_r154_10 (h := h141) (r_P l145)]
            refine am_goX 3 (show (Value.int (((Int8.ofInt 44).toInt32 + ((Int32.ofInt 3) * (nI p127))) + (Int32.ofInt 2))).category = 1 ∧ (Value.ref 160).category = 1 ∧ ∃ jj nn : Nat, am_sh h141 160 = some (13, nn) ∧ jj < nn ∧ (((Int8.ofInt 44).toInt32 + ((Int32.ofInt 3) * (nI p127))) + (Int32.ofInt 2)) = nI jj ∧ pz_S 4 none am_r194 33 Q 198 [(2, .int (nI p140)), (1, .int (((Int8.ofInt 44).toInt32 + ((Int32.ofInt 3) * (nI p127))) + (Int32.ofInt 2))), (0, .ref 154)] [.int (h141.1 160 jj), .int (((Int8.ofInt 44).toInt32 + ((Int32.ofInt 3) * (nI p127))) + (Int32.ofInt 2)), .ref 160] h141 from ⟨rfl, rfl, (46 + 3 * p127), 80, ex_160 (r_P l145), (by omega), (cm_i p127), ?_⟩)
            refine am_goX 2 (show am_sh h141 154 = some (11, 0) ∧ pz_S 4 none am_r194 33 Q 202 [(2, .int (nI p140)), (1, .int (((Int8.ofInt 44).toInt32 + ((Int32.ofInt 3) * (nI p127))) + (Int32.ofInt 2))), (0, .ref 154)] [.int (h141.1 154 8), .int (h141.1 160 (46 + 3 * p127)), .int (((Int8.ofInt 44).toInt32 + ((Int32.ofInt 3) * (nI p127))) + (Int32.ofInt 2)), .ref 160] h141 from ⟨ex_154 (r_P l145), ?_⟩)
            rw [r_f l145]
            refine am_goX 1 (show (0 ≤ 0 → pz_S 4 none am_r194 33 Q 209 [(2, .int (nI p140)), (1, .int (((Int8.ofInt 44).toInt32 + ((Int32.ofInt 3) * (nI p127))) + (Int32.ofInt 2))), (0, .ref 154)] [.int (h141.1 160 (46 + 3 * p127)), .int (((Int8.ofInt 44).toInt32 + ((Int32.ofInt 3) * (nI p127))) + (Int32.ofInt 2)), .ref 160] h141) ∧ (¬ (0 ≤ 0) → pz_S 4 none am_r194 33 Q 205 [(2, .int (nI p140)), (1, .int (((Int8.ofInt 44).toInt32 + ((Int32.ofInt 3) * (nI p127))) + (Int32.ofInt 2))), (0, .ref 154)] [.int (h141.1 160 (46 + 3 * p127)), .int (((Int8.ofInt 44).toInt32 + ((Int32.ofInt 3) * (nI p127))) + (Int32.ofInt 2)), .ref 160] h141) from ⟨fun _ => ?_, fun hz => absurd (by decide) hz⟩)
            refine am_goX 5 (show ∃ jj nn : Nat, am_so h141 160 = some (13, nn) ∧ jj < nn ∧ (((Int8.ofInt 44).toInt32 + ((Int32.ofInt 3) * (nI p127))) + (Int32.ofInt 2)) = nI jj ∧ pz_S 4 none am_r194 33 Q 214 [(2, .int (nI p140)), (1, .int (((Int8.ofInt 44).toInt32 + ((Int32.ofInt 3) * (nI p127))) + (Int32.ofInt 2))), (0, .ref 154)] [] (am_wI h141 160 jj (((h141.1 160 (46 + 3 * p127)) ||| ((Int32.ofInt 1) <<< ((nI p140) &&& 31))))) from ⟨(46 + 3 * p127), 80, ex_w160 (r_P l145), (by omega), (cm_i p127), ?_⟩)
            have l147 : rr h0 (rz s.2) τ N (s.1 + 1 + 1 + 1, sp_cG s.2 p140 p127) (am_wI h141 160 (46 + 3 * p127) (((h141.1 160 (46 + 3 * p127)) ||| ((Int32.ofInt 1) <<< ((nI p140) &&& 31))))) := rr_G l145 (by omega) (by omega)
            exact am_goX 2 (show (none : Option FieldType) = none ∧ (am_wI h141 160 (46 + 3 * p127) (((h141.1 160 (46 + 3 * p127)) ||| ((Int32.ofInt 1) <<< ((nI p140) &&& 31))))).2.2.2.2 = 175 ∧ _ from ⟨rfl, ex_175 (r_P l147), hS _ _ (by simp only [sq_line, sq_person, sq_event, sq_comes, sp_b, sp_f, cond_true, cond_false, e49, e84, e121, e129, e130, e142, e143, e10]) l147⟩)
      | false =>
        refine am_goX 1 (show ((pz_b (false)) = 0 → pz_S 4 none am_r194 33 Q 217 [(0, .ref 154)] [] h) ∧ (¬ ((pz_b (false)) = 0) → pz_S 4 none am_r194 33 Q 152 [(0, .ref 154)] [] h) from ⟨fun _ => ?_, fun hz => absurd (by decide) hz⟩)
        refine am_goX 2 (show am_rc h 154 11 ∧ 0 ≤ 8 ∧ h.2.2.2.2 + am_al 208 ≤ 175 ∧ am_call am_cod 33 208 [.ref 154] h (fun vv h' => pz_S 4 none am_r194 33 Q 221 [(0, .ref 154)] (vv.toList ++ []) h') from ⟨Or.inl ⟨by decide, ex_154 (r_P l)⟩, by decide, ex_lim (r_P l) rfl, am_call.up (r_208 l (fun F148 h149 c150 e151 x152 => ?_) (fun h153 t154 e155 l156 => ?_)) (by omega)⟩)
        ·
          exact am_goX 1 (show (none : Option FieldType) = none ∧ h149.2.2.2.2 = 175 ∧ _ from ⟨rfl, ex_175 x152.1, hF (F148) _ (c150) (by simp only [sq_line, sq_person, sq_event, sq_comes, sp_b, sp_f, cond_true, cond_false, e49, e84, e121, e151]) x152⟩)
        ·
          exact am_goX 1 (show (none : Option FieldType) = none ∧ h153.2.2.2.2 = 175 ∧ _ from ⟨rfl, ex_175 (r_P l156), hS _ _ (by simp only [sq_line, sq_person, sq_event, sq_comes, sp_b, sp_f, cond_true, cond_false, e49, e84, e121, e155]) l156⟩)
end
section
/-! cutAll AND canton OF THE REFERENCE, EXACTLY -/
theorem nm_2 {T : Nat → Int32} {sz p : Nat} (e : kz T sz p = 2) : ∃ D : Nat, D ≤ 9999 ∧ tk_vl T sz p = Int64.ofNat D := by
  have hps : p < sz := kz_lt (by rw [e]; decide)
  cases hl : pz_let (T p) with
  | true =>
    rw [(cs_kw hps hl).1] at e
    cases hb : Nat.blt 8 (tk_go pz_let T sz p - p) with
    | true => rw [hb] at e; exact absurd e (by decide)
    | false => rw [hb] at e; exact absurd e (by decide)
  | false =>
    cases hd : pz_dig (T p) with
    | true =>
      obtain ⟨k1, k2, k3⟩ := cs_kn hps hl hd
      have hge := tk_ge pz_dig T (Nat.le_of_lt hps)
      rw [k1] at e
      cases hb : Nat.blt 4 (tk_go pz_dig T sz p - p) with
      | true => rw [hb] at e; exact absurd e (by decide)
      | false =>
        have hn : tk_go pz_dig T sz p - p ≤ 4 := by
          rcases Nat.lt_or_ge 4 (tk_go pz_dig T sz p - p) with w | w
          · rw [tk_blt.mpr w] at hb
            cases hb
          · exact w
        have hall := tk_all (T := T) (f := pz_dig) (sz := sz) sz p (by omega) (by omega)
        obtain ⟨w1, w2, w3⟩ := cn_eq (T := T) (p := p) (n := tk_go pz_dig T sz p - p) (fun j hj => hall (p + j) (by omega) (by omega)) hn
        have h5 := cn_lt w3
        have h6 : 10 ^ (tk_go pz_dig T sz p - p) ≤ 10 ^ 4 := Nat.pow_le_pow_right (by omega) hn
        rw [k3]
        exact ⟨_, by omega, w1⟩
    | false =>
      rw [(cs_ks hps hl hd).1] at e
      cases hb : tk_sn (T p) with
      | true => rw [hb] at e; exact absurd e (by decide)
      | false => rw [hb] at e; exact absurd e (by decide)
def TK (T : Nat → Int32) (sz n : Nat) (h : am_H) : Prop := ∀ j, j < n → h.1 157 j = nI (tk_pl T sz j) ∧ h.1 156 j = tk_kd T sz (tk_pl T sz j) ∧ h.2.1 158 j = tk_vl T sz (tk_pl T sz j) ∧ tk_pl T sz j < sz
theorem TK_w {T : Nat → Int32} {sz n o k : Nat} {h : am_H} {v : Int32} (q : TK T sz n h) (hk : (o = 156 ∨ o = 157) → n ≤ k) : TK T sz n (am_wI h o k v) := by
  intro j hj
  obtain ⟨q1, q2, q3, q4⟩ := q j hj
  exact ⟨by rw [em_wn _ _ (by omega)]; exact q1, by rw [em_wn _ _ (by omega)]; exact q2, q3, q4⟩
/-- the tokens of the reference are those of the tape -/
theorem rt_of {T : Nat → Int32} {sz n : Nat} {h : am_H} (hP : ex_P h) (hz : sz ≤ 1000) (hn : n ≤ sz) (q : TK T sz n h) (ep : tk_pl T sz n = sz) (e1 : h.1 156 n = 0) (e2 : h.1 157 n = nI sz) (hw : ∀ w, w < 21 → h.2.1 159 w = rw_w w) : rt (tt T sz) n h := by
  refine ⟨hP, by omega, fun i hi => ?_, fun i hi => (q i hi).2.2.1, ?_, hw, fun i hi => nm_2 hi⟩
  · by_cases ei : i = n
    · have hk : kz T sz (tk_pl T sz n) = 0 := (cs_ke (by omega)).1
      rw [ei]
      refine ⟨e1.trans hk.symm, ?_, ?_⟩
      · rw [e2]
        show nI sz = nI (tk_pl T sz n)
        rw [ep]
      · show tk_pl T sz n ≤ 1000
        omega
    · obtain ⟨q1, q2, q3, q4⟩ := q i (by omega)
      refine ⟨?_, q1, ?_⟩
      · rw [q2]
        show _ = kz T sz (tk_pl T sz i)
        unfold kz
        rw [tk_blt.mpr q4]
        rfl
      · show tk_pl T sz i ≤ 1000
        omega
  · exact (cs_ke (by omega)).1
variable {N a c p e z : Nat} {h h0 : am_H}
theorem at155 (q : Nat) : ag_atM pz_Mt 155 q = false ∧ ag_atM pz_Mt 159 q = false ∧ ag_atM pz_Mz 159 q = false ∧ ag_atM pz_Mc 159 q = false := by
  unfold ag_atM pz_Mz pz_Mt pz_Mc
  simp [List.any]
theorem rx_cutall {Q : am_Q} {N a c sz : Nat} (hP0 : pz_P N a c h) (hsz : h.1 154 2 = nI sz) (hz : sz ≤ 1000) (hQ : ∀ N' h', pz_P N' 0 c h' → ag_fr pz_Mt h h' → h'.1 154 8 = 0 → h'.1 154 2 = 0 → N' ≤ sz → TK (h.1 155) sz N' h' → tk_pl (h.1 155) sz N' = sz → h'.1 156 N' = 0 → h'.1 157 N' = nI sz → Q none h') : am_call am_cod 3 189 [.ref 154] h Q := by
  have hP : pc_P h := ⟨hP0.1.1, hP0.1.2.1, hP0.2.1⟩
  have hszt : (nI sz).toInt = sz := nI_toInt (by omega)
  refine pz_call (n := 189) (nL := 7) (rt := none) (rows := am_r189) (d := 2) (by decide +kernel) (by decide +kernel) rfl (by funext pc; rfl) (pc_175 hP) (by exact Nat.le_of_ble_eq_true rfl) ?_
  refine am_goX 4 (show am_sh h 154 = some (11, 0) ∧ am_sh h 154 = some (11, 0) ∧ narrow (am_fty 11 3) (.int ((h.1 154 2))) = .int ((h.1 154 2)) ∧ fits (am_fty 11 3) (.int ((h.1 154 2))) = true ∧ pz_S 7 none am_r189 2 Q 8 [(0, .ref 154)] [] (am_wI h 154 3 ((h.1 154 2))) from ⟨pc_154 hP, pc_154 hP, rfl, rfl, ?_⟩)
  rw [hsz]
  have l0 : pc_P (am_wI h 154 3 (nI sz)) ∧ ag_fr pz_Mt h (am_wI h 154 3 (nI sz)) ∧ (am_wI h 154 3 (nI sz)).1 154 3 = nI sz := ⟨⟨hP.1, pz_wG hP.2.1 (pz_sgv pz_sg3 (by omega) (by omega)), pc_wX hP.2.2 (by decide)⟩, pz_fr rfl, em_we h 154 3 _⟩
  generalize am_wI h 154 3 (nI sz) = h1 at l0 ⊢
  refine am_goX 3 (show am_sh h1 154 = some (11, 0) ∧ narrow (am_fty 11 2) (.int ((Int32.ofInt 0))) = .int ((Int32.ofInt 0)) ∧ fits (am_fty 11 2) (.int ((Int32.ofInt 0))) = true ∧ pz_S 7 none am_r189 2 Q 13 [(0, .ref 154)] [] (am_wI h1 154 2 ((Int32.ofInt 0))) from ⟨pc_154 l0.1, rfl, rfl, ?_⟩)
  have l1 : ct h sz (am_wI h1 154 2 (Int32.ofInt 0)) := ⟨⟨l0.1.1, pz_wG l0.1.2.1 (pz_sgv pz_sg2 (by decide) (by decide)), pc_wX l0.1.2.2 (by decide)⟩, pz_trt l0.2.1 (pz_fr rfl), by rw [em_wn h1 _ (by omega)]; exact l0.2.2, em_we h1 154 2 _⟩
  generalize am_wI h1 154 2 (Int32.ofInt 0) = h2 at l1 ⊢
  refine am_goX 4 (show 1 < 7 ∧ 2 < 7 ∧ pz_S 7 none am_r189 2 Q 17 [(2, .int (Int32.ofInt 0)), (1, .int (Int32.ofInt 0)), (0, .ref 154)] [] h2 from ⟨by decide, by decide, ?_⟩)
  refine tk_cut_l (T := h.1 155) hz (fun n h3 hn t3 ep => ?_) sz 0 0 h2 (by omega) (Nat.le_refl _) (Nat.zero_le _) ⟨l1, fun q => (l1.2.1.2 155 q (at155 q).1).1, fun j hj => absurd hj (Nat.not_lt_zero j)⟩ rfl
  have l3 := t3.1
  have k3 : TK (h.1 155) sz n h3 := t3.2.2
  have hnt : (nI n).toInt = n := nI_toInt (by omega)
  have hP3 := l3.1
  refine am_goX 2 (show am_sh h3 154 = some (11, 0) ∧ pz_S 7 none am_r189 2 Q 283 [(1, .int (nI n)), (0, .ref 154)] [am_rf (h3.2.2.1 154 4)] h3 from ⟨pc_154 hP3, ?_⟩)
  rw [pc_r4 hP3]
  refine am_goX 3 (show ∃ jj nn : Nat, am_so h3 156 = some (13, nn) ∧ jj < nn ∧ (nI n) = nI jj ∧ pz_S 7 none am_r189 2 Q 286 [(1, .int (nI n)), (0, .ref 154)] [] (am_wI h3 156 jj ((Int32.ofInt 0))) from ⟨n, 1002, pc_w156 hP3, by omega, rfl, ?_⟩)
  have l4 := ct_w (o := 156) (k := n) (v := Int32.ofInt 0) l3 (pz_Mtk (Or.inl rfl) (by omega)) (by omega) (by decide) (pz_sga pz_sg156 (by decide) (by decide))
  have e4 : (am_wI h3 156 n (Int32.ofInt 0)).1 156 n = 0 := em_we h3 156 n _
  have k4 := TK_w (o := 156) (k := n) (v := Int32.ofInt 0) k3 (fun _ => Nat.le_refl n)
  generalize am_wI h3 156 n (Int32.ofInt 0) = h4 at l4 e4 k4 ⊢
  refine am_goX 2 (show am_sh h4 154 = some (11, 0) ∧ pz_S 7 none am_r189 2 Q 290 [(1, .int (nI n)), (0, .ref 154)] [am_rf (h4.2.2.1 154 5)] h4 from ⟨pc_154 l4.1, ?_⟩)
  rw [pc_r5 l4.1]
  refine am_goX 3 (show am_sh h4 154 = some (11, 0) ∧ pz_S 7 none am_r189 2 Q 295 [(1, .int (nI n)), (0, .ref 154)] [.int (h4.1 154 3), .int (nI n), .ref 157] h4 from ⟨pc_154 l4.1, ?_⟩)
  rw [l4.2.2.1]
  refine am_goX 1 (show ∃ jj nn : Nat, am_so h4 157 = some (13, nn) ∧ jj < nn ∧ (nI n) = nI jj ∧ pz_S 7 none am_r189 2 Q 296 [(1, .int (nI n)), (0, .ref 154)] [] (am_wI h4 157 jj ((nI sz))) from ⟨n, 1002, pc_w157 l4.1, by omega, rfl, ?_⟩)
  have l5 := ct_w (o := 157) (k := n) (v := nI sz) l4 (pz_Mtk (Or.inr (Or.inl rfl)) (by omega)) (by omega) (by decide) (pz_sga pz_sg157 (by omega) (by omega))
  have e5 : (am_wI h4 157 n (nI sz)).1 156 n = 0 := by rw [em_wn h4 _ (by omega)]; exact e4
  have k5 := TK_w (o := 157) (k := n) (v := nI sz) k4 (fun _ => Nat.le_refl n)
  have p5 : (am_wI h4 157 n (nI sz)).1 157 n = nI sz := em_we h4 157 n _
  generalize am_wI h4 157 n (nI sz) = h5 at l5 e5 k5 p5 ⊢
  refine am_goX 3 (show am_sh h5 154 = some (11, 0) ∧ narrow (am_fty 11 7) (.int ((Int32.ofInt 0))) = .int ((Int32.ofInt 0)) ∧ fits (am_fty 11 7) (.int ((Int32.ofInt 0))) = true ∧ pz_S 7 none am_r189 2 Q 301 [(1, .int (nI n)), (0, .ref 154)] [] (am_wI h5 154 7 ((Int32.ofInt 0))) from ⟨pc_154 l5.1, rfl, rfl, ?_⟩)
  have l6 := ct_w (o := 154) (k := 7) (v := Int32.ofInt 0) l5 rfl (by decide) (by decide) (pz_sgv pz_sg7 (by decide) (by decide))
  have e6 : (am_wI h5 154 7 (Int32.ofInt 0)).1 156 n = 0 := by rw [em_wn h5 _ (by omega)]; exact e5
  have a6 : (am_wI h5 154 7 (Int32.ofInt 0)).1 154 7 = nI 0 := em_we h5 154 7 _
  have k6 := TK_w (o := 154) (k := 7) (v := Int32.ofInt 0) k5 (by omega)
  have p6 : (am_wI h5 154 7 (Int32.ofInt 0)).1 157 n = nI sz := by rw [em_wn h5 _ (by omega)]; exact p5
  generalize am_wI h5 154 7 (Int32.ofInt 0) = h6 at l6 e6 a6 k6 p6 ⊢
  refine am_goX 3 (show am_sh h6 154 = some (11, 0) ∧ narrow (am_fty 11 8) (.int ((Int32.ofInt 0))) = .int ((Int32.ofInt 0)) ∧ fits (am_fty 11 8) (.int ((Int32.ofInt 0))) = true ∧ pz_S 7 none am_r189 2 Q 306 [(1, .int (nI n)), (0, .ref 154)] [] (am_wI h6 154 8 ((Int32.ofInt 0))) from ⟨pc_154 l6.1, rfl, rfl, ?_⟩)
  have l7 := ct_w (o := 154) (k := 8) (v := Int32.ofInt 0) l6 rfl (by decide) (by decide) (pz_sgv pz_sg8 (by decide) (by decide))
  have e7 : (am_wI h6 154 8 (Int32.ofInt 0)).1 156 n = 0 := by rw [em_wn h6 _ (by omega)]; exact e6
  have a7 : (am_wI h6 154 8 (Int32.ofInt 0)).1 154 7 = nI 0 := by rw [em_wn h6 _ (by omega)]; exact a6
  have b7 : (am_wI h6 154 8 (Int32.ofInt 0)).1 154 8 = 0 := em_we h6 154 8 _
  have k7 := TK_w (o := 154) (k := 8) (v := Int32.ofInt 0) k6 (by omega)
  have p7 : (am_wI h6 154 8 (Int32.ofInt 0)).1 157 n = nI sz := by rw [em_wn h6 _ (by omega)]; exact p6
  generalize am_wI h6 154 8 (Int32.ofInt 0) = h7 at l7 e7 a7 b7 k7 p7 ⊢
  have hP7 : pz_P n 0 c h7 := ⟨⟨l7.1.1, l7.1.2.1, Int.natCast_nonneg n, e7⟩, l7.1.2.2, by omega, a7, Nat.zero_le _, ((l7.2.1.2 154 13 (by decide)).1).trans hP0.2.2.2.2.2.1, hP0.2.2.2.2.2.2⟩
  exact am_goX 1 (show (none : Option FieldType) = none ∧ h7.2.2.2.2 = 175 ∧ _ from ⟨rfl, pc_175 l7.1, hQ n h7 hP7 l7.2.1 b7 l7.2.2.2 hn k7 ep e7 p7⟩)
theorem rx_std {Q : am_Q} (hP : pz_P N a c h) (hQ : ∀ h', pz_P N a c h' → ag_fr [(160, 40, 79)] h h' → h'.1 160 40 = 0 → h'.1 160 41 = 0 → h'.1 160 43 = -1 → (∀ k, 40 ≤ k → k < 80 → ¬ k = 43 → h'.1 160 k = 0) → Q none h') : am_call am_cod 1 180 [.ref 154, .int (Int8.ofInt 40).toInt32] h Q := by
  refine pz_call (n := 180) (nL := 3) (rt := none) (rows := am_r180) (d := 0) (by decide +kernel) (by decide +kernel) rfl (by funext pc; rfl) (pz_175 hP) (by exact Nat.le_of_ble_eq_true rfl) ?_
  refine am_goX 2 (show 2 < 3 ∧ pz_S 3 none am_r180 0 Q 2 [(2, .int (Int32.ofInt 0)), (0, .ref 154), (1, .int (Int8.ofInt 40).toInt32)] [] h from ⟨by decide, ?_⟩)
  refine pz_std_l (fun h1 hP1 hf1 hj1 => ?_) 40 0 h rfl hP (ag_fr.refl h) (fun j hj => absurd hj (by omega))
  refine am_goX 2 (show am_sh h1 154 = some (11, 0) ∧ pz_S 3 none am_r180 0 Q 27 [(0, .ref 154), (1, .int (Int8.ofInt 40).toInt32)] [am_rf (h1.2.2.1 154 10)] h1 from ⟨pz_154 hP1, ?_⟩)
  rw [pz_r10 hP1]
  refine am_goX 5 (show ∃ jj nn : Nat, am_so h1 160 = some (13, nn) ∧ jj < nn ∧ ((Int8.ofInt 40).toInt32 + (Int32.ofInt 3)) = nI jj ∧ pz_S 3 none am_r180 0 Q 32 [(0, .ref 154), (1, .int (Int8.ofInt 40).toInt32)] [] (am_wI h1 160 jj ((Int32.ofInt (-1)))) from ⟨43, 80, pz_w160 hP1, by decide, by decide, ?_⟩)
  have hP2 := pz_w (o := 160) (k := 43) (v := Int32.ofInt (-1)) hP1 (by omega) (by unfold ag_kp; omega) (pz_sgv pz_sg43m (by decide) (by decide))
  exact am_goX 1 (show (none : Option FieldType) = none ∧ (am_wI h1 160 43 (Int32.ofInt (-1))).2.2.2.2 = 175 ∧ _ from ⟨rfl, pz_175 hP2, hQ _ hP2 (hf1.trans (by decide +kernel) (pz_fr (M := [(160, 40, 79)]) (by decide))) (by rw [em_wn h1 _ (by omega)]; exact hj1 0 (by decide)) (by rw [em_wn h1 _ (by omega)]; exact hj1 1 (by decide)) (em_we h1 160 43 _) (fun k g1 g2 g3 => by
    rw [em_wn h1 _ (by omega)]
    have := hj1 (k - 40) (by omega)
    rw [show 40 + (k - 40) = k by omega] at this
    exact this)⟩)
theorem rx_c62 {Q : am_Q} (f : fl N h0 h) (hQ : Q (some (.int (h.1 154 8))) h) : pz_S 2 (some .int) am_r188 35 Q 62 [(0, .ref 154)] [] h := by
  obtain ⟨⟨a9, c9, hP⟩, -, hf⟩ := f
  refine am_goX 3 (show am_sh h 154 = some (11, 0) ∧ ((h.1 154 8) ≤ 0 → pz_S 2 (some .int) am_r188 35 Q 74 [(0, .ref 154)] [] h) ∧ (¬ ((h.1 154 8) ≤ 0) → pz_S 2 (some .int) am_r188 35 Q 69 [(0, .ref 154)] [] h) from ⟨pz_154 hP, fun hz => absurd hz (fun w => hf (pz_eq0 hP w)), fun _ => ?_⟩)
  exact am_goX 3 (show am_sh h 154 = some (11, 0) ∧ (∃ ty, (some .int) = some ty ∧ narrow ty (.int ((h.1 154 8))) = .int ((h.1 154 8))) ∧ h.2.2.2.2 = 175 ∧ _ from ⟨pz_154 hP, ⟨.int, rfl, rfl⟩, pz_175 hP, hQ⟩)
theorem rx_c30 {Q : am_Q} (f : fl N h0 h) (hQ : Q (some (.int (h.1 154 8))) h) : pz_S 2 (some .int) am_r188 35 Q 30 [(0, .ref 154)] [] h := by
  obtain ⟨⟨a9, c9, hP⟩, -, hf⟩ := id f
  refine am_goX 3 (show am_sh h 154 = some (11, 0) ∧ (¬ (h.1 154 8) = 0 → pz_S 2 (some .int) am_r188 35 Q 62 [(0, .ref 154)] [] h) ∧ (¬ ¬ (h.1 154 8) = 0 → pz_S 2 (some .int) am_r188 35 Q 37 [(0, .ref 154)] [] h) from ⟨pz_154 hP, fun _ => ?_, fun hz => absurd hf hz⟩)
  exact rx_c62 f hQ
theorem rx_cnl {Q : am_Q} {τ : sp_T} {h9 : am_H} {r : sp_R} (hb : h9.2.2.2.1 ≤ 4096) (hbad : ∀ h1 F, r = .inl F → fl N h0 h1 → Q (some (.int F)) h1) (hok : ∀ h1 a c p e s, r = .inr s → ln N a c h0 p e (p + e) h1 → rr h9 (rz s.2) τ N s h1 → p ≤ 6 → e ≤ 5 → pz_S 2 (some .int) am_r188 35 Q 74 [(0, .ref 154)] [] h1) : ∀ (m a c p e : Nat) (s : sp_S) (h : am_H), N ≤ a + m → r = sp_all τ m s → rr h9 (rz s.2) τ N s h → ln N a c h0 p e (p + e) h → p ≤ 6 → e ≤ 5 → pz_S 2 (some .int) am_r188 35 Q 30 [(0, .ref 154)] [] h := by
  intro m
  induction m with
  | zero =>
    intro a c p e s h hm er lx l hp he
    have ea : s.1 = a := by
      have w := (r_a lx).symm.trans l.1.2.2.2.1
      have w2 := congrArg Int32.toInt w
      have w3 := r_N lx
      have w4 := l.1.2.2.1
      have w5 := l.1.2.2.2.2.1
      rw [nI_toInt (by omega), nI_toInt (by omega)] at w2
      omega
    have ek : h.1 156 a = (τ s.1).1 := by
      rw [← ea]
      exact r_k lx
    have hP := l.1
    have hf := l.2.2.1
    refine am_goX 3 (show am_sh h 154 = some (11, 0) ∧ (¬ (h.1 154 8) = 0 → pz_S 2 (some .int) am_r188 35 Q 62 [(0, .ref 154)] [] h) ∧ (¬ ¬ (h.1 154 8) = 0 → pz_S 2 (some .int) am_r188 35 Q 37 [(0, .ref 154)] [] h) from ⟨pz_154 hP, fun hz => absurd hz (fun w => w hf), fun _ => ?_⟩)
    refine am_goX 2 (show am_sh h 154 = some (11, 0) ∧ pz_S 2 (some .int) am_r188 35 Q 41 [(0, .ref 154)] [am_rf (h.2.2.1 154 4)] h from ⟨pz_154 hP, ?_⟩)
    rw [pz_r4 hP]
    refine am_goX 3 (show am_sh h 154 = some (11, 0) ∧ ∃ jj nn : Nat, am_sh h 156 = some (13, nn) ∧ jj < nn ∧ (h.1 154 7) = nI jj ∧ pz_S 2 (some .int) am_r188 35 Q 46 [(0, .ref 154)] [.int (h.1 156 jj)] h from ⟨pz_154 hP, a, 1002, pz_156 hP, pz_al hP, hP.2.2.2.1, ?_⟩)
    refine am_goX 1 (show ((h.1 156 a) = 0 → pz_S 2 (some .int) am_r188 35 Q 62 [(0, .ref 154)] [] h) ∧ (¬ ((h.1 156 a) = 0) → pz_S 2 (some .int) am_r188 35 Q 49 [(0, .ref 154)] [] h) from ⟨fun hc => ?_, fun hc => ?_⟩)
    · refine am_goX 3 (show am_sh h 154 = some (11, 0) ∧ ((h.1 154 8) ≤ 0 → pz_S 2 (some .int) am_r188 35 Q 74 [(0, .ref 154)] [] h) ∧ (¬ ((h.1 154 8) ≤ 0) → pz_S 2 (some .int) am_r188 35 Q 69 [(0, .ref 154)] [] h) from ⟨pz_154 hP, fun _ => ?_, fun hz => absurd (by rw [hf]; decide) hz⟩)
      exact hok h a c p e s (by rw [er]; unfold sp_all; first | rfl | (rw [show sp_k τ s.1 0 = true from decide_eq_true (ek.symm.trans hc)]; rfl)) l lx hp he
    · exact absurd (pz_lt hP hc) (by omega)
  | succ m ih =>
    intro a c p e s h hm er lx l hp he
    have ea : s.1 = a := by
      have w := (r_a lx).symm.trans l.1.2.2.2.1
      have w2 := congrArg Int32.toInt w
      have w3 := r_N lx
      have w4 := l.1.2.2.1
      have w5 := l.1.2.2.2.2.1
      rw [nI_toInt (by omega), nI_toInt (by omega)] at w2
      omega
    have ek : h.1 156 a = (τ s.1).1 := by
      rw [← ea]
      exact r_k lx
    have hP := l.1
    have hf := l.2.2.1
    refine am_goX 3 (show am_sh h 154 = some (11, 0) ∧ (¬ (h.1 154 8) = 0 → pz_S 2 (some .int) am_r188 35 Q 62 [(0, .ref 154)] [] h) ∧ (¬ ¬ (h.1 154 8) = 0 → pz_S 2 (some .int) am_r188 35 Q 37 [(0, .ref 154)] [] h) from ⟨pz_154 hP, fun hz => absurd hz (fun w => w hf), fun _ => ?_⟩)
    refine am_goX 2 (show am_sh h 154 = some (11, 0) ∧ pz_S 2 (some .int) am_r188 35 Q 41 [(0, .ref 154)] [am_rf (h.2.2.1 154 4)] h from ⟨pz_154 hP, ?_⟩)
    rw [pz_r4 hP]
    refine am_goX 3 (show am_sh h 154 = some (11, 0) ∧ ∃ jj nn : Nat, am_sh h 156 = some (13, nn) ∧ jj < nn ∧ (h.1 154 7) = nI jj ∧ pz_S 2 (some .int) am_r188 35 Q 46 [(0, .ref 154)] [.int (h.1 156 jj)] h from ⟨pz_154 hP, a, 1002, pz_156 hP, pz_al hP, hP.2.2.2.1, ?_⟩)
    refine am_goX 1 (show ((h.1 156 a) = 0 → pz_S 2 (some .int) am_r188 35 Q 62 [(0, .ref 154)] [] h) ∧ (¬ ((h.1 156 a) = 0) → pz_S 2 (some .int) am_r188 35 Q 49 [(0, .ref 154)] [] h) from ⟨fun hc => ?_, fun hc => ?_⟩)
    · refine am_goX 3 (show am_sh h 154 = some (11, 0) ∧ ((h.1 154 8) ≤ 0 → pz_S 2 (some .int) am_r188 35 Q 74 [(0, .ref 154)] [] h) ∧ (¬ ((h.1 154 8) ≤ 0) → pz_S 2 (some .int) am_r188 35 Q 69 [(0, .ref 154)] [] h) from ⟨pz_154 hP, fun _ => ?_, fun hz => absurd (by rw [hf]; decide) hz⟩)
      exact hok h a c p e s (by rw [er]; unfold sp_all; first | rfl | (rw [show sp_k τ s.1 0 = true from decide_eq_true (ek.symm.trans hc)]; rfl)) l lx hp he
    · have e0 : sp_k τ s.1 0 = false := decide_eq_false (fun w => hc (ek.trans w))
      have er2 : r = sp_b (sp_b (sq_line τ s) (sp_tS τ (Int8.ofInt 59).toInt32)) (sp_all τ m) := by
        rw [er, ← sq_ok]
        show (bif sp_k τ s.1 0 then _ else _) = _
        rw [e0]
        rfl
      have hb1 : h.2.2.2.1 ≤ 4096 := by
        rw [lx.2.2.1.1]
        exact hb
      refine am_goX 2 (show am_rc h 154 11 ∧ 0 ≤ 8 ∧ h.2.2.2.2 + am_al 194 ≤ 175 ∧ am_call am_cod 35 194 [.ref 154] h (fun vv h' => pz_S 2 (some .int) am_r188 35 Q 53 [(0, .ref 154)] (vv.toList ++ []) h') from ⟨pz_rc hP, by decide, pz_lim hP rfl, am_call.up (am_det hb1 (pz_rline (Q := fun v h1 => v = none ∧ lo N a h0 h1) l hp he (fun h1 hlo => ⟨rfl, hlo⟩)) (r_194 (Q := fun v h1 => (∃ F c', sq_line τ s = .inl F ∧ rx h9 F c' h1) ∨ (∃ t, sq_line τ s = .inr t ∧ rr h9 (rz t.2) τ N t h1)) lx (fun F h1 c' q1 q2 => Or.inl ⟨F, c', q1, q2⟩) (fun h1 t q1 q2 => Or.inr ⟨t, q1, q2⟩)) ?_) (by decide)⟩)
      rintro v h1 ⟨rfl, hlo⟩ hx
      rcases hx with ⟨F, c', q1, x⟩ | ⟨t, q1, lt⟩
      · -- a fault in the line
        have w : fl N h0 h1 := by
          rcases hlo with w | ⟨a1, c1, p1, e1, ha1, l1, hp1, he1⟩
          · exact w
          · exact absurd (x.2.1.1.symm.trans l1.2.2.1) (rx_ne x)
        obtain ⟨⟨a9, c9, hP1⟩, w2, w3⟩ := id w
        refine am_goX 3 (show am_rc h1 154 11 ∧ 0 ≤ 8 ∧ h1.2.2.2.2 + am_al 218 ≤ 175 ∧ am_call am_cod 35 218 [.ref 154, .int (Int8.ofInt 59).toInt32] h1 (fun vv h' => pz_S 2 (some .int) am_r188 35 Q 59 [(0, .ref 154)] (vv.toList ++ []) h') from ⟨pz_rc hP1, by decide, pz_lim hP1 rfl, am_call.up (d_218 x ?_) (by decide)⟩)
        exact am_goX 1 (rx_c30 w (by
          rw [x.2.1.1]
          exact hbad h1 F (by rw [er2, q1]; rfl) w))
      · have wl : ∃ a1 c1 p1 e1, a ≤ a1 ∧ ln N a1 c1 h0 p1 e1 (p1 + e1) h1 ∧ p1 ≤ 6 ∧ e1 ≤ 5 := by
          rcases hlo with w | w
          · exact absurd (r_f lt) w.2.2
          · exact w
        obtain ⟨a1, c1, p1, e1, ha1, l1, hp1, he1⟩ := wl
        have hP1 := l1.1
        have hb2 : h1.2.2.2.1 ≤ 4096 := by
          rw [lt.2.2.1.1]
          exact hb
        refine am_goX 3 (show am_rc h1 154 11 ∧ 0 ≤ 8 ∧ h1.2.2.2.2 + am_al 218 ≤ 175 ∧ am_call am_cod 35 218 [.ref 154, .int (Int8.ofInt 59).toInt32] h1 (fun vv h' => pz_S 2 (some .int) am_r188 35 Q 59 [(0, .ref 154)] (vv.toList ++ []) h') from ⟨pz_rc hP1, by decide, pz_lim hP1 rfl, am_call.up (am_det hb2 (pz_tsignF (Q := fun v h2 => v = none ∧ ∃ a2, pk N a1 c1 h1 a2 h2) hP1 (fun a2 h2 q2 => ⟨rfl, a2, q2⟩)) (r_218 (Q := fun v h2 => (∃ F, sp_tS τ (Int8.ofInt 59).toInt32 t = .inl F ∧ rx h9 F (t.2.2.2.2.2.1 + rz t.2) h2) ∨ (sp_tS τ (Int8.ofInt 59).toInt32 t = .inr (t.1 + 1, t.2) ∧ rr h9 (rz t.2) τ N (t.1 + 1, t.2) h2)) lt (fun F h2 q3 q4 => Or.inl ⟨F, q3, q4⟩) (fun h2 q3 q4 => Or.inr ⟨q3, q4⟩)) ?_) (by decide)⟩)
        rintro v h2 ⟨rfl, a2, q2⟩ hy
        rcases hy with ⟨F, q3, x⟩ | ⟨q3, l2⟩
        · have w : fl N h0 h2 := by
            rcases ln_F l1 (pk_q q2) with w | w
            · exact w
            · exact absurd (x.2.1.1.symm.trans w.2.2.1) (rx_ne x)
          exact am_goX 1 (rx_c30 w (by
            rw [x.2.1.1]
            exact hbad h2 F (by rw [er2, q1]; show sp_b (sp_tS τ _ t) _ = _; rw [q3]; rfl) w))
        · have w : ln N a2 c1 h0 p1 e1 (p1 + e1) h2 := by
            rcases ln_F l1 (pk_q q2) with w | w
            · exact absurd (r_f l2) w.2.2
            · exact w
          have ha2 : a2 = a1 + 1 := by
            rcases q2.2.2 with y | y
            · exact absurd w.2.2.1 y.1
            · exact y.2.2
          exact am_goX 1 (ih a2 c1 p1 e1 (t.1 + 1, t.2) h2 (by omega) (by rw [er2, q1]; show sp_b (sp_tS τ _ t) _ = _; rw [q3]; rfl) l2 w hp1 he1)
def gx (T : Nat → Int32) (sz n : Nat) (h : am_H) : Prop := TK T sz n h ∧ h.1 156 n = 0 ∧ h.1 157 n = nI sz ∧ (∀ w, w < 21 → h.2.1 159 w = rw_w w) ∧ h.2.2.2.1 ≤ 4096
theorem gx_w {T : Nat → Int32} {sz n k : Nat} {v : Int32} (g : gx T sz n h) : gx T sz n (am_wI h 154 k v) := ⟨TK_w g.1 (by omega), by rw [em_wn _ _ (by omega)]; exact g.2.1, by rw [em_wn _ _ (by omega)]; exact g.2.2.1, g.2.2.2.1, g.2.2.2.2⟩
theorem at6 (q : Nat) : ag_atM [(160, 40, 79)] 156 q = false ∧ ag_atM [(160, 40, 79)] 157 q = false ∧ ag_atM [(160, 40, 79)] 158 q = false ∧ ag_atM [(160, 40, 79)] 159 q = false := by
  unfold ag_atM
  simp [List.any]
theorem gx_f {T : Nat → Int32} {sz n : Nat} {h' : am_H} (g : gx T sz n h) (f : ag_fr [(160, 40, 79)] h h') : gx T sz n h' := by
  refine ⟨fun j hj => ?_, ?_, ?_, fun w hw => ?_, ?_⟩
  · obtain ⟨q1, q2, q3, q4⟩ := g.1 j hj
    exact ⟨((f.2 157 j (at6 j).2.1).1).trans q1, ((f.2 156 j (at6 j).1).1).trans q2, ((f.2 158 j (at6 j).2.2.1).2.1).trans q3, q4⟩
  · exact ((f.2 156 n (at6 n).1).1).trans g.2.1
  · exact ((f.2 157 n (at6 n).2.1).1).trans g.2.2.1
  · exact ((f.2 159 w (at6 w).2.2.2).2.1).trans (g.2.2.2.1 w hw)
  · rw [f.1]
    exact g.2.2.2.2
theorem rx_canton {Q : am_Q} {sz : Nat} (hb : h.2.2.2.1 ≤ 4096) (hsz : h.1 154 2 = nI sz) (hz : sz ≤ 1000) (hw : ∀ w, w < 21 → h.2.1 159 w = rw_w w) (hP0 : pz_P N a c h) (hQ : ∀ N' a' c' h', pz_P N' a' c' h' → rg h h' → Q (some (.int (sp_ans (sp_canton (tt (h.1 155) sz))))) h') : am_call am_cod 36 188 [.ref 154] h Q := by
  refine pz_call (n := 188) (nL := 2) (rt := (some .int)) (rows := am_r188) (d := 35) (by decide +kernel) (by decide +kernel) rfl (by funext pc; rfl) (pz_175 hP0) (by exact Nat.le_of_ble_eq_true rfl) ?_
  refine am_goX 3 (show am_sh h 154 = some (11, 0) ∧ narrow (am_fty 11 0) (.int ((Int32.ofInt 0))) = .int ((Int32.ofInt 0)) ∧ fits (am_fty 11 0) (.int ((Int32.ofInt 0))) = true ∧ pz_S 2 (some .int) am_r188 35 Q 5 [(0, .ref 154)] [] (am_wI h 154 0 ((Int32.ofInt 0))) from ⟨pz_154 hP0, rfl, rfl, ?_⟩)
  have hP1 := pz_w (o := 154) (k := 0) (v := Int32.ofInt 0) hP0 (by omega) (by unfold ag_kp; omega) pz_s0
  have r1 : (am_wI h 154 0 (Int32.ofInt 0)).1 1 1 = h.1 1 1 ∧ (am_wI h 154 0 (Int32.ofInt 0)).2 = h.2 := ⟨em_wn h _ (by omega), rfl⟩
  have sz1 : (am_wI h 154 0 (Int32.ofInt 0)).1 154 2 = nI sz := by rw [em_wn h _ (by omega)]; exact hsz
  have hw1 : ∀ w, w < 21 → (am_wI h 154 0 (Int32.ofInt 0)).2.1 159 w = rw_w w := hw
  have hb1 : (am_wI h 154 0 (Int32.ofInt 0)).2.2.2.1 ≤ 4096 := hb
  have hT : (am_wI h 154 0 (Int32.ofInt 0)).1 155 = h.1 155 := by funext q; exact em_wn h _ (by omega)
  rw [← hT] at hQ
  generalize am_wI h 154 0 (Int32.ofInt 0) = h1 at hP1 r1 sz1 hw1 hb1 hQ ⊢
  refine am_goX 2 (show am_rc h1 154 11 ∧ 0 ≤ 8 ∧ h1.2.2.2.2 + am_al 189 ≤ 175 ∧ am_call am_cod 35 189 [.ref 154] h1 (fun vv h' => pz_S 2 (some .int) am_r188 35 Q 9 [(0, .ref 154)] (vv.toList ++ []) h') from ⟨pz_rc hP1, by decide, pz_lim hP1 rfl, am_call.up (rx_cutall hP1 sz1 hz (fun N2 h2 hP2 f2 b2 t2 nsz k2 ep2 y6 y7 => ?_)) (by decide)⟩)
  have hw2 : ∀ w, w < 21 → h2.2.1 159 w = rw_w w := fun w hw => ((f2.2 159 w (at155 w).2.1).2.1).trans (hw1 w hw)
  have hb2 : h2.2.2.2.1 ≤ 4096 := by rw [f2.1]; exact hb1
  have g2 : gx (h1.1 155) sz N2 h2 := ⟨k2, y6, y7, hw2, hb2⟩
  have r2 : rf h2 h2 := ag_fr.refl h2
  refine am_goX 3 (show am_sh h2 154 = some (11, 0) ∧ narrow (am_fty 11 13) (.int ((Int32.ofInt 0))) = .int ((Int32.ofInt 0)) ∧ fits (am_fty 11 13) (.int ((Int32.ofInt 0))) = true ∧ pz_S 2 (some .int) am_r188 35 Q 14 [(0, .ref 154)] [] (am_wI h2 154 13 ((Int32.ofInt 0))) from ⟨pz_154 hP2, rfl, rfl, ?_⟩)
  have hP3 := pz_c0 hP2
  have b3 : (am_wI h2 154 13 (Int32.ofInt 0)).1 154 8 = 0 := by rw [em_wn h2 _ (by omega)]; exact b2
  have r3 : rf h2 (am_wI h2 154 13 (Int32.ofInt 0)) := rf_t r2 (pz_fr (by decide))
  have g3 := gx_w (k := 13) (v := Int32.ofInt 0) g2
  have z3 : (am_wI h2 154 13 (Int32.ofInt 0)).1 154 13 = 0 := em_we h2 154 13 _
  generalize am_wI h2 154 13 (Int32.ofInt 0) = h3 at hP3 b3 r3 g3 z3 ⊢
  refine am_goX 3 (show am_sh h3 154 = some (11, 0) ∧ narrow (am_fty 11 19) (.int ((Int32.ofInt 0))) = .int ((Int32.ofInt 0)) ∧ fits (am_fty 11 19) (.int ((Int32.ofInt 0))) = true ∧ pz_S 2 (some .int) am_r188 35 Q 19 [(0, .ref 154)] [] (am_wI h3 154 19 ((Int32.ofInt 0))) from ⟨pz_154 hP3, rfl, rfl, ?_⟩)
  have hP4 := pz_w (o := 154) (k := 19) (v := Int32.ofInt 0) hP3 (by omega) (by unfold ag_kp; omega) (pz_sgv pz_sg19 (by decide) (by decide))
  have b4 : (am_wI h3 154 19 (Int32.ofInt 0)).1 154 8 = 0 := by rw [em_wn h3 _ (by omega)]; exact b3
  have c4 : (am_wI h3 154 19 (Int32.ofInt 0)).1 154 19 = 0 := em_we h3 154 19 _
  have r4 : rf h2 (am_wI h3 154 19 (Int32.ofInt 0)) := rf_t r3 (pz_fr (by decide))
  have g4 := gx_w (k := 19) (v := Int32.ofInt 0) g3
  have z4 : (am_wI h3 154 19 (Int32.ofInt 0)).1 154 13 = 0 := by rw [em_wn h3 _ (by omega)]; exact z3
  generalize am_wI h3 154 19 (Int32.ofInt 0) = h4 at hP4 b4 c4 r4 g4 z4 ⊢
  refine am_goX 3 (show am_sh h4 154 = some (11, 0) ∧ narrow (am_fty 11 20) (.int ((Int32.ofInt 0))) = .int ((Int32.ofInt 0)) ∧ fits (am_fty 11 20) (.int ((Int32.ofInt 0))) = true ∧ pz_S 2 (some .int) am_r188 35 Q 24 [(0, .ref 154)] [] (am_wI h4 154 20 ((Int32.ofInt 0))) from ⟨pz_154 hP4, rfl, rfl, ?_⟩)
  have hP5 := pz_w (o := 154) (k := 20) (v := Int32.ofInt 0) hP4 (by omega) (by unfold ag_kp; omega) pz_s20
  have b5 : (am_wI h4 154 20 (Int32.ofInt 0)).1 154 8 = 0 := by rw [em_wn h4 _ (by omega)]; exact b4
  have c5 : (am_wI h4 154 20 (Int32.ofInt 0)).1 154 19 = 0 := by rw [em_wn h4 _ (by omega)]; exact c4
  have d5 : (am_wI h4 154 20 (Int32.ofInt 0)).1 154 20 = 0 := em_we h4 154 20 _
  have r5 : rf h2 (am_wI h4 154 20 (Int32.ofInt 0)) := rf_t r4 (pz_fr (by decide))
  have g5 := gx_w (k := 20) (v := Int32.ofInt 0) g4
  have z5 : (am_wI h4 154 20 (Int32.ofInt 0)).1 154 13 = 0 := by rw [em_wn h4 _ (by omega)]; exact z4
  generalize am_wI h4 154 20 (Int32.ofInt 0) = h5 at hP5 b5 c5 d5 r5 g5 z5 ⊢
  refine am_goX 3 (show am_rc h5 154 11 ∧ 0 ≤ 8 ∧ h5.2.2.2.2 + am_al 180 ≤ 175 ∧ am_call am_cod 35 180 [.ref 154, .int (Int8.ofInt 40).toInt32] h5 (fun vv h' => pz_S 2 (some .int) am_r188 35 Q 30 [(0, .ref 154)] (vv.toList ++ []) h') from ⟨pz_rc hP5, by decide, pz_lim hP5 rfl, am_call.up (rx_std hP5 (fun h6 hP6 f6 x40 x41 x43 xx => ?_)) (by decide)⟩)
  have r6 : rf h2 h6 := rf_t r5 (rf_of (by decide +kernel) f6)
  have l6 : ln N2 0 0 h6 0 0 (0 + 0) h6 := ⟨hP6, ag_fr.refl h6, ((f6.2 154 8 (by decide)).1).trans b5, x40, x41, ((f6.2 154 19 (by decide)).1).trans c5, Or.inl ⟨x43, rfl, Or.inl (((f6.2 154 20 (by decide)).1).trans d5)⟩⟩
  have g6 := gx_f g5 f6
  have lx : rr h6 (rz sp_C0) (tt (h1.1 155) sz) N2 (0, sp_C0) h6 := by
    refine ⟨⟨rt_of (ex_G hP6.1.1 hP6.1.2.1) hz nsz g6.1 ep2 g6.2.1 g6.2.2.1 g6.2.2.2.1, ⟨hP6.2.2.2.1, Nat.zero_le _⟩, l6.2.2.1⟩, ⟨⟨x40, by decide, fun i hi => absurd hi (Nat.not_lt_zero i)⟩, ⟨x41, by decide, fun i hi => absurd hi (Nat.not_lt_zero i)⟩, fun p e hp he => ?_, ⟨xx 42 (by decide) (by decide) (by decide), fun _ => rfl, (by show sp_28 0; unfold sp_28; decide)⟩, ?_, ⟨?_, fun j hj => absurd hj (Nat.not_lt_zero j), fun q => absurd q (by decide), fun _ => rfl, x43⟩, ⟨l6.2.2.2.2.2.1, fun k hk => absurd hk (Nat.not_lt_zero k), fun i hi => absurd hi (Nat.not_lt_zero i), fun i hi => absurd hi (Nat.not_lt_zero i), fun k k' hk => absurd hk (Nat.not_lt_zero k)⟩⟩, ⟨rfl, fun o k _ => ⟨rfl, rfl⟩⟩, Nat.zero_le _⟩
    · rw [xx (46 + 3 * p) (by omega) (by omega) (by omega)]
      have key : ∀ e, e < 5 → sp_bit 0 (nI e) = false := by decide +kernel
      refine ⟨?_, by decide⟩
      rw [key e he]
      show false = (decide (e < 0) && _)
      rw [decide_eq_false (Nat.not_lt_zero e)]
      rfl
    · show h6.1 154 20 = rb2 false false
      exact ((f6.2 154 20 (by decide)).1).trans d5
    · show h6.1 154 13 = nI 0
      exact ((f6.2 154 13 (by decide)).1).trans z5
  refine rx_cnl (r := sp_canton (tt (h1.1 155) sz)) g6.2.2.2.2 (fun h7 F er7 f7 => ?_) (fun h7 a7 c7 p7 e7 s7 er7 l7 _ hp7 he7 => ?_) 1001 0 0 0 0 (0, sp_C0) h6 (by omega) rfl lx l6 (by decide) (by decide)
  · obtain ⟨⟨a9, c9, w1⟩, w2, w3⟩ := f7
    rw [er7] at hQ
    exact hQ N2 a9 c9 h7 w1 (rg_of r1 f2 t2 (rf_t r6 (rf_of (by decide +kernel) w2)))
  · rw [er7] at hQ
    exact pz_cnE l7 (by omega) hp7 he7 (fun h8 hP8 r8 => hQ N2 a7 c7 h8 hP8 (rg_of r1 f2 t2 (rf_t (rf_t r6 (rf_of (by decide +kernel) l7.2.1)) r8)))
end
