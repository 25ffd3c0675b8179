/-! THE REFERENCE'S LAW, EXACTLY -/
/-- a reader of the law that does what the spec says -/
def lw_r (h0 : am_H) (τ : sp_T) (N d n : Nat) (dep : Int32) (f : sp_S → sp_R) : Prop := ∀ (s : sp_S) (h : am_H) (Q : am_Q), rr h0 0 τ N s h → s.2.2.2.2.1 = true →
  (∀ (F : Int32) (h1 : am_H) (c' a' : Nat), f s = .inl F → rx h0 F c' h1 → s.1 ≤ a' → a' ≤ N → c' + s.1 ≤ s.2.2.2.2.2.1 + a' → Q none h1) →
  (∀ (h1 : am_H) (t : sp_S), f s = .inr t → rr h0 0 τ N t h1 → t.2.2.2.2.1 = true → Q none h1) → am_call am_cod d n [.ref 154, .int dep] h Q
theorem lr_up {h0 : am_H} {N d d' n : Nat} {τ : sp_T} {dep : Int32} {f : sp_S → sp_R} (k : lw_r h0 τ N d n dep f) (hd : d ≤ d') : lw_r h0 τ N d' n dep f := fun s h Q l ht q1 q2 => (k s h Q l ht q1 q2).up hd
theorem sp_12 {τ : sp_T} {a : Nat} {i j : Int32} (e : sp_k τ a i = true) (hij : ¬ i = j) : sp_k τ a j = false := decide_eq_false (fun z => hij ((sp_kt e).symm.trans z))
theorem wq_2 {τ : sp_T} {a f m : Nat} (hm : m ≤ 21) (e : sp_k τ a 1 = false) : wq τ a f m = Int32.ofInt (-1) := by
  rcases wq_v τ a f m hm with ⟨w1, _⟩ | ⟨j, _, _, w3⟩
  · exact w1
  · rw [sp_w_n e] at w3
    cases w3
theorem fa_n {τ : sp_T} {a : Nat} (e : sp_k τ a 1 = false) : sp_fa τ a = 0 := by
  unfold sp_fa
  rw [sp_w_n e, sp_w_n e, sp_w_n e, sp_w_n e]
  rfl
theorem fa_0 {τ : sp_T} {a : Nat} (w : ∀ j, j < 4 → sp_w τ a (rw_w (17 + j)) = false) : sp_fa τ a = 0 := by
  have h0 : sp_w τ a 20763 = false := w 0 (by decide)
  have h1 : sp_w τ a 1172060 = false := w 1 (by decide)
  have h2 : sp_w τ a 18002 = false := w 2 (by decide)
  have h3 : sp_w τ a 43523993 = false := w 3 (by decide)
  unfold sp_fa
  rw [h0, h1, h2, h3]
  rfl
theorem fa_1 {τ : sp_T} {a j : Nat} (hj : j < 4) (w : sp_w τ a (rw_w (17 + j)) = true) : Int32.ofInt 2 = rb_o (sp_fa τ a) ∧ nI j = rb_a (sp_fa τ a) ∧ ¬ sp_fa τ a = 0 ∧ sp_k τ a 1 = true ∧ sp_w τ a 19741 = false := by
  have k : sp_k τ a 1 = true := (Bool.and_eq_true _ _ ▸ w : _ ∧ _).1
  have w1 := w
  rw [sp_w_e k] at w1
  have e := of_decide_eq_true w1
  have key : ∀ j, j < 4 → ¬ rw_w (17 + j) = 19741 := by decide +kernel
  have fa : sp_fa τ a = Int32.ofInt (-1) - nI j := by
    unfold sp_fa
    rw [sp_w_e k, sp_w_e k, sp_w_e k, sp_w_e k, e]
    have : ∀ j, j < 4 → (bif decide (rw_w (17 + j) = 20763) then Int32.ofInt (-1) else bif decide (rw_w (17 + j) = 1172060) then (Int8.ofInt (-2)).toInt32 else bif decide (rw_w (17 + j) = 18002) then (Int8.ofInt (-3)).toInt32 else bif decide (rw_w (17 + j) = 43523993) then (Int8.ofInt (-4)).toInt32 else Int32.ofInt 0) = Int32.ofInt (-1) - nI j := by decide +kernel
    exact this j hj
  have k2 : ∀ j, j < 4 → Int32.ofInt 2 = rb_o (Int32.ofInt (-1) - nI j) ∧ nI j = rb_a (Int32.ofInt (-1) - nI j) ∧ ¬ Int32.ofInt (-1) - nI j = 0 := by decide +kernel
  rw [fa]
  refine ⟨(k2 j hj).1, (k2 j hj).2.1, (k2 j hj).2.2, k, ?_⟩
  rw [sp_w_e k, e]
  exact decide_eq_false (key j hj)
theorem num_o {τ : sp_T} {a D : Nat} (hD : D ≤ 9999) (ev : (τ a).2.1 = Int64.ofNat D) : Int32.ofInt 1 = rb_o (sp_v τ a) ∧ sp_v τ a = rb_a (sp_v τ a) := by
  have e : sp_v τ a = nI D := by
    unfold sp_v
    rw [ev]
    exact Int64.toInt32_ofNat'
  have h0 : (0 : Int32) ≤ nI D := by
    show nI 0 ≤ nI D
    exact nI_le (Nat.zero_le _) (by omega)
  rw [e]
  unfold rb_o rb_a
  rw [decide_eq_true h0]
  exact ⟨rfl, rfl⟩
variable {h h0 : am_H} {N d : Nat} {τ : sp_T} {p : sp_S → sp_R} {dep : Int32} {s : sp_S} {Q : am_Q}

theorem r_213l (hd : 2 ≤ d) (ks : lw_r h0 τ N d 214 dep (p)) (hok : sp_ok (p)) : ∀ (m : Nat) (s : sp_S) (h : am_H) (Q : am_Q), N < s.1 + m → rr h0 0 τ N s h → s.2.2.2.2.1 = true → (∀ (F : Int32) (h1 : am_H) (c' a' : Nat), sp_pL τ p m s = .inl F → rx h0 F c' h1 → s.1 ≤ a' → a' ≤ N → c' + s.1 ≤ s.2.2.2.2.2.1 + a' → Q none h1) → (∀ (h1 : am_H) (t : sp_S), sp_pL τ p m s = .inr t → rr h0 0 τ N t h1 → t.2.2.2.2.1 = true → Q none h1) → pz_S 2 none am_r213 d Q 5 [(0, .ref 154), (1, .int dep)] [] h := by
  intro m
  induction m with
  | zero =>
    intro s h Q hm l ht hF hS
    have := (r_N l).1
    omega
  | succ m ih =>
    intro s h Q hm l ht hF hS
    have hP := r_P l
    have gl := r_N l
    refine am_goX 3 (show am_rc h 154 11 ∧ 0 ≤ 8 ∧ h.2.2.2.2 + am_al 217 ≤ 175 ∧ am_call am_cod d 217 [.ref 154, .int (Int8.ofInt 42).toInt32] h (fun vv h' => pz_S 2 none am_r213 d Q 11 [(0, .ref 154), (1, .int dep)] (vv.toList ++ []) h') from ⟨Or.inl ⟨by decide, ex_154 (r_P l)⟩, by decide, ex_lim (r_P l) rfl, am_call.up (r_217 (s := s) l (fun h1 l2 => ?_)) (by omega)⟩)
    cases e3 : sp_s τ s.1 (Int8.ofInt 42).toInt32 with
    | true =>
      rw [e3] at l2
      replace l2 : rr h0 0 τ N (s.1 + 1, s.2) h1 := l2
      refine am_goX 1 (show ((pz_b (true)) = 0 → pz_S 2 none am_r213 d Q 29 [(0, .ref 154), (1, .int dep)] [] h1) ∧ (¬ ((pz_b (true)) = 0) → pz_S 2 none am_r213 d Q 14 [(0, .ref 154), (1, .int dep)] [] h1) from ⟨fun hz => absurd hz (by decide), fun _ => ?_⟩)
      refine am_goX 3 (show am_rc h1 154 11 ∧ 0 ≤ 8 ∧ h1.2.2.2.2 + am_al 214 ≤ 175 ∧ am_call am_cod d 214 [.ref 154, .int dep] h1 (fun vv h' => pz_S 2 none am_r213 d Q 19 [(0, .ref 154), (1, .int dep)] (vv.toList ++ []) h') from ⟨Or.inl ⟨by decide, ex_154 (r_P l2)⟩, by decide, ex_lim (r_P l2) rfl, ks (s.1 + 1, s.2) _ _ l2 ht (fun F4 h5 c6 a7 e8 x9 b10 b11 b12 => ?_) (fun h13 t14 e15 l16 ht17 => ?_)⟩)
      ·
        try dsimp only at b10 b12
        have g0 := r_N l2
        try dsimp only at g0
        refine am_goX 4 (show am_rc h5 154 11 ∧ 0 ≤ 8 ∧ h5.2.2.2.2 + am_al 216 ≤ 175 ∧ am_call am_cod d 216 [.ref 154, .int (Int8.ofInt 6).toInt32, .int (Int32.ofInt 0)] h5 (fun vv h' => pz_S 2 none am_r213 d Q 26 [(0, .ref 154), (1, .int dep)] (vv.toList ++ []) h') from ⟨Or.inl ⟨by decide, ex_154 x9.1⟩, by decide, ex_lim x9.1 rfl, am_call.up (d_216 (by omega) x9 (fun h19 x20 => ?_)) (by omega)⟩)
        refine am_goX 4 (show am_rc h19 154 11 ∧ 0 ≤ 8 ∧ h19.2.2.2.2 + am_al 217 ≤ 175 ∧ am_call am_cod d 217 [.ref 154, .int (Int8.ofInt 42).toInt32] h19 (fun vv h' => pz_S 2 none am_r213 d Q 11 [(0, .ref 154), (1, .int dep)] (vv.toList ++ []) h') from ⟨Or.inl ⟨by decide, ex_154 x20.1⟩, by decide, ex_lim x20.1 rfl, am_call.up (d_217 x20 (fun h21 x22 => ?_)) (by omega)⟩)
        refine am_goX 1 (show (0 = 0 → pz_S 2 none am_r213 d Q 29 [(0, .ref 154), (1, .int dep)] [] h21) ∧ (¬ (0 = 0) → pz_S 2 none am_r213 d Q 14 [(0, .ref 154), (1, .int dep)] [] h21) from ⟨fun _ => ?_, fun hz => absurd (by decide) hz⟩)
        exact am_goX 1 (show (none : Option FieldType) = none ∧ h21.2.2.2.2 = 175 ∧ _ from ⟨rfl, ex_175 x22.1, hF (F4) _ (c6 + 1) a7 (by simp only [sp_pL, sp_b, sp_f, cond_true, cond_false, e3, e8]) x22 (by omega) (by omega) (by omega)⟩)
      ·
        have g18 := hok _ _ e15
        unfold sp_le at g18
        try dsimp only at g18
        have g0 := r_N l2
        try dsimp only at g0
        refine am_goX 4 (show am_rc h13 154 11 ∧ 0 ≤ 8 ∧ h13.2.2.2.2 + am_al 216 ≤ 175 ∧ am_call am_cod d 216 [.ref 154, .int (Int8.ofInt 6).toInt32, .int (Int32.ofInt 0)] h13 (fun vv h' => pz_S 2 none am_r213 d Q 26 [(0, .ref 154), (1, .int dep)] (vv.toList ++ []) h') from ⟨Or.inl ⟨by decide, ex_154 (r_P l16)⟩, by decide, ex_lim (r_P l16) rfl, am_call.up (r_216 (w := ((Int8.ofInt (-12)).toInt32)) (s := t14) l16 (by first | omega | (dsimp only; omega)) (by decide) (by decide) ht17 (fun h23 l24 => ?_)) (by omega)⟩)
        refine am_goX 1 (show pz_S 2 none am_r213 d Q 5 [(0, .ref 154), (1, .int dep)] [] h23 from ?_)
        have hx : sp_pL τ p (m + 1) s = sp_pL τ p m (t14.1, sp_em t14.2 ((Int8.ofInt (-12)).toInt32)) := by simp only [sp_pL, sp_b, cond_true, cond_false, e3, e15]
        refine ih (t14.1, sp_em t14.2 ((Int8.ofInt (-12)).toInt32)) h23 Q (by dsimp only; omega) l24 ht17 (fun F h1 c' a' e x b1 b2 b3 => hF F h1 c' a' (hx.trans e) x ?_ b2 ?_) (fun h1 t e l1 t1 => hS h1 t (hx.trans e) l1 t1)
        all_goals (unfold sp_em at b3; dsimp only at b1 b3; omega)
    | false =>
      rw [e3] at l2
      replace l2 : rr h0 0 τ N s h1 := l2
      refine am_goX 1 (show ((pz_b (false)) = 0 → pz_S 2 none am_r213 d Q 29 [(0, .ref 154), (1, .int dep)] [] h1) ∧ (¬ ((pz_b (false)) = 0) → pz_S 2 none am_r213 d Q 14 [(0, .ref 154), (1, .int dep)] [] h1) from ⟨fun _ => ?_, fun hz => absurd (by decide) hz⟩)
      exact am_goX 1 (show (none : Option FieldType) = none ∧ h1.2.2.2.2 = 175 ∧ _ from ⟨rfl, ex_175 (r_P l2), hS _ _ (by simp only [sp_pL, sp_b, sp_f, cond_true, cond_false, e3]) l2 ht⟩)
theorem r_213 (hd : 2 ≤ d) (ks : lw_r h0 τ N d 214 dep (p)) (hok : sp_ok (p)) : lw_r h0 τ N (d + 1) 213 dep (sp_p τ p) := by
  intro s h Q l ht hF hS
  have hP := r_P l
  have gl := r_N l
  refine pz_call (n := 213) (nL := 2) (rt := none) (rows := am_r213) (d := d) (by decide +kernel) (by decide +kernel) rfl (by funext pc; rfl) (ex_175 hP) (by exact Nat.le_of_ble_eq_true rfl) ?_
  refine am_goX 3 (show am_rc h 154 11 ∧ 0 ≤ 8 ∧ h.2.2.2.2 + am_al 214 ≤ 175 ∧ am_call am_cod d 214 [.ref 154, .int dep] h (fun vv h' => pz_S 2 none am_r213 d Q 5 [(0, .ref 154), (1, .int dep)] (vv.toList ++ []) h') from ⟨Or.inl ⟨by decide, ex_154 (r_P l)⟩, by decide, ex_lim (r_P l) rfl, ks s _ _ l ht (fun F25 h26 c27 a28 e29 x30 b31 b32 b33 => ?_) (fun h34 t35 e36 l37 ht38 => ?_)⟩)
  ·
    try dsimp only at b31 b33
    have g0 := r_N l
    try dsimp only at g0
    refine am_goX 3 (show am_rc h26 154 11 ∧ 0 ≤ 8 ∧ h26.2.2.2.2 + am_al 217 ≤ 175 ∧ am_call am_cod d 217 [.ref 154, .int (Int8.ofInt 42).toInt32] h26 (fun vv h' => pz_S 2 none am_r213 d Q 11 [(0, .ref 154), (1, .int dep)] (vv.toList ++ []) h') from ⟨Or.inl ⟨by decide, ex_154 x30.1⟩, by decide, ex_lim x30.1 rfl, am_call.up (d_217 x30 (fun h40 x41 => ?_)) (by omega)⟩)
    refine am_goX 1 (show (0 = 0 → pz_S 2 none am_r213 d Q 29 [(0, .ref 154), (1, .int dep)] [] h40) ∧ (¬ (0 = 0) → pz_S 2 none am_r213 d Q 14 [(0, .ref 154), (1, .int dep)] [] h40) from ⟨fun _ => ?_, fun hz => absurd (by decide) hz⟩)
    exact am_goX 1 (show (none : Option FieldType) = none ∧ h40.2.2.2.2 = 175 ∧ _ from ⟨rfl, ex_175 x41.1, hF (F25) _ (c27) a28 (by simp only [sp_p, sp_b, sp_f, cond_true, cond_false, e29]) x41 (by omega) (by omega) (by omega)⟩)
  ·
    have g39 := hok _ _ e36
    unfold sp_le at g39
    try dsimp only at g39
    have g0 := r_N l
    try dsimp only at g0
    have hx : sp_p τ p s = sp_pL τ p 1001 t35 := by simp only [sp_p, sp_b, e36]
    refine r_213l hd ks hok 1001 t35 h34 Q (by omega) l37 ht38 (fun F h1 c' a' e x b1 b2 b3 => hF F h1 c' a' (hx.trans e) x ?_ b2 ?_) (fun h1 t e l1 t1 => hS h1 t (hx.trans e) l1 t1)
    all_goals omega
theorem r_212l (hd : 2 ≤ d) (ks : lw_r h0 τ N d 213 dep (sp_p τ p)) (hok : sp_ok (sp_p τ p)) : ∀ (m : Nat) (s : sp_S) (h : am_H) (Q : am_Q), N < s.1 + m → rr h0 0 τ N s h → s.2.2.2.2.1 = true → (∀ (F : Int32) (h1 : am_H) (c' a' : Nat), sp_sL τ p m s = .inl F → rx h0 F c' h1 → s.1 ≤ a' → a' ≤ N → c' + s.1 ≤ s.2.2.2.2.2.1 + a' → Q none h1) → (∀ (h1 : am_H) (t : sp_S), sp_sL τ p m s = .inr t → rr h0 0 τ N t h1 → t.2.2.2.2.1 = true → Q none h1) → pz_S 3 none am_r212 d Q 5 [(0, .ref 154), (1, .int dep)] [] h := by
  intro m
  induction m with
  | zero =>
    intro s h Q hm l ht hF hS
    have := (r_N l).1
    omega
  | succ m ih =>
    intro s h Q hm l ht hF hS
    have hP := r_P l
    have gl := r_N l
    refine am_goX 3 (show am_rc h 154 11 ∧ 0 ≤ 8 ∧ h.2.2.2.2 + am_al 215 ≤ 175 ∧ am_call am_cod d 215 [.ref 154, .int (Int8.ofInt 43).toInt32] h (fun vv h' => pz_S 3 none am_r212 d Q 11 [(0, .ref 154), (1, .int dep)] (vv.toList ++ []) h') from ⟨Or.inl ⟨by decide, ex_154 (r_P l)⟩, by decide, ex_lim (r_P l) rfl, am_call.up (r_215 l ?_) (by omega)⟩)
    cases e42 : sp_s τ s.1 (Int8.ofInt 43).toInt32 with
    | true =>
      refine am_goX 1 (show (¬ (pz_b (true)) = 0 → pz_S 3 none am_r212 d Q 23 [(0, .ref 154), (1, .int dep)] [] h) ∧ (¬ ¬ (pz_b (true)) = 0 → pz_S 3 none am_r212 d Q 14 [(0, .ref 154), (1, .int dep)] [] h) from ⟨fun _ => ?_, fun hz => absurd (by decide) hz⟩)
      refine am_goX 3 (show am_rc h 154 11 ∧ 0 ≤ 8 ∧ h.2.2.2.2 + am_al 215 ≤ 175 ∧ am_call am_cod d 215 [.ref 154, .int (Int8.ofInt 43).toInt32] h (fun vv h' => pz_S 3 none am_r212 d Q 29 [(0, .ref 154), (1, .int dep)] (vv.toList ++ []) h') from ⟨Or.inl ⟨by decide, ex_154 (r_P l)⟩, by decide, ex_lim (r_P l) rfl, am_call.up (r_215 l ?_) (by omega)⟩)
      rw [e42]
      refine am_goX 7 (show 2 < 3 ∧ (Value.ref 154).category = 1 ∧ am_sh h 154 = some (11, 0) ∧ am_sh h 154 = some (11, 0) ∧ narrow (am_fty 11 7) (.int (((h.1 154 7) + (Int32.ofInt 1)))) = .int (((h.1 154 7) + (Int32.ofInt 1))) ∧ fits (am_fty 11 7) (.int (((h.1 154 7) + (Int32.ofInt 1)))) = true ∧ pz_S 3 none am_r212 d Q 40 [(2, .int (pz_b (true))), (0, .ref 154), (1, .int dep)] [] (am_wI h 154 7 (((h.1 154 7) + (Int32.ofInt 1)))) from ⟨by decide, rfl, ex_154 (r_P l), ex_154 (r_P l), rfl, rfl, ?_⟩)
      rw [r_a l, xw_i1]
      have l43 : rr h0 0 τ N (s.1 + 1, s.2) (am_wI h 154 7 (nI (s.1 + 1))) := rr_nx (a := s.1) (C := s.2) l (sp_sn e42)
      refine am_goX 3 (show am_rc (am_wI h 154 7 (nI (s.1 + 1))) 154 11 ∧ 0 ≤ 8 ∧ (am_wI h 154 7 (nI (s.1 + 1))).2.2.2.2 + am_al 213 ≤ 175 ∧ am_call am_cod d 213 [.ref 154, .int dep] (am_wI h 154 7 (nI (s.1 + 1))) (fun vv h' => pz_S 3 none am_r212 d Q 45 [(2, .int (pz_b (true))), (0, .ref 154), (1, .int dep)] (vv.toList ++ []) h') from ⟨Or.inl ⟨by decide, ex_154 (r_P l43)⟩, by decide, ex_lim (r_P l43) rfl, ks (s.1 + 1, s.2) _ _ l43 ht (fun F44 h45 c46 a47 e48 x49 b50 b51 b52 => ?_) (fun h53 t54 e55 l56 ht57 => ?_)⟩)
      ·
        try dsimp only at b50 b52
        have g0 := r_N l43
        try dsimp only at g0
        refine am_goX 3 (show ((pz_b (true)) = 0 → pz_S 3 none am_r212 d Q 54 [(2, .int (pz_b (true))), (0, .ref 154), (1, .int dep)] [.ref 154] h45) ∧ (¬ ((pz_b (true)) = 0) → pz_S 3 none am_r212 d Q 50 [(2, .int (pz_b (true))), (0, .ref 154), (1, .int dep)] [.ref 154] h45) from ⟨fun hz => absurd hz (by decide), fun _ => ?_⟩)
        refine am_goX 4 (show am_rc h45 154 11 ∧ 0 ≤ 8 ∧ h45.2.2.2.2 + am_al 216 ≤ 175 ∧ am_call am_cod d 216 [.ref 154, .int (Int32.ofInt 4), .int (Int32.ofInt 0)] h45 (fun vv h' => pz_S 3 none am_r212 d Q 59 [(2, .int (pz_b (true))), (0, .ref 154), (1, .int dep)] (vv.toList ++ []) h') from ⟨Or.inl ⟨by decide, ex_154 x49.1⟩, by decide, ex_lim x49.1 rfl, am_call.up (d_216 (by omega) x49 (fun h59 x60 => ?_)) (by omega)⟩)
        refine am_goX 4 (show am_rc h59 154 11 ∧ 0 ≤ 8 ∧ h59.2.2.2.2 + am_al 215 ≤ 175 ∧ am_call am_cod d 215 [.ref 154, .int (Int8.ofInt 43).toInt32] h59 (fun vv h' => pz_S 3 none am_r212 d Q 11 [(2, .int (pz_b (true))), (0, .ref 154), (1, .int dep)] (vv.toList ++ []) h') from ⟨Or.inl ⟨by decide, ex_154 x60.1⟩, by decide, ex_lim x60.1 rfl, am_call.up (d_215 x60 ?_) (by omega)⟩)
        refine am_goX 1 (show (¬ 0 = 0 → pz_S 3 none am_r212 d Q 23 [(2, .int (pz_b (true))), (0, .ref 154), (1, .int dep)] [] h59) ∧ (¬ ¬ 0 = 0 → pz_S 3 none am_r212 d Q 14 [(2, .int (pz_b (true))), (0, .ref 154), (1, .int dep)] [] h59) from ⟨fun hz => absurd hz (by decide), fun _ => ?_⟩)
        refine am_goX 3 (show am_rc h59 154 11 ∧ 0 ≤ 8 ∧ h59.2.2.2.2 + am_al 215 ≤ 175 ∧ am_call am_cod d 215 [.ref 154, .int (Int8.ofInt 45).toInt32] h59 (fun vv h' => pz_S 3 none am_r212 d Q 20 [(2, .int (pz_b (true))), (0, .ref 154), (1, .int dep)] (vv.toList ++ []) h') from ⟨Or.inl ⟨by decide, ex_154 x60.1⟩, by decide, ex_lim x60.1 rfl, am_call.up (d_215 x60 ?_) (by omega)⟩)
        refine am_goX 1 (show (0 = 0 → pz_S 3 none am_r212 d Q 62 [(2, .int (pz_b (true))), (0, .ref 154), (1, .int dep)] [] h59) ∧ (¬ (0 = 0) → pz_S 3 none am_r212 d Q 23 [(2, .int (pz_b (true))), (0, .ref 154), (1, .int dep)] [] h59) from ⟨fun _ => ?_, fun hz => absurd (by decide) hz⟩)
        exact am_goX 1 (show (none : Option FieldType) = none ∧ h59.2.2.2.2 = 175 ∧ _ from ⟨rfl, ex_175 x60.1, hF (F44) _ (c46 + 1) a47 (by simp only [sp_sL, sp_b, sp_f, cond_true, cond_false, e42, e48]) x60 (by omega) (by omega) (by omega)⟩)
      ·
        have g58 := hok _ _ e55
        unfold sp_le at g58
        try dsimp only at g58
        have g0 := r_N l43
        try dsimp only at g0
        refine am_goX 3 (show ((pz_b (true)) = 0 → pz_S 3 none am_r212 d Q 54 [(2, .int (pz_b (true))), (0, .ref 154), (1, .int dep)] [.ref 154] h53) ∧ (¬ ((pz_b (true)) = 0) → pz_S 3 none am_r212 d Q 50 [(2, .int (pz_b (true))), (0, .ref 154), (1, .int dep)] [.ref 154] h53) from ⟨fun hz => absurd hz (by decide), fun _ => ?_⟩)
        refine am_goX 4 (show am_rc h53 154 11 ∧ 0 ≤ 8 ∧ h53.2.2.2.2 + am_al 216 ≤ 175 ∧ am_call am_cod d 216 [.ref 154, .int (Int32.ofInt 4), .int (Int32.ofInt 0)] h53 (fun vv h' => pz_S 3 none am_r212 d Q 59 [(2, .int (pz_b (true))), (0, .ref 154), (1, .int dep)] (vv.toList ++ []) h') from ⟨Or.inl ⟨by decide, ex_154 (r_P l56)⟩, by decide, ex_lim (r_P l56) rfl, am_call.up (r_216 (w := ((Int8.ofInt (-10)).toInt32)) (s := t54) l56 (by first | omega | (dsimp only; omega)) (by decide) (by decide) ht57 (fun h61 l62 => ?_)) (by omega)⟩)
        refine am_goX 1 (show pz_S 3 none am_r212 d Q 5 [(2, .int (pz_b (true))), (0, .ref 154), (1, .int dep)] [] h61 from ?_)
        have hx : sp_sL τ p (m + 1) s = sp_sL τ p m (t54.1, sp_em t54.2 ((Int8.ofInt (-10)).toInt32)) := by simp only [sp_sL, sp_b, cond_true, cond_false, e42, e55]
        refine sv_S (by decide +kernel) (by intro q hq; simp only [List.mem_cons, List.not_mem_nil, or_false] at hq; rcases hq with rfl | rfl <;> rfl) (ih (t54.1, sp_em t54.2 ((Int8.ofInt (-10)).toInt32)) h61 Q (by dsimp only; omega) l62 ht57 (fun F h1 c' a' e x b1 b2 b3 => hF F h1 c' a' (hx.trans e) x ?_ b2 ?_) (fun h1 t e l1 t1 => hS h1 t (hx.trans e) l1 t1))
        all_goals (unfold sp_em at b3; dsimp only at b1 b3; omega)
    | false =>
      refine am_goX 1 (show (¬ (pz_b (false)) = 0 → pz_S 3 none am_r212 d Q 23 [(0, .ref 154), (1, .int dep)] [] h) ∧ (¬ ¬ (pz_b (false)) = 0 → pz_S 3 none am_r212 d Q 14 [(0, .ref 154), (1, .int dep)] [] h) from ⟨fun hz => absurd hz (by decide), fun _ => ?_⟩)
      refine am_goX 3 (show am_rc h 154 11 ∧ 0 ≤ 8 ∧ h.2.2.2.2 + am_al 215 ≤ 175 ∧ am_call am_cod d 215 [.ref 154, .int (Int8.ofInt 45).toInt32] h (fun vv h' => pz_S 3 none am_r212 d Q 20 [(0, .ref 154), (1, .int dep)] (vv.toList ++ []) h') from ⟨Or.inl ⟨by decide, ex_154 (r_P l)⟩, by decide, ex_lim (r_P l) rfl, am_call.up (r_215 l ?_) (by omega)⟩)
      cases e63 : sp_s τ s.1 (Int8.ofInt 45).toInt32 with
      | true =>
        refine am_goX 1 (show ((pz_b (true)) = 0 → pz_S 3 none am_r212 d Q 62 [(0, .ref 154), (1, .int dep)] [] h) ∧ (¬ ((pz_b (true)) = 0) → pz_S 3 none am_r212 d Q 23 [(0, .ref 154), (1, .int dep)] [] h) from ⟨fun hz => absurd hz (by decide), fun _ => ?_⟩)
        refine am_goX 3 (show am_rc h 154 11 ∧ 0 ≤ 8 ∧ h.2.2.2.2 + am_al 215 ≤ 175 ∧ am_call am_cod d 215 [.ref 154, .int (Int8.ofInt 43).toInt32] h (fun vv h' => pz_S 3 none am_r212 d Q 29 [(0, .ref 154), (1, .int dep)] (vv.toList ++ []) h') from ⟨Or.inl ⟨by decide, ex_154 (r_P l)⟩, by decide, ex_lim (r_P l) rfl, am_call.up (r_215 l ?_) (by omega)⟩)
        rw [e42]
        refine am_goX 7 (show 2 < 3 ∧ (Value.ref 154).category = 1 ∧ am_sh h 154 = some (11, 0) ∧ am_sh h 154 = some (11, 0) ∧ narrow (am_fty 11 7) (.int (((h.1 154 7) + (Int32.ofInt 1)))) = .int (((h.1 154 7) + (Int32.ofInt 1))) ∧ fits (am_fty 11 7) (.int (((h.1 154 7) + (Int32.ofInt 1)))) = true ∧ pz_S 3 none am_r212 d Q 40 [(2, .int (pz_b (false))), (0, .ref 154), (1, .int dep)] [] (am_wI h 154 7 (((h.1 154 7) + (Int32.ofInt 1)))) from ⟨by decide, rfl, ex_154 (r_P l), ex_154 (r_P l), rfl, rfl, ?_⟩)
        rw [r_a l, xw_i1]
        have l64 : rr h0 0 τ N (s.1 + 1, s.2) (am_wI h 154 7 (nI (s.1 + 1))) := rr_nx (a := s.1) (C := s.2) l (sp_sn e63)
        refine am_goX 3 (show am_rc (am_wI h 154 7 (nI (s.1 + 1))) 154 11 ∧ 0 ≤ 8 ∧ (am_wI h 154 7 (nI (s.1 + 1))).2.2.2.2 + am_al 213 ≤ 175 ∧ am_call am_cod d 213 [.ref 154, .int dep] (am_wI h 154 7 (nI (s.1 + 1))) (fun vv h' => pz_S 3 none am_r212 d Q 45 [(2, .int (pz_b (false))), (0, .ref 154), (1, .int dep)] (vv.toList ++ []) h') from ⟨Or.inl ⟨by decide, ex_154 (r_P l64)⟩, by decide, ex_lim (r_P l64) rfl, ks (s.1 + 1, s.2) _ _ l64 ht (fun F65 h66 c67 a68 e69 x70 b71 b72 b73 => ?_) (fun h74 t75 e76 l77 ht78 => ?_)⟩)
        ·
          try dsimp only at b71 b73
          have g0 := r_N l64
          try dsimp only at g0
          refine am_goX 3 (show ((pz_b (false)) = 0 → pz_S 3 none am_r212 d Q 54 [(2, .int (pz_b (false))), (0, .ref 154), (1, .int dep)] [.ref 154] h66) ∧ (¬ ((pz_b (false)) = 0) → pz_S 3 none am_r212 d Q 50 [(2, .int (pz_b (false))), (0, .ref 154), (1, .int dep)] [.ref 154] h66) from ⟨fun _ => ?_, fun hz => absurd (by decide) hz⟩)
          refine am_goX 3 (show am_rc h66 154 11 ∧ 0 ≤ 8 ∧ h66.2.2.2.2 + am_al 216 ≤ 175 ∧ am_call am_cod d 216 [.ref 154, .int (Int32.ofInt 5), .int (Int32.ofInt 0)] h66 (fun vv h' => pz_S 3 none am_r212 d Q 59 [(2, .int (pz_b (false))), (0, .ref 154), (1, .int dep)] (vv.toList ++ []) h') from ⟨Or.inl ⟨by decide, ex_154 x70.1⟩, by decide, ex_lim x70.1 rfl, am_call.up (d_216 (by omega) x70 (fun h80 x81 => ?_)) (by omega)⟩)
          refine am_goX 4 (show am_rc h80 154 11 ∧ 0 ≤ 8 ∧ h80.2.2.2.2 + am_al 215 ≤ 175 ∧ am_call am_cod d 215 [.ref 154, .int (Int8.ofInt 43).toInt32] h80 (fun vv h' => pz_S 3 none am_r212 d Q 11 [(2, .int (pz_b (false))), (0, .ref 154), (1, .int dep)] (vv.toList ++ []) h') from ⟨Or.inl ⟨by decide, ex_154 x81.1⟩, by decide, ex_lim x81.1 rfl, am_call.up (d_215 x81 ?_) (by omega)⟩)
          refine am_goX 1 (show (¬ 0 = 0 → pz_S 3 none am_r212 d Q 23 [(2, .int (pz_b (false))), (0, .ref 154), (1, .int dep)] [] h80) ∧ (¬ ¬ 0 = 0 → pz_S 3 none am_r212 d Q 14 [(2, .int (pz_b (false))), (0, .ref 154), (1, .int dep)] [] h80) from ⟨fun hz => absurd hz (by decide), fun _ => ?_⟩)
          refine am_goX 3 (show am_rc h80 154 11 ∧ 0 ≤ 8 ∧ h80.2.2.2.2 + am_al 215 ≤ 175 ∧ am_call am_cod d 215 [.ref 154, .int (Int8.ofInt 45).toInt32] h80 (fun vv h' => pz_S 3 none am_r212 d Q 20 [(2, .int (pz_b (false))), (0, .ref 154), (1, .int dep)] (vv.toList ++ []) h') from ⟨Or.inl ⟨by decide, ex_154 x81.1⟩, by decide, ex_lim x81.1 rfl, am_call.up (d_215 x81 ?_) (by omega)⟩)
          refine am_goX 1 (show (0 = 0 → pz_S 3 none am_r212 d Q 62 [(2, .int (pz_b (false))), (0, .ref 154), (1, .int dep)] [] h80) ∧ (¬ (0 = 0) → pz_S 3 none am_r212 d Q 23 [(2, .int (pz_b (false))), (0, .ref 154), (1, .int dep)] [] h80) from ⟨fun _ => ?_, fun hz => absurd (by decide) hz⟩)
          exact am_goX 1 (show (none : Option FieldType) = none ∧ h80.2.2.2.2 = 175 ∧ _ from ⟨rfl, ex_175 x81.1, hF (F65) _ (c67 + 1) a68 (by simp only [sp_sL, sp_b, sp_f, cond_true, cond_false, e42, e63, e69]) x81 (by omega) (by omega) (by omega)⟩)
        ·
          have g79 := hok _ _ e76
          unfold sp_le at g79
          try dsimp only at g79
          have g0 := r_N l64
          try dsimp only at g0
          refine am_goX 3 (show ((pz_b (false)) = 0 → pz_S 3 none am_r212 d Q 54 [(2, .int (pz_b (false))), (0, .ref 154), (1, .int dep)] [.ref 154] h74) ∧ (¬ ((pz_b (false)) = 0) → pz_S 3 none am_r212 d Q 50 [(2, .int (pz_b (false))), (0, .ref 154), (1, .int dep)] [.ref 154] h74) from ⟨fun _ => ?_, fun hz => absurd (by decide) hz⟩)
          refine am_goX 3 (show am_rc h74 154 11 ∧ 0 ≤ 8 ∧ h74.2.2.2.2 + am_al 216 ≤ 175 ∧ am_call am_cod d 216 [.ref 154, .int (Int32.ofInt 5), .int (Int32.ofInt 0)] h74 (fun vv h' => pz_S 3 none am_r212 d Q 59 [(2, .int (pz_b (false))), (0, .ref 154), (1, .int dep)] (vv.toList ++ []) h') from ⟨Or.inl ⟨by decide, ex_154 (r_P l77)⟩, by decide, ex_lim (r_P l77) rfl, am_call.up (r_216 (w := ((Int8.ofInt (-11)).toInt32)) (s := t75) l77 (by first | omega | (dsimp only; omega)) (by decide) (by decide) ht78 (fun h82 l83 => ?_)) (by omega)⟩)
          refine am_goX 1 (show pz_S 3 none am_r212 d Q 5 [(2, .int (pz_b (false))), (0, .ref 154), (1, .int dep)] [] h82 from ?_)
          have hx : sp_sL τ p (m + 1) s = sp_sL τ p m (t75.1, sp_em t75.2 ((Int8.ofInt (-11)).toInt32)) := by simp only [sp_sL, sp_b, cond_true, cond_false, e42, e63, e76]
          refine sv_S (by decide +kernel) (by intro q hq; simp only [List.mem_cons, List.not_mem_nil, or_false] at hq; rcases hq with rfl | rfl <;> rfl) (ih (t75.1, sp_em t75.2 ((Int8.ofInt (-11)).toInt32)) h82 Q (by dsimp only; omega) l83 ht78 (fun F h1 c' a' e x b1 b2 b3 => hF F h1 c' a' (hx.trans e) x ?_ b2 ?_) (fun h1 t e l1 t1 => hS h1 t (hx.trans e) l1 t1))
          all_goals (unfold sp_em at b3; dsimp only at b1 b3; omega)
      | false =>
        refine am_goX 1 (show ((pz_b (false)) = 0 → pz_S 3 none am_r212 d Q 62 [(0, .ref 154), (1, .int dep)] [] h) ∧ (¬ ((pz_b (false)) = 0) → pz_S 3 none am_r212 d Q 23 [(0, .ref 154), (1, .int dep)] [] h) from ⟨fun _ => ?_, fun hz => absurd (by decide) hz⟩)
        exact am_goX 1 (show (none : Option FieldType) = none ∧ h.2.2.2.2 = 175 ∧ _ from ⟨rfl, ex_175 (r_P l), hS _ _ (by simp only [sp_sL, sp_b, sp_f, cond_true, cond_false, e42, e63]) l ht⟩)
theorem r_212 (hd : 2 ≤ d) (ks : lw_r h0 τ N d 213 dep (sp_p τ p)) (hok : sp_ok (sp_p τ p)) : lw_r h0 τ N (d + 1) 212 dep (sp_su τ p) := by
  intro s h Q l ht hF hS
  have hP := r_P l
  have gl := r_N l
  refine pz_call (n := 212) (nL := 3) (rt := none) (rows := am_r212) (d := d) (by decide +kernel) (by decide +kernel) rfl (by funext pc; rfl) (ex_175 hP) (by exact Nat.le_of_ble_eq_true rfl) ?_
  refine am_goX 3 (show am_rc h 154 11 ∧ 0 ≤ 8 ∧ h.2.2.2.2 + am_al 213 ≤ 175 ∧ am_call am_cod d 213 [.ref 154, .int dep] h (fun vv h' => pz_S 3 none am_r212 d Q 5 [(0, .ref 154), (1, .int dep)] (vv.toList ++ []) h') from ⟨Or.inl ⟨by decide, ex_154 (r_P l)⟩, by decide, ex_lim (r_P l) rfl, ks s _ _ l ht (fun F84 h85 c86 a87 e88 x89 b90 b91 b92 => ?_) (fun h93 t94 e95 l96 ht97 => ?_)⟩)
  ·
    try dsimp only at b90 b92
    have g0 := r_N l
    try dsimp only at g0
    refine am_goX 3 (show am_rc h85 154 11 ∧ 0 ≤ 8 ∧ h85.2.2.2.2 + am_al 215 ≤ 175 ∧ am_call am_cod d 215 [.ref 154, .int (Int8.ofInt 43).toInt32] h85 (fun vv h' => pz_S 3 none am_r212 d Q 11 [(0, .ref 154), (1, .int dep)] (vv.toList ++ []) h') from ⟨Or.inl ⟨by decide, ex_154 x89.1⟩, by decide, ex_lim x89.1 rfl, am_call.up (d_215 x89 ?_) (by omega)⟩)
    refine am_goX 1 (show (¬ 0 = 0 → pz_S 3 none am_r212 d Q 23 [(0, .ref 154), (1, .int dep)] [] h85) ∧ (¬ ¬ 0 = 0 → pz_S 3 none am_r212 d Q 14 [(0, .ref 154), (1, .int dep)] [] h85) from ⟨fun hz => absurd hz (by decide), fun _ => ?_⟩)
    refine am_goX 3 (show am_rc h85 154 11 ∧ 0 ≤ 8 ∧ h85.2.2.2.2 + am_al 215 ≤ 175 ∧ am_call am_cod d 215 [.ref 154, .int (Int8.ofInt 45).toInt32] h85 (fun vv h' => pz_S 3 none am_r212 d Q 20 [(0, .ref 154), (1, .int dep)] (vv.toList ++ []) h') from ⟨Or.inl ⟨by decide, ex_154 x89.1⟩, by decide, ex_lim x89.1 rfl, am_call.up (d_215 x89 ?_) (by omega)⟩)
    refine am_goX 1 (show (0 = 0 → pz_S 3 none am_r212 d Q 62 [(0, .ref 154), (1, .int dep)] [] h85) ∧ (¬ (0 = 0) → pz_S 3 none am_r212 d Q 23 [(0, .ref 154), (1, .int dep)] [] h85) from ⟨fun _ => ?_, fun hz => absurd (by decide) hz⟩)
    exact am_goX 1 (show (none : Option FieldType) = none ∧ h85.2.2.2.2 = 175 ∧ _ from ⟨rfl, ex_175 x89.1, hF (F84) _ (c86) a87 (by simp only [sp_su, sp_b, sp_f, cond_true, cond_false, e88]) x89 (by omega) (by omega) (by omega)⟩)
  ·
    have g98 := hok _ _ e95
    unfold sp_le at g98
    try dsimp only at g98
    have g0 := r_N l
    try dsimp only at g0
    have hx : sp_su τ p s = sp_sL τ p 1001 t94 := by simp only [sp_su, sp_b, e95]
    refine r_212l hd ks hok 1001 t94 h93 Q (by omega) l96 ht97 (fun F h1 c' a' e x b1 b2 b3 => hF F h1 c' a' (hx.trans e) x ?_ b2 ?_) (fun h1 t e l1 t1 => hS h1 t (hx.trans e) l1 t1)
    all_goals omega
theorem r_211 (hd : 2 ≤ d) (ks : lw_r h0 τ N d 212 dep (sp_su τ p)) (hok : sp_ok (sp_su τ p)) : lw_r h0 τ N (d + 1) 211 dep (sp_te τ p) := by
  intro s h Q l ht hF hS
  have hP := r_P l
  have gl := r_N l
  refine pz_call (n := 211) (nL := 3) (rt := none) (rows := am_r211) (d := d) (by decide +kernel) (by decide +kernel) rfl (by funext pc; rfl) (ex_175 hP) (by exact Nat.le_of_ble_eq_true rfl) ?_
  refine am_goX 3 (show am_rc h 154 11 ∧ 0 ≤ 8 ∧ h.2.2.2.2 + am_al 212 ≤ 175 ∧ am_call am_cod d 212 [.ref 154, .int dep] h (fun vv h' => pz_S 3 none am_r211 d Q 5 [(0, .ref 154), (1, .int dep)] (vv.toList ++ []) h') from ⟨Or.inl ⟨by decide, ex_154 (r_P l)⟩, by decide, ex_lim (r_P l) rfl, ks s _ _ l ht (fun F99 h100 c101 a102 e103 x104 b105 b106 b107 => ?_) (fun h108 t109 e110 l111 ht112 => ?_)⟩)
  ·
    try dsimp only at b105 b107
    have g0 := r_N l
    try dsimp only at g0
    refine am_goX 3 (show am_rc h100 154 11 ∧ 0 ≤ 8 ∧ h100.2.2.2.2 + am_al 215 ≤ 175 ∧ am_call am_cod d 215 [.ref 154, .int (Int8.ofInt 60).toInt32] h100 (fun vv h' => pz_S 3 none am_r211 d Q 11 [(0, .ref 154), (1, .int dep)] (vv.toList ++ []) h') from ⟨Or.inl ⟨by decide, ex_154 x104.1⟩, by decide, ex_lim x104.1 rfl, am_call.up (d_215 x104 ?_) (by omega)⟩)
    refine am_goX 4 (show 2 < 3 ∧ am_rc h100 154 11 ∧ 0 ≤ 8 ∧ h100.2.2.2.2 + am_al 217 ≤ 175 ∧ am_call am_cod d 217 [.ref 154, .int (Int8.ofInt 60).toInt32] h100 (fun vv h' => pz_S 3 none am_r211 d Q 18 [(2, .int 0), (0, .ref 154), (1, .int dep)] (vv.toList ++ []) h') from ⟨by decide, Or.inl ⟨by decide, ex_154 x104.1⟩, by decide, ex_lim x104.1 rfl, am_call.up (d_217 x104 (fun h114 x115 => ?_)) (by omega)⟩)
    refine am_goX 1 (show (¬ 0 = 0 → pz_S 3 none am_r211 d Q 30 [(2, .int 0), (0, .ref 154), (1, .int dep)] [] h114) ∧ (¬ ¬ 0 = 0 → pz_S 3 none am_r211 d Q 21 [(2, .int 0), (0, .ref 154), (1, .int dep)] [] h114) from ⟨fun hz => absurd hz (by decide), fun _ => ?_⟩)
    refine am_goX 3 (show am_rc h114 154 11 ∧ 0 ≤ 8 ∧ h114.2.2.2.2 + am_al 217 ≤ 175 ∧ am_call am_cod d 217 [.ref 154, .int (Int8.ofInt 61).toInt32] h114 (fun vv h' => pz_S 3 none am_r211 d Q 27 [(2, .int 0), (0, .ref 154), (1, .int dep)] (vv.toList ++ []) h') from ⟨Or.inl ⟨by decide, ex_154 x115.1⟩, by decide, ex_lim x115.1 rfl, am_call.up (d_217 x115 (fun h116 x117 => ?_)) (by omega)⟩)
    refine am_goX 1 (show (0 = 0 → pz_S 3 none am_r211 d Q 51 [(2, .int 0), (0, .ref 154), (1, .int dep)] [] h116) ∧ (¬ (0 = 0) → pz_S 3 none am_r211 d Q 30 [(2, .int 0), (0, .ref 154), (1, .int dep)] [] h116) from ⟨fun _ => ?_, fun hz => absurd (by decide) hz⟩)
    exact am_goX 1 (show (none : Option FieldType) = none ∧ h116.2.2.2.2 = 175 ∧ _ from ⟨rfl, ex_175 x117.1, hF (F99) _ (c101) a102 (by simp only [sp_te, sp_b, sp_f, cond_true, cond_false, e103]) x117 (by omega) (by omega) (by omega)⟩)
  ·
    have g113 := hok _ _ e110
    unfold sp_le at g113
    try dsimp only at g113
    have g0 := r_N l
    try dsimp only at g0
    refine am_goX 3 (show am_rc h108 154 11 ∧ 0 ≤ 8 ∧ h108.2.2.2.2 + am_al 215 ≤ 175 ∧ am_call am_cod d 215 [.ref 154, .int (Int8.ofInt 60).toInt32] h108 (fun vv h' => pz_S 3 none am_r211 d Q 11 [(0, .ref 154), (1, .int dep)] (vv.toList ++ []) h') from ⟨Or.inl ⟨by decide, ex_154 (r_P l111)⟩, by decide, ex_lim (r_P l111) rfl, am_call.up (r_215 l111 ?_) (by omega)⟩)
    refine am_goX 4 (show 2 < 3 ∧ am_rc h108 154 11 ∧ 0 ≤ 8 ∧ h108.2.2.2.2 + am_al 217 ≤ 175 ∧ am_call am_cod d 217 [.ref 154, .int (Int8.ofInt 60).toInt32] h108 (fun vv h' => pz_S 3 none am_r211 d Q 18 [(2, .int (pz_b (sp_s τ t109.1 (Int8.ofInt 60).toInt32))), (0, .ref 154), (1, .int dep)] (vv.toList ++ []) h') from ⟨by decide, Or.inl ⟨by decide, ex_154 (r_P l111)⟩, by decide, ex_lim (r_P l111) rfl, am_call.up (r_217 (s := t109) l111 (fun h118 l119 => ?_)) (by omega)⟩)
    cases e120 : sp_s τ t109.1 (Int8.ofInt 60).toInt32 with
    | true =>
      rw [e120] at l119
      replace l119 : rr h0 0 τ N (t109.1 + 1, t109.2) h118 := l119
      refine am_goX 1 (show (¬ (pz_b (true)) = 0 → pz_S 3 none am_r211 d Q 30 [(2, .int (pz_b (true))), (0, .ref 154), (1, .int dep)] [] h118) ∧ (¬ ¬ (pz_b (true)) = 0 → pz_S 3 none am_r211 d Q 21 [(2, .int (pz_b (true))), (0, .ref 154), (1, .int dep)] [] h118) from ⟨fun _ => ?_, fun hz => absurd (by decide) hz⟩)
      refine am_goX 3 (show am_rc h118 154 11 ∧ 0 ≤ 8 ∧ h118.2.2.2.2 + am_al 212 ≤ 175 ∧ am_call am_cod d 212 [.ref 154, .int dep] h118 (fun vv h' => pz_S 3 none am_r211 d Q 35 [(2, .int (pz_b (true))), (0, .ref 154), (1, .int dep)] (vv.toList ++ []) h') from ⟨Or.inl ⟨by decide, ex_154 (r_P l119)⟩, by decide, ex_lim (r_P l119) rfl, ks (t109.1 + 1, t109.2) _ _ l119 ht112 (fun F121 h122 c123 a124 e125 x126 b127 b128 b129 => ?_) (fun h130 t131 e132 l133 ht134 => ?_)⟩)
      ·
        try dsimp only at b127 b129
        have g0 := r_N l119
        try dsimp only at g0
        refine am_goX 3 (show ((pz_b (true)) = 0 → pz_S 3 none am_r211 d Q 45 [(2, .int (pz_b (true))), (0, .ref 154), (1, .int dep)] [.ref 154] h122) ∧ (¬ ((pz_b (true)) = 0) → pz_S 3 none am_r211 d Q 40 [(2, .int (pz_b (true))), (0, .ref 154), (1, .int dep)] [.ref 154] h122) from ⟨fun hz => absurd hz (by decide), fun _ => ?_⟩)
        refine am_goX 4 (show am_rc h122 154 11 ∧ 0 ≤ 8 ∧ h122.2.2.2.2 + am_al 216 ≤ 175 ∧ am_call am_cod d 216 [.ref 154, .int (Int8.ofInt 7).toInt32, .int (Int32.ofInt 0)] h122 (fun vv h' => pz_S 3 none am_r211 d Q 51 [(2, .int (pz_b (true))), (0, .ref 154), (1, .int dep)] (vv.toList ++ []) h') from ⟨Or.inl ⟨by decide, ex_154 x126.1⟩, by decide, ex_lim x126.1 rfl, am_call.up (d_216 (by omega) x126 (fun h136 x137 => ?_)) (by omega)⟩)
        exact am_goX 1 (show (none : Option FieldType) = none ∧ h136.2.2.2.2 = 175 ∧ _ from ⟨rfl, ex_175 x137.1, hF (F121) _ (c123 + 1) a124 (by simp only [sp_te, sp_b, sp_f, cond_true, cond_false, e110, e120, e125]) x137 (by omega) (by omega) (by omega)⟩)
      ·
        have g135 := hok _ _ e132
        unfold sp_le at g135
        try dsimp only at g135
        have g0 := r_N l119
        try dsimp only at g0
        refine am_goX 3 (show ((pz_b (true)) = 0 → pz_S 3 none am_r211 d Q 45 [(2, .int (pz_b (true))), (0, .ref 154), (1, .int dep)] [.ref 154] h130) ∧ (¬ ((pz_b (true)) = 0) → pz_S 3 none am_r211 d Q 40 [(2, .int (pz_b (true))), (0, .ref 154), (1, .int dep)] [.ref 154] h130) from ⟨fun hz => absurd hz (by decide), fun _ => ?_⟩)
        refine am_goX 4 (show am_rc h130 154 11 ∧ 0 ≤ 8 ∧ h130.2.2.2.2 + am_al 216 ≤ 175 ∧ am_call am_cod d 216 [.ref 154, .int (Int8.ofInt 7).toInt32, .int (Int32.ofInt 0)] h130 (fun vv h' => pz_S 3 none am_r211 d Q 51 [(2, .int (pz_b (true))), (0, .ref 154), (1, .int dep)] (vv.toList ++ []) h') from ⟨Or.inl ⟨by decide, ex_154 (r_P l133)⟩, by decide, ex_lim (r_P l133) rfl, am_call.up (r_216 (w := ((Int8.ofInt (-8)).toInt32)) (s := t131) l133 (by first | omega | (dsimp only; omega)) (by decide) (by decide) ht134 (fun h138 l139 => ?_)) (by omega)⟩)
        exact am_goX 1 (show (none : Option FieldType) = none ∧ h138.2.2.2.2 = 175 ∧ _ from ⟨rfl, ex_175 (r_P l139), hS _ _ (by simp only [sp_te, sp_b, sp_f, cond_true, cond_false, e110, e120, e132]) l139 ht134⟩)
    | false =>
      rw [e120] at l119
      replace l119 : rr h0 0 τ N t109 h118 := l119
      refine am_goX 1 (show (¬ (pz_b (false)) = 0 → pz_S 3 none am_r211 d Q 30 [(2, .int (pz_b (false))), (0, .ref 154), (1, .int dep)] [] h118) ∧ (¬ ¬ (pz_b (false)) = 0 → pz_S 3 none am_r211 d Q 21 [(2, .int (pz_b (false))), (0, .ref 154), (1, .int dep)] [] h118) from ⟨fun hz => absurd hz (by decide), fun _ => ?_⟩)
      refine am_goX 3 (show am_rc h118 154 11 ∧ 0 ≤ 8 ∧ h118.2.2.2.2 + am_al 217 ≤ 175 ∧ am_call am_cod d 217 [.ref 154, .int (Int8.ofInt 61).toInt32] h118 (fun vv h' => pz_S 3 none am_r211 d Q 27 [(2, .int (pz_b (false))), (0, .ref 154), (1, .int dep)] (vv.toList ++ []) h') from ⟨Or.inl ⟨by decide, ex_154 (r_P l119)⟩, by decide, ex_lim (r_P l119) rfl, am_call.up (r_217 (s := t109) l119 (fun h140 l141 => ?_)) (by omega)⟩)
      cases e142 : sp_s τ t109.1 (Int8.ofInt 61).toInt32 with
      | true =>
        rw [e142] at l141
        replace l141 : rr h0 0 τ N (t109.1 + 1, t109.2) h140 := l141
        refine am_goX 1 (show ((pz_b (true)) = 0 → pz_S 3 none am_r211 d Q 51 [(2, .int (pz_b (false))), (0, .ref 154), (1, .int dep)] [] h140) ∧ (¬ ((pz_b (true)) = 0) → pz_S 3 none am_r211 d Q 30 [(2, .int (pz_b (false))), (0, .ref 154), (1, .int dep)] [] h140) from ⟨fun hz => absurd hz (by decide), fun _ => ?_⟩)
        refine am_goX 3 (show am_rc h140 154 11 ∧ 0 ≤ 8 ∧ h140.2.2.2.2 + am_al 212 ≤ 175 ∧ am_call am_cod d 212 [.ref 154, .int dep] h140 (fun vv h' => pz_S 3 none am_r211 d Q 35 [(2, .int (pz_b (false))), (0, .ref 154), (1, .int dep)] (vv.toList ++ []) h') from ⟨Or.inl ⟨by decide, ex_154 (r_P l141)⟩, by decide, ex_lim (r_P l141) rfl, ks (t109.1 + 1, t109.2) _ _ l141 ht112 (fun F143 h144 c145 a146 e147 x148 b149 b150 b151 => ?_) (fun h152 t153 e154 l155 ht156 => ?_)⟩)
        ·
          try dsimp only at b149 b151
          have g0 := r_N l141
          try dsimp only at g0
          refine am_goX 3 (show ((pz_b (false)) = 0 → pz_S 3 none am_r211 d Q 45 [(2, .int (pz_b (false))), (0, .ref 154), (1, .int dep)] [.ref 154] h144) ∧ (¬ ((pz_b (false)) = 0) → pz_S 3 none am_r211 d Q 40 [(2, .int (pz_b (false))), (0, .ref 154), (1, .int dep)] [.ref 154] h144) from ⟨fun _ => ?_, fun hz => absurd (by decide) hz⟩)
          refine am_goX 3 (show am_rc h144 154 11 ∧ 0 ≤ 8 ∧ h144.2.2.2.2 + am_al 216 ≤ 175 ∧ am_call am_cod d 216 [.ref 154, .int (Int8.ofInt 8).toInt32, .int (Int32.ofInt 0)] h144 (fun vv h' => pz_S 3 none am_r211 d Q 51 [(2, .int (pz_b (false))), (0, .ref 154), (1, .int dep)] (vv.toList ++ []) h') from ⟨Or.inl ⟨by decide, ex_154 x148.1⟩, by decide, ex_lim x148.1 rfl, am_call.up (d_216 (by omega) x148 (fun h158 x159 => ?_)) (by omega)⟩)
          exact am_goX 1 (show (none : Option FieldType) = none ∧ h158.2.2.2.2 = 175 ∧ _ from ⟨rfl, ex_175 x159.1, hF (F143) _ (c145 + 1) a146 (by simp only [sp_te, sp_b, sp_f, cond_true, cond_false, e110, e120, e142, e147]) x159 (by omega) (by omega) (by omega)⟩)
        ·
          have g157 := hok _ _ e154
          unfold sp_le at g157
          try dsimp only at g157
          have g0 := r_N l141
          try dsimp only at g0
          refine am_goX 3 (show ((pz_b (false)) = 0 → pz_S 3 none am_r211 d Q 45 [(2, .int (pz_b (false))), (0, .ref 154), (1, .int dep)] [.ref 154] h152) ∧ (¬ ((pz_b (false)) = 0) → pz_S 3 none am_r211 d Q 40 [(2, .int (pz_b (false))), (0, .ref 154), (1, .int dep)] [.ref 154] h152) from ⟨fun _ => ?_, fun hz => absurd (by decide) hz⟩)
          refine am_goX 3 (show am_rc h152 154 11 ∧ 0 ≤ 8 ∧ h152.2.2.2.2 + am_al 216 ≤ 175 ∧ am_call am_cod d 216 [.ref 154, .int (Int8.ofInt 8).toInt32, .int (Int32.ofInt 0)] h152 (fun vv h' => pz_S 3 none am_r211 d Q 51 [(2, .int (pz_b (false))), (0, .ref 154), (1, .int dep)] (vv.toList ++ []) h') from ⟨Or.inl ⟨by decide, ex_154 (r_P l155)⟩, by decide, ex_lim (r_P l155) rfl, am_call.up (r_216 (w := ((Int8.ofInt (-9)).toInt32)) (s := t153) l155 (by first | omega | (dsimp only; omega)) (by decide) (by decide) ht156 (fun h160 l161 => ?_)) (by omega)⟩)
          exact am_goX 1 (show (none : Option FieldType) = none ∧ h160.2.2.2.2 = 175 ∧ _ from ⟨rfl, ex_175 (r_P l161), hS _ _ (by simp only [sp_te, sp_b, sp_f, cond_true, cond_false, e110, e120, e142, e154]) l161 ht156⟩)
      | false =>
        rw [e142] at l141
        replace l141 : rr h0 0 τ N t109 h140 := l141
        refine am_goX 1 (show ((pz_b (false)) = 0 → pz_S 3 none am_r211 d Q 51 [(2, .int (pz_b (false))), (0, .ref 154), (1, .int dep)] [] h140) ∧ (¬ ((pz_b (false)) = 0) → pz_S 3 none am_r211 d Q 30 [(2, .int (pz_b (false))), (0, .ref 154), (1, .int dep)] [] h140) from ⟨fun _ => ?_, fun hz => absurd (by decide) hz⟩)
        exact am_goX 1 (show (none : Option FieldType) = none ∧ h140.2.2.2.2 = 175 ∧ _ from ⟨rfl, ex_175 (r_P l141), hS _ _ (by simp only [sp_te, sp_b, sp_f, cond_true, cond_false, e110, e120, e142]) l141 ht112⟩)
theorem r_210l (hd : 2 ≤ d) (ks : lw_r h0 τ N d 211 dep (sp_te τ p)) (hok : sp_ok (sp_te τ p)) : ∀ (m : Nat) (s : sp_S) (h : am_H) (Q : am_Q), N < s.1 + m → rr h0 0 τ N s h → s.2.2.2.2.1 = true → (∀ (F : Int32) (h1 : am_H) (c' a' : Nat), sp_wL τ p m s = .inl F → rx h0 F c' h1 → s.1 ≤ a' → a' ≤ N → c' + s.1 ≤ s.2.2.2.2.2.1 + a' → Q none h1) → (∀ (h1 : am_H) (t : sp_S), sp_wL τ p m s = .inr t → rr h0 0 τ N t h1 → t.2.2.2.2.1 = true → Q none h1) → pz_S 3 none am_r210 d Q 5 [(0, .ref 154), (1, .int dep)] [] h := by
  intro m
  induction m with
  | zero =>
    intro s h Q hm l ht hF hS
    have := (r_N l).1
    omega
  | succ m ih =>
    intro s h Q hm l ht hF hS
    have hP := r_P l
    have gl := r_N l
    refine am_goX 3 (show am_rc h 154 11 ∧ 0 ≤ 8 ∧ h.2.2.2.2 + am_al 195 ≤ 175 ∧ am_call am_cod d 195 [.ref 154, .int (Int8.ofInt 15).toInt32] h (fun vv h' => pz_S 3 none am_r210 d Q 11 [(0, .ref 154), (1, .int dep)] (vv.toList ++ []) h') from ⟨Or.inl ⟨by decide, ex_154 (r_P l)⟩, by decide, ex_lim (r_P l) rfl, am_call.up (r_195 (w := 15) (W := 1891) (by decide) (by decide) (by decide) l ?_) (by omega)⟩)
    cases e162 : sp_w τ s.1 1891 with
    | true =>
      refine am_goX 1 (show (¬ (pz_b (true)) = 0 → pz_S 3 none am_r210 d Q 23 [(0, .ref 154), (1, .int dep)] [] h) ∧ (¬ ¬ (pz_b (true)) = 0 → pz_S 3 none am_r210 d Q 14 [(0, .ref 154), (1, .int dep)] [] h) from ⟨fun _ => ?_, fun hz => absurd (by decide) hz⟩)
      refine am_goX 3 (show am_rc h 154 11 ∧ 0 ≤ 8 ∧ h.2.2.2.2 + am_al 195 ≤ 175 ∧ am_call am_cod d 195 [.ref 154, .int (Int8.ofInt 15).toInt32] h (fun vv h' => pz_S 3 none am_r210 d Q 29 [(0, .ref 154), (1, .int dep)] (vv.toList ++ []) h') from ⟨Or.inl ⟨by decide, ex_154 (r_P l)⟩, by decide, ex_lim (r_P l) rfl, am_call.up (r_195 (w := 15) (W := 1891) (by decide) (by decide) (by decide) l ?_) (by omega)⟩)
      rw [e162]
      refine am_goX 7 (show 2 < 3 ∧ (Value.ref 154).category = 1 ∧ am_sh h 154 = some (11, 0) ∧ am_sh h 154 = some (11, 0) ∧ narrow (am_fty 11 7) (.int (((h.1 154 7) + (Int32.ofInt 1)))) = .int (((h.1 154 7) + (Int32.ofInt 1))) ∧ fits (am_fty 11 7) (.int (((h.1 154 7) + (Int32.ofInt 1)))) = true ∧ pz_S 3 none am_r210 d Q 40 [(2, .int (pz_b (true))), (0, .ref 154), (1, .int dep)] [] (am_wI h 154 7 (((h.1 154 7) + (Int32.ofInt 1)))) from ⟨by decide, rfl, ex_154 (r_P l), ex_154 (r_P l), rfl, rfl, ?_⟩)
      rw [r_a l, xw_i1]
      have l163 : rr h0 0 τ N (s.1 + 1, s.2) (am_wI h 154 7 (nI (s.1 + 1))) := rr_nx (a := s.1) (C := s.2) l (sp_wn e162)
      refine am_goX 3 (show am_rc (am_wI h 154 7 (nI (s.1 + 1))) 154 11 ∧ 0 ≤ 8 ∧ (am_wI h 154 7 (nI (s.1 + 1))).2.2.2.2 + am_al 211 ≤ 175 ∧ am_call am_cod d 211 [.ref 154, .int dep] (am_wI h 154 7 (nI (s.1 + 1))) (fun vv h' => pz_S 3 none am_r210 d Q 45 [(2, .int (pz_b (true))), (0, .ref 154), (1, .int dep)] (vv.toList ++ []) h') from ⟨Or.inl ⟨by decide, ex_154 (r_P l163)⟩, by decide, ex_lim (r_P l163) rfl, ks (s.1 + 1, s.2) _ _ l163 ht (fun F164 h165 c166 a167 e168 x169 b170 b171 b172 => ?_) (fun h173 t174 e175 l176 ht177 => ?_)⟩)
      ·
        try dsimp only at b170 b172
        have g0 := r_N l163
        try dsimp only at g0
        refine am_goX 3 (show ((pz_b (true)) = 0 → pz_S 3 none am_r210 d Q 55 [(2, .int (pz_b (true))), (0, .ref 154), (1, .int dep)] [.ref 154] h165) ∧ (¬ ((pz_b (true)) = 0) → pz_S 3 none am_r210 d Q 50 [(2, .int (pz_b (true))), (0, .ref 154), (1, .int dep)] [.ref 154] h165) from ⟨fun hz => absurd hz (by decide), fun _ => ?_⟩)
        refine am_goX 4 (show am_rc h165 154 11 ∧ 0 ≤ 8 ∧ h165.2.2.2.2 + am_al 216 ≤ 175 ∧ am_call am_cod d 216 [.ref 154, .int (Int8.ofInt 9).toInt32, .int (Int32.ofInt 0)] h165 (fun vv h' => pz_S 3 none am_r210 d Q 61 [(2, .int (pz_b (true))), (0, .ref 154), (1, .int dep)] (vv.toList ++ []) h') from ⟨Or.inl ⟨by decide, ex_154 x169.1⟩, by decide, ex_lim x169.1 rfl, am_call.up (d_216 (by omega) x169 (fun h179 x180 => ?_)) (by omega)⟩)
        refine am_goX 4 (show am_rc h179 154 11 ∧ 0 ≤ 8 ∧ h179.2.2.2.2 + am_al 195 ≤ 175 ∧ am_call am_cod d 195 [.ref 154, .int (Int8.ofInt 15).toInt32] h179 (fun vv h' => pz_S 3 none am_r210 d Q 11 [(2, .int (pz_b (true))), (0, .ref 154), (1, .int dep)] (vv.toList ++ []) h') from ⟨Or.inl ⟨by decide, ex_154 x180.1⟩, by decide, ex_lim x180.1 rfl, am_call.up (d_195 x180 ?_) (by omega)⟩)
        refine am_goX 1 (show (¬ 0 = 0 → pz_S 3 none am_r210 d Q 23 [(2, .int (pz_b (true))), (0, .ref 154), (1, .int dep)] [] h179) ∧ (¬ ¬ 0 = 0 → pz_S 3 none am_r210 d Q 14 [(2, .int (pz_b (true))), (0, .ref 154), (1, .int dep)] [] h179) from ⟨fun hz => absurd hz (by decide), fun _ => ?_⟩)
        refine am_goX 3 (show am_rc h179 154 11 ∧ 0 ≤ 8 ∧ h179.2.2.2.2 + am_al 195 ≤ 175 ∧ am_call am_cod d 195 [.ref 154, .int (Int8.ofInt 16).toInt32] h179 (fun vv h' => pz_S 3 none am_r210 d Q 20 [(2, .int (pz_b (true))), (0, .ref 154), (1, .int dep)] (vv.toList ++ []) h') from ⟨Or.inl ⟨by decide, ex_154 x180.1⟩, by decide, ex_lim x180.1 rfl, am_call.up (d_195 x180 ?_) (by omega)⟩)
        refine am_goX 1 (show (0 = 0 → pz_S 3 none am_r210 d Q 64 [(2, .int (pz_b (true))), (0, .ref 154), (1, .int dep)] [] h179) ∧ (¬ (0 = 0) → pz_S 3 none am_r210 d Q 23 [(2, .int (pz_b (true))), (0, .ref 154), (1, .int dep)] [] h179) from ⟨fun _ => ?_, fun hz => absurd (by decide) hz⟩)
        exact am_goX 1 (show (none : Option FieldType) = none ∧ h179.2.2.2.2 = 175 ∧ _ from ⟨rfl, ex_175 x180.1, hF (F164) _ (c166 + 1) a167 (by simp only [sp_wL, sp_b, sp_f, cond_true, cond_false, e162, e168]) x180 (by omega) (by omega) (by omega)⟩)
      ·
        have g178 := hok _ _ e175
        unfold sp_le at g178
        try dsimp only at g178
        have g0 := r_N l163
        try dsimp only at g0
        refine am_goX 3 (show ((pz_b (true)) = 0 → pz_S 3 none am_r210 d Q 55 [(2, .int (pz_b (true))), (0, .ref 154), (1, .int dep)] [.ref 154] h173) ∧ (¬ ((pz_b (true)) = 0) → pz_S 3 none am_r210 d Q 50 [(2, .int (pz_b (true))), (0, .ref 154), (1, .int dep)] [.ref 154] h173) from ⟨fun hz => absurd hz (by decide), fun _ => ?_⟩)
        refine am_goX 4 (show am_rc h173 154 11 ∧ 0 ≤ 8 ∧ h173.2.2.2.2 + am_al 216 ≤ 175 ∧ am_call am_cod d 216 [.ref 154, .int (Int8.ofInt 9).toInt32, .int (Int32.ofInt 0)] h173 (fun vv h' => pz_S 3 none am_r210 d Q 61 [(2, .int (pz_b (true))), (0, .ref 154), (1, .int dep)] (vv.toList ++ []) h') from ⟨Or.inl ⟨by decide, ex_154 (r_P l176)⟩, by decide, ex_lim (r_P l176) rfl, am_call.up (r_216 (w := ((Int8.ofInt (-6)).toInt32)) (s := t174) l176 (by first | omega | (dsimp only; omega)) (by decide) (by decide) ht177 (fun h181 l182 => ?_)) (by omega)⟩)
        refine am_goX 1 (show pz_S 3 none am_r210 d Q 5 [(2, .int (pz_b (true))), (0, .ref 154), (1, .int dep)] [] h181 from ?_)
        have hx : sp_wL τ p (m + 1) s = sp_wL τ p m (t174.1, sp_em t174.2 ((Int8.ofInt (-6)).toInt32)) := by simp only [sp_wL, sp_b, cond_true, cond_false, e162, e175]
        refine sv_S (by decide +kernel) (by intro q hq; simp only [List.mem_cons, List.not_mem_nil, or_false] at hq; rcases hq with rfl | rfl <;> rfl) (ih (t174.1, sp_em t174.2 ((Int8.ofInt (-6)).toInt32)) h181 Q (by dsimp only; omega) l182 ht177 (fun F h1 c' a' e x b1 b2 b3 => hF F h1 c' a' (hx.trans e) x ?_ b2 ?_) (fun h1 t e l1 t1 => hS h1 t (hx.trans e) l1 t1))
        all_goals (unfold sp_em at b3; dsimp only at b1 b3; omega)
    | false =>
      refine am_goX 1 (show (¬ (pz_b (false)) = 0 → pz_S 3 none am_r210 d Q 23 [(0, .ref 154), (1, .int dep)] [] h) ∧ (¬ ¬ (pz_b (false)) = 0 → pz_S 3 none am_r210 d Q 14 [(0, .ref 154), (1, .int dep)] [] h) from ⟨fun hz => absurd hz (by decide), fun _ => ?_⟩)
      refine am_goX 3 (show am_rc h 154 11 ∧ 0 ≤ 8 ∧ h.2.2.2.2 + am_al 195 ≤ 175 ∧ am_call am_cod d 195 [.ref 154, .int (Int8.ofInt 16).toInt32] h (fun vv h' => pz_S 3 none am_r210 d Q 20 [(0, .ref 154), (1, .int dep)] (vv.toList ++ []) h') from ⟨Or.inl ⟨by decide, ex_154 (r_P l)⟩, by decide, ex_lim (r_P l) rfl, am_call.up (r_195 (w := 16) (W := 573) (by decide) (by decide) (by decide) l ?_) (by omega)⟩)
      cases e183 : sp_w τ s.1 573 with
      | true =>
        refine am_goX 1 (show ((pz_b (true)) = 0 → pz_S 3 none am_r210 d Q 64 [(0, .ref 154), (1, .int dep)] [] h) ∧ (¬ ((pz_b (true)) = 0) → pz_S 3 none am_r210 d Q 23 [(0, .ref 154), (1, .int dep)] [] h) from ⟨fun hz => absurd hz (by decide), fun _ => ?_⟩)
        refine am_goX 3 (show am_rc h 154 11 ∧ 0 ≤ 8 ∧ h.2.2.2.2 + am_al 195 ≤ 175 ∧ am_call am_cod d 195 [.ref 154, .int (Int8.ofInt 15).toInt32] h (fun vv h' => pz_S 3 none am_r210 d Q 29 [(0, .ref 154), (1, .int dep)] (vv.toList ++ []) h') from ⟨Or.inl ⟨by decide, ex_154 (r_P l)⟩, by decide, ex_lim (r_P l) rfl, am_call.up (r_195 (w := 15) (W := 1891) (by decide) (by decide) (by decide) l ?_) (by omega)⟩)
        rw [e162]
        refine am_goX 7 (show 2 < 3 ∧ (Value.ref 154).category = 1 ∧ am_sh h 154 = some (11, 0) ∧ am_sh h 154 = some (11, 0) ∧ narrow (am_fty 11 7) (.int (((h.1 154 7) + (Int32.ofInt 1)))) = .int (((h.1 154 7) + (Int32.ofInt 1))) ∧ fits (am_fty 11 7) (.int (((h.1 154 7) + (Int32.ofInt 1)))) = true ∧ pz_S 3 none am_r210 d Q 40 [(2, .int (pz_b (false))), (0, .ref 154), (1, .int dep)] [] (am_wI h 154 7 (((h.1 154 7) + (Int32.ofInt 1)))) from ⟨by decide, rfl, ex_154 (r_P l), ex_154 (r_P l), rfl, rfl, ?_⟩)
        rw [r_a l, xw_i1]
        have l184 : rr h0 0 τ N (s.1 + 1, s.2) (am_wI h 154 7 (nI (s.1 + 1))) := rr_nx (a := s.1) (C := s.2) l (sp_wn e183)
        refine am_goX 3 (show am_rc (am_wI h 154 7 (nI (s.1 + 1))) 154 11 ∧ 0 ≤ 8 ∧ (am_wI h 154 7 (nI (s.1 + 1))).2.2.2.2 + am_al 211 ≤ 175 ∧ am_call am_cod d 211 [.ref 154, .int dep] (am_wI h 154 7 (nI (s.1 + 1))) (fun vv h' => pz_S 3 none am_r210 d Q 45 [(2, .int (pz_b (false))), (0, .ref 154), (1, .int dep)] (vv.toList ++ []) h') from ⟨Or.inl ⟨by decide, ex_154 (r_P l184)⟩, by decide, ex_lim (r_P l184) rfl, ks (s.1 + 1, s.2) _ _ l184 ht (fun F185 h186 c187 a188 e189 x190 b191 b192 b193 => ?_) (fun h194 t195 e196 l197 ht198 => ?_)⟩)
        ·
          try dsimp only at b191 b193
          have g0 := r_N l184
          try dsimp only at g0
          refine am_goX 3 (show ((pz_b (false)) = 0 → pz_S 3 none am_r210 d Q 55 [(2, .int (pz_b (false))), (0, .ref 154), (1, .int dep)] [.ref 154] h186) ∧ (¬ ((pz_b (false)) = 0) → pz_S 3 none am_r210 d Q 50 [(2, .int (pz_b (false))), (0, .ref 154), (1, .int dep)] [.ref 154] h186) from ⟨fun _ => ?_, fun hz => absurd (by decide) hz⟩)
          refine am_goX 3 (show am_rc h186 154 11 ∧ 0 ≤ 8 ∧ h186.2.2.2.2 + am_al 216 ≤ 175 ∧ am_call am_cod d 216 [.ref 154, .int (Int8.ofInt 10).toInt32, .int (Int32.ofInt 0)] h186 (fun vv h' => pz_S 3 none am_r210 d Q 61 [(2, .int (pz_b (false))), (0, .ref 154), (1, .int dep)] (vv.toList ++ []) h') from ⟨Or.inl ⟨by decide, ex_154 x190.1⟩, by decide, ex_lim x190.1 rfl, am_call.up (d_216 (by omega) x190 (fun h200 x201 => ?_)) (by omega)⟩)
          refine am_goX 4 (show am_rc h200 154 11 ∧ 0 ≤ 8 ∧ h200.2.2.2.2 + am_al 195 ≤ 175 ∧ am_call am_cod d 195 [.ref 154, .int (Int8.ofInt 15).toInt32] h200 (fun vv h' => pz_S 3 none am_r210 d Q 11 [(2, .int (pz_b (false))), (0, .ref 154), (1, .int dep)] (vv.toList ++ []) h') from ⟨Or.inl ⟨by decide, ex_154 x201.1⟩, by decide, ex_lim x201.1 rfl, am_call.up (d_195 x201 ?_) (by omega)⟩)
          refine am_goX 1 (show (¬ 0 = 0 → pz_S 3 none am_r210 d Q 23 [(2, .int (pz_b (false))), (0, .ref 154), (1, .int dep)] [] h200) ∧ (¬ ¬ 0 = 0 → pz_S 3 none am_r210 d Q 14 [(2, .int (pz_b (false))), (0, .ref 154), (1, .int dep)] [] h200) from ⟨fun hz => absurd hz (by decide), fun _ => ?_⟩)
          refine am_goX 3 (show am_rc h200 154 11 ∧ 0 ≤ 8 ∧ h200.2.2.2.2 + am_al 195 ≤ 175 ∧ am_call am_cod d 195 [.ref 154, .int (Int8.ofInt 16).toInt32] h200 (fun vv h' => pz_S 3 none am_r210 d Q 20 [(2, .int (pz_b (false))), (0, .ref 154), (1, .int dep)] (vv.toList ++ []) h') from ⟨Or.inl ⟨by decide, ex_154 x201.1⟩, by decide, ex_lim x201.1 rfl, am_call.up (d_195 x201 ?_) (by omega)⟩)
          refine am_goX 1 (show (0 = 0 → pz_S 3 none am_r210 d Q 64 [(2, .int (pz_b (false))), (0, .ref 154), (1, .int dep)] [] h200) ∧ (¬ (0 = 0) → pz_S 3 none am_r210 d Q 23 [(2, .int (pz_b (false))), (0, .ref 154), (1, .int dep)] [] h200) from ⟨fun _ => ?_, fun hz => absurd (by decide) hz⟩)
          exact am_goX 1 (show (none : Option FieldType) = none ∧ h200.2.2.2.2 = 175 ∧ _ from ⟨rfl, ex_175 x201.1, hF (F185) _ (c187 + 1) a188 (by simp only [sp_wL, sp_b, sp_f, cond_true, cond_false, e162, e183, e189]) x201 (by omega) (by omega) (by omega)⟩)
        ·
          have g199 := hok _ _ e196
          unfold sp_le at g199
          try dsimp only at g199
          have g0 := r_N l184
          try dsimp only at g0
          refine am_goX 3 (show ((pz_b (false)) = 0 → pz_S 3 none am_r210 d Q 55 [(2, .int (pz_b (false))), (0, .ref 154), (1, .int dep)] [.ref 154] h194) ∧ (¬ ((pz_b (false)) = 0) → pz_S 3 none am_r210 d Q 50 [(2, .int (pz_b (false))), (0, .ref 154), (1, .int dep)] [.ref 154] h194) from ⟨fun _ => ?_, fun hz => absurd (by decide) hz⟩)
          refine am_goX 3 (show am_rc h194 154 11 ∧ 0 ≤ 8 ∧ h194.2.2.2.2 + am_al 216 ≤ 175 ∧ am_call am_cod d 216 [.ref 154, .int (Int8.ofInt 10).toInt32, .int (Int32.ofInt 0)] h194 (fun vv h' => pz_S 3 none am_r210 d Q 61 [(2, .int (pz_b (false))), (0, .ref 154), (1, .int dep)] (vv.toList ++ []) h') from ⟨Or.inl ⟨by decide, ex_154 (r_P l197)⟩, by decide, ex_lim (r_P l197) rfl, am_call.up (r_216 (w := ((Int8.ofInt (-7)).toInt32)) (s := t195) l197 (by first | omega | (dsimp only; omega)) (by decide) (by decide) ht198 (fun h202 l203 => ?_)) (by omega)⟩)
          refine am_goX 1 (show pz_S 3 none am_r210 d Q 5 [(2, .int (pz_b (false))), (0, .ref 154), (1, .int dep)] [] h202 from ?_)
          have hx : sp_wL τ p (m + 1) s = sp_wL τ p m (t195.1, sp_em t195.2 ((Int8.ofInt (-7)).toInt32)) := by simp only [sp_wL, sp_b, cond_true, cond_false, e162, e183, e196]
          refine sv_S (by decide +kernel) (by intro q hq; simp only [List.mem_cons, List.not_mem_nil, or_false] at hq; rcases hq with rfl | rfl <;> rfl) (ih (t195.1, sp_em t195.2 ((Int8.ofInt (-7)).toInt32)) h202 Q (by dsimp only; omega) l203 ht198 (fun F h1 c' a' e x b1 b2 b3 => hF F h1 c' a' (hx.trans e) x ?_ b2 ?_) (fun h1 t e l1 t1 => hS h1 t (hx.trans e) l1 t1))
          all_goals (unfold sp_em at b3; dsimp only at b1 b3; omega)
      | false =>
        refine am_goX 1 (show ((pz_b (false)) = 0 → pz_S 3 none am_r210 d Q 64 [(0, .ref 154), (1, .int dep)] [] h) ∧ (¬ ((pz_b (false)) = 0) → pz_S 3 none am_r210 d Q 23 [(0, .ref 154), (1, .int dep)] [] h) from ⟨fun _ => ?_, fun hz => absurd (by decide) hz⟩)
        exact am_goX 1 (show (none : Option FieldType) = none ∧ h.2.2.2.2 = 175 ∧ _ from ⟨rfl, ex_175 (r_P l), hS _ _ (by simp only [sp_wL, sp_b, sp_f, cond_true, cond_false, e162, e183]) l ht⟩)
theorem r_210 (hd : 2 ≤ d) (ks : lw_r h0 τ N d 211 dep (sp_te τ p)) (hok : sp_ok (sp_te τ p)) : lw_r h0 τ N (d + 1) 210 dep (sp_wh τ p) := by
  intro s h Q l ht hF hS
  have hP := r_P l
  have gl := r_N l
  refine pz_call (n := 210) (nL := 3) (rt := none) (rows := am_r210) (d := d) (by decide +kernel) (by decide +kernel) rfl (by funext pc; rfl) (ex_175 hP) (by exact Nat.le_of_ble_eq_true rfl) ?_
  refine am_goX 3 (show am_rc h 154 11 ∧ 0 ≤ 8 ∧ h.2.2.2.2 + am_al 211 ≤ 175 ∧ am_call am_cod d 211 [.ref 154, .int dep] h (fun vv h' => pz_S 3 none am_r210 d Q 5 [(0, .ref 154), (1, .int dep)] (vv.toList ++ []) h') from ⟨Or.inl ⟨by decide, ex_154 (r_P l)⟩, by decide, ex_lim (r_P l) rfl, ks s _ _ l ht (fun F204 h205 c206 a207 e208 x209 b210 b211 b212 => ?_) (fun h213 t214 e215 l216 ht217 => ?_)⟩)
  ·
    try dsimp only at b210 b212
    have g0 := r_N l
    try dsimp only at g0
    refine am_goX 3 (show am_rc h205 154 11 ∧ 0 ≤ 8 ∧ h205.2.2.2.2 + am_al 195 ≤ 175 ∧ am_call am_cod d 195 [.ref 154, .int (Int8.ofInt 15).toInt32] h205 (fun vv h' => pz_S 3 none am_r210 d Q 11 [(0, .ref 154), (1, .int dep)] (vv.toList ++ []) h') from ⟨Or.inl ⟨by decide, ex_154 x209.1⟩, by decide, ex_lim x209.1 rfl, am_call.up (d_195 x209 ?_) (by omega)⟩)
    refine am_goX 1 (show (¬ 0 = 0 → pz_S 3 none am_r210 d Q 23 [(0, .ref 154), (1, .int dep)] [] h205) ∧ (¬ ¬ 0 = 0 → pz_S 3 none am_r210 d Q 14 [(0, .ref 154), (1, .int dep)] [] h205) from ⟨fun hz => absurd hz (by decide), fun _ => ?_⟩)
    refine am_goX 3 (show am_rc h205 154 11 ∧ 0 ≤ 8 ∧ h205.2.2.2.2 + am_al 195 ≤ 175 ∧ am_call am_cod d 195 [.ref 154, .int (Int8.ofInt 16).toInt32] h205 (fun vv h' => pz_S 3 none am_r210 d Q 20 [(0, .ref 154), (1, .int dep)] (vv.toList ++ []) h') from ⟨Or.inl ⟨by decide, ex_154 x209.1⟩, by decide, ex_lim x209.1 rfl, am_call.up (d_195 x209 ?_) (by omega)⟩)
    refine am_goX 1 (show (0 = 0 → pz_S 3 none am_r210 d Q 64 [(0, .ref 154), (1, .int dep)] [] h205) ∧ (¬ (0 = 0) → pz_S 3 none am_r210 d Q 23 [(0, .ref 154), (1, .int dep)] [] h205) from ⟨fun _ => ?_, fun hz => absurd (by decide) hz⟩)
    exact am_goX 1 (show (none : Option FieldType) = none ∧ h205.2.2.2.2 = 175 ∧ _ from ⟨rfl, ex_175 x209.1, hF (F204) _ (c206) a207 (by simp only [sp_wh, sp_b, sp_f, cond_true, cond_false, e208]) x209 (by omega) (by omega) (by omega)⟩)
  ·
    have g218 := hok _ _ e215
    unfold sp_le at g218
    try dsimp only at g218
    have g0 := r_N l
    try dsimp only at g0
    have hx : sp_wh τ p s = sp_wL τ p 1001 t214 := by simp only [sp_wh, sp_b, e215]
    refine r_210l hd ks hok 1001 t214 h213 Q (by omega) l216 ht217 (fun F h1 c' a' e x b1 b2 b3 => hF F h1 c' a' (hx.trans e) x ?_ b2 ?_) (fun h1 t e l1 t1 => hS h1 t (hx.trans e) l1 t1)
    all_goals omega
theorem r_214z {r : Nat} (hd : 2 ≤ d) (hdp : dep = Int32.ofInt 5) : lw_r h0 τ N (d + 1) 214 dep (sp_pt τ 0) := by
  intro s h Q l ht hF hS
  have hP := r_P l
  have gl := r_N l
  refine pz_call (n := 214) (nL := 4) (rt := none) (rows := am_r214) (d := d) (by decide +kernel) (by decide +kernel) rfl (by funext pc; rfl) (ex_175 hP) (by exact Nat.le_of_ble_eq_true rfl) ?_
  refine am_goX 2 (show am_sh h 154 = some (11, 0) ∧ pz_S 4 none am_r214 d Q 4 [(0, .ref 154), (1, .int dep)] [.int (h.1 154 8)] h from ⟨ex_154 (r_P l), ?_⟩)
  rw [r_f l]
  refine am_goX 1 (show (0 ≤ 0 → pz_S 4 none am_r214 d Q 8 [(0, .ref 154), (1, .int dep)] [] h) ∧ (¬ (0 ≤ 0) → pz_S 4 none am_r214 d Q 7 [(0, .ref 154), (1, .int dep)] [] h) from ⟨fun _ => ?_, fun hz => absurd (by decide) hz⟩)
  refine am_goX 2 (show am_sh h 154 = some (11, 0) ∧ pz_S 4 none am_r214 d Q 12 [(0, .ref 154), (1, .int dep)] [am_rf (h.2.2.1 154 4)] h from ⟨ex_154 (r_P l), ?_⟩)
  rw [ex_r154_4 (h := h) (r_P l)]
  refine am_goX 3 (show am_sh h 154 = some (11, 0) ∧ ∃ jj nn : Nat, am_sh h 156 = some (13, nn) ∧ jj < nn ∧ (h.1 154 7) = nI jj ∧ pz_S 4 none am_r214 d Q 17 [(0, .ref 154), (1, .int dep)] [.int (h.1 156 jj)] h from ⟨ex_154 (r_P l), s.1, 1002, ex_156 (r_P l), (by have := r_N l; first | omega | (dsimp only at this; omega) | (dsimp only at this ⊢; omega)), r_a l, ?_⟩)
  rw [r_k l]
  refine am_goX 1 (show pz_S 4 none am_r214 d Q 18 [(0, .ref 154), (1, .int dep)] [.int (Int32.ofInt 2), .int (τ s.1).1] h from ?_)
  cases e219 : sp_k τ s.1 2 with
  | true =>
    refine am_goX 1 (show (¬ (τ s.1).1 = (Int32.ofInt 2) → pz_S 4 none am_r214 d Q 25 [(0, .ref 154), (1, .int dep)] [] h) ∧ (¬ ¬ (τ s.1).1 = (Int32.ofInt 2) → pz_S 4 none am_r214 d Q 21 [(0, .ref 154), (1, .int dep)] [] h) from ⟨fun hz => absurd hz (fun w => w (sp_kt e219)), fun _ => ?_⟩)
    refine am_goX 7 (show 2 < 4 ∧ am_rc h 154 11 ∧ 0 ≤ 8 ∧ h.2.2.2.2 + am_al 199 ≤ 175 ∧ am_call am_cod d 199 [.ref 154, .int (Int8.ofInt 17).toInt32, .int (Int32.ofInt 4)] h (fun vv h' => pz_S 4 none am_r214 d Q 34 [(2, .int (Int32.ofInt 1)), (0, .ref 154), (1, .int dep)] (vv.toList ++ []) h') from ⟨by decide, Or.inl ⟨by decide, ex_154 (r_P l)⟩, by decide, ex_lim (r_P l) rfl, am_call.up (r_199 (f := 17) (M := 4) (by decide) (by decide) (by decide) l ?_) (by omega)⟩)
    have e1 := sp_12 (j := 1) e219 (by decide)
    have e3s := sp_12 (j := 3) e219 (by decide)
    rw [wq_2 (by decide) e1]
    have e3 : decide (sp_fa τ s.1 = 0) = true := decide_eq_true (fa_n e1)
    have e5 : sp_w τ s.1 19741 = false := sp_w_n e1
    have e6 : sp_s τ s.1 (Int8.ofInt 40).toInt32 = false := sp_s_n e3s
    refine am_goX 3 (show 3 < 4 ∧ (0 ≤ (Int32.ofInt (-1)) → pz_S 4 none am_r214 d Q 69 [(3, .int (Int32.ofInt (-1))), (2, .int (Int32.ofInt 1)), (0, .ref 154), (1, .int dep)] [] h) ∧ (¬ (0 ≤ (Int32.ofInt (-1))) → pz_S 4 none am_r214 d Q 39 [(3, .int (Int32.ofInt (-1))), (2, .int (Int32.ofInt 1)), (0, .ref 154), (1, .int dep)] [] h) from ⟨by decide, fun hz => absurd hz (by decide), fun _ => ?_⟩)
    refine am_goX 2 (show (¬ (Int32.ofInt 1) = 0 → pz_S 4 none am_r214 d Q 69 [(3, .int (Int32.ofInt (-1))), (2, .int (Int32.ofInt 1)), (0, .ref 154), (1, .int dep)] [] h) ∧ (¬ ¬ (Int32.ofInt 1) = 0 → pz_S 4 none am_r214 d Q 43 [(3, .int (Int32.ofInt (-1))), (2, .int (Int32.ofInt 1)), (0, .ref 154), (1, .int dep)] [] h) from ⟨fun _ => ?_, fun hz => absurd (by decide) hz⟩)
    refine am_goX 3 (show (¬ dep = (Int32.ofInt 5) → pz_S 4 none am_r214 d Q 79 [(3, .int (Int32.ofInt (-1))), (2, .int (Int32.ofInt 1)), (0, .ref 154), (1, .int dep)] [] h) ∧ (¬ ¬ dep = (Int32.ofInt 5) → pz_S 4 none am_r214 d Q 74 [(3, .int (Int32.ofInt (-1))), (2, .int (Int32.ofInt 1)), (0, .ref 154), (1, .int dep)] [] h) from ⟨fun hz => absurd hz (fun w => w hdp), fun _ => ?_⟩)
    refine am_goX 3 (show am_rc h 154 11 ∧ 0 ≤ 8 ∧ h.2.2.2.2 + am_al 197 ≤ 175 ∧ am_call am_cod d 197 [.ref 154, .int (Int32.ofInt 5)] h (fun vv h' => pz_S 4 none am_r214 d Q 79 [(3, .int (Int32.ofInt (-1))), (2, .int (Int32.ofInt 1)), (0, .ref 154), (1, .int dep)] (vv.toList ++ []) h') from ⟨Or.inl ⟨by decide, ex_154 (r_P l)⟩, by decide, ex_lim (r_P l) rfl, am_call.up (r_197 l ?_) (by omega)⟩)
    have x220 : rx h0 (sp_ft τ s.1 (Int32.ofInt 5)) (s.2.2.2.2.2.1 + 0) (am_wI h 154 8 (sp_ft τ s.1 (Int32.ofInt 5))) := rr_x (s := s) l (by decide)
    refine am_goX 2 (show am_sh (am_wI h 154 8 (sp_ft τ s.1 (Int32.ofInt 5))) 154 = some (11, 0) ∧ pz_S 4 none am_r214 d Q 83 [(3, .int (Int32.ofInt (-1))), (2, .int (Int32.ofInt 1)), (0, .ref 154), (1, .int dep)] [.int ((am_wI h 154 8 (sp_ft τ s.1 (Int32.ofInt 5))).1 154 8)] (am_wI h 154 8 (sp_ft τ s.1 (Int32.ofInt 5))) from ⟨ex_154 x220.1, ?_⟩)
    rw [x220.2.1.1]
    refine am_goX 1 (show ((sp_ft τ s.1 (Int32.ofInt 5)) ≤ 0 → pz_S 4 none am_r214 d Q 87 [(3, .int (Int32.ofInt (-1))), (2, .int (Int32.ofInt 1)), (0, .ref 154), (1, .int dep)] [] (am_wI h 154 8 (sp_ft τ s.1 (Int32.ofInt 5)))) ∧ (¬ ((sp_ft τ s.1 (Int32.ofInt 5)) ≤ 0) → pz_S 4 none am_r214 d Q 86 [(3, .int (Int32.ofInt (-1))), (2, .int (Int32.ofInt 1)), (0, .ref 154), (1, .int dep)] [] (am_wI h 154 8 (sp_ft τ s.1 (Int32.ofInt 5)))) from ⟨fun hz => absurd hz (rx_le x220), fun _ => ?_⟩)
    exact am_goX 1 (show (none : Option FieldType) = none ∧ (am_wI h 154 8 (sp_ft τ s.1 (Int32.ofInt 5))).2.2.2.2 = 175 ∧ _ from ⟨rfl, ex_175 x220.1, hF (sp_ft τ s.1 (Int32.ofInt 5)) _ (s.2.2.2.2.2.1 + 0) s.1 (by simp only [sp_pt, sp_b, sp_f, cond_true, cond_false, e219, e3, e5, e6, Bool.and_true, Bool.and_false, Bool.true_and, Bool.false_and, Bool.not_true, Bool.not_false]) x220 (by omega) (by omega) (by omega)⟩)
  | false =>
    refine am_goX 1 (show (¬ (τ s.1).1 = (Int32.ofInt 2) → pz_S 4 none am_r214 d Q 25 [(0, .ref 154), (1, .int dep)] [] h) ∧ (¬ ¬ (τ s.1).1 = (Int32.ofInt 2) → pz_S 4 none am_r214 d Q 21 [(0, .ref 154), (1, .int dep)] [] h) from ⟨fun _ => ?_, fun hz => absurd (of_decide_eq_false e219) hz⟩)
    refine am_goX 6 (show 2 < 4 ∧ am_rc h 154 11 ∧ 0 ≤ 8 ∧ h.2.2.2.2 + am_al 199 ≤ 175 ∧ am_call am_cod d 199 [.ref 154, .int (Int8.ofInt 17).toInt32, .int (Int32.ofInt 4)] h (fun vv h' => pz_S 4 none am_r214 d Q 34 [(2, .int (Int32.ofInt 0)), (0, .ref 154), (1, .int dep)] (vv.toList ++ []) h') from ⟨by decide, Or.inl ⟨by decide, ex_154 (r_P l)⟩, by decide, ex_lim (r_P l) rfl, am_call.up (r_199 (f := 17) (M := 4) (by decide) (by decide) (by decide) l ?_) (by omega)⟩)
    rcases wq_v τ s.1 17 4 (by decide) with ⟨w1, w2⟩ | ⟨j, w1, w2, w3⟩
    ·
      rw [w1]
      have e3 : decide (sp_fa τ s.1 = 0) = true := decide_eq_true (fa_0 w2)
      refine am_goX 3 (show 3 < 4 ∧ (0 ≤ (Int32.ofInt (-1)) → pz_S 4 none am_r214 d Q 69 [(3, .int (Int32.ofInt (-1))), (2, .int (Int32.ofInt 0)), (0, .ref 154), (1, .int dep)] [] h) ∧ (¬ (0 ≤ (Int32.ofInt (-1))) → pz_S 4 none am_r214 d Q 39 [(3, .int (Int32.ofInt (-1))), (2, .int (Int32.ofInt 0)), (0, .ref 154), (1, .int dep)] [] h) from ⟨by decide, fun hz => absurd hz (by decide), fun _ => ?_⟩)
      refine am_goX 2 (show (¬ (Int32.ofInt 0) = 0 → pz_S 4 none am_r214 d Q 69 [(3, .int (Int32.ofInt (-1))), (2, .int (Int32.ofInt 0)), (0, .ref 154), (1, .int dep)] [] h) ∧ (¬ ¬ (Int32.ofInt 0) = 0 → pz_S 4 none am_r214 d Q 43 [(3, .int (Int32.ofInt (-1))), (2, .int (Int32.ofInt 0)), (0, .ref 154), (1, .int dep)] [] h) from ⟨fun hz => absurd hz (by decide), fun _ => ?_⟩)
      refine am_goX 3 (show am_rc h 154 11 ∧ 0 ≤ 8 ∧ h.2.2.2.2 + am_al 215 ≤ 175 ∧ am_call am_cod d 215 [.ref 154, .int (Int8.ofInt 40).toInt32] h (fun vv h' => pz_S 4 none am_r214 d Q 49 [(3, .int (Int32.ofInt (-1))), (2, .int (Int32.ofInt 0)), (0, .ref 154), (1, .int dep)] (vv.toList ++ []) h') from ⟨Or.inl ⟨by decide, ex_154 (r_P l)⟩, by decide, ex_lim (r_P l) rfl, am_call.up (r_215 l ?_) (by omega)⟩)
      cases e221 : sp_s τ s.1 (Int8.ofInt 40).toInt32 with
      | true =>
        refine am_goX 1 (show (¬ (pz_b (true)) = 0 → pz_S 4 none am_r214 d Q 69 [(3, .int (Int32.ofInt (-1))), (2, .int (Int32.ofInt 0)), (0, .ref 154), (1, .int dep)] [] h) ∧ (¬ ¬ (pz_b (true)) = 0 → pz_S 4 none am_r214 d Q 52 [(3, .int (Int32.ofInt (-1))), (2, .int (Int32.ofInt 0)), (0, .ref 154), (1, .int dep)] [] h) from ⟨fun _ => ?_, fun hz => absurd (by decide) hz⟩)
        refine am_goX 3 (show (¬ dep = (Int32.ofInt 5) → pz_S 4 none am_r214 d Q 79 [(3, .int (Int32.ofInt (-1))), (2, .int (Int32.ofInt 0)), (0, .ref 154), (1, .int dep)] [] h) ∧ (¬ ¬ dep = (Int32.ofInt 5) → pz_S 4 none am_r214 d Q 74 [(3, .int (Int32.ofInt (-1))), (2, .int (Int32.ofInt 0)), (0, .ref 154), (1, .int dep)] [] h) from ⟨fun hz => absurd hz (fun w => w hdp), fun _ => ?_⟩)
        refine am_goX 3 (show am_rc h 154 11 ∧ 0 ≤ 8 ∧ h.2.2.2.2 + am_al 197 ≤ 175 ∧ am_call am_cod d 197 [.ref 154, .int (Int32.ofInt 5)] h (fun vv h' => pz_S 4 none am_r214 d Q 79 [(3, .int (Int32.ofInt (-1))), (2, .int (Int32.ofInt 0)), (0, .ref 154), (1, .int dep)] (vv.toList ++ []) h') from ⟨Or.inl ⟨by decide, ex_154 (r_P l)⟩, by decide, ex_lim (r_P l) rfl, am_call.up (r_197 l ?_) (by omega)⟩)
        have x222 : rx h0 (sp_ft τ s.1 (Int32.ofInt 5)) (s.2.2.2.2.2.1 + 0) (am_wI h 154 8 (sp_ft τ s.1 (Int32.ofInt 5))) := rr_x (s := s) l (by decide)
        refine am_goX 2 (show am_sh (am_wI h 154 8 (sp_ft τ s.1 (Int32.ofInt 5))) 154 = some (11, 0) ∧ pz_S 4 none am_r214 d Q 83 [(3, .int (Int32.ofInt (-1))), (2, .int (Int32.ofInt 0)), (0, .ref 154), (1, .int dep)] [.int ((am_wI h 154 8 (sp_ft τ s.1 (Int32.ofInt 5))).1 154 8)] (am_wI h 154 8 (sp_ft τ s.1 (Int32.ofInt 5))) from ⟨ex_154 x222.1, ?_⟩)
        rw [x222.2.1.1]
        refine am_goX 1 (show ((sp_ft τ s.1 (Int32.ofInt 5)) ≤ 0 → pz_S 4 none am_r214 d Q 87 [(3, .int (Int32.ofInt (-1))), (2, .int (Int32.ofInt 0)), (0, .ref 154), (1, .int dep)] [] (am_wI h 154 8 (sp_ft τ s.1 (Int32.ofInt 5)))) ∧ (¬ ((sp_ft τ s.1 (Int32.ofInt 5)) ≤ 0) → pz_S 4 none am_r214 d Q 86 [(3, .int (Int32.ofInt (-1))), (2, .int (Int32.ofInt 0)), (0, .ref 154), (1, .int dep)] [] (am_wI h 154 8 (sp_ft τ s.1 (Int32.ofInt 5)))) from ⟨fun hz => absurd hz (rx_le x222), fun _ => ?_⟩)
        exact am_goX 1 (show (none : Option FieldType) = none ∧ (am_wI h 154 8 (sp_ft τ s.1 (Int32.ofInt 5))).2.2.2.2 = 175 ∧ _ from ⟨rfl, ex_175 x222.1, hF (sp_ft τ s.1 (Int32.ofInt 5)) _ (s.2.2.2.2.2.1 + 0) s.1 (by simp only [sp_pt, sp_b, sp_f, cond_true, cond_false, e219, e3, e221, Bool.and_true, Bool.and_false, Bool.true_and, Bool.false_and, Bool.not_true, Bool.not_false]) x222 (by omega) (by omega) (by omega)⟩)
      | false =>
        refine am_goX 1 (show (¬ (pz_b (false)) = 0 → pz_S 4 none am_r214 d Q 69 [(3, .int (Int32.ofInt (-1))), (2, .int (Int32.ofInt 0)), (0, .ref 154), (1, .int dep)] [] h) ∧ (¬ ¬ (pz_b (false)) = 0 → pz_S 4 none am_r214 d Q 52 [(3, .int (Int32.ofInt (-1))), (2, .int (Int32.ofInt 0)), (0, .ref 154), (1, .int dep)] [] h) from ⟨fun hz => absurd hz (by decide), fun _ => ?_⟩)
        refine am_goX 3 (show am_rc h 154 11 ∧ 0 ≤ 8 ∧ h.2.2.2.2 + am_al 195 ≤ 175 ∧ am_call am_cod d 195 [.ref 154, .int (Int8.ofInt 14).toInt32] h (fun vv h' => pz_S 4 none am_r214 d Q 58 [(3, .int (Int32.ofInt (-1))), (2, .int (Int32.ofInt 0)), (0, .ref 154), (1, .int dep)] (vv.toList ++ []) h') from ⟨Or.inl ⟨by decide, ex_154 (r_P l)⟩, by decide, ex_lim (r_P l) rfl, am_call.up (r_195 (w := 14) (W := 19741) (by decide) (by decide) (by decide) l ?_) (by omega)⟩)
        cases e223 : sp_w τ s.1 19741 with
        | true =>
          refine am_goX 1 (show (¬ (pz_b (true)) = 0 → pz_S 4 none am_r214 d Q 69 [(3, .int (Int32.ofInt (-1))), (2, .int (Int32.ofInt 0)), (0, .ref 154), (1, .int dep)] [] h) ∧ (¬ ¬ (pz_b (true)) = 0 → pz_S 4 none am_r214 d Q 61 [(3, .int (Int32.ofInt (-1))), (2, .int (Int32.ofInt 0)), (0, .ref 154), (1, .int dep)] [] h) from ⟨fun _ => ?_, fun hz => absurd (by decide) hz⟩)
          refine am_goX 3 (show (¬ dep = (Int32.ofInt 5) → pz_S 4 none am_r214 d Q 79 [(3, .int (Int32.ofInt (-1))), (2, .int (Int32.ofInt 0)), (0, .ref 154), (1, .int dep)] [] h) ∧ (¬ ¬ dep = (Int32.ofInt 5) → pz_S 4 none am_r214 d Q 74 [(3, .int (Int32.ofInt (-1))), (2, .int (Int32.ofInt 0)), (0, .ref 154), (1, .int dep)] [] h) from ⟨fun hz => absurd hz (fun w => w hdp), fun _ => ?_⟩)
          refine am_goX 3 (show am_rc h 154 11 ∧ 0 ≤ 8 ∧ h.2.2.2.2 + am_al 197 ≤ 175 ∧ am_call am_cod d 197 [.ref 154, .int (Int32.ofInt 5)] h (fun vv h' => pz_S 4 none am_r214 d Q 79 [(3, .int (Int32.ofInt (-1))), (2, .int (Int32.ofInt 0)), (0, .ref 154), (1, .int dep)] (vv.toList ++ []) h') from ⟨Or.inl ⟨by decide, ex_154 (r_P l)⟩, by decide, ex_lim (r_P l) rfl, am_call.up (r_197 l ?_) (by omega)⟩)
          have x224 : rx h0 (sp_ft τ s.1 (Int32.ofInt 5)) (s.2.2.2.2.2.1 + 0) (am_wI h 154 8 (sp_ft τ s.1 (Int32.ofInt 5))) := rr_x (s := s) l (by decide)
          refine am_goX 2 (show am_sh (am_wI h 154 8 (sp_ft τ s.1 (Int32.ofInt 5))) 154 = some (11, 0) ∧ pz_S 4 none am_r214 d Q 83 [(3, .int (Int32.ofInt (-1))), (2, .int (Int32.ofInt 0)), (0, .ref 154), (1, .int dep)] [.int ((am_wI h 154 8 (sp_ft τ s.1 (Int32.ofInt 5))).1 154 8)] (am_wI h 154 8 (sp_ft τ s.1 (Int32.ofInt 5))) from ⟨ex_154 x224.1, ?_⟩)
          rw [x224.2.1.1]
          refine am_goX 1 (show ((sp_ft τ s.1 (Int32.ofInt 5)) ≤ 0 → pz_S 4 none am_r214 d Q 87 [(3, .int (Int32.ofInt (-1))), (2, .int (Int32.ofInt 0)), (0, .ref 154), (1, .int dep)] [] (am_wI h 154 8 (sp_ft τ s.1 (Int32.ofInt 5)))) ∧ (¬ ((sp_ft τ s.1 (Int32.ofInt 5)) ≤ 0) → pz_S 4 none am_r214 d Q 86 [(3, .int (Int32.ofInt (-1))), (2, .int (Int32.ofInt 0)), (0, .ref 154), (1, .int dep)] [] (am_wI h 154 8 (sp_ft τ s.1 (Int32.ofInt 5)))) from ⟨fun hz => absurd hz (rx_le x224), fun _ => ?_⟩)
          exact am_goX 1 (show (none : Option FieldType) = none ∧ (am_wI h 154 8 (sp_ft τ s.1 (Int32.ofInt 5))).2.2.2.2 = 175 ∧ _ from ⟨rfl, ex_175 x224.1, hF (sp_ft τ s.1 (Int32.ofInt 5)) _ (s.2.2.2.2.2.1 + 0) s.1 (by simp only [sp_pt, sp_b, sp_f, cond_true, cond_false, e219, e3, e221, e223, Bool.and_true, Bool.and_false, Bool.true_and, Bool.false_and, Bool.not_true, Bool.not_false]) x224 (by omega) (by omega) (by omega)⟩)
        | false =>
          refine am_goX 1 (show (¬ (pz_b (false)) = 0 → pz_S 4 none am_r214 d Q 69 [(3, .int (Int32.ofInt (-1))), (2, .int (Int32.ofInt 0)), (0, .ref 154), (1, .int dep)] [] h) ∧ (¬ ¬ (pz_b (false)) = 0 → pz_S 4 none am_r214 d Q 61 [(3, .int (Int32.ofInt (-1))), (2, .int (Int32.ofInt 0)), (0, .ref 154), (1, .int dep)] [] h) from ⟨fun hz => absurd hz (by decide), fun _ => ?_⟩)
          refine am_goX 3 (show am_rc h 154 11 ∧ 0 ≤ 8 ∧ h.2.2.2.2 + am_al 197 ≤ 175 ∧ am_call am_cod d 197 [.ref 154, .int (Int32.ofInt 1)] h (fun vv h' => pz_S 4 none am_r214 d Q 66 [(3, .int (Int32.ofInt (-1))), (2, .int (Int32.ofInt 0)), (0, .ref 154), (1, .int dep)] (vv.toList ++ []) h') from ⟨Or.inl ⟨by decide, ex_154 (r_P l)⟩, by decide, ex_lim (r_P l) rfl, am_call.up (r_197 l ?_) (by omega)⟩)
          have x225 : rx h0 (sp_ft τ s.1 (Int32.ofInt 1)) (s.2.2.2.2.2.1 + 0) (am_wI h 154 8 (sp_ft τ s.1 (Int32.ofInt 1))) := rr_x (s := s) l (by decide)
          refine am_goX 3 (show am_sh (am_wI h 154 8 (sp_ft τ s.1 (Int32.ofInt 1))) 154 = some (11, 0) ∧ pz_S 4 none am_r214 d Q 83 [(3, .int (Int32.ofInt (-1))), (2, .int (Int32.ofInt 0)), (0, .ref 154), (1, .int dep)] [.int ((am_wI h 154 8 (sp_ft τ s.1 (Int32.ofInt 1))).1 154 8)] (am_wI h 154 8 (sp_ft τ s.1 (Int32.ofInt 1))) from ⟨ex_154 x225.1, ?_⟩)
          rw [x225.2.1.1]
          refine am_goX 1 (show ((sp_ft τ s.1 (Int32.ofInt 1)) ≤ 0 → pz_S 4 none am_r214 d Q 87 [(3, .int (Int32.ofInt (-1))), (2, .int (Int32.ofInt 0)), (0, .ref 154), (1, .int dep)] [] (am_wI h 154 8 (sp_ft τ s.1 (Int32.ofInt 1)))) ∧ (¬ ((sp_ft τ s.1 (Int32.ofInt 1)) ≤ 0) → pz_S 4 none am_r214 d Q 86 [(3, .int (Int32.ofInt (-1))), (2, .int (Int32.ofInt 0)), (0, .ref 154), (1, .int dep)] [] (am_wI h 154 8 (sp_ft τ s.1 (Int32.ofInt 1)))) from ⟨fun hz => absurd hz (rx_le x225), fun _ => ?_⟩)
          exact am_goX 1 (show (none : Option FieldType) = none ∧ (am_wI h 154 8 (sp_ft τ s.1 (Int32.ofInt 1))).2.2.2.2 = 175 ∧ _ from ⟨rfl, ex_175 x225.1, hF (sp_ft τ s.1 (Int32.ofInt 1)) _ (s.2.2.2.2.2.1 + 0) s.1 (by simp only [sp_pt, sp_b, sp_f, cond_true, cond_false, e219, e3, e221, e223, Bool.and_true, Bool.and_false, Bool.true_and, Bool.false_and, Bool.not_true, Bool.not_false]) x225 (by omega) (by omega) (by omega)⟩)
    ·
      rw [w2]
      obtain ⟨f1, f2, f3, f4, f5⟩ := fa_1 w1 w3
      have e3 : decide (sp_fa τ s.1 = 0) = false := decide_eq_false f3
      have e6 : sp_s τ s.1 (Int8.ofInt 40).toInt32 = false := sp_s_n (sp_12 (j := 3) f4 (by decide))
      refine am_goX 3 (show 3 < 4 ∧ (0 ≤ (nI j) → pz_S 4 none am_r214 d Q 69 [(3, .int (nI j)), (2, .int (Int32.ofInt 0)), (0, .ref 154), (1, .int dep)] [] h) ∧ (¬ (0 ≤ (nI j)) → pz_S 4 none am_r214 d Q 39 [(3, .int (nI j)), (2, .int (Int32.ofInt 0)), (0, .ref 154), (1, .int dep)] [] h) from ⟨by decide, fun _ => ?_, fun hz => absurd (nI_0le (by omega)) hz⟩)
      refine am_goX 3 (show (¬ dep = (Int32.ofInt 5) → pz_S 4 none am_r214 d Q 79 [(3, .int (nI j)), (2, .int (Int32.ofInt 0)), (0, .ref 154), (1, .int dep)] [] h) ∧ (¬ ¬ dep = (Int32.ofInt 5) → pz_S 4 none am_r214 d Q 74 [(3, .int (nI j)), (2, .int (Int32.ofInt 0)), (0, .ref 154), (1, .int dep)] [] h) from ⟨fun hz => absurd hz (fun w => w hdp), fun _ => ?_⟩)
      refine am_goX 3 (show am_rc h 154 11 ∧ 0 ≤ 8 ∧ h.2.2.2.2 + am_al 197 ≤ 175 ∧ am_call am_cod d 197 [.ref 154, .int (Int32.ofInt 5)] h (fun vv h' => pz_S 4 none am_r214 d Q 79 [(3, .int (nI j)), (2, .int (Int32.ofInt 0)), (0, .ref 154), (1, .int dep)] (vv.toList ++ []) h') from ⟨Or.inl ⟨by decide, ex_154 (r_P l)⟩, by decide, ex_lim (r_P l) rfl, am_call.up (r_197 l ?_) (by omega)⟩)
      have x226 : rx h0 (sp_ft τ s.1 (Int32.ofInt 5)) (s.2.2.2.2.2.1 + 0) (am_wI h 154 8 (sp_ft τ s.1 (Int32.ofInt 5))) := rr_x (s := s) l (by decide)
      refine am_goX 2 (show am_sh (am_wI h 154 8 (sp_ft τ s.1 (Int32.ofInt 5))) 154 = some (11, 0) ∧ pz_S 4 none am_r214 d Q 83 [(3, .int (nI j)), (2, .int (Int32.ofInt 0)), (0, .ref 154), (1, .int dep)] [.int ((am_wI h 154 8 (sp_ft τ s.1 (Int32.ofInt 5))).1 154 8)] (am_wI h 154 8 (sp_ft τ s.1 (Int32.ofInt 5))) from ⟨ex_154 x226.1, ?_⟩)
      rw [x226.2.1.1]
      refine am_goX 1 (show ((sp_ft τ s.1 (Int32.ofInt 5)) ≤ 0 → pz_S 4 none am_r214 d Q 87 [(3, .int (nI j)), (2, .int (Int32.ofInt 0)), (0, .ref 154), (1, .int dep)] [] (am_wI h 154 8 (sp_ft τ s.1 (Int32.ofInt 5)))) ∧ (¬ ((sp_ft τ s.1 (Int32.ofInt 5)) ≤ 0) → pz_S 4 none am_r214 d Q 86 [(3, .int (nI j)), (2, .int (Int32.ofInt 0)), (0, .ref 154), (1, .int dep)] [] (am_wI h 154 8 (sp_ft τ s.1 (Int32.ofInt 5)))) from ⟨fun hz => absurd hz (rx_le x226), fun _ => ?_⟩)
      exact am_goX 1 (show (none : Option FieldType) = none ∧ (am_wI h 154 8 (sp_ft τ s.1 (Int32.ofInt 5))).2.2.2.2 = 175 ∧ _ from ⟨rfl, ex_175 x226.1, hF (sp_ft τ s.1 (Int32.ofInt 5)) _ (s.2.2.2.2.2.1 + 0) s.1 (by simp only [sp_pt, sp_b, sp_f, cond_true, cond_false, e219, e3, f5, e6, Bool.and_true, Bool.and_false, Bool.true_and, Bool.false_and, Bool.not_true, Bool.not_false]) x226 (by omega) (by omega) (by omega)⟩)
theorem r_214s {r : Nat} (hd : 2 ≤ d) (hdp : ¬ dep = Int32.ofInt 5) (k214 : lw_r h0 τ N d 214 (dep + Int32.ofInt 1) (sp_pt τ r)) (k210 : lw_r h0 τ N d 210 (dep + Int32.ofInt 1) (sp_wh τ (sp_pt τ r))) : lw_r h0 τ N (d + 1) 214 dep (sp_pt τ (r + 1)) := by
  intro s h Q l ht hF hS
  have hP := r_P l
  have gl := r_N l
  refine pz_call (n := 214) (nL := 4) (rt := none) (rows := am_r214) (d := d) (by decide +kernel) (by decide +kernel) rfl (by funext pc; rfl) (ex_175 hP) (by exact Nat.le_of_ble_eq_true rfl) ?_
  refine am_goX 2 (show am_sh h 154 = some (11, 0) ∧ pz_S 4 none am_r214 d Q 4 [(0, .ref 154), (1, .int dep)] [.int (h.1 154 8)] h from ⟨ex_154 (r_P l), ?_⟩)
  rw [r_f l]
  refine am_goX 1 (show (0 ≤ 0 → pz_S 4 none am_r214 d Q 8 [(0, .ref 154), (1, .int dep)] [] h) ∧ (¬ (0 ≤ 0) → pz_S 4 none am_r214 d Q 7 [(0, .ref 154), (1, .int dep)] [] h) from ⟨fun _ => ?_, fun hz => absurd (by decide) hz⟩)
  refine am_goX 2 (show am_sh h 154 = some (11, 0) ∧ pz_S 4 none am_r214 d Q 12 [(0, .ref 154), (1, .int dep)] [am_rf (h.2.2.1 154 4)] h from ⟨ex_154 (r_P l), ?_⟩)
  rw [ex_r154_4 (h := h) (r_P l)]
  refine am_goX 3 (show am_sh h 154 = some (11, 0) ∧ ∃ jj nn : Nat, am_sh h 156 = some (13, nn) ∧ jj < nn ∧ (h.1 154 7) = nI jj ∧ pz_S 4 none am_r214 d Q 17 [(0, .ref 154), (1, .int dep)] [.int (h.1 156 jj)] h from ⟨ex_154 (r_P l), s.1, 1002, ex_156 (r_P l), (by have := r_N l; first | omega | (dsimp only at this; omega) | (dsimp only at this ⊢; omega)), r_a l, ?_⟩)
  rw [r_k l]
  refine am_goX 1 (show pz_S 4 none am_r214 d Q 18 [(0, .ref 154), (1, .int dep)] [.int (Int32.ofInt 2), .int (τ s.1).1] h from ?_)
  cases e227 : sp_k τ s.1 2 with
  | true =>
    refine am_goX 1 (show (¬ (τ s.1).1 = (Int32.ofInt 2) → pz_S 4 none am_r214 d Q 25 [(0, .ref 154), (1, .int dep)] [] h) ∧ (¬ ¬ (τ s.1).1 = (Int32.ofInt 2) → pz_S 4 none am_r214 d Q 21 [(0, .ref 154), (1, .int dep)] [] h) from ⟨fun hz => absurd hz (fun w => w (sp_kt e227)), fun _ => ?_⟩)
    refine am_goX 7 (show 2 < 4 ∧ am_rc h 154 11 ∧ 0 ≤ 8 ∧ h.2.2.2.2 + am_al 199 ≤ 175 ∧ am_call am_cod d 199 [.ref 154, .int (Int8.ofInt 17).toInt32, .int (Int32.ofInt 4)] h (fun vv h' => pz_S 4 none am_r214 d Q 34 [(2, .int (Int32.ofInt 1)), (0, .ref 154), (1, .int dep)] (vv.toList ++ []) h') from ⟨by decide, Or.inl ⟨by decide, ex_154 (r_P l)⟩, by decide, ex_lim (r_P l) rfl, am_call.up (r_199 (f := 17) (M := 4) (by decide) (by decide) (by decide) l ?_) (by omega)⟩)
    have e1 := sp_12 (j := 1) e227 (by decide)
    have e3s := sp_12 (j := 3) e227 (by decide)
    rw [wq_2 (by decide) e1]
    have e3 : decide (sp_fa τ s.1 = 0) = true := decide_eq_true (fa_n e1)
    have e5 : sp_w τ s.1 19741 = false := sp_w_n e1
    have e6 : sp_s τ s.1 (Int8.ofInt 40).toInt32 = false := sp_s_n e3s
    refine am_goX 3 (show 3 < 4 ∧ (0 ≤ (Int32.ofInt (-1)) → pz_S 4 none am_r214 d Q 69 [(3, .int (Int32.ofInt (-1))), (2, .int (Int32.ofInt 1)), (0, .ref 154), (1, .int dep)] [] h) ∧ (¬ (0 ≤ (Int32.ofInt (-1))) → pz_S 4 none am_r214 d Q 39 [(3, .int (Int32.ofInt (-1))), (2, .int (Int32.ofInt 1)), (0, .ref 154), (1, .int dep)] [] h) from ⟨by decide, fun hz => absurd hz (by decide), fun _ => ?_⟩)
    refine am_goX 2 (show (¬ (Int32.ofInt 1) = 0 → pz_S 4 none am_r214 d Q 69 [(3, .int (Int32.ofInt (-1))), (2, .int (Int32.ofInt 1)), (0, .ref 154), (1, .int dep)] [] h) ∧ (¬ ¬ (Int32.ofInt 1) = 0 → pz_S 4 none am_r214 d Q 43 [(3, .int (Int32.ofInt (-1))), (2, .int (Int32.ofInt 1)), (0, .ref 154), (1, .int dep)] [] h) from ⟨fun _ => ?_, fun hz => absurd (by decide) hz⟩)
    refine am_goX 3 (show (¬ dep = (Int32.ofInt 5) → pz_S 4 none am_r214 d Q 79 [(3, .int (Int32.ofInt (-1))), (2, .int (Int32.ofInt 1)), (0, .ref 154), (1, .int dep)] [] h) ∧ (¬ ¬ dep = (Int32.ofInt 5) → pz_S 4 none am_r214 d Q 74 [(3, .int (Int32.ofInt (-1))), (2, .int (Int32.ofInt 1)), (0, .ref 154), (1, .int dep)] [] h) from ⟨fun _ => ?_, fun hz => absurd hdp hz⟩)
    refine am_goX 2 (show am_sh h 154 = some (11, 0) ∧ pz_S 4 none am_r214 d Q 83 [(3, .int (Int32.ofInt (-1))), (2, .int (Int32.ofInt 1)), (0, .ref 154), (1, .int dep)] [.int (h.1 154 8)] h from ⟨ex_154 (r_P l), ?_⟩)
    rw [r_f l]
    refine am_goX 1 (show (0 ≤ 0 → pz_S 4 none am_r214 d Q 87 [(3, .int (Int32.ofInt (-1))), (2, .int (Int32.ofInt 1)), (0, .ref 154), (1, .int dep)] [] h) ∧ (¬ (0 ≤ 0) → pz_S 4 none am_r214 d Q 86 [(3, .int (Int32.ofInt (-1))), (2, .int (Int32.ofInt 1)), (0, .ref 154), (1, .int dep)] [] h) from ⟨fun _ => ?_, fun hz => absurd (by decide) hz⟩)
    refine am_goX 3 (show am_rc h 154 11 ∧ 0 ≤ 8 ∧ h.2.2.2.2 + am_al 204 ≤ 175 ∧ am_call am_cod d 204 [.ref 154, .int (Int8.ofInt 14).toInt32] h (fun vv h' => pz_S 4 none am_r214 d Q 93 [(3, .int (Int32.ofInt (-1))), (2, .int (Int32.ofInt 1)), (0, .ref 154), (1, .int dep)] (vv.toList ++ []) h') from ⟨Or.inl ⟨by decide, ex_154 (r_P l)⟩, by decide, ex_lim (r_P l) rfl, am_call.up (r_204 (w := 14) (W := 19741) (by decide) (by decide) (by decide) (s := s) l (fun h228 l229 => ?_)) (by omega)⟩)
    rw [e5] at l229 ⊢
    replace l229 : rr h0 0 τ N s h228 := l229
    refine am_goX 1 (show ((pz_b (false)) = 0 → pz_S 4 none am_r214 d Q 112 [(3, .int (Int32.ofInt (-1))), (2, .int (Int32.ofInt 1)), (0, .ref 154), (1, .int dep)] [] h228) ∧ (¬ ((pz_b (false)) = 0) → pz_S 4 none am_r214 d Q 96 [(3, .int (Int32.ofInt (-1))), (2, .int (Int32.ofInt 1)), (0, .ref 154), (1, .int dep)] [] h228) from ⟨fun _ => ?_, fun hz => absurd (by decide) hz⟩)
    refine am_goX 3 (show am_rc h228 154 11 ∧ 0 ≤ 8 ∧ h228.2.2.2.2 + am_al 217 ≤ 175 ∧ am_call am_cod d 217 [.ref 154, .int (Int8.ofInt 40).toInt32] h228 (fun vv h' => pz_S 4 none am_r214 d Q 118 [(3, .int (Int32.ofInt (-1))), (2, .int (Int32.ofInt 1)), (0, .ref 154), (1, .int dep)] (vv.toList ++ []) h') from ⟨Or.inl ⟨by decide, ex_154 (r_P l229)⟩, by decide, ex_lim (r_P l229) rfl, am_call.up (r_217 (s := s) l229 (fun h230 l231 => ?_)) (by omega)⟩)
    rw [e6] at l231 ⊢
    replace l231 : rr h0 0 τ N s h230 := l231
    refine am_goX 1 (show ((pz_b (false)) = 0 → pz_S 4 none am_r214 d Q 137 [(3, .int (Int32.ofInt (-1))), (2, .int (Int32.ofInt 1)), (0, .ref 154), (1, .int dep)] [] h230) ∧ (¬ ((pz_b (false)) = 0) → pz_S 4 none am_r214 d Q 121 [(3, .int (Int32.ofInt (-1))), (2, .int (Int32.ofInt 1)), (0, .ref 154), (1, .int dep)] [] h230) from ⟨fun _ => ?_, fun hz => absurd (by decide) hz⟩)
    refine am_goX 3 (show ((Int32.ofInt 1) = 0 → pz_S 4 none am_r214 d Q 146 [(3, .int (Int32.ofInt (-1))), (2, .int (Int32.ofInt 1)), (0, .ref 154), (1, .int dep)] [.ref 154] h230) ∧ (¬ ((Int32.ofInt 1) = 0) → pz_S 4 none am_r214 d Q 142 [(3, .int (Int32.ofInt (-1))), (2, .int (Int32.ofInt 1)), (0, .ref 154), (1, .int dep)] [.ref 154] h230) from ⟨fun hz => absurd hz (by decide), fun _ => ?_⟩)
    refine am_goX 4 (show ((Int32.ofInt 1) = 0 → pz_S 4 none am_r214 d Q 164 [(3, .int (Int32.ofInt (-1))), (2, .int (Int32.ofInt 1)), (0, .ref 154), (1, .int dep)] [.int (Int32.ofInt 1), .ref 154] h230) ∧ (¬ ((Int32.ofInt 1) = 0) → pz_S 4 none am_r214 d Q 151 [(3, .int (Int32.ofInt (-1))), (2, .int (Int32.ofInt 1)), (0, .ref 154), (1, .int dep)] [.int (Int32.ofInt 1), .ref 154] h230) from ⟨fun hz => absurd hz (by decide), fun _ => ?_⟩)
    refine am_goX 2 (show am_sh h230 154 = some (11, 0) ∧ pz_S 4 none am_r214 d Q 155 [(3, .int (Int32.ofInt (-1))), (2, .int (Int32.ofInt 1)), (0, .ref 154), (1, .int dep)] [am_rf (h230.2.2.1 154 6), .int (Int32.ofInt 1), .ref 154] h230 from ⟨ex_154 (r_P l231), ?_⟩)
    rw [ex_r154_6 (h := h230) (r_P l231)]
    refine am_goX 3 (show am_sh h230 154 = some (11, 0) ∧ ∃ jj nn : Nat, am_sh h230 158 = some (14, nn) ∧ jj < nn ∧ (h230.1 154 7) = nI jj ∧ pz_S 4 none am_r214 d Q 160 [(3, .int (Int32.ofInt (-1))), (2, .int (Int32.ofInt 1)), (0, .ref 154), (1, .int dep)] [.long (h230.2.1 158 jj), .int (Int32.ofInt 1), .ref 154] h230 from ⟨ex_154 (r_P l231), s.1, 1002, ex_158 (r_P l231), (by omega), r_a l231, ?_⟩)
    rw [r_v l231 (sp_kn (by decide) e227)]
    refine am_goX 2 (show pz_S 4 none am_r214 d Q 165 [(3, .int (Int32.ofInt (-1))), (2, .int (Int32.ofInt 1)), (0, .ref 154), (1, .int dep)] [.int ((τ s.1).2.1).toInt32, .int (Int32.ofInt 1), .ref 154] h230 from ?_)
    obtain ⟨D, hD, ev⟩ := l.1.1.2.2.2.2.2.2 s.1 (sp_kt e227)
    obtain ⟨o1, o2⟩ := num_o hD ev
    refine am_goX 1 (show am_rc h230 154 11 ∧ 0 ≤ 8 ∧ h230.2.2.2.2 + am_al 216 ≤ 175 ∧ am_call am_cod d 216 [.ref 154, .int (Int32.ofInt 1), .int ((τ s.1).2.1).toInt32] h230 (fun vv h' => pz_S 4 none am_r214 d Q 168 [(3, .int (Int32.ofInt (-1))), (2, .int (Int32.ofInt 1)), (0, .ref 154), (1, .int dep)] (vv.toList ++ []) h') from ⟨Or.inl ⟨by decide, ex_154 (r_P l231)⟩, by decide, ex_lim (r_P l231) rfl, am_call.up (r_216n (w := (sp_v τ s.1)) (s := s) l231 o1 o2 ht (fun h232 l233 => ?_)) (by omega)⟩)
    refine am_goX 6 (show (Value.ref 154).category = 1 ∧ am_sh h232 154 = some (11, 0) ∧ am_sh h232 154 = some (11, 0) ∧ narrow (am_fty 11 7) (.int (((h232.1 154 7) + (Int32.ofInt 1)))) = .int (((h232.1 154 7) + (Int32.ofInt 1))) ∧ fits (am_fty 11 7) (.int (((h232.1 154 7) + (Int32.ofInt 1)))) = true ∧ pz_S 4 none am_r214 d Q 178 [(3, .int (Int32.ofInt (-1))), (2, .int (Int32.ofInt 1)), (0, .ref 154), (1, .int dep)] [] (am_wI h232 154 7 (((h232.1 154 7) + (Int32.ofInt 1)))) from ⟨rfl, ex_154 l233.1.1.1, ex_154 l233.1.1.1, rfl, rfl, ?_⟩)
    rw [l233.1.2.1.1, xw_i1]
    have l234 : rr h0 0 τ N (s.1 + 1, sp_em s.2 (sp_v τ s.1)) (am_wI h232 154 7 (nI (s.1 + 1))) := rr1_nx l233 (r_lt l (sp_kn (by decide) e227))
    exact am_goX 1 (show (none : Option FieldType) = none ∧ (am_wI h232 154 7 (nI (s.1 + 1))).2.2.2.2 = 175 ∧ _ from ⟨rfl, ex_175 (r_P l234), hS _ _ (by simp only [sp_pt, sp_b, sp_f, cond_true, cond_false, e227, e3, e5, e6, Bool.and_true, Bool.and_false, Bool.true_and, Bool.false_and, Bool.not_true, Bool.not_false]) l234 ht⟩)
  | false =>
    refine am_goX 1 (show (¬ (τ s.1).1 = (Int32.ofInt 2) → pz_S 4 none am_r214 d Q 25 [(0, .ref 154), (1, .int dep)] [] h) ∧ (¬ ¬ (τ s.1).1 = (Int32.ofInt 2) → pz_S 4 none am_r214 d Q 21 [(0, .ref 154), (1, .int dep)] [] h) from ⟨fun _ => ?_, fun hz => absurd (of_decide_eq_false e227) hz⟩)
    refine am_goX 6 (show 2 < 4 ∧ am_rc h 154 11 ∧ 0 ≤ 8 ∧ h.2.2.2.2 + am_al 199 ≤ 175 ∧ am_call am_cod d 199 [.ref 154, .int (Int8.ofInt 17).toInt32, .int (Int32.ofInt 4)] h (fun vv h' => pz_S 4 none am_r214 d Q 34 [(2, .int (Int32.ofInt 0)), (0, .ref 154), (1, .int dep)] (vv.toList ++ []) h') from ⟨by decide, Or.inl ⟨by decide, ex_154 (r_P l)⟩, by decide, ex_lim (r_P l) rfl, am_call.up (r_199 (f := 17) (M := 4) (by decide) (by decide) (by decide) l ?_) (by omega)⟩)
    rcases wq_v τ s.1 17 4 (by decide) with ⟨w1, w2⟩ | ⟨j, w1, w2, w3⟩
    ·
      rw [w1]
      have e3 : decide (sp_fa τ s.1 = 0) = true := decide_eq_true (fa_0 w2)
      refine am_goX 3 (show 3 < 4 ∧ (0 ≤ (Int32.ofInt (-1)) → pz_S 4 none am_r214 d Q 69 [(3, .int (Int32.ofInt (-1))), (2, .int (Int32.ofInt 0)), (0, .ref 154), (1, .int dep)] [] h) ∧ (¬ (0 ≤ (Int32.ofInt (-1))) → pz_S 4 none am_r214 d Q 39 [(3, .int (Int32.ofInt (-1))), (2, .int (Int32.ofInt 0)), (0, .ref 154), (1, .int dep)] [] h) from ⟨by decide, fun hz => absurd hz (by decide), fun _ => ?_⟩)
      refine am_goX 2 (show (¬ (Int32.ofInt 0) = 0 → pz_S 4 none am_r214 d Q 69 [(3, .int (Int32.ofInt (-1))), (2, .int (Int32.ofInt 0)), (0, .ref 154), (1, .int dep)] [] h) ∧ (¬ ¬ (Int32.ofInt 0) = 0 → pz_S 4 none am_r214 d Q 43 [(3, .int (Int32.ofInt (-1))), (2, .int (Int32.ofInt 0)), (0, .ref 154), (1, .int dep)] [] h) from ⟨fun hz => absurd hz (by decide), fun _ => ?_⟩)
      refine am_goX 3 (show am_rc h 154 11 ∧ 0 ≤ 8 ∧ h.2.2.2.2 + am_al 215 ≤ 175 ∧ am_call am_cod d 215 [.ref 154, .int (Int8.ofInt 40).toInt32] h (fun vv h' => pz_S 4 none am_r214 d Q 49 [(3, .int (Int32.ofInt (-1))), (2, .int (Int32.ofInt 0)), (0, .ref 154), (1, .int dep)] (vv.toList ++ []) h') from ⟨Or.inl ⟨by decide, ex_154 (r_P l)⟩, by decide, ex_lim (r_P l) rfl, am_call.up (r_215 l ?_) (by omega)⟩)
      cases e235 : sp_s τ s.1 (Int8.ofInt 40).toInt32 with
      | true =>
        refine am_goX 1 (show (¬ (pz_b (true)) = 0 → pz_S 4 none am_r214 d Q 69 [(3, .int (Int32.ofInt (-1))), (2, .int (Int32.ofInt 0)), (0, .ref 154), (1, .int dep)] [] h) ∧ (¬ ¬ (pz_b (true)) = 0 → pz_S 4 none am_r214 d Q 52 [(3, .int (Int32.ofInt (-1))), (2, .int (Int32.ofInt 0)), (0, .ref 154), (1, .int dep)] [] h) from ⟨fun _ => ?_, fun hz => absurd (by decide) hz⟩)
        refine am_goX 3 (show (¬ dep = (Int32.ofInt 5) → pz_S 4 none am_r214 d Q 79 [(3, .int (Int32.ofInt (-1))), (2, .int (Int32.ofInt 0)), (0, .ref 154), (1, .int dep)] [] h) ∧ (¬ ¬ dep = (Int32.ofInt 5) → pz_S 4 none am_r214 d Q 74 [(3, .int (Int32.ofInt (-1))), (2, .int (Int32.ofInt 0)), (0, .ref 154), (1, .int dep)] [] h) from ⟨fun _ => ?_, fun hz => absurd hdp hz⟩)
        refine am_goX 2 (show am_sh h 154 = some (11, 0) ∧ pz_S 4 none am_r214 d Q 83 [(3, .int (Int32.ofInt (-1))), (2, .int (Int32.ofInt 0)), (0, .ref 154), (1, .int dep)] [.int (h.1 154 8)] h from ⟨ex_154 (r_P l), ?_⟩)
        rw [r_f l]
        refine am_goX 1 (show (0 ≤ 0 → pz_S 4 none am_r214 d Q 87 [(3, .int (Int32.ofInt (-1))), (2, .int (Int32.ofInt 0)), (0, .ref 154), (1, .int dep)] [] h) ∧ (¬ (0 ≤ 0) → pz_S 4 none am_r214 d Q 86 [(3, .int (Int32.ofInt (-1))), (2, .int (Int32.ofInt 0)), (0, .ref 154), (1, .int dep)] [] h) from ⟨fun _ => ?_, fun hz => absurd (by decide) hz⟩)
        refine am_goX 3 (show am_rc h 154 11 ∧ 0 ≤ 8 ∧ h.2.2.2.2 + am_al 204 ≤ 175 ∧ am_call am_cod d 204 [.ref 154, .int (Int8.ofInt 14).toInt32] h (fun vv h' => pz_S 4 none am_r214 d Q 93 [(3, .int (Int32.ofInt (-1))), (2, .int (Int32.ofInt 0)), (0, .ref 154), (1, .int dep)] (vv.toList ++ []) h') from ⟨Or.inl ⟨by decide, ex_154 (r_P l)⟩, by decide, ex_lim (r_P l) rfl, am_call.up (r_204 (w := 14) (W := 19741) (by decide) (by decide) (by decide) (s := s) l (fun h236 l237 => ?_)) (by omega)⟩)
        cases e238 : sp_w τ s.1 19741 with
        | true =>
          rw [e238] at l237
          replace l237 : rr h0 0 τ N (s.1 + 1, s.2) h236 := l237
          refine am_goX 1 (show ((pz_b (true)) = 0 → pz_S 4 none am_r214 d Q 112 [(3, .int (Int32.ofInt (-1))), (2, .int (Int32.ofInt 0)), (0, .ref 154), (1, .int dep)] [] h236) ∧ (¬ ((pz_b (true)) = 0) → pz_S 4 none am_r214 d Q 96 [(3, .int (Int32.ofInt (-1))), (2, .int (Int32.ofInt 0)), (0, .ref 154), (1, .int dep)] [] h236) from ⟨fun hz => absurd hz (by decide), fun _ => ?_⟩)
          refine am_goX 5 (show am_rc h236 154 11 ∧ 0 ≤ 8 ∧ h236.2.2.2.2 + am_al 214 ≤ 175 ∧ am_call am_cod d 214 [.ref 154, .int (dep + (Int32.ofInt 1))] h236 (fun vv h' => pz_S 4 none am_r214 d Q 103 [(3, .int (Int32.ofInt (-1))), (2, .int (Int32.ofInt 0)), (0, .ref 154), (1, .int dep)] (vv.toList ++ []) h') from ⟨Or.inl ⟨by decide, ex_154 (r_P l237)⟩, by decide, ex_lim (r_P l237) rfl, k214 (s.1 + 1, s.2) _ _ l237 ht (fun F239 h240 c241 a242 e243 x244 b245 b246 b247 => ?_) (fun h248 t249 e250 l251 ht252 => ?_)⟩)
          ·
            try dsimp only at b245 b247
            have g0 := r_N l237
            try dsimp only at g0
            refine am_goX 4 (show am_rc h240 154 11 ∧ 0 ≤ 8 ∧ h240.2.2.2.2 + am_al 216 ≤ 175 ∧ am_call am_cod d 216 [.ref 154, .int (Int32.ofInt 3), .int (Int32.ofInt 0)] h240 (fun vv h' => pz_S 4 none am_r214 d Q 109 [(3, .int (Int32.ofInt (-1))), (2, .int (Int32.ofInt 0)), (0, .ref 154), (1, .int dep)] (vv.toList ++ []) h') from ⟨Or.inl ⟨by decide, ex_154 x244.1⟩, by decide, ex_lim x244.1 rfl, am_call.up (d_216 (by omega) x244 (fun h254 x255 => ?_)) (by omega)⟩)
            exact am_goX 2 (show (none : Option FieldType) = none ∧ h254.2.2.2.2 = 175 ∧ _ from ⟨rfl, ex_175 x255.1, hF (F239) _ (c241 + 1) a242 (by simp only [sp_pt, sp_b, sp_f, cond_true, cond_false, e227, e3, e235, e238, e243, Bool.and_true, Bool.and_false, Bool.true_and, Bool.false_and, Bool.not_true, Bool.not_false]) x255 (by omega) (by omega) (by omega)⟩)
          ·
            have g253 := (sp_pt_ok r) _ _ e250
            unfold sp_le at g253
            try dsimp only at g253
            have g0 := r_N l237
            try dsimp only at g0
            refine am_goX 4 (show am_rc h248 154 11 ∧ 0 ≤ 8 ∧ h248.2.2.2.2 + am_al 216 ≤ 175 ∧ am_call am_cod d 216 [.ref 154, .int (Int32.ofInt 3), .int (Int32.ofInt 0)] h248 (fun vv h' => pz_S 4 none am_r214 d Q 109 [(3, .int (Int32.ofInt (-1))), (2, .int (Int32.ofInt 0)), (0, .ref 154), (1, .int dep)] (vv.toList ++ []) h') from ⟨Or.inl ⟨by decide, ex_154 (r_P l251)⟩, by decide, ex_lim (r_P l251) rfl, am_call.up (r_216 (w := ((Int8.ofInt (-5)).toInt32)) (s := t249) l251 (by first | omega | (dsimp only; omega)) (by decide) (by decide) ht252 (fun h256 l257 => ?_)) (by omega)⟩)
            exact am_goX 2 (show (none : Option FieldType) = none ∧ h256.2.2.2.2 = 175 ∧ _ from ⟨rfl, ex_175 (r_P l257), hS _ _ (by simp only [sp_pt, sp_b, sp_f, cond_true, cond_false, e227, e3, e235, e238, e250, Bool.and_true, Bool.and_false, Bool.true_and, Bool.false_and, Bool.not_true, Bool.not_false]) l257 ht252⟩)
        | false =>
          rw [e238] at l237
          replace l237 : rr h0 0 τ N s h236 := l237
          refine am_goX 1 (show ((pz_b (false)) = 0 → pz_S 4 none am_r214 d Q 112 [(3, .int (Int32.ofInt (-1))), (2, .int (Int32.ofInt 0)), (0, .ref 154), (1, .int dep)] [] h236) ∧ (¬ ((pz_b (false)) = 0) → pz_S 4 none am_r214 d Q 96 [(3, .int (Int32.ofInt (-1))), (2, .int (Int32.ofInt 0)), (0, .ref 154), (1, .int dep)] [] h236) from ⟨fun _ => ?_, fun hz => absurd (by decide) hz⟩)
          refine am_goX 3 (show am_rc h236 154 11 ∧ 0 ≤ 8 ∧ h236.2.2.2.2 + am_al 217 ≤ 175 ∧ am_call am_cod d 217 [.ref 154, .int (Int8.ofInt 40).toInt32] h236 (fun vv h' => pz_S 4 none am_r214 d Q 118 [(3, .int (Int32.ofInt (-1))), (2, .int (Int32.ofInt 0)), (0, .ref 154), (1, .int dep)] (vv.toList ++ []) h') from ⟨Or.inl ⟨by decide, ex_154 (r_P l237)⟩, by decide, ex_lim (r_P l237) rfl, am_call.up (r_217 (s := s) l237 (fun h258 l259 => ?_)) (by omega)⟩)
          rw [e235] at l259 ⊢
          replace l259 : rr h0 0 τ N (s.1 + 1, s.2) h258 := l259
          refine am_goX 1 (show ((pz_b (true)) = 0 → pz_S 4 none am_r214 d Q 137 [(3, .int (Int32.ofInt (-1))), (2, .int (Int32.ofInt 0)), (0, .ref 154), (1, .int dep)] [] h258) ∧ (¬ ((pz_b (true)) = 0) → pz_S 4 none am_r214 d Q 121 [(3, .int (Int32.ofInt (-1))), (2, .int (Int32.ofInt 0)), (0, .ref 154), (1, .int dep)] [] h258) from ⟨fun hz => absurd hz (by decide), fun _ => ?_⟩)
          refine am_goX 5 (show am_rc h258 154 11 ∧ 0 ≤ 8 ∧ h258.2.2.2.2 + am_al 210 ≤ 175 ∧ am_call am_cod d 210 [.ref 154, .int (dep + (Int32.ofInt 1))] h258 (fun vv h' => pz_S 4 none am_r214 d Q 128 [(3, .int (Int32.ofInt (-1))), (2, .int (Int32.ofInt 0)), (0, .ref 154), (1, .int dep)] (vv.toList ++ []) h') from ⟨Or.inl ⟨by decide, ex_154 (r_P l259)⟩, by decide, ex_lim (r_P l259) rfl, k210 (s.1 + 1, s.2) _ _ l259 ht (fun F260 h261 c262 a263 e264 x265 b266 b267 b268 => ?_) (fun h269 t270 e271 l272 ht273 => ?_)⟩)
          ·
            try dsimp only at b266 b268
            have g0 := r_N l259
            try dsimp only at g0
            refine am_goX 3 (show am_rc h261 154 11 ∧ 0 ≤ 8 ∧ h261.2.2.2.2 + am_al 218 ≤ 175 ∧ am_call am_cod d 218 [.ref 154, .int (Int8.ofInt 41).toInt32] h261 (fun vv h' => pz_S 4 none am_r214 d Q 134 [(3, .int (Int32.ofInt (-1))), (2, .int (Int32.ofInt 0)), (0, .ref 154), (1, .int dep)] (vv.toList ++ []) h') from ⟨Or.inl ⟨by decide, ex_154 x265.1⟩, by decide, ex_lim x265.1 rfl, am_call.up (d_218 x265 ?_) (by omega)⟩)
            exact am_goX 2 (show (none : Option FieldType) = none ∧ h261.2.2.2.2 = 175 ∧ _ from ⟨rfl, ex_175 x265.1, hF (F260) _ (c262) a263 (by simp only [sp_pt, sp_b, sp_f, cond_true, cond_false, e227, e3, e235, e238, e264, Bool.and_true, Bool.and_false, Bool.true_and, Bool.false_and, Bool.not_true, Bool.not_false]) x265 (by omega) (by omega) (by omega)⟩)
          ·
            have g274 := (sp_wh_ok (sp_pt_ok r)) _ _ e271
            unfold sp_le at g274
            try dsimp only at g274
            have g0 := r_N l259
            try dsimp only at g0
            refine am_goX 3 (show am_rc h269 154 11 ∧ 0 ≤ 8 ∧ h269.2.2.2.2 + am_al 218 ≤ 175 ∧ am_call am_cod d 218 [.ref 154, .int (Int8.ofInt 41).toInt32] h269 (fun vv h' => pz_S 4 none am_r214 d Q 134 [(3, .int (Int32.ofInt (-1))), (2, .int (Int32.ofInt 0)), (0, .ref 154), (1, .int dep)] (vv.toList ++ []) h') from ⟨Or.inl ⟨by decide, ex_154 (r_P l272)⟩, by decide, ex_lim (r_P l272) rfl, am_call.up (r_218 (s := t270) l272 (fun F275 h276 e277 x278 => ?_) (fun h279 e280 l281 => ?_)) (by omega)⟩)
            ·
              have g9 := r_N l272
              exact am_goX 2 (show (none : Option FieldType) = none ∧ h276.2.2.2.2 = 175 ∧ _ from ⟨rfl, ex_175 x278.1, hF (F275) _ (t270.2.2.2.2.2.1 + 0) t270.1 (by simp only [sp_pt, sp_b, sp_f, cond_true, cond_false, e227, e3, e235, e238, e271, e277, Bool.and_true, Bool.and_false, Bool.true_and, Bool.false_and, Bool.not_true, Bool.not_false]) x278 (by omega) (by omega) (by omega)⟩)
            ·
              exact am_goX 2 (show (none : Option FieldType) = none ∧ h279.2.2.2.2 = 175 ∧ _ from ⟨rfl, ex_175 (r_P l281), hS _ _ (by simp only [sp_pt, sp_b, sp_f, cond_true, cond_false, e227, e3, e235, e238, e271, e280, Bool.and_true, Bool.and_false, Bool.true_and, Bool.false_and, Bool.not_true, Bool.not_false]) l281 ht273⟩)
      | false =>
        refine am_goX 1 (show (¬ (pz_b (false)) = 0 → pz_S 4 none am_r214 d Q 69 [(3, .int (Int32.ofInt (-1))), (2, .int (Int32.ofInt 0)), (0, .ref 154), (1, .int dep)] [] h) ∧ (¬ ¬ (pz_b (false)) = 0 → pz_S 4 none am_r214 d Q 52 [(3, .int (Int32.ofInt (-1))), (2, .int (Int32.ofInt 0)), (0, .ref 154), (1, .int dep)] [] h) from ⟨fun hz => absurd hz (by decide), fun _ => ?_⟩)
        refine am_goX 3 (show am_rc h 154 11 ∧ 0 ≤ 8 ∧ h.2.2.2.2 + am_al 195 ≤ 175 ∧ am_call am_cod d 195 [.ref 154, .int (Int8.ofInt 14).toInt32] h (fun vv h' => pz_S 4 none am_r214 d Q 58 [(3, .int (Int32.ofInt (-1))), (2, .int (Int32.ofInt 0)), (0, .ref 154), (1, .int dep)] (vv.toList ++ []) h') from ⟨Or.inl ⟨by decide, ex_154 (r_P l)⟩, by decide, ex_lim (r_P l) rfl, am_call.up (r_195 (w := 14) (W := 19741) (by decide) (by decide) (by decide) l ?_) (by omega)⟩)
        cases e282 : sp_w τ s.1 19741 with
        | true =>
          refine am_goX 1 (show (¬ (pz_b (true)) = 0 → pz_S 4 none am_r214 d Q 69 [(3, .int (Int32.ofInt (-1))), (2, .int (Int32.ofInt 0)), (0, .ref 154), (1, .int dep)] [] h) ∧ (¬ ¬ (pz_b (true)) = 0 → pz_S 4 none am_r214 d Q 61 [(3, .int (Int32.ofInt (-1))), (2, .int (Int32.ofInt 0)), (0, .ref 154), (1, .int dep)] [] h) from ⟨fun _ => ?_, fun hz => absurd (by decide) hz⟩)
          refine am_goX 3 (show (¬ dep = (Int32.ofInt 5) → pz_S 4 none am_r214 d Q 79 [(3, .int (Int32.ofInt (-1))), (2, .int (Int32.ofInt 0)), (0, .ref 154), (1, .int dep)] [] h) ∧ (¬ ¬ dep = (Int32.ofInt 5) → pz_S 4 none am_r214 d Q 74 [(3, .int (Int32.ofInt (-1))), (2, .int (Int32.ofInt 0)), (0, .ref 154), (1, .int dep)] [] h) from ⟨fun _ => ?_, fun hz => absurd hdp hz⟩)
          refine am_goX 2 (show am_sh h 154 = some (11, 0) ∧ pz_S 4 none am_r214 d Q 83 [(3, .int (Int32.ofInt (-1))), (2, .int (Int32.ofInt 0)), (0, .ref 154), (1, .int dep)] [.int (h.1 154 8)] h from ⟨ex_154 (r_P l), ?_⟩)
          rw [r_f l]
          refine am_goX 1 (show (0 ≤ 0 → pz_S 4 none am_r214 d Q 87 [(3, .int (Int32.ofInt (-1))), (2, .int (Int32.ofInt 0)), (0, .ref 154), (1, .int dep)] [] h) ∧ (¬ (0 ≤ 0) → pz_S 4 none am_r214 d Q 86 [(3, .int (Int32.ofInt (-1))), (2, .int (Int32.ofInt 0)), (0, .ref 154), (1, .int dep)] [] h) from ⟨fun _ => ?_, fun hz => absurd (by decide) hz⟩)
          refine am_goX 3 (show am_rc h 154 11 ∧ 0 ≤ 8 ∧ h.2.2.2.2 + am_al 204 ≤ 175 ∧ am_call am_cod d 204 [.ref 154, .int (Int8.ofInt 14).toInt32] h (fun vv h' => pz_S 4 none am_r214 d Q 93 [(3, .int (Int32.ofInt (-1))), (2, .int (Int32.ofInt 0)), (0, .ref 154), (1, .int dep)] (vv.toList ++ []) h') from ⟨Or.inl ⟨by decide, ex_154 (r_P l)⟩, by decide, ex_lim (r_P l) rfl, am_call.up (r_204 (w := 14) (W := 19741) (by decide) (by decide) (by decide) (s := s) l (fun h283 l284 => ?_)) (by omega)⟩)
          rw [e282] at l284 ⊢
          replace l284 : rr h0 0 τ N (s.1 + 1, s.2) h283 := l284
          refine am_goX 1 (show ((pz_b (true)) = 0 → pz_S 4 none am_r214 d Q 112 [(3, .int (Int32.ofInt (-1))), (2, .int (Int32.ofInt 0)), (0, .ref 154), (1, .int dep)] [] h283) ∧ (¬ ((pz_b (true)) = 0) → pz_S 4 none am_r214 d Q 96 [(3, .int (Int32.ofInt (-1))), (2, .int (Int32.ofInt 0)), (0, .ref 154), (1, .int dep)] [] h283) from ⟨fun hz => absurd hz (by decide), fun _ => ?_⟩)
          refine am_goX 5 (show am_rc h283 154 11 ∧ 0 ≤ 8 ∧ h283.2.2.2.2 + am_al 214 ≤ 175 ∧ am_call am_cod d 214 [.ref 154, .int (dep + (Int32.ofInt 1))] h283 (fun vv h' => pz_S 4 none am_r214 d Q 103 [(3, .int (Int32.ofInt (-1))), (2, .int (Int32.ofInt 0)), (0, .ref 154), (1, .int dep)] (vv.toList ++ []) h') from ⟨Or.inl ⟨by decide, ex_154 (r_P l284)⟩, by decide, ex_lim (r_P l284) rfl, k214 (s.1 + 1, s.2) _ _ l284 ht (fun F285 h286 c287 a288 e289 x290 b291 b292 b293 => ?_) (fun h294 t295 e296 l297 ht298 => ?_)⟩)
          ·
            try dsimp only at b291 b293
            have g0 := r_N l284
            try dsimp only at g0
            refine am_goX 4 (show am_rc h286 154 11 ∧ 0 ≤ 8 ∧ h286.2.2.2.2 + am_al 216 ≤ 175 ∧ am_call am_cod d 216 [.ref 154, .int (Int32.ofInt 3), .int (Int32.ofInt 0)] h286 (fun vv h' => pz_S 4 none am_r214 d Q 109 [(3, .int (Int32.ofInt (-1))), (2, .int (Int32.ofInt 0)), (0, .ref 154), (1, .int dep)] (vv.toList ++ []) h') from ⟨Or.inl ⟨by decide, ex_154 x290.1⟩, by decide, ex_lim x290.1 rfl, am_call.up (d_216 (by omega) x290 (fun h300 x301 => ?_)) (by omega)⟩)
            exact am_goX 2 (show (none : Option FieldType) = none ∧ h300.2.2.2.2 = 175 ∧ _ from ⟨rfl, ex_175 x301.1, hF (F285) _ (c287 + 1) a288 (by simp only [sp_pt, sp_b, sp_f, cond_true, cond_false, e227, e3, e235, e282, e289, Bool.and_true, Bool.and_false, Bool.true_and, Bool.false_and, Bool.not_true, Bool.not_false]) x301 (by omega) (by omega) (by omega)⟩)
          ·
            have g299 := (sp_pt_ok r) _ _ e296
            unfold sp_le at g299
            try dsimp only at g299
            have g0 := r_N l284
            try dsimp only at g0
            refine am_goX 4 (show am_rc h294 154 11 ∧ 0 ≤ 8 ∧ h294.2.2.2.2 + am_al 216 ≤ 175 ∧ am_call am_cod d 216 [.ref 154, .int (Int32.ofInt 3), .int (Int32.ofInt 0)] h294 (fun vv h' => pz_S 4 none am_r214 d Q 109 [(3, .int (Int32.ofInt (-1))), (2, .int (Int32.ofInt 0)), (0, .ref 154), (1, .int dep)] (vv.toList ++ []) h') from ⟨Or.inl ⟨by decide, ex_154 (r_P l297)⟩, by decide, ex_lim (r_P l297) rfl, am_call.up (r_216 (w := ((Int8.ofInt (-5)).toInt32)) (s := t295) l297 (by first | omega | (dsimp only; omega)) (by decide) (by decide) ht298 (fun h302 l303 => ?_)) (by omega)⟩)
            exact am_goX 2 (show (none : Option FieldType) = none ∧ h302.2.2.2.2 = 175 ∧ _ from ⟨rfl, ex_175 (r_P l303), hS _ _ (by simp only [sp_pt, sp_b, sp_f, cond_true, cond_false, e227, e3, e235, e282, e296, Bool.and_true, Bool.and_false, Bool.true_and, Bool.false_and, Bool.not_true, Bool.not_false]) l303 ht298⟩)
        | false =>
          refine am_goX 1 (show (¬ (pz_b (false)) = 0 → pz_S 4 none am_r214 d Q 69 [(3, .int (Int32.ofInt (-1))), (2, .int (Int32.ofInt 0)), (0, .ref 154), (1, .int dep)] [] h) ∧ (¬ ¬ (pz_b (false)) = 0 → pz_S 4 none am_r214 d Q 61 [(3, .int (Int32.ofInt (-1))), (2, .int (Int32.ofInt 0)), (0, .ref 154), (1, .int dep)] [] h) from ⟨fun hz => absurd hz (by decide), fun _ => ?_⟩)
          refine am_goX 3 (show am_rc h 154 11 ∧ 0 ≤ 8 ∧ h.2.2.2.2 + am_al 197 ≤ 175 ∧ am_call am_cod d 197 [.ref 154, .int (Int32.ofInt 1)] h (fun vv h' => pz_S 4 none am_r214 d Q 66 [(3, .int (Int32.ofInt (-1))), (2, .int (Int32.ofInt 0)), (0, .ref 154), (1, .int dep)] (vv.toList ++ []) h') from ⟨Or.inl ⟨by decide, ex_154 (r_P l)⟩, by decide, ex_lim (r_P l) rfl, am_call.up (r_197 l ?_) (by omega)⟩)
          have x304 : rx h0 (sp_ft τ s.1 (Int32.ofInt 1)) (s.2.2.2.2.2.1 + 0) (am_wI h 154 8 (sp_ft τ s.1 (Int32.ofInt 1))) := rr_x (s := s) l (by decide)
          refine am_goX 3 (show am_sh (am_wI h 154 8 (sp_ft τ s.1 (Int32.ofInt 1))) 154 = some (11, 0) ∧ pz_S 4 none am_r214 d Q 83 [(3, .int (Int32.ofInt (-1))), (2, .int (Int32.ofInt 0)), (0, .ref 154), (1, .int dep)] [.int ((am_wI h 154 8 (sp_ft τ s.1 (Int32.ofInt 1))).1 154 8)] (am_wI h 154 8 (sp_ft τ s.1 (Int32.ofInt 1))) from ⟨ex_154 x304.1, ?_⟩)
          rw [x304.2.1.1]
          refine am_goX 1 (show ((sp_ft τ s.1 (Int32.ofInt 1)) ≤ 0 → pz_S 4 none am_r214 d Q 87 [(3, .int (Int32.ofInt (-1))), (2, .int (Int32.ofInt 0)), (0, .ref 154), (1, .int dep)] [] (am_wI h 154 8 (sp_ft τ s.1 (Int32.ofInt 1)))) ∧ (¬ ((sp_ft τ s.1 (Int32.ofInt 1)) ≤ 0) → pz_S 4 none am_r214 d Q 86 [(3, .int (Int32.ofInt (-1))), (2, .int (Int32.ofInt 0)), (0, .ref 154), (1, .int dep)] [] (am_wI h 154 8 (sp_ft τ s.1 (Int32.ofInt 1)))) from ⟨fun hz => absurd hz (rx_le x304), fun _ => ?_⟩)
          exact am_goX 1 (show (none : Option FieldType) = none ∧ (am_wI h 154 8 (sp_ft τ s.1 (Int32.ofInt 1))).2.2.2.2 = 175 ∧ _ from ⟨rfl, ex_175 x304.1, hF (sp_ft τ s.1 (Int32.ofInt 1)) _ (s.2.2.2.2.2.1 + 0) s.1 (by simp only [sp_pt, sp_b, sp_f, cond_true, cond_false, e227, e3, e235, e282, Bool.and_true, Bool.and_false, Bool.true_and, Bool.false_and, Bool.not_true, Bool.not_false]) x304 (by omega) (by omega) (by omega)⟩)
    ·
      rw [w2]
      obtain ⟨f1, f2, f3, f4, f5⟩ := fa_1 w1 w3
      have e3 : decide (sp_fa τ s.1 = 0) = false := decide_eq_false f3
      have e6 : sp_s τ s.1 (Int8.ofInt 40).toInt32 = false := sp_s_n (sp_12 (j := 3) f4 (by decide))
      refine am_goX 3 (show 3 < 4 ∧ (0 ≤ (nI j) → pz_S 4 none am_r214 d Q 69 [(3, .int (nI j)), (2, .int (Int32.ofInt 0)), (0, .ref 154), (1, .int dep)] [] h) ∧ (¬ (0 ≤ (nI j)) → pz_S 4 none am_r214 d Q 39 [(3, .int (nI j)), (2, .int (Int32.ofInt 0)), (0, .ref 154), (1, .int dep)] [] h) from ⟨by decide, fun _ => ?_, fun hz => absurd (nI_0le (by omega)) hz⟩)
      refine am_goX 3 (show (¬ dep = (Int32.ofInt 5) → pz_S 4 none am_r214 d Q 79 [(3, .int (nI j)), (2, .int (Int32.ofInt 0)), (0, .ref 154), (1, .int dep)] [] h) ∧ (¬ ¬ dep = (Int32.ofInt 5) → pz_S 4 none am_r214 d Q 74 [(3, .int (nI j)), (2, .int (Int32.ofInt 0)), (0, .ref 154), (1, .int dep)] [] h) from ⟨fun _ => ?_, fun hz => absurd hdp hz⟩)
      refine am_goX 2 (show am_sh h 154 = some (11, 0) ∧ pz_S 4 none am_r214 d Q 83 [(3, .int (nI j)), (2, .int (Int32.ofInt 0)), (0, .ref 154), (1, .int dep)] [.int (h.1 154 8)] h from ⟨ex_154 (r_P l), ?_⟩)
      rw [r_f l]
      refine am_goX 1 (show (0 ≤ 0 → pz_S 4 none am_r214 d Q 87 [(3, .int (nI j)), (2, .int (Int32.ofInt 0)), (0, .ref 154), (1, .int dep)] [] h) ∧ (¬ (0 ≤ 0) → pz_S 4 none am_r214 d Q 86 [(3, .int (nI j)), (2, .int (Int32.ofInt 0)), (0, .ref 154), (1, .int dep)] [] h) from ⟨fun _ => ?_, fun hz => absurd (by decide) hz⟩)
      refine am_goX 3 (show am_rc h 154 11 ∧ 0 ≤ 8 ∧ h.2.2.2.2 + am_al 204 ≤ 175 ∧ am_call am_cod d 204 [.ref 154, .int (Int8.ofInt 14).toInt32] h (fun vv h' => pz_S 4 none am_r214 d Q 93 [(3, .int (nI j)), (2, .int (Int32.ofInt 0)), (0, .ref 154), (1, .int dep)] (vv.toList ++ []) h') from ⟨Or.inl ⟨by decide, ex_154 (r_P l)⟩, by decide, ex_lim (r_P l) rfl, am_call.up (r_204 (w := 14) (W := 19741) (by decide) (by decide) (by decide) (s := s) l (fun h305 l306 => ?_)) (by omega)⟩)
      rw [f5] at l306 ⊢
      replace l306 : rr h0 0 τ N s h305 := l306
      refine am_goX 1 (show ((pz_b (false)) = 0 → pz_S 4 none am_r214 d Q 112 [(3, .int (nI j)), (2, .int (Int32.ofInt 0)), (0, .ref 154), (1, .int dep)] [] h305) ∧ (¬ ((pz_b (false)) = 0) → pz_S 4 none am_r214 d Q 96 [(3, .int (nI j)), (2, .int (Int32.ofInt 0)), (0, .ref 154), (1, .int dep)] [] h305) from ⟨fun _ => ?_, fun hz => absurd (by decide) hz⟩)
      refine am_goX 3 (show am_rc h305 154 11 ∧ 0 ≤ 8 ∧ h305.2.2.2.2 + am_al 217 ≤ 175 ∧ am_call am_cod d 217 [.ref 154, .int (Int8.ofInt 40).toInt32] h305 (fun vv h' => pz_S 4 none am_r214 d Q 118 [(3, .int (nI j)), (2, .int (Int32.ofInt 0)), (0, .ref 154), (1, .int dep)] (vv.toList ++ []) h') from ⟨Or.inl ⟨by decide, ex_154 (r_P l306)⟩, by decide, ex_lim (r_P l306) rfl, am_call.up (r_217 (s := s) l306 (fun h307 l308 => ?_)) (by omega)⟩)
      rw [e6] at l308 ⊢
      replace l308 : rr h0 0 τ N s h307 := l308
      refine am_goX 1 (show ((pz_b (false)) = 0 → pz_S 4 none am_r214 d Q 137 [(3, .int (nI j)), (2, .int (Int32.ofInt 0)), (0, .ref 154), (1, .int dep)] [] h307) ∧ (¬ ((pz_b (false)) = 0) → pz_S 4 none am_r214 d Q 121 [(3, .int (nI j)), (2, .int (Int32.ofInt 0)), (0, .ref 154), (1, .int dep)] [] h307) from ⟨fun _ => ?_, fun hz => absurd (by decide) hz⟩)
      refine am_goX 3 (show ((Int32.ofInt 0) = 0 → pz_S 4 none am_r214 d Q 146 [(3, .int (nI j)), (2, .int (Int32.ofInt 0)), (0, .ref 154), (1, .int dep)] [.ref 154] h307) ∧ (¬ ((Int32.ofInt 0) = 0) → pz_S 4 none am_r214 d Q 142 [(3, .int (nI j)), (2, .int (Int32.ofInt 0)), (0, .ref 154), (1, .int dep)] [.ref 154] h307) from ⟨fun _ => ?_, fun hz => absurd (by decide) hz⟩)
      refine am_goX 3 (show ((Int32.ofInt 0) = 0 → pz_S 4 none am_r214 d Q 164 [(3, .int (nI j)), (2, .int (Int32.ofInt 0)), (0, .ref 154), (1, .int dep)] [.int (Int32.ofInt 2), .ref 154] h307) ∧ (¬ ((Int32.ofInt 0) = 0) → pz_S 4 none am_r214 d Q 151 [(3, .int (nI j)), (2, .int (Int32.ofInt 0)), (0, .ref 154), (1, .int dep)] [.int (Int32.ofInt 2), .ref 154] h307) from ⟨fun _ => ?_, fun hz => absurd (by decide) hz⟩)
      refine am_goX 2 (show am_rc h307 154 11 ∧ 0 ≤ 8 ∧ h307.2.2.2.2 + am_al 216 ≤ 175 ∧ am_call am_cod d 216 [.ref 154, .int (Int32.ofInt 2), .int (nI j)] h307 (fun vv h' => pz_S 4 none am_r214 d Q 168 [(3, .int (nI j)), (2, .int (Int32.ofInt 0)), (0, .ref 154), (1, .int dep)] (vv.toList ++ []) h') from ⟨Or.inl ⟨by decide, ex_154 (r_P l308)⟩, by decide, ex_lim (r_P l308) rfl, am_call.up (r_216n (w := (sp_fa τ s.1)) (s := s) l308 f1 f2 ht (fun h309 l310 => ?_)) (by omega)⟩)
      refine am_goX 6 (show (Value.ref 154).category = 1 ∧ am_sh h309 154 = some (11, 0) ∧ am_sh h309 154 = some (11, 0) ∧ narrow (am_fty 11 7) (.int (((h309.1 154 7) + (Int32.ofInt 1)))) = .int (((h309.1 154 7) + (Int32.ofInt 1))) ∧ fits (am_fty 11 7) (.int (((h309.1 154 7) + (Int32.ofInt 1)))) = true ∧ pz_S 4 none am_r214 d Q 178 [(3, .int (nI j)), (2, .int (Int32.ofInt 0)), (0, .ref 154), (1, .int dep)] [] (am_wI h309 154 7 (((h309.1 154 7) + (Int32.ofInt 1)))) from ⟨rfl, ex_154 l310.1.1.1, ex_154 l310.1.1.1, rfl, rfl, ?_⟩)
      rw [l310.1.2.1.1, xw_i1]
      have l311 : rr h0 0 τ N (s.1 + 1, sp_em s.2 (sp_fa τ s.1)) (am_wI h309 154 7 (nI (s.1 + 1))) := rr1_nx l310 (r_lt l (sp_kn (by decide) f4))
      exact am_goX 1 (show (none : Option FieldType) = none ∧ (am_wI h309 154 7 (nI (s.1 + 1))).2.2.2.2 = 175 ∧ _ from ⟨rfl, ex_175 (r_P l311), hS _ _ (by simp only [sp_pt, sp_b, sp_f, cond_true, cond_false, e227, e3, f5, e6, Bool.and_true, Bool.and_false, Bool.true_and, Bool.false_and, Bool.not_true, Bool.not_false]) l311 ht⟩)
theorem r_law : ∀ (r : Nat) (dep : Int32), r ≤ 5 → dep = Int32.ofInt (5 - r) → lw_r h0 τ N (3 + 5 * r) 214 dep (sp_pt τ r) ∧ lw_r h0 τ N (7 + 5 * r) 210 dep (sp_wh τ (sp_pt τ r)) := by
  have up : ∀ (r : Nat) (dep : Int32) (d : Nat), 2 ≤ d → lw_r h0 τ N d 214 dep (sp_pt τ r) → lw_r h0 τ N (d + 1 + 1 + 1 + 1) 210 dep (sp_wh τ (sp_pt τ r)) := fun r dep d hd k =>
    r_210 (by omega) (r_211 (by omega) (r_212 (by omega) (r_213 hd k (sp_pt_ok r)) (sp_p_ok (sp_pt_ok r))) (sp_su_ok (sp_pt_ok r))) (sp_te_ok (sp_pt_ok r))
  intro r
  induction r with
  | zero =>
    intro dep _ e
    have k : lw_r h0 τ N 3 214 dep (sp_pt τ 0) := r_214z (r := 0) (d := 2) (by omega) e
    exact ⟨k, up 0 dep 3 (by omega) k⟩
  | succ r ih =>
    intro dep hr e
    obtain ⟨i1, i2⟩ := ih (dep + Int32.ofInt 1) (by omega) (by
      rw [e, ← Int32.ofInt_add]
      congr 1
      omega)
    have hlt : ¬ dep = Int32.ofInt 5 := by
      rw [e]
      have h5 : r = 0 ∨ r = 1 ∨ r = 2 ∨ r = 3 ∨ r = 4 := by omega
      rcases h5 with rfl | rfl | rfl | rfl | rfl <;> decide
    have k : lw_r h0 τ N (3 + 5 * (r + 1)) 214 dep (sp_pt τ (r + 1)) := lr_up (r_214s (d := 7 + 5 * r) (by omega) hlt (lr_up i1 (by omega)) i2) (by omega)
    exact ⟨k, lr_up (up (r + 1) dep (3 + 5 * (r + 1)) (by omega) k) (by omega)⟩
