/-! A WEEK: WHAT IT SAYS, AND THE CLASS'S READERS OF IT -/
abbrev sw_N : Type := Nat × (Nat → Int64)
abbrev sw_W : Type := Nat × (Nat → Int32) × (Nat → Int32) × (Nat → Int32)
abbrev sw_S : Type := Nat × sw_W
abbrev sw_R : Type := Sum Int32 sw_S
def sw_act (τ : sp_T) (a : Nat) : Option Int32 := bif sp_w τ a 5538 then some 0 else bif sp_w τ a 17003 then some 1 else bif sp_w τ a 2083 then some 2 else none
def sw_ko (r : Option Int32) : Int32 := match r with
  | some k => k
  | none => Int32.ofInt (-1)
def sw_pn (τ : sp_T) (N : sw_N) (a : Nat) : Sum Int32 Nat := bif sp_n τ a then (match sp_fd N.2 (τ a).2.1 N.1 0 with
  | none => .inl (sp_ft τ a (Int32.ofInt 2))
  | some p => .inr p) else .inl (sp_ft τ a (Int32.ofInt 1))
def sw_lt (τ : sp_T) (a : Nat) : Sum Int32 Int32 := bif sp_k τ a 2 then (bif sp_in τ a (Int32.ofInt 0) (Int32.ofInt 4) then .inr (sp_v τ a) else .inl (sp_ft τ a (Int32.ofInt 4))) else .inl (sp_ft τ a (Int32.ofInt 1))
def sw_ad (W : sw_W) (k p l : Int32) : sw_W := (W.1 + 1, sp_uI W.2.1 W.1 k, sp_uI W.2.2.1 W.1 p, sp_uI W.2.2.2 W.1 l)
def sw_end (τ : sp_T) (W : sw_W) (k p l : Int32) (a : Nat) : sw_R := bif sp_s τ a (Int8.ofInt 59).toInt32 then .inr (a + 1, sw_ad W k p l) else .inl (sp_ft τ a (Int32.ofInt 1))
def sw_line (τ : sp_T) (N : sw_N) (s : sw_S) : sw_R := match sw_act τ s.1 with
  | none => .inl (sp_ft τ s.1 (Int32.ofInt 1))
  | some k => bif Nat.ble 40 s.2.1 then .inl (sp_ft τ s.1 (Int32.ofInt 5)) else bif decide (k = 0) then sw_end τ s.2 k 0 0 (s.1 + 1) else
    match sw_pn τ N (s.1 + 1) with
    | .inl F => .inl F
    | .inr p => bif decide (k = 1) then (match sw_lt τ (s.1 + 1 + 1) with
      | .inl F => .inl F
      | .inr v => sw_end τ s.2 k (nI p) v (s.1 + 1 + 1 + 1)) else sw_end τ s.2 k (nI p) 0 (s.1 + 1 + 1)
def sw_all (τ : sp_T) (N : sw_N) : Nat → sw_S → sw_R
  | 0, s => .inr s
  | n + 1, s => bif sp_k τ s.1 0 then .inr s else (match sw_line τ N s with
    | .inl F => .inl F
    | .inr t => sw_all τ N n t)
def sw_W0 : sw_W := (0, fun _ => 0, fun _ => 0, fun _ => 0)
def sw_week (τ : sp_T) (N : sw_N) : sw_R := sw_all τ N 1001 (0, sw_W0)
def sw_ans (r : sw_R) : Int32 := match r with
  | .inl F => F
  | .inr _ => 0
theorem sw_act_cs (τ : sp_T) (a : Nat) : sw_act τ a = none ∨ ((sw_act τ a = some 0 ∨ sw_act τ a = some 1 ∨ sw_act τ a = some 2) ∧ ¬ (τ a).1 = 0) := by
  unfold sw_act
  cases e1 : sp_w τ a 5538 with
  | true => exact Or.inr ⟨Or.inl rfl, sp_wn e1⟩
  | false =>
    cases e2 : sp_w τ a 17003 with
    | true => exact Or.inr ⟨Or.inr (Or.inl rfl), sp_wn e2⟩
    | false =>
      cases e3 : sp_w τ a 2083 with
      | true => exact Or.inr ⟨Or.inr (Or.inr rfl), sp_wn e3⟩
      | false => exact Or.inl rfl
theorem sw_end_lt {τ : sp_T} {W : sw_W} {k p l : Int32} {a : Nat} {t : sw_S} (e : sw_end τ W k p l a = .inr t) : t.1 = a + 1 := by
  unfold sw_end at e
  cases e1 : sp_s τ a (Int8.ofInt 59).toInt32 with
  | true =>
    rw [e1] at e
    cases e
    rfl
  | false =>
    rw [e1] at e
    cases e
theorem sw_line_lt {τ : sp_T} {N : sw_N} {s t : sw_S} (e : sw_line τ N s = .inr t) : s.1 < t.1 := by
  unfold sw_line at e
  cases e1 : sw_act τ s.1 with
  | none =>
    rw [e1] at e
    cases e
  | some k =>
    rw [e1] at e
    dsimp only at e
    cases e2 : Nat.ble 40 s.2.1 with
    | true =>
      rw [e2] at e
      cases e
    | false =>
      rw [e2] at e
      dsimp only [cond_false] at e
      cases e3 : decide (k = 0) with
      | true =>
        rw [e3] at e
        have := sw_end_lt e
        omega
      | false =>
        rw [e3] at e
        dsimp only [cond_false] at e
        cases e4 : sw_pn τ N (s.1 + 1) with
        | inl F =>
          rw [e4] at e
          cases e
        | inr p =>
          rw [e4] at e
          dsimp only at e
          cases e5 : decide (k = 1) with
          | true =>
            rw [e5] at e
            dsimp only [cond_true] at e
            cases e6 : sw_lt τ (s.1 + 1 + 1) with
            | inl F =>
              rw [e6] at e
              cases e
            | inr v =>
              rw [e6] at e
              have := sw_end_lt e
              omega
          | false =>
            rw [e5] at e
            have := sw_end_lt e
            omega
/-- the persons' names of the canton told -/
def cnm (c : Nat) (N : sw_N) (h : am_H) : Prop := h.1 c 0 = nI N.1 ∧ N.1 ≤ 6 ∧ ∀ i, i < N.1 → cwk (N.2 i) (h.2.1 (c + 1) i)
def cww (w : Nat) (W : sw_W) (h : am_H) : Prop := h.1 w 3 = nI W.1 ∧ W.1 ≤ 40 ∧ ∀ i, i < W.1 → h.1 (w + 1) i = W.2.1 i ∧ h.1 (w + 2) i = W.2.2.1 i ∧ h.1 (w + 3) i = W.2.2.2 i
def cwq (w : Nat) (h0 h : am_H) : Prop := h.2.2 = h0.2.2 ∧ ∀ o k, ¬ (o = 1 ∨ (w ≤ o ∧ o ≤ w + 3)) → h.1 o k = h0.1 o k ∧ h.2.1 o k = h0.2.1 o k
def cwr (h0 : am_H) (w c : Nat) (N : sw_N) (T : Nat → Int32) (sz : Nat) (s : sw_S) (h : am_H) : Prop := c_t T sz s.1 h ∧ cww w s.2 h ∧ cwq w h0 h ∧ cnm c N h
def cwx (h0 : am_H) (w : Nat) (F : Int32) (h : am_H) : Prop := ex_P h ∧ (h.1 1 7 = F ∧ ¬ F = 0) ∧ cwq w h0 h
variable {h h0 : am_H} {sz a w c o k : Nat} {T : Nat → Int32} {Q : am_Q} {N : sw_N} {W : sw_W} {s : sw_S}
theorem cwq_fr {h1 : am_H} (l : cwq w h0 h) (f : fr1 h h1) : cwq w h0 h1 := ⟨f.1.trans l.1, fun o k ho => by
  have h1 : ¬ o = 1 := fun z => ho (Or.inl z)
  exact ⟨(f.2 o k h1).1.trans (l.2 o k ho).1, (f.2 o k h1).2.trans (l.2 o k ho).2⟩⟩
theorem cwr_fr {h1 : am_H} {a' : Nat} (hw : 1 < w) (hc : 1 < c) (l : cwr h0 w c N T sz (a, W) h) (t : c_t T sz a' h1) (f : fr1 h h1) : cwr h0 w c N T sz (a', W) h1 := by
  obtain ⟨l1, ⟨b1, b2, b3⟩, l3, ⟨d1, d2, d3⟩⟩ := l
  refine ⟨t, ⟨?_, b2, fun i hi => ?_⟩, cwq_fr l3 f, ⟨?_, d2, fun i hi => ?_⟩⟩
  · rw [(f.2 w 3 (by omega)).1]; exact b1
  · rw [(f.2 (w + 1) i (by omega)).1, (f.2 (w + 2) i (by omega)).1, (f.2 (w + 3) i (by omega)).1]; exact b3 i hi
  · rw [(f.2 c 0 (by omega)).1]; exact d1
  · rw [(f.2 (c + 1) i (by omega)).2]; exact d3 i hi
theorem cwr_x {k : Int32} (l : cwr h0 w c N T sz s h) (hk : 1 ≤ k.toInt ∧ k.toInt ≤ 5) : cwx h0 w (sp_ft (tt T sz) s.1 k) (am_wI h 1 7 (sp_ft (tt T sz) s.1 k)) :=
  ⟨l.1.1.1, ⟨em_we h 1 7 _, sp_ft0 l.1 hk⟩, cwq_fr l.2.2.1 fr1_7⟩
theorem cwq_w {v : Int32} (l : cwq w h0 h) (ho : w ≤ o ∧ o ≤ w + 3) : cwq w h0 (am_wI h o k v) := ⟨l.1, fun o' k' hn => by
  have h1 : ¬ o' = o := fun z => hn (Or.inr (by omega))
  exact ⟨(em_wn _ _ (by omega)).trans (l.2 o' k' hn).1, (l.2 o' k' hn).2⟩⟩
theorem cwr_w {v : Int32} (hw : c + 1 < w) (hc : 1 < c) (l : cwr h0 w c N T sz (a, W) h) (ho : o = w + 1 ∨ o = w + 2 ∨ o = w + 3) (hk : W.1 ≤ k) : cwr h0 w c N T sz (a, W) (am_wI h o k v) := by
  obtain ⟨l1, ⟨b1, b2, b3⟩, l3, ⟨d1, d2, d3⟩⟩ := l
  refine ⟨ct_wI l1 (by omega), ⟨?_, b2, fun i hi => ?_⟩, cwq_w l3 (by omega), ⟨?_, d2, fun i hi => d3 i hi⟩⟩
  · rw [em_wn _ _ (by omega)]; exact b1
  · have hi : i < W.1 := hi
    rw [em_wn _ _ (by omega), em_wn _ _ (by omega), em_wn _ _ (by omega)]; exact b3 i hi
  · rw [em_wn _ _ (by omega)]; exact d1
/-- one more line -/
theorem cwr_P {kd p lt : Int32} (hw : c + 1 < w) (hc : 1 < c) (l : cwr h0 w c N T sz (a, W) h) (hn : W.1 < 40) (x1 : h.1 (w + 1) W.1 = kd) (x2 : h.1 (w + 2) W.1 = p) (x3 : h.1 (w + 3) W.1 = lt) : cwr h0 w c N T sz (a, sw_ad W kd p lt) (am_wI h w 3 (nI (W.1 + 1))) := by
  obtain ⟨l1, ⟨b1, b2, b3⟩, l3, ⟨d1, d2, d3⟩⟩ := l
  refine ⟨ct_wI l1 (by omega), ⟨em_we _ _ _ _, (show W.1 + 1 ≤ 40 by omega), fun i hi => ?_⟩, cwq_w l3 (by omega), ⟨?_, d2, fun i hi => d3 i hi⟩⟩
  · have hi : i < W.1 + 1 := hi
    show _ = (if i = W.1 then kd else W.2.1 i) ∧ _ = (if i = W.1 then p else W.2.2.1 i) ∧ _ = (if i = W.1 then lt else W.2.2.2 i)
    rw [em_wn _ _ (by omega), em_wn _ _ (by omega), em_wn _ _ (by omega)]
    by_cases ei : i = W.1
    · rw [if_pos ei, if_pos ei, if_pos ei, ei]
      exact ⟨x1, x2, x3⟩
    · rw [if_neg ei, if_neg ei, if_neg ei]
      exact b3 i (show i < W.1 by omega)
  · rw [em_wn _ _ (by omega)]; exact d1
theorem i40 {n : Nat} (e : Nat.ble 40 n = true) (h : n ≤ 40) : ¬ nI n < (Int8.ofInt 40).toInt32 := by
  have := Nat.le_of_ble_eq_true e
  show ¬ nI n < nI 40
  rw [nI_ltI (by omega) (by omega)]
  omega
theorem j40n {n : Nat} (e : Nat.ble 40 n = false) : n < 40 := by
  apply Nat.lt_of_not_le
  intro z
  rw [Nat.ble_eq_true_of_le z] at e
  cases e
theorem j40 {n : Nat} (e : Nat.ble 40 n = false) : nI n < (Int8.ofInt 40).toInt32 := by
  have := j40n e
  show nI n < nI 40
  rw [nI_ltI (by omega) (by omega)]
  omega
theorem ex_wR56 {h : am_H} {k : Nat} {v : Option Nat} (hk : k = 5 ∨ k = 6) (hP : ex_P h) : ex_P (am_wR h 0 k v) := by
  refine ⟨hP.1, fun o q r e => ?_⟩
  have n3 : ag_lk ag_DD.2.2.1 0 5 = none := by decide +kernel
  have n4 : ag_lk ag_DD.2.2.1 0 6 = none := by decide +kernel
  show (if o = 0 ∧ q = k then v else h.2.2.1 o q) = some r
  rw [if_neg]
  · exact hP.2 o q r e
  · rintro ⟨rfl, rfl⟩
    rcases hk with rfl | rfl
    · rw [n3] at e
      cases e
    · rw [n4] at e
      cases e
theorem cwr_a (l : cwr h0 w c N T sz s h) : s.1 ≤ sz ∧ sz ≤ 1000 := ⟨Nat.le_trans l.1.2.2.2.2.1 l.1.2.2.2.2.2.1, l.1.1.2.1⟩
theorem ex_5 {h : am_H} (hP : ex_P h) : am_sh h 5 = some (9, 0) := (ex_so hP (by decide +kernel)).2
theorem ex_29 {h : am_H} (hP : ex_P h) : am_sh h 29 = some (13, 40) := (ex_so hP (by decide +kernel)).2
theorem ex_w29 {h : am_H} (hP : ex_P h) : am_so h 29 = some (13, 40) := (ex_so hP (by decide +kernel)).1
theorem ex_30 {h : am_H} (hP : ex_P h) : am_sh h 30 = some (13, 40) := (ex_so hP (by decide +kernel)).2
theorem ex_w30 {h : am_H} (hP : ex_P h) : am_so h 30 = some (13, 40) := (ex_so hP (by decide +kernel)).1
theorem ex_31 {h : am_H} (hP : ex_P h) : am_sh h 31 = some (13, 40) := (ex_so hP (by decide +kernel)).2
theorem ex_w31 {h : am_H} (hP : ex_P h) : am_so h 31 = some (13, 40) := (ex_so hP (by decide +kernel)).1
theorem ex_33 {h : am_H} (hP : ex_P h) : am_sh h 33 = some (13, 40) := (ex_so hP (by decide +kernel)).2
theorem ex_w33 {h : am_H} (hP : ex_P h) : am_so h 33 = some (13, 40) := (ex_so hP (by decide +kernel)).1
theorem ex_34 {h : am_H} (hP : ex_P h) : am_sh h 34 = some (13, 40) := (ex_so hP (by decide +kernel)).2
theorem ex_w34 {h : am_H} (hP : ex_P h) : am_so h 34 = some (13, 40) := (ex_so hP (by decide +kernel)).1
theorem ex_35 {h : am_H} (hP : ex_P h) : am_sh h 35 = some (13, 40) := (ex_so hP (by decide +kernel)).2
theorem ex_w35 {h : am_H} (hP : ex_P h) : am_so h 35 = some (13, 40) := (ex_so hP (by decide +kernel)).1
theorem ex_r0_2 {h : am_H} (hP : ex_P h) : h.2.2.1 0 2 = some 5 := hP.2 0 2 5 (by decide +kernel)
theorem ex_r5_0 {h : am_H} (hP : ex_P h) : h.2.2.1 5 0 = some 1 := hP.2 5 0 1 (by decide +kernel)
theorem ex_r28_0 {h : am_H} (hP : ex_P h) : h.2.2.1 28 0 = some 29 := hP.2 28 0 29 (by decide +kernel)
theorem ex_r28_1 {h : am_H} (hP : ex_P h) : h.2.2.1 28 1 = some 30 := hP.2 28 1 30 (by decide +kernel)
theorem ex_r28_2 {h : am_H} (hP : ex_P h) : h.2.2.1 28 2 = some 31 := hP.2 28 2 31 (by decide +kernel)
theorem ex_r32_0 {h : am_H} (hP : ex_P h) : h.2.2.1 32 0 = some 33 := hP.2 32 0 33 (by decide +kernel)
theorem ex_r32_1 {h : am_H} (hP : ex_P h) : h.2.2.1 32 1 = some 34 := hP.2 32 1 34 (by decide +kernel)
theorem ex_r32_2 {h : am_H} (hP : ex_P h) : h.2.2.1 32 2 = some 35 := hP.2 32 2 35 (by decide +kernel)
theorem c_tSt {x : Int32} (l : c_t T sz a h) (h1 : sp_s (tt T sz) a x = true → ∀ h1, c_t T sz (a + 1) h1 → fr1 h h1 → Q (some (.int 1)) h1) (h2 : sp_s (tt T sz) a x = false → Q (some (.int 0)) (am_wI h 1 7 (sp_ft (tt T sz) a (Int32.ofInt 1)))) : am_call am_cod 6 61 [.ref 1, .int x] h Q := by
  have hP := c_P l
  refine pz_call (n := 61) (nL := 2) (rt := (some .boolean)) (rows := am_r61) (d := 5) (by decide +kernel) (by decide +kernel) rfl (by funext pc; rfl) (ex_175 hP) (by exact Nat.le_of_ble_eq_true rfl) ?_
  refine am_goX 3 (show am_rc h 1 7 ∧ 0 ≤ 8 ∧ h.2.2.2.2 + am_al 62 ≤ 175 ∧ am_call am_cod 5 62 [.ref 1, .int x] h (fun vv h' => pz_S 2 (some .boolean) am_r61 5 Q 5 [(0, .ref 1), (1, .int x)] (vv.toList ++ []) h') from ⟨Or.inl ⟨by decide, ex_1 hP⟩, by decide, ex_lim hP rfl, am_call.up (c_iss l ?_) (by decide)⟩)
  cases e : sp_s (tt T sz) a x with
  | true =>
    refine am_goX 1 (show (¬ (pz_b (true)) = 0 → pz_S 2 (some .boolean) am_r61 5 Q 14 [(0, .ref 1), (1, .int x)] [] h) ∧ (¬ ¬ (pz_b (true)) = 0 → pz_S 2 (some .boolean) am_r61 5 Q 8 [(0, .ref 1), (1, .int x)] [] h) from ⟨fun _ => ?_, fun hz => absurd (by decide) hz⟩)
    refine am_goX 2 (show am_rc h 1 7 ∧ 0 ≤ 8 ∧ h.2.2.2.2 + am_al 18 ≤ 175 ∧ am_call am_cod 5 18 [.ref 1] h (fun vv h' => pz_S 2 (some .boolean) am_r61 5 Q 18 [(0, .ref 1), (1, .int x)] (vv.toList ++ []) h') from ⟨Or.inl ⟨by decide, ex_1 hP⟩, by decide, ex_lim hP rfl, am_call.up (c_step l (sp_sn e) (fun h3 m f => ?_)) (by decide)⟩)
    exact am_goX 2 (show (∃ ty, (some .boolean) = some ty ∧ narrow ty (.int ((Int32.ofInt 1))) = .int ((Int32.ofInt 1))) ∧ h3.2.2.2.2 = 175 ∧ _ from ⟨⟨.boolean, rfl, rfl⟩, ex_175 (c_P m), h1 e h3 m f⟩)
  | false =>
    refine am_goX 1 (show (¬ (pz_b (false)) = 0 → pz_S 2 (some .boolean) am_r61 5 Q 14 [(0, .ref 1), (1, .int x)] [] h) ∧ (¬ ¬ (pz_b (false)) = 0 → pz_S 2 (some .boolean) am_r61 5 Q 8 [(0, .ref 1), (1, .int x)] [] h) from ⟨fun hz => absurd hz (by decide), fun _ => ?_⟩)
    refine am_goX 3 (show am_rc h 1 7 ∧ 0 ≤ 8 ∧ h.2.2.2.2 + am_al 52 ≤ 175 ∧ am_call am_cod 5 52 [.ref 1, .int (Int32.ofInt 1)] h (fun vv h' => pz_S 2 (some .boolean) am_r61 5 Q 13 [(0, .ref 1), (1, .int x)] (vv.toList ++ []) h') from ⟨Or.inl ⟨by decide, ex_1 hP⟩, by decide, ex_lim hP rfl, am_call.up (c_refuse l ?_) (by decide)⟩)
    exact am_goX 1 (show (∃ ty, (some .boolean) = some ty ∧ narrow ty (.int ((Int32.ofInt 0))) = .int ((Int32.ofInt 0))) ∧ (am_wI h 1 7 (sp_ft (tt T sz) a (Int32.ofInt 1))).2.2.2.2 = 175 ∧ _ from ⟨⟨.boolean, rfl, rfl⟩, ex_175 hP, h2 e⟩)
theorem c_tNt {lo hi : Int32} (l : c_t T sz a h) (h1 : sp_k (tt T sz) a 2 = true → sp_in (tt T sz) a lo hi = true → Q (some (.int 1)) h) (h2 : sp_k (tt T sz) a 2 = true → sp_in (tt T sz) a lo hi = false → Q (some (.int 0)) (am_wI h 1 7 (sp_ft (tt T sz) a (Int32.ofInt 4)))) (h3 : sp_k (tt T sz) a 2 = false → Q (some (.int 0)) (am_wI h 1 7 (sp_ft (tt T sz) a (Int32.ofInt 1)))) : am_call am_cod 2 59 [.ref 1, .int lo, .int hi] h Q := by
  have hP := c_P l
  have hk := ck_2 T sz a
  refine pz_call (n := 59) (nL := 3) (rt := (some .boolean)) (rows := am_r59) (d := 1) (by decide +kernel) (by decide +kernel) rfl (by funext pc; rfl) (ex_175 hP) (by exact Nat.le_of_ble_eq_true rfl) ?_
  refine am_goX 3 (show am_sh h 1 = some (7, 0) ∧ pz_S 3 (some .boolean) am_r59 1 Q 5 [(0, .ref 1), (1, .int lo), (2, .int hi)] [.int (Int32.ofInt 2), .int (h.1 1 2)] h from ⟨ex_1 hP, ?_⟩)
  rw [c_kd l]
  refine am_goX 1 (show ((ck (tt T sz a).1) = (Int32.ofInt 2) → pz_S 3 (some .boolean) am_r59 1 Q 14 [(0, .ref 1), (1, .int lo), (2, .int hi)] [] h) ∧ (¬ ((ck (tt T sz a).1) = (Int32.ofInt 2)) → pz_S 3 (some .boolean) am_r59 1 Q 8 [(0, .ref 1), (1, .int lo), (2, .int hi)] [] h) from ⟨fun hc => ?_, fun hc => ?_⟩)
  rotate_left
  · rw [decide_eq_false hc] at hk
    refine am_goX 3 (show am_rc h 1 7 ∧ 0 ≤ 8 ∧ h.2.2.2.2 + am_al 52 ≤ 175 ∧ am_call am_cod 1 52 [.ref 1, .int (Int32.ofInt 1)] h (fun vv h' => pz_S 3 (some .boolean) am_r59 1 Q 13 [(0, .ref 1), (1, .int lo), (2, .int hi)] (vv.toList ++ []) h') from ⟨Or.inl ⟨by decide, ex_1 hP⟩, by decide, ex_lim hP rfl, am_call.up (c_refuse l ?_) (by decide)⟩)
    exact am_goX 1 (show (∃ ty, (some .boolean) = some ty ∧ narrow ty (.int ((Int32.ofInt 0))) = .int ((Int32.ofInt 0))) ∧ (am_wI h 1 7 (sp_ft (tt T sz) a (Int32.ofInt 1))).2.2.2.2 = 175 ∧ _ from ⟨⟨.boolean, rfl, rfl⟩, ex_175 hP, h3 hk.symm⟩)
  rw [decide_eq_true hc] at hk
  have hn := c_nv l hk.symm
  refine am_goX 4 (show am_sh h 1 = some (7, 0) ∧ pz_S 3 (some .boolean) am_r59 1 Q 20 [(0, .ref 1), (1, .int lo), (2, .int hi)] [.int hi, .int lo, .int (h.1 1 6)] h from ⟨ex_1 hP, ?_⟩)
  rw [hn]
  refine am_goX 1 (show 0 ≤ 8 ∧ h.2.2.2.2 + am_al 60 ≤ 175 ∧ am_call am_cod 1 60 [.int (sp_v (tt T sz) a), .int lo, .int hi] h (fun vv h' => pz_S 3 (some .boolean) am_r59 1 Q 23 [(0, .ref 1), (1, .int lo), (2, .int hi)] (vv.toList ++ []) h') from ⟨by decide, ex_lim hP rfl, am_call.up (c_in3 hP ?_) (by decide)⟩)
  show pz_S 3 (some .boolean) am_r59 1 Q 23 [(0, .ref 1), (1, .int lo), (2, .int hi)] [.int (pz_b (sp_in (tt T sz) a lo hi))] h
  cases e : sp_in (tt T sz) a lo hi with
  | true =>
    refine am_goX 1 (show (¬ (pz_b (true)) = 0 → pz_S 3 (some .boolean) am_r59 1 Q 34 [(0, .ref 1), (1, .int lo), (2, .int hi)] [] h) ∧ (¬ ¬ (pz_b (true)) = 0 → pz_S 3 (some .boolean) am_r59 1 Q 26 [(0, .ref 1), (1, .int lo), (2, .int hi)] [] h) from ⟨fun _ => ?_, fun hz => absurd (by decide) hz⟩)
    exact am_goX 3 (show (∃ ty, (some .boolean) = some ty ∧ narrow ty (.int ((Int32.ofInt 1))) = .int ((Int32.ofInt 1))) ∧ h.2.2.2.2 = 175 ∧ _ from ⟨⟨.boolean, rfl, rfl⟩, ex_175 hP, h1 hk.symm e⟩)
  | false =>
    refine am_goX 1 (show (¬ (pz_b (false)) = 0 → pz_S 3 (some .boolean) am_r59 1 Q 34 [(0, .ref 1), (1, .int lo), (2, .int hi)] [] h) ∧ (¬ ¬ (pz_b (false)) = 0 → pz_S 3 (some .boolean) am_r59 1 Q 26 [(0, .ref 1), (1, .int lo), (2, .int hi)] [] h) from ⟨fun hz => absurd hz (by decide), fun _ => ?_⟩)
    refine am_goX 3 (show am_rc h 1 7 ∧ 0 ≤ 8 ∧ h.2.2.2.2 + am_al 52 ≤ 175 ∧ am_call am_cod 1 52 [.ref 1, .int (Int32.ofInt 4)] h (fun vv h' => pz_S 3 (some .boolean) am_r59 1 Q 31 [(0, .ref 1), (1, .int lo), (2, .int hi)] (vv.toList ++ []) h') from ⟨Or.inl ⟨by decide, ex_1 hP⟩, by decide, ex_lim hP rfl, am_call.up (c_refuse l ?_) (by decide)⟩)
    refine am_goX 1 (show ((Int32.ofInt 0) = 0 → pz_S 3 (some .boolean) am_r59 1 Q 38 [(0, .ref 1), (1, .int lo), (2, .int hi)] [] (am_wI h 1 7 (sp_ft (tt T sz) a (Int32.ofInt 4)))) ∧ (¬ ((Int32.ofInt 0) = 0) → pz_S 3 (some .boolean) am_r59 1 Q 34 [(0, .ref 1), (1, .int lo), (2, .int hi)] [] (am_wI h 1 7 (sp_ft (tt T sz) a (Int32.ofInt 4)))) from ⟨fun _ => ?_, fun hz => absurd (by decide) hz⟩)
    exact am_goX 2 (show (∃ ty, (some .boolean) = some ty ∧ narrow ty (.int ((Int32.ofInt 0))) = .int ((Int32.ofInt 0))) ∧ (am_wI h 1 7 (sp_ft (tt T sz) a (Int32.ofInt 4))).2.2.2.2 = 175 ∧ _ from ⟨⟨.boolean, rfl, rfl⟩, ex_175 hP, h2 hk.symm e⟩)
theorem c_83 (l : c_t T sz a h) (hQ : Q (some (.int (sw_ko (sw_act (tt T sz) a)))) h) : am_call am_cod 6 83 [.ref 5] h Q := by
  have hP := c_P l
  unfold sw_act at hQ
  refine pz_call (n := 83) (nL := 1) (rt := (some .int)) (rows := am_r83) (d := 5) (by decide +kernel) (by decide +kernel) rfl (by funext pc; rfl) (ex_175 hP) (by exact Nat.le_of_ble_eq_true rfl) ?_
  refine am_goX 2 (show am_sh h 5 = some (9, 0) ∧ pz_S 1 (some .int) am_r83 5 Q 4 [(0, .ref 5)] [am_rf (h.2.2.1 5 0)] h from ⟨ex_5 hP, ?_⟩)
  rw [ex_r5_0 (h := h) hP]
  refine am_goX 2 (show am_rc h 1 7 ∧ 0 ≤ 8 ∧ h.2.2.2.2 + am_al 44 ≤ 175 ∧ am_call am_cod 5 44 [.ref 1, .ref (4000000 + 21)] h (fun vv h' => pz_S 1 (some .int) am_r83 5 Q 9 [(0, .ref 5)] (vv.toList ++ []) h') from ⟨Or.inl ⟨by decide, ex_1 hP⟩, by decide, ex_lim hP rfl, am_call.up (c_isw (by decide) wq_21 l ?_) (by decide)⟩)
  cases e1 : sp_w (tt T sz) a 5538 with
  | true =>
    refine am_goX 1 (show ((pz_b (true)) = 0 → pz_S 1 (some .int) am_r83 5 Q 14 [(0, .ref 5)] [] h) ∧ (¬ ((pz_b (true)) = 0) → pz_S 1 (some .int) am_r83 5 Q 12 [(0, .ref 5)] [] h) from ⟨fun hz => absurd hz (by decide), fun _ => ?_⟩)
    refine am_goX 1 (show pz_S 1 (some .int) am_r83 5 Q 13 [(0, .ref 5)] [.int (Int32.ofInt 0)] h from ?_)
    simp only [e1, cond_true, cond_false] at hQ
    exact am_goX 1 (show (∃ ty, (some .int) = some ty ∧ narrow ty (.int ((Int32.ofInt 0))) = .int ((Int32.ofInt 0))) ∧ h.2.2.2.2 = 175 ∧ _ from ⟨⟨.int, rfl, rfl⟩, ex_175 hP, hQ⟩)
  | false =>
    refine am_goX 1 (show ((pz_b (false)) = 0 → pz_S 1 (some .int) am_r83 5 Q 14 [(0, .ref 5)] [] h) ∧ (¬ ((pz_b (false)) = 0) → pz_S 1 (some .int) am_r83 5 Q 12 [(0, .ref 5)] [] h) from ⟨fun _ => ?_, fun hz => absurd (by decide) hz⟩)
    refine am_goX 2 (show am_sh h 5 = some (9, 0) ∧ pz_S 1 (some .int) am_r83 5 Q 18 [(0, .ref 5)] [am_rf (h.2.2.1 5 0)] h from ⟨ex_5 hP, ?_⟩)
    rw [ex_r5_0 (h := h) hP]
    refine am_goX 2 (show am_rc h 1 7 ∧ 0 ≤ 8 ∧ h.2.2.2.2 + am_al 44 ≤ 175 ∧ am_call am_cod 5 44 [.ref 1, .ref (4000000 + 22)] h (fun vv h' => pz_S 1 (some .int) am_r83 5 Q 23 [(0, .ref 5)] (vv.toList ++ []) h') from ⟨Or.inl ⟨by decide, ex_1 hP⟩, by decide, ex_lim hP rfl, am_call.up (c_isw (by decide) wq_22 l ?_) (by decide)⟩)
    cases e2 : sp_w (tt T sz) a 17003 with
    | true =>
      refine am_goX 1 (show ((pz_b (true)) = 0 → pz_S 1 (some .int) am_r83 5 Q 28 [(0, .ref 5)] [] h) ∧ (¬ ((pz_b (true)) = 0) → pz_S 1 (some .int) am_r83 5 Q 26 [(0, .ref 5)] [] h) from ⟨fun hz => absurd hz (by decide), fun _ => ?_⟩)
      refine am_goX 1 (show pz_S 1 (some .int) am_r83 5 Q 27 [(0, .ref 5)] [.int (Int32.ofInt 1)] h from ?_)
      simp only [e1, e2, cond_true, cond_false] at hQ
      exact am_goX 1 (show (∃ ty, (some .int) = some ty ∧ narrow ty (.int ((Int32.ofInt 1))) = .int ((Int32.ofInt 1))) ∧ h.2.2.2.2 = 175 ∧ _ from ⟨⟨.int, rfl, rfl⟩, ex_175 hP, hQ⟩)
    | false =>
      refine am_goX 1 (show ((pz_b (false)) = 0 → pz_S 1 (some .int) am_r83 5 Q 28 [(0, .ref 5)] [] h) ∧ (¬ ((pz_b (false)) = 0) → pz_S 1 (some .int) am_r83 5 Q 26 [(0, .ref 5)] [] h) from ⟨fun _ => ?_, fun hz => absurd (by decide) hz⟩)
      refine am_goX 2 (show am_sh h 5 = some (9, 0) ∧ pz_S 1 (some .int) am_r83 5 Q 32 [(0, .ref 5)] [am_rf (h.2.2.1 5 0)] h from ⟨ex_5 hP, ?_⟩)
      rw [ex_r5_0 (h := h) hP]
      refine am_goX 2 (show am_rc h 1 7 ∧ 0 ≤ 8 ∧ h.2.2.2.2 + am_al 44 ≤ 175 ∧ am_call am_cod 5 44 [.ref 1, .ref (4000000 + 23)] h (fun vv h' => pz_S 1 (some .int) am_r83 5 Q 37 [(0, .ref 5)] (vv.toList ++ []) h') from ⟨Or.inl ⟨by decide, ex_1 hP⟩, by decide, ex_lim hP rfl, am_call.up (c_isw (by decide) wq_23 l ?_) (by decide)⟩)
      cases e3 : sp_w (tt T sz) a 2083 with
      | true =>
        refine am_goX 1 (show ((pz_b (true)) = 0 → pz_S 1 (some .int) am_r83 5 Q 44 [(0, .ref 5)] [] h) ∧ (¬ ((pz_b (true)) = 0) → pz_S 1 (some .int) am_r83 5 Q 40 [(0, .ref 5)] [] h) from ⟨fun hz => absurd hz (by decide), fun _ => ?_⟩)
        refine am_goX 2 (show pz_S 1 (some .int) am_r83 5 Q 45 [(0, .ref 5)] [.int (Int32.ofInt 2)] h from ?_)
        simp only [e1, e2, e3, cond_true, cond_false] at hQ
        exact am_goX 1 (show (∃ ty, (some .int) = some ty ∧ narrow ty (.int ((Int32.ofInt 2))) = .int ((Int32.ofInt 2))) ∧ h.2.2.2.2 = 175 ∧ _ from ⟨⟨.int, rfl, rfl⟩, ex_175 hP, hQ⟩)
      | false =>
        refine am_goX 1 (show ((pz_b (false)) = 0 → pz_S 1 (some .int) am_r83 5 Q 44 [(0, .ref 5)] [] h) ∧ (¬ ((pz_b (false)) = 0) → pz_S 1 (some .int) am_r83 5 Q 40 [(0, .ref 5)] [] h) from ⟨fun _ => ?_, fun hz => absurd (by decide) hz⟩)
        refine am_goX 1 (show pz_S 1 (some .int) am_r83 5 Q 45 [(0, .ref 5)] [.int (Int32.ofInt (-1))] h from ?_)
        simp only [e1, e2, e3, cond_true, cond_false] at hQ
        exact am_goX 1 (show (∃ ty, (some .int) = some ty ∧ narrow ty (.int ((Int32.ofInt (-1)))) = .int ((Int32.ofInt (-1)))) ∧ h.2.2.2.2 = 175 ∧ _ from ⟨⟨.int, rfl, rfl⟩, ex_175 hP, hQ⟩)
theorem c_55n_6l {v w : Int64} (hP : ex_P h) (l : cnm 6 N h) (hw : cwk v w) : ∀ (m i : Nat), i + m = N.1 → Q (some (.int (sp_o (sp_fd N.2 v m i)))) h → pz_S 4 (some .int) am_r55 0 Q 2 [(3, .int (nI i)), (0, .ref 6), (1, .long w)] [] h := by
  have a1 : h.1 6 0 = nI N.1 := l.1
  have a2 : N.1 ≤ 6 := l.2.1
  intro m
  induction m with
  | zero =>
    intro i hi hQ
    refine am_goX 3 (show am_sh h 6 = some (0, 0) ∧ pz_S 4 (some .int) am_r55 0 Q 7 [(3, .int (nI i)), (0, .ref 6), (1, .long w)] [.int (h.1 6 0), .int (nI i)] h from ⟨ex_6 hP, ?_⟩)
    rw [a1]
    refine am_goX 1 (show ((nI N.1) ≤ (nI i) → pz_S 4 (some .int) am_r55 0 Q 29 [(3, .int (nI i)), (0, .ref 6), (1, .long w)] [] h) ∧ (¬ ((nI N.1) ≤ (nI i)) → pz_S 4 (some .int) am_r55 0 Q 10 [(3, .int (nI i)), (0, .ref 6), (1, .long w)] [] h) from ⟨fun hc => ?_, fun hc => ?_⟩)
    · exact am_goX 2 (show (∃ ty, (some .int) = some ty ∧ narrow ty (.int ((Int32.ofInt (-1)))) = .int ((Int32.ofInt (-1)))) ∧ h.2.2.2.2 = 175 ∧ _ from ⟨⟨.int, rfl, rfl⟩, ex_175 hP, hQ⟩)
    · exact absurd (nI_le (by omega) (by omega)) hc
  | succ m ih =>
    intro i hi hQ
    refine am_goX 3 (show am_sh h 6 = some (0, 0) ∧ pz_S 4 (some .int) am_r55 0 Q 7 [(3, .int (nI i)), (0, .ref 6), (1, .long w)] [.int (h.1 6 0), .int (nI i)] h from ⟨ex_6 hP, ?_⟩)
    rw [a1]
    refine am_goX 1 (show ((nI N.1) ≤ (nI i) → pz_S 4 (some .int) am_r55 0 Q 29 [(3, .int (nI i)), (0, .ref 6), (1, .long w)] [] h) ∧ (¬ ((nI N.1) ≤ (nI i)) → pz_S 4 (some .int) am_r55 0 Q 10 [(3, .int (nI i)), (0, .ref 6), (1, .long w)] [] h) from ⟨fun hc => ?_, fun hc => ?_⟩)
    · rw [nI_leI (by omega) (by omega)] at hc
      omega
    clear hc
    unfold sp_fd at hQ
    have hj := l.2.2 i (by omega)
    refine am_goX 2 (show am_sh h 6 = some (0, 0) ∧ pz_S 4 (some .int) am_r55 0 Q 14 [(3, .int (nI i)), (0, .ref 6), (1, .long w)] [am_rf (h.2.2.1 6 1)] h from ⟨ex_6 hP, ?_⟩)
    rw [ex_r6_1 (h := h) hP]
    refine am_goX 2 (show ∃ jj nn : Nat, am_sh h 7 = some (14, nn) ∧ jj < nn ∧ (nI i) = nI jj ∧ pz_S 4 (some .int) am_r55 0 Q 16 [(3, .int (nI i)), (0, .ref 6), (1, .long w)] [.long (h.2.1 7 jj)] h from ⟨i, 6, ex_7 hP, by omega, rfl, ?_⟩)
    refine am_goX 3 (show (¬ (lg_cmp ((h.2.1 7 i)) (w)) = 0 → pz_S 4 (some .int) am_r55 0 Q 23 [(3, .int (nI i)), (0, .ref 6), (1, .long w)] [] h) ∧ (¬ ¬ (lg_cmp ((h.2.1 7 i)) (w)) = 0 → pz_S 4 (some .int) am_r55 0 Q 21 [(3, .int (nI i)), (0, .ref 6), (1, .long w)] [] h) from ⟨fun hc => ?_, fun hc => ?_⟩)
    · rw [decide_eq_false (fun e => hc ((pz_cmp _ _).mpr ((cwk_inj hj hw).mp e)))] at hQ
      refine am_goX 2 (show 3 < 4 ∧ pz_S 4 (some .int) am_r55 0 Q 2 [(3, .int ((nI i) + Int32.ofInt 1)), (0, .ref 6), (1, .long w)] [] h from ⟨by decide, ?_⟩)
      rw [xw_i1]
      exact ih (i + 1) (by omega) hQ
    · rw [decide_eq_true ((cwk_inj hj hw).mpr ((pz_cmp _ _).mp (Decidable.not_not.mp hc)))] at hQ
      exact am_goX 2 (show (∃ ty, (some .int) = some ty ∧ narrow ty (.int ((nI i))) = .int ((nI i))) ∧ h.2.2.2.2 = 175 ∧ _ from ⟨⟨.int, rfl, rfl⟩, ex_175 hP, hQ⟩)
theorem c_55n_6 {v w : Int64} (hP : ex_P h) (l : cnm 6 N h) (hw : cwk v w) (hQ : Q (some (.int (sp_o (sp_fd N.2 v N.1 0)))) h) : am_call am_cod 1 55 [.ref 6, .long w] h Q := by
  refine pz_call (n := 55) (nL := 4) (rt := (some .int)) (rows := am_r55) (d := 0) (by decide +kernel) (by decide +kernel) rfl (by funext pc; rfl) (ex_175 hP) (by exact Nat.le_of_ble_eq_true rfl) ?_
  refine am_goX 2 (show 3 < 4 ∧ pz_S 4 (some .int) am_r55 0 Q 2 [(3, .int (Int32.ofInt 0)), (0, .ref 6), (1, .long w)] [] h from ⟨by decide, ?_⟩)
  exact c_55n_6l hP l hw N.1 0 (Nat.zero_add _) hQ
theorem c_55n_17l {v w : Int64} (hP : ex_P h) (l : cnm 17 N h) (hw : cwk v w) : ∀ (m i : Nat), i + m = N.1 → Q (some (.int (sp_o (sp_fd N.2 v m i)))) h → pz_S 4 (some .int) am_r55 0 Q 2 [(3, .int (nI i)), (0, .ref 17), (1, .long w)] [] h := by
  have a1 : h.1 17 0 = nI N.1 := l.1
  have a2 : N.1 ≤ 6 := l.2.1
  intro m
  induction m with
  | zero =>
    intro i hi hQ
    refine am_goX 3 (show am_sh h 17 = some (0, 0) ∧ pz_S 4 (some .int) am_r55 0 Q 7 [(3, .int (nI i)), (0, .ref 17), (1, .long w)] [.int (h.1 17 0), .int (nI i)] h from ⟨ex_17 hP, ?_⟩)
    rw [a1]
    refine am_goX 1 (show ((nI N.1) ≤ (nI i) → pz_S 4 (some .int) am_r55 0 Q 29 [(3, .int (nI i)), (0, .ref 17), (1, .long w)] [] h) ∧ (¬ ((nI N.1) ≤ (nI i)) → pz_S 4 (some .int) am_r55 0 Q 10 [(3, .int (nI i)), (0, .ref 17), (1, .long w)] [] h) from ⟨fun hc => ?_, fun hc => ?_⟩)
    · exact am_goX 2 (show (∃ ty, (some .int) = some ty ∧ narrow ty (.int ((Int32.ofInt (-1)))) = .int ((Int32.ofInt (-1)))) ∧ h.2.2.2.2 = 175 ∧ _ from ⟨⟨.int, rfl, rfl⟩, ex_175 hP, hQ⟩)
    · exact absurd (nI_le (by omega) (by omega)) hc
  | succ m ih =>
    intro i hi hQ
    refine am_goX 3 (show am_sh h 17 = some (0, 0) ∧ pz_S 4 (some .int) am_r55 0 Q 7 [(3, .int (nI i)), (0, .ref 17), (1, .long w)] [.int (h.1 17 0), .int (nI i)] h from ⟨ex_17 hP, ?_⟩)
    rw [a1]
    refine am_goX 1 (show ((nI N.1) ≤ (nI i) → pz_S 4 (some .int) am_r55 0 Q 29 [(3, .int (nI i)), (0, .ref 17), (1, .long w)] [] h) ∧ (¬ ((nI N.1) ≤ (nI i)) → pz_S 4 (some .int) am_r55 0 Q 10 [(3, .int (nI i)), (0, .ref 17), (1, .long w)] [] h) from ⟨fun hc => ?_, fun hc => ?_⟩)
    · rw [nI_leI (by omega) (by omega)] at hc
      omega
    clear hc
    unfold sp_fd at hQ
    have hj := l.2.2 i (by omega)
    refine am_goX 2 (show am_sh h 17 = some (0, 0) ∧ pz_S 4 (some .int) am_r55 0 Q 14 [(3, .int (nI i)), (0, .ref 17), (1, .long w)] [am_rf (h.2.2.1 17 1)] h from ⟨ex_17 hP, ?_⟩)
    rw [ex_r17_1 (h := h) hP]
    refine am_goX 2 (show ∃ jj nn : Nat, am_sh h 18 = some (14, nn) ∧ jj < nn ∧ (nI i) = nI jj ∧ pz_S 4 (some .int) am_r55 0 Q 16 [(3, .int (nI i)), (0, .ref 17), (1, .long w)] [.long (h.2.1 18 jj)] h from ⟨i, 6, ex_18 hP, by omega, rfl, ?_⟩)
    refine am_goX 3 (show (¬ (lg_cmp ((h.2.1 18 i)) (w)) = 0 → pz_S 4 (some .int) am_r55 0 Q 23 [(3, .int (nI i)), (0, .ref 17), (1, .long w)] [] h) ∧ (¬ ¬ (lg_cmp ((h.2.1 18 i)) (w)) = 0 → pz_S 4 (some .int) am_r55 0 Q 21 [(3, .int (nI i)), (0, .ref 17), (1, .long w)] [] h) from ⟨fun hc => ?_, fun hc => ?_⟩)
    · rw [decide_eq_false (fun e => hc ((pz_cmp _ _).mpr ((cwk_inj hj hw).mp e)))] at hQ
      refine am_goX 2 (show 3 < 4 ∧ pz_S 4 (some .int) am_r55 0 Q 2 [(3, .int ((nI i) + Int32.ofInt 1)), (0, .ref 17), (1, .long w)] [] h from ⟨by decide, ?_⟩)
      rw [xw_i1]
      exact ih (i + 1) (by omega) hQ
    · rw [decide_eq_true ((cwk_inj hj hw).mpr ((pz_cmp _ _).mp (Decidable.not_not.mp hc)))] at hQ
      exact am_goX 2 (show (∃ ty, (some .int) = some ty ∧ narrow ty (.int ((nI i))) = .int ((nI i))) ∧ h.2.2.2.2 = 175 ∧ _ from ⟨⟨.int, rfl, rfl⟩, ex_175 hP, hQ⟩)
theorem c_55n_17 {v w : Int64} (hP : ex_P h) (l : cnm 17 N h) (hw : cwk v w) (hQ : Q (some (.int (sp_o (sp_fd N.2 v N.1 0)))) h) : am_call am_cod 1 55 [.ref 17, .long w] h Q := by
  refine pz_call (n := 55) (nL := 4) (rt := (some .int)) (rows := am_r55) (d := 0) (by decide +kernel) (by decide +kernel) rfl (by funext pc; rfl) (ex_175 hP) (by exact Nat.le_of_ble_eq_true rfl) ?_
  refine am_goX 2 (show 3 < 4 ∧ pz_S 4 (some .int) am_r55 0 Q 2 [(3, .int (Int32.ofInt 0)), (0, .ref 17), (1, .long w)] [] h from ⟨by decide, ?_⟩)
  exact c_55n_17l hP l hw N.1 0 (Nat.zero_add _) hQ
theorem c_85_28 {c : Nat} (hc1 : 1 < c) (hcw : c + 1 < 28) (hlt : W.1 < 40) (l : cwr h0 28 c N T sz (a, W) h) (hF : ∀ F h1, sw_lt (tt T sz) a = .inl F → cwx h0 28 F h1 → Q (some (.int 0)) h1) (hS : ∀ v h1, sw_lt (tt T sz) a = .inr v → cwr h0 28 c N T sz (a + 1, W) h1 → h1.1 31 W.1 = v → (∀ k, h1.1 29 k = h.1 29 k ∧ h1.1 30 k = h.1 30 k) → Q (some (.int 1)) h1) : am_call am_cod 6 85 [.ref 5, .ref 28] h Q := by
  have hP := c_P l.1
  have a1 : h.1 28 3 = nI W.1 := l.2.1.1
  refine pz_call (n := 85) (nL := 2) (rt := (some .boolean)) (rows := am_r85) (d := 5) (by decide +kernel) (by decide +kernel) rfl (by funext pc; rfl) (ex_175 hP) (by exact Nat.le_of_ble_eq_true rfl) ?_
  refine am_goX 2 (show am_sh h 5 = some (9, 0) ∧ pz_S 2 (some .boolean) am_r85 5 Q 4 [(0, .ref 5), (1, .ref 28)] [am_rf (h.2.2.1 5 0)] h from ⟨ex_5 hP, ?_⟩)
  rw [ex_r5_0 (h := h) hP]
  refine am_goX 3 (show am_rc h 1 7 ∧ 0 ≤ 8 ∧ h.2.2.2.2 + am_al 59 ≤ 175 ∧ am_call am_cod 5 59 [.ref 1, .int (Int32.ofInt 0), .int (Int32.ofInt 4)] h (fun vv h' => pz_S 2 (some .boolean) am_r85 5 Q 9 [(0, .ref 5), (1, .ref 28)] (vv.toList ++ []) h') from ⟨Or.inl ⟨by decide, ex_1 hP⟩, by decide, ex_lim hP rfl, am_call.up (c_tNt l.1 (fun e1 e2 => ?_) (fun e1 e2 => ?_) (fun e1 => ?_)) (by decide)⟩)
  ·
    refine am_goX 1 (show (¬ 1 = 0 → pz_S 2 (some .boolean) am_r85 5 Q 14 [(0, .ref 5), (1, .ref 28)] [] h) ∧ (¬ ¬ 1 = 0 → pz_S 2 (some .boolean) am_r85 5 Q 12 [(0, .ref 5), (1, .ref 28)] [] h) from ⟨fun _ => ?_, fun hz => absurd (by decide) hz⟩)
    refine am_goX 2 (show am_sh h 28 = some (8, 0) ∧ pz_S 2 (some .boolean) am_r85 5 Q 18 [(0, .ref 5), (1, .ref 28)] [am_rf (h.2.2.1 28 2)] h from ⟨ex_28 hP, ?_⟩)
    rw [ex_r28_2 (h := h) hP]
    refine am_goX 4 (show am_sh h 28 = some (8, 0) ∧ am_sh h 5 = some (9, 0) ∧ pz_S 2 (some .boolean) am_r85 5 Q 26 [(0, .ref 5), (1, .ref 28)] [am_rf (h.2.2.1 5 0), .int (h.1 28 3), .ref 31] h from ⟨ex_28 hP, ex_5 hP, ?_⟩)
    rw [ex_r5_0 (h := h) hP]
    refine am_goX 1 (show am_sh h 1 = some (7, 0) ∧ pz_S 2 (some .boolean) am_r85 5 Q 29 [(0, .ref 5), (1, .ref 28)] [.int (h.1 1 6), .int (h.1 28 3), .ref 31] h from ⟨ex_1 hP, ?_⟩)
    rw [a1, c_nv l.1 e1]
    refine am_goX 1 (show ∃ jj nn : Nat, am_so h 31 = some (13, nn) ∧ jj < nn ∧ (nI W.1) = nI jj ∧ pz_S 2 (some .boolean) am_r85 5 Q 30 [(0, .ref 5), (1, .ref 28)] [] (am_wI h 31 jj (sp_v (tt T sz) a)) from ⟨W.1, 40, ex_w31 hP, by omega, rfl, ?_⟩)
    have l2 : cwr h0 28 c N T sz (a, W) (am_wI h 31 (W.1) (sp_v (tt T sz) a)) := cwr_w hcw hc1 l (Or.inr (Or.inr rfl)) (Nat.le_refl _)
    refine am_goX 2 (show am_sh (am_wI h 31 (W.1) (sp_v (tt T sz) a)) 5 = some (9, 0) ∧ pz_S 2 (some .boolean) am_r85 5 Q 34 [(0, .ref 5), (1, .ref 28)] [am_rf ((am_wI h 31 (W.1) (sp_v (tt T sz) a)).2.2.1 5 0)] (am_wI h 31 (W.1) (sp_v (tt T sz) a)) from ⟨ex_5 (c_P l2.1), ?_⟩)
    rw [ex_r5_0 (h := am_wI h 31 (W.1) (sp_v (tt T sz) a)) (c_P l2.1)]
    refine am_goX 1 (show am_rc (am_wI h 31 (W.1) (sp_v (tt T sz) a)) 1 7 ∧ 0 ≤ 8 ∧ (am_wI h 31 (W.1) (sp_v (tt T sz) a)).2.2.2.2 + am_al 18 ≤ 175 ∧ am_call am_cod 5 18 [.ref 1] (am_wI h 31 (W.1) (sp_v (tt T sz) a)) (fun vv h' => pz_S 2 (some .boolean) am_r85 5 Q 37 [(0, .ref 5), (1, .ref 28)] (vv.toList ++ []) h') from ⟨Or.inl ⟨by decide, ex_1 (c_P l2.1)⟩, by decide, ex_lim (c_P l2.1) rfl, am_call.up (c_step l2.1 (sp_kn (by decide) e1) (fun h3 m f => ?_)) (by decide)⟩)
    exact am_goX 2 (show (∃ ty, (some .boolean) = some ty ∧ narrow ty (.int ((Int32.ofInt 1))) = .int ((Int32.ofInt 1))) ∧ h3.2.2.2.2 = 175 ∧ _ from ⟨⟨.boolean, rfl, rfl⟩, ex_175 (c_P m), hS (sp_v (tt T sz) a) h3 (by unfold sw_lt; rw [e1, e2]; rfl) (cwr_fr (by decide) hc1 l2 m f) ((f.2 31 W.1 (by decide)).1.trans (em_we _ _ _ _)) (fun k => ⟨(f.2 29 k (by decide)).1.trans (em_wn _ _ (by omega)), (f.2 30 k (by decide)).1.trans (em_wn _ _ (by omega))⟩)⟩)
  ·
    refine am_goX 1 (show (¬ 0 = 0 → pz_S 2 (some .boolean) am_r85 5 Q 14 [(0, .ref 5), (1, .ref 28)] [] (am_wI h 1 7 (sp_ft (tt T sz) a (Int32.ofInt 4)))) ∧ (¬ ¬ 0 = 0 → pz_S 2 (some .boolean) am_r85 5 Q 12 [(0, .ref 5), (1, .ref 28)] [] (am_wI h 1 7 (sp_ft (tt T sz) a (Int32.ofInt 4)))) from ⟨fun hz => absurd hz (by decide), fun _ => ?_⟩)
    exact am_goX 2 (show (∃ ty, (some .boolean) = some ty ∧ narrow ty (.int ((Int32.ofInt 0))) = .int ((Int32.ofInt 0))) ∧ (am_wI h 1 7 (sp_ft (tt T sz) a (Int32.ofInt 4))).2.2.2.2 = 175 ∧ _ from ⟨⟨.boolean, rfl, rfl⟩, ex_175 hP, hF _ _ (by unfold sw_lt; rw [e1, e2]; rfl) (cwr_x (s := (a, W)) l (by decide))⟩)
  ·
    refine am_goX 1 (show (¬ 0 = 0 → pz_S 2 (some .boolean) am_r85 5 Q 14 [(0, .ref 5), (1, .ref 28)] [] (am_wI h 1 7 (sp_ft (tt T sz) a (Int32.ofInt 1)))) ∧ (¬ ¬ 0 = 0 → pz_S 2 (some .boolean) am_r85 5 Q 12 [(0, .ref 5), (1, .ref 28)] [] (am_wI h 1 7 (sp_ft (tt T sz) a (Int32.ofInt 1)))) from ⟨fun hz => absurd hz (by decide), fun _ => ?_⟩)
    exact am_goX 2 (show (∃ ty, (some .boolean) = some ty ∧ narrow ty (.int ((Int32.ofInt 0))) = .int ((Int32.ofInt 0))) ∧ (am_wI h 1 7 (sp_ft (tt T sz) a (Int32.ofInt 1))).2.2.2.2 = 175 ∧ _ from ⟨⟨.boolean, rfl, rfl⟩, ex_175 hP, hF _ _ (by unfold sw_lt; rw [e1]; rfl) (cwr_x (s := (a, W)) l (by decide))⟩)
theorem c_84_28_6 (hlt : W.1 < 40) (l : cwr h0 28 6 N T sz (a, W) h) (hF : ∀ F h1, sw_pn (tt T sz) N a = .inl F → cwx h0 28 F h1 → Q (some (.int 0)) h1) (hS : ∀ p h1, sw_pn (tt T sz) N a = .inr p → cwr h0 28 6 N T sz (a + 1, W) h1 → h1.1 30 W.1 = nI p → (∀ k, h1.1 29 k = h.1 29 k ∧ h1.1 31 k = h.1 31 k) → Q (some (.int 1)) h1) : am_call am_cod 6 84 [.ref 5, .ref 28, .ref 6] h Q := by
  have hP := c_P l.1
  have a1 : h.1 28 3 = nI W.1 := l.2.1.1
  refine pz_call (n := 84) (nL := 4) (rt := (some .boolean)) (rows := am_r84) (d := 5) (by decide +kernel) (by decide +kernel) rfl (by funext pc; rfl) (ex_175 hP) (by exact Nat.le_of_ble_eq_true rfl) ?_
  refine am_goX 2 (show am_sh h 5 = some (9, 0) ∧ pz_S 4 (some .boolean) am_r84 5 Q 4 [(0, .ref 5), (1, .ref 28), (2, .ref 6)] [am_rf (h.2.2.1 5 0)] h from ⟨ex_5 hP, ?_⟩)
  rw [ex_r5_0 (h := h) hP]
  refine am_goX 1 (show am_rc h 1 7 ∧ 0 ≤ 8 ∧ h.2.2.2.2 + am_al 54 ≤ 175 ∧ am_call am_cod 5 54 [.ref 1] h (fun vv h' => pz_S 4 (some .boolean) am_r84 5 Q 7 [(0, .ref 5), (1, .ref 28), (2, .ref 6)] (vv.toList ++ []) h') from ⟨Or.inl ⟨by decide, ex_1 hP⟩, by decide, ex_lim hP rfl, am_call.up (c_isn l.1 ?_) (by decide)⟩)
  cases e1 : sp_n (tt T sz) a with
  | true =>
    refine am_goX 1 (show (¬ (pz_b (true)) = 0 → pz_S 4 (some .boolean) am_r84 5 Q 19 [(0, .ref 5), (1, .ref 28), (2, .ref 6)] [] h) ∧ (¬ ¬ (pz_b (true)) = 0 → pz_S 4 (some .boolean) am_r84 5 Q 10 [(0, .ref 5), (1, .ref 28), (2, .ref 6)] [] h) from ⟨fun _ => ?_, fun hz => absurd (by decide) hz⟩)
    refine am_goX 3 (show am_sh h 5 = some (9, 0) ∧ pz_S 4 (some .boolean) am_r84 5 Q 24 [(0, .ref 5), (1, .ref 28), (2, .ref 6)] [am_rf (h.2.2.1 5 0), .ref 6] h from ⟨ex_5 hP, ?_⟩)
    rw [ex_r5_0 (h := h) hP]
    refine am_goX 2 (show am_sh h 1 = some (7, 0) ∧ am_rc h 6 0 ∧ 0 ≤ 8 ∧ h.2.2.2.2 + am_al 55 ≤ 175 ∧ am_call am_cod 5 55 [.ref 6, .long (h.2.1 1 5)] h (fun vv h' => pz_S 4 (some .boolean) am_r84 5 Q 30 [(0, .ref 5), (1, .ref 28), (2, .ref 6)] (vv.toList ++ []) h') from ⟨ex_1 hP, Or.inl ⟨by decide, ex_6 hP⟩, by decide, ex_lim hP rfl, am_call.up (c_55n_6 (v := (tt T sz a).2.1) hP l.2.2.2 (c_wd l.1 (sp_nk e1)) ?_) (by decide)⟩)
    cases e2 : sp_fd N.2 (tt T sz a).2.1 N.1 0 with
    | none =>
      refine am_goX 4 (show 3 < 4 ∧ (¬ (Int32.ofInt (-1)) = (Int32.ofInt (-1)) → pz_S 4 (some .boolean) am_r84 5 Q 45 [(3, .int (Int32.ofInt (-1))), (0, .ref 5), (1, .ref 28), (2, .ref 6)] [] h) ∧ (¬ ¬ (Int32.ofInt (-1)) = (Int32.ofInt (-1)) → pz_S 4 (some .boolean) am_r84 5 Q 36 [(3, .int (Int32.ofInt (-1))), (0, .ref 5), (1, .ref 28), (2, .ref 6)] [] h) from ⟨by decide, fun hz => absurd hz (by decide), fun _ => ?_⟩)
      refine am_goX 2 (show am_sh h 5 = some (9, 0) ∧ pz_S 4 (some .boolean) am_r84 5 Q 40 [(3, .int (Int32.ofInt (-1))), (0, .ref 5), (1, .ref 28), (2, .ref 6)] [am_rf (h.2.2.1 5 0)] h from ⟨ex_5 hP, ?_⟩)
      rw [ex_r5_0 (h := h) hP]
      refine am_goX 2 (show am_rc h 1 7 ∧ 0 ≤ 8 ∧ h.2.2.2.2 + am_al 52 ≤ 175 ∧ am_call am_cod 5 52 [.ref 1, .int (Int32.ofInt 2)] h (fun vv h' => pz_S 4 (some .boolean) am_r84 5 Q 44 [(3, .int (Int32.ofInt (-1))), (0, .ref 5), (1, .ref 28), (2, .ref 6)] (vv.toList ++ []) h') from ⟨Or.inl ⟨by decide, ex_1 hP⟩, by decide, ex_lim hP rfl, am_call.up (c_refuse l.1 ?_) (by decide)⟩)
      exact am_goX 1 (show (∃ ty, (some .boolean) = some ty ∧ narrow ty (.int ((Int32.ofInt 0))) = .int ((Int32.ofInt 0))) ∧ (am_wI h 1 7 (sp_ft (tt T sz) a (Int32.ofInt 2))).2.2.2.2 = 175 ∧ _ from ⟨⟨.boolean, rfl, rfl⟩, ex_175 hP, hF _ _ (by unfold sw_pn; rw [e1, cond_true, e2]; first | done | rfl) (cwr_x (s := (a, W)) l (by decide))⟩)
    | some p =>
      have wp := sp_fd_lt e2
      have w6 := l.2.2.2.2.1
      refine am_goX 4 (show 3 < 4 ∧ (¬ (nI p) = (Int32.ofInt (-1)) → pz_S 4 (some .boolean) am_r84 5 Q 45 [(3, .int (nI p)), (0, .ref 5), (1, .ref 28), (2, .ref 6)] [] h) ∧ (¬ ¬ (nI p) = (Int32.ofInt (-1)) → pz_S 4 (some .boolean) am_r84 5 Q 36 [(3, .int (nI p)), (0, .ref 5), (1, .ref 28), (2, .ref 6)] [] h) from ⟨by decide, fun _ => ?_, fun hz => absurd (nI_m1 (by omega)) hz⟩)
      refine am_goX 2 (show am_sh h 28 = some (8, 0) ∧ pz_S 4 (some .boolean) am_r84 5 Q 49 [(3, .int (nI p)), (0, .ref 5), (1, .ref 28), (2, .ref 6)] [am_rf (h.2.2.1 28 1)] h from ⟨ex_28 hP, ?_⟩)
      rw [ex_r28_1 (h := h) hP]
      refine am_goX 3 (show am_sh h 28 = some (8, 0) ∧ pz_S 4 (some .boolean) am_r84 5 Q 54 [(3, .int (nI p)), (0, .ref 5), (1, .ref 28), (2, .ref 6)] [.int (nI p), .int (h.1 28 3), .ref 30] h from ⟨ex_28 hP, ?_⟩)
      rw [a1]
      refine am_goX 1 (show ∃ jj nn : Nat, am_so h 30 = some (13, nn) ∧ jj < nn ∧ (nI W.1) = nI jj ∧ pz_S 4 (some .boolean) am_r84 5 Q 55 [(3, .int (nI p)), (0, .ref 5), (1, .ref 28), (2, .ref 6)] [] (am_wI h 30 jj (nI p)) from ⟨W.1, 40, ex_w30 hP, by omega, rfl, ?_⟩)
      have l2 : cwr h0 28 6 N T sz (a, W) (am_wI h 30 (W.1) (nI p)) := cwr_w (by decide) (by decide) l (Or.inr (Or.inl rfl)) (Nat.le_refl _)
      refine am_goX 2 (show am_sh (am_wI h 30 (W.1) (nI p)) 5 = some (9, 0) ∧ pz_S 4 (some .boolean) am_r84 5 Q 59 [(3, .int (nI p)), (0, .ref 5), (1, .ref 28), (2, .ref 6)] [am_rf ((am_wI h 30 (W.1) (nI p)).2.2.1 5 0)] (am_wI h 30 (W.1) (nI p)) from ⟨ex_5 (c_P l2.1), ?_⟩)
      rw [ex_r5_0 (h := am_wI h 30 (W.1) (nI p)) (c_P l2.1)]
      refine am_goX 1 (show am_rc (am_wI h 30 (W.1) (nI p)) 1 7 ∧ 0 ≤ 8 ∧ (am_wI h 30 (W.1) (nI p)).2.2.2.2 + am_al 18 ≤ 175 ∧ am_call am_cod 5 18 [.ref 1] (am_wI h 30 (W.1) (nI p)) (fun vv h' => pz_S 4 (some .boolean) am_r84 5 Q 62 [(3, .int (nI p)), (0, .ref 5), (1, .ref 28), (2, .ref 6)] (vv.toList ++ []) h') from ⟨Or.inl ⟨by decide, ex_1 (c_P l2.1)⟩, by decide, ex_lim (c_P l2.1) rfl, am_call.up (c_step l2.1 (sp_nn e1) (fun h3 m f => ?_)) (by decide)⟩)
      exact am_goX 2 (show (∃ ty, (some .boolean) = some ty ∧ narrow ty (.int ((Int32.ofInt 1))) = .int ((Int32.ofInt 1))) ∧ h3.2.2.2.2 = 175 ∧ _ from ⟨⟨.boolean, rfl, rfl⟩, ex_175 (c_P m), hS p h3 (by unfold sw_pn; rw [e1, cond_true, e2]) (cwr_fr (by decide) (by decide) l2 m f) ((f.2 30 W.1 (by decide)).1.trans (em_we _ _ _ _)) (fun k => ⟨(f.2 29 k (by decide)).1.trans (em_wn _ _ (by omega)), (f.2 31 k (by decide)).1.trans (em_wn _ _ (by omega))⟩)⟩)
  | false =>
    refine am_goX 1 (show (¬ (pz_b (false)) = 0 → pz_S 4 (some .boolean) am_r84 5 Q 19 [(0, .ref 5), (1, .ref 28), (2, .ref 6)] [] h) ∧ (¬ ¬ (pz_b (false)) = 0 → pz_S 4 (some .boolean) am_r84 5 Q 10 [(0, .ref 5), (1, .ref 28), (2, .ref 6)] [] h) from ⟨fun hz => absurd hz (by decide), fun _ => ?_⟩)
    refine am_goX 2 (show am_sh h 5 = some (9, 0) ∧ pz_S 4 (some .boolean) am_r84 5 Q 14 [(0, .ref 5), (1, .ref 28), (2, .ref 6)] [am_rf (h.2.2.1 5 0)] h from ⟨ex_5 hP, ?_⟩)
    rw [ex_r5_0 (h := h) hP]
    refine am_goX 2 (show am_rc h 1 7 ∧ 0 ≤ 8 ∧ h.2.2.2.2 + am_al 52 ≤ 175 ∧ am_call am_cod 5 52 [.ref 1, .int (Int32.ofInt 1)] h (fun vv h' => pz_S 4 (some .boolean) am_r84 5 Q 18 [(0, .ref 5), (1, .ref 28), (2, .ref 6)] (vv.toList ++ []) h') from ⟨Or.inl ⟨by decide, ex_1 hP⟩, by decide, ex_lim hP rfl, am_call.up (c_refuse l.1 ?_) (by decide)⟩)
    exact am_goX 1 (show (∃ ty, (some .boolean) = some ty ∧ narrow ty (.int ((Int32.ofInt 0))) = .int ((Int32.ofInt 0))) ∧ (am_wI h 1 7 (sp_ft (tt T sz) a (Int32.ofInt 1))).2.2.2.2 = 175 ∧ _ from ⟨⟨.boolean, rfl, rfl⟩, ex_175 hP, hF _ _ (by unfold sw_pn; rw [e1]; first | done | rfl) (cwr_x (s := (a, W)) l (by decide))⟩)
theorem c_82_28_6 (l : cwr h0 28 6 N T sz s h) (hF : ∀ F h1, sw_line (tt T sz) N s = .inl F → cwx h0 28 F h1 → Q (some (.int 0)) h1) (hS : ∀ t h1, sw_line (tt T sz) N s = .inr t → cwr h0 28 6 N T sz t h1 → Q (some (.int 1)) h1) : am_call am_cod 7 82 [.ref 5, .ref 28, .ref 6] h Q := by
  have hP := c_P l.1
  obtain ⟨a, W⟩ := s
  have a1 : h.1 28 3 = nI W.1 := l.2.1.1
  have a2 : W.1 ≤ 40 := l.2.1.2.1
  refine pz_call (n := 82) (nL := 5) (rt := (some .boolean)) (rows := am_r82) (d := 6) (by decide +kernel) (by decide +kernel) rfl (by funext pc; rfl) (ex_175 hP) (by exact Nat.le_of_ble_eq_true rfl) ?_
  refine am_goX 2 (show am_rc h 5 9 ∧ 0 ≤ 8 ∧ h.2.2.2.2 + am_al 83 ≤ 175 ∧ am_call am_cod 6 83 [.ref 5] h (fun vv h' => pz_S 5 (some .boolean) am_r82 6 Q 4 [(0, .ref 5), (1, .ref 28), (2, .ref 6)] (vv.toList ++ []) h') from ⟨Or.inl ⟨by decide, ex_5 hP⟩, by decide, ex_lim hP rfl, am_call.up (c_83 l.1 ?_) (by decide)⟩)
  rcases sw_act_cs (tt T sz) a with e1 | ⟨e1 | e1 | e1, hn⟩
  · rw [e1]
    refine am_goX 4 (show 3 < 5 ∧ (¬ (Int32.ofInt (-1)) = (Int32.ofInt (-1)) → pz_S 5 (some .boolean) am_r82 6 Q 19 [(3, .int (Int32.ofInt (-1))), (0, .ref 5), (1, .ref 28), (2, .ref 6)] [] h) ∧ (¬ ¬ (Int32.ofInt (-1)) = (Int32.ofInt (-1)) → pz_S 5 (some .boolean) am_r82 6 Q 10 [(3, .int (Int32.ofInt (-1))), (0, .ref 5), (1, .ref 28), (2, .ref 6)] [] h) from ⟨by decide, fun hz => absurd hz (by decide), fun _ => ?_⟩)
    refine am_goX 2 (show am_sh h 5 = some (9, 0) ∧ pz_S 5 (some .boolean) am_r82 6 Q 14 [(3, .int (Int32.ofInt (-1))), (0, .ref 5), (1, .ref 28), (2, .ref 6)] [am_rf (h.2.2.1 5 0)] h from ⟨ex_5 hP, ?_⟩)
    rw [ex_r5_0 (h := h) hP]
    refine am_goX 2 (show am_rc h 1 7 ∧ 0 ≤ 8 ∧ h.2.2.2.2 + am_al 52 ≤ 175 ∧ am_call am_cod 6 52 [.ref 1, .int (Int32.ofInt 1)] h (fun vv h' => pz_S 5 (some .boolean) am_r82 6 Q 18 [(3, .int (Int32.ofInt (-1))), (0, .ref 5), (1, .ref 28), (2, .ref 6)] (vv.toList ++ []) h') from ⟨Or.inl ⟨by decide, ex_1 hP⟩, by decide, ex_lim hP rfl, am_call.up (c_refuse l.1 ?_) (by decide)⟩)
    exact am_goX 1 (show (∃ ty, (some .boolean) = some ty ∧ narrow ty (.int ((Int32.ofInt 0))) = .int ((Int32.ofInt 0))) ∧ (am_wI h 1 7 (sp_ft (tt T sz) a (Int32.ofInt 1))).2.2.2.2 = 175 ∧ _ from ⟨⟨.boolean, rfl, rfl⟩, ex_175 hP, hF _ _ (by unfold sw_line; dsimp only; simp only [e1]) (cwr_x (s := (a, W)) l (by decide))⟩)
  · rw [e1]
    refine am_goX 4 (show 3 < 5 ∧ (¬ 0 = (Int32.ofInt (-1)) → pz_S 5 (some .boolean) am_r82 6 Q 19 [(3, .int 0), (0, .ref 5), (1, .ref 28), (2, .ref 6)] [] h) ∧ (¬ ¬ 0 = (Int32.ofInt (-1)) → pz_S 5 (some .boolean) am_r82 6 Q 10 [(3, .int 0), (0, .ref 5), (1, .ref 28), (2, .ref 6)] [] h) from ⟨by decide, fun _ => ?_, fun hz => absurd (by decide) hz⟩)
    refine am_goX 2 (show am_sh h 28 = some (8, 0) ∧ pz_S 5 (some .boolean) am_r82 6 Q 23 [(3, .int 0), (0, .ref 5), (1, .ref 28), (2, .ref 6)] [.int (h.1 28 3)] h from ⟨ex_28 hP, ?_⟩)
    rw [a1]
    refine am_goX 3 (show 4 < 5 ∧ pz_S 5 (some .boolean) am_r82 6 Q 29 [(4, .int (nI W.1)), (3, .int 0), (0, .ref 5), (1, .ref 28), (2, .ref 6)] [.int (Int8.ofInt 40).toInt32, .int (nI W.1)] h from ⟨by decide, ?_⟩)
    cases e2 : Nat.ble 40 W.1 with
    | true =>
      refine am_goX 1 (show ((nI W.1) < (Int8.ofInt 40).toInt32 → pz_S 5 (some .boolean) am_r82 6 Q 41 [(4, .int (nI W.1)), (3, .int 0), (0, .ref 5), (1, .ref 28), (2, .ref 6)] [] h) ∧ (¬ ((nI W.1) < (Int8.ofInt 40).toInt32) → pz_S 5 (some .boolean) am_r82 6 Q 32 [(4, .int (nI W.1)), (3, .int 0), (0, .ref 5), (1, .ref 28), (2, .ref 6)] [] h) from ⟨fun hz => absurd hz (i40 e2 a2), fun _ => ?_⟩)
      refine am_goX 2 (show am_sh h 5 = some (9, 0) ∧ pz_S 5 (some .boolean) am_r82 6 Q 36 [(4, .int (nI W.1)), (3, .int 0), (0, .ref 5), (1, .ref 28), (2, .ref 6)] [am_rf (h.2.2.1 5 0)] h from ⟨ex_5 hP, ?_⟩)
      rw [ex_r5_0 (h := h) hP]
      refine am_goX 2 (show am_rc h 1 7 ∧ 0 ≤ 8 ∧ h.2.2.2.2 + am_al 52 ≤ 175 ∧ am_call am_cod 6 52 [.ref 1, .int (Int32.ofInt 5)] h (fun vv h' => pz_S 5 (some .boolean) am_r82 6 Q 40 [(4, .int (nI W.1)), (3, .int 0), (0, .ref 5), (1, .ref 28), (2, .ref 6)] (vv.toList ++ []) h') from ⟨Or.inl ⟨by decide, ex_1 hP⟩, by decide, ex_lim hP rfl, am_call.up (c_refuse l.1 ?_) (by decide)⟩)
      exact am_goX 1 (show (∃ ty, (some .boolean) = some ty ∧ narrow ty (.int ((Int32.ofInt 0))) = .int ((Int32.ofInt 0))) ∧ (am_wI h 1 7 (sp_ft (tt T sz) a (Int32.ofInt 5))).2.2.2.2 = 175 ∧ _ from ⟨⟨.boolean, rfl, rfl⟩, ex_175 hP, hF _ _ (by unfold sw_line; dsimp only; simp only [e1, e2, cond_true]) (cwr_x (s := (a, W)) l (by decide))⟩)
    | false =>
      refine am_goX 1 (show ((nI W.1) < (Int8.ofInt 40).toInt32 → pz_S 5 (some .boolean) am_r82 6 Q 41 [(4, .int (nI W.1)), (3, .int 0), (0, .ref 5), (1, .ref 28), (2, .ref 6)] [] h) ∧ (¬ ((nI W.1) < (Int8.ofInt 40).toInt32) → pz_S 5 (some .boolean) am_r82 6 Q 32 [(4, .int (nI W.1)), (3, .int 0), (0, .ref 5), (1, .ref 28), (2, .ref 6)] [] h) from ⟨fun _ => ?_, fun hz => absurd (j40 e2) hz⟩)
      have hlt := j40n e2
      refine am_goX 2 (show am_sh h 28 = some (8, 0) ∧ pz_S 5 (some .boolean) am_r82 6 Q 45 [(4, .int (nI W.1)), (3, .int 0), (0, .ref 5), (1, .ref 28), (2, .ref 6)] [am_rf (h.2.2.1 28 0)] h from ⟨ex_28 hP, ?_⟩)
      rw [ex_r28_0 (h := h) hP]
      refine am_goX 3 (show ∃ jj nn : Nat, am_so h 29 = some (13, nn) ∧ jj < nn ∧ (nI W.1) = nI jj ∧ pz_S 5 (some .boolean) am_r82 6 Q 49 [(4, .int (nI W.1)), (3, .int 0), (0, .ref 5), (1, .ref 28), (2, .ref 6)] [] (am_wI h 29 jj 0) from ⟨W.1, 40, ex_w29 hP, by omega, rfl, ?_⟩)
      have l2 : cwr h0 28 6 N T sz (a, W) (am_wI h 29 (W.1) 0) := cwr_w (by decide) (by decide) l (Or.inl rfl) (Nat.le_refl _)
      refine am_goX 2 (show am_sh (am_wI h 29 (W.1) 0) 28 = some (8, 0) ∧ pz_S 5 (some .boolean) am_r82 6 Q 53 [(4, .int (nI W.1)), (3, .int 0), (0, .ref 5), (1, .ref 28), (2, .ref 6)] [am_rf ((am_wI h 29 (W.1) 0).2.2.1 28 1)] (am_wI h 29 (W.1) 0) from ⟨ex_28 (c_P l2.1), ?_⟩)
      rw [ex_r28_1 (h := am_wI h 29 (W.1) 0) (c_P l2.1)]
      refine am_goX 3 (show ∃ jj nn : Nat, am_so (am_wI h 29 (W.1) 0) 30 = some (13, nn) ∧ jj < nn ∧ (nI W.1) = nI jj ∧ pz_S 5 (some .boolean) am_r82 6 Q 57 [(4, .int (nI W.1)), (3, .int 0), (0, .ref 5), (1, .ref 28), (2, .ref 6)] [] (am_wI (am_wI h 29 (W.1) 0) 30 jj 0) from ⟨W.1, 40, ex_w30 (c_P l2.1), by omega, rfl, ?_⟩)
      have l3 : cwr h0 28 6 N T sz (a, W) (am_wI (am_wI h 29 (W.1) 0) 30 (W.1) 0) := cwr_w (by decide) (by decide) l2 (Or.inr (Or.inl rfl)) (Nat.le_refl _)
      refine am_goX 2 (show am_sh (am_wI (am_wI h 29 (W.1) 0) 30 (W.1) 0) 28 = some (8, 0) ∧ pz_S 5 (some .boolean) am_r82 6 Q 61 [(4, .int (nI W.1)), (3, .int 0), (0, .ref 5), (1, .ref 28), (2, .ref 6)] [am_rf ((am_wI (am_wI h 29 (W.1) 0) 30 (W.1) 0).2.2.1 28 2)] (am_wI (am_wI h 29 (W.1) 0) 30 (W.1) 0) from ⟨ex_28 (c_P l3.1), ?_⟩)
      rw [ex_r28_2 (h := am_wI (am_wI h 29 (W.1) 0) 30 (W.1) 0) (c_P l3.1)]
      refine am_goX 3 (show ∃ jj nn : Nat, am_so (am_wI (am_wI h 29 (W.1) 0) 30 (W.1) 0) 31 = some (13, nn) ∧ jj < nn ∧ (nI W.1) = nI jj ∧ pz_S 5 (some .boolean) am_r82 6 Q 65 [(4, .int (nI W.1)), (3, .int 0), (0, .ref 5), (1, .ref 28), (2, .ref 6)] [] (am_wI (am_wI (am_wI h 29 (W.1) 0) 30 (W.1) 0) 31 jj 0) from ⟨W.1, 40, ex_w31 (c_P l3.1), by omega, rfl, ?_⟩)
      have l4 : cwr h0 28 6 N T sz (a, W) (am_wI (am_wI (am_wI h 29 (W.1) 0) 30 (W.1) 0) 31 (W.1) 0) := cwr_w (by decide) (by decide) l3 (Or.inr (Or.inr rfl)) (Nat.le_refl _)
      have x1 : (am_wI (am_wI (am_wI h 29 (W.1) 0) 30 (W.1) 0) 31 (W.1) 0).1 29 W.1 = 0 := by rw [em_wn _ _ (by omega), em_wn _ _ (by omega), em_we]
      have x2 : (am_wI (am_wI (am_wI h 29 (W.1) 0) 30 (W.1) 0) 31 (W.1) 0).1 30 W.1 = 0 := by rw [em_wn _ _ (by omega), em_we]
      have x3 : (am_wI (am_wI (am_wI h 29 (W.1) 0) 30 (W.1) 0) 31 (W.1) 0).1 31 W.1 = 0 := em_we _ _ _ _
      refine am_goX 2 (show am_sh (am_wI (am_wI (am_wI h 29 (W.1) 0) 30 (W.1) 0) 31 (W.1) 0) 5 = some (9, 0) ∧ pz_S 5 (some .boolean) am_r82 6 Q 69 [(4, .int (nI W.1)), (3, .int 0), (0, .ref 5), (1, .ref 28), (2, .ref 6)] [am_rf ((am_wI (am_wI (am_wI h 29 (W.1) 0) 30 (W.1) 0) 31 (W.1) 0).2.2.1 5 0)] (am_wI (am_wI (am_wI h 29 (W.1) 0) 30 (W.1) 0) 31 (W.1) 0) from ⟨ex_5 (c_P l4.1), ?_⟩)
      rw [ex_r5_0 (h := am_wI (am_wI (am_wI h 29 (W.1) 0) 30 (W.1) 0) 31 (W.1) 0) (c_P l4.1)]
      refine am_goX 1 (show am_rc (am_wI (am_wI (am_wI h 29 (W.1) 0) 30 (W.1) 0) 31 (W.1) 0) 1 7 ∧ 0 ≤ 8 ∧ (am_wI (am_wI (am_wI h 29 (W.1) 0) 30 (W.1) 0) 31 (W.1) 0).2.2.2.2 + am_al 18 ≤ 175 ∧ am_call am_cod 6 18 [.ref 1] (am_wI (am_wI (am_wI h 29 (W.1) 0) 30 (W.1) 0) 31 (W.1) 0) (fun vv h' => pz_S 5 (some .boolean) am_r82 6 Q 72 [(4, .int (nI W.1)), (3, .int 0), (0, .ref 5), (1, .ref 28), (2, .ref 6)] (vv.toList ++ []) h') from ⟨Or.inl ⟨by decide, ex_1 (c_P l4.1)⟩, by decide, ex_lim (c_P l4.1) rfl, am_call.up (c_step l4.1 hn (fun h3 m f => ?_)) (by decide)⟩)
      have l5 := cwr_fr (by decide) (by decide) l4 m f
      have x1 := (f.2 29 W.1 (by decide)).1.trans x1
      have x2 := (f.2 30 W.1 (by decide)).1.trans x2
      have x3 := (f.2 31 W.1 (by decide)).1.trans x3
      refine am_goX 2 (show (0 = 0 → pz_S 5 (some .boolean) am_r82 6 Q 87 [(4, .int (nI W.1)), (3, .int 0), (0, .ref 5), (1, .ref 28), (2, .ref 6)] [] h3) ∧ (¬ (0 = 0) → pz_S 5 (some .boolean) am_r82 6 Q 76 [(4, .int (nI W.1)), (3, .int 0), (0, .ref 5), (1, .ref 28), (2, .ref 6)] [] h3) from ⟨fun _ => ?_, fun hz => absurd (by decide) hz⟩)
      refine am_goX 3 (show (¬ 0 = (Int32.ofInt 1) → pz_S 5 (some .boolean) am_r82 6 Q 102 [(4, .int (nI W.1)), (3, .int 0), (0, .ref 5), (1, .ref 28), (2, .ref 6)] [] h3) ∧ (¬ ¬ 0 = (Int32.ofInt 1) → pz_S 5 (some .boolean) am_r82 6 Q 92 [(4, .int (nI W.1)), (3, .int 0), (0, .ref 5), (1, .ref 28), (2, .ref 6)] [] h3) from ⟨fun _ => ?_, fun hz => absurd (by decide) hz⟩)
      refine am_goX 6 (show (Value.ref 28).category = 1 ∧ am_sh h3 28 = some (8, 0) ∧ am_sh h3 28 = some (8, 0) ∧ narrow (am_fty 8 3) (.int (((h3.1 28 3) + (Int32.ofInt 1)))) = .int (((h3.1 28 3) + (Int32.ofInt 1))) ∧ fits (am_fty 8 3) (.int (((h3.1 28 3) + (Int32.ofInt 1)))) = true ∧ pz_S 5 (some .boolean) am_r82 6 Q 112 [(4, .int (nI W.1)), (3, .int 0), (0, .ref 5), (1, .ref 28), (2, .ref 6)] [] (am_wI h3 28 3 (((h3.1 28 3) + (Int32.ofInt 1)))) from ⟨rfl, ex_28 (c_P l5.1), ex_28 (c_P l5.1), rfl, rfl, ?_⟩)
      rw [show h3.1 28 3 = nI W.1 from l5.2.1.1, xw_i1]
      have l9 : cwr h0 28 6 N T sz (a + 1, sw_ad W 0 0 0) (am_wI h3 28 3 (nI (W.1 + 1))) := cwr_P (by decide) (by decide) l5 hlt x1 x2 x3
      refine am_goX 2 (show am_sh (am_wI h3 28 3 (nI (W.1 + 1))) 5 = some (9, 0) ∧ pz_S 5 (some .boolean) am_r82 6 Q 116 [(4, .int (nI W.1)), (3, .int 0), (0, .ref 5), (1, .ref 28), (2, .ref 6)] [am_rf ((am_wI h3 28 3 (nI (W.1 + 1))).2.2.1 5 0)] (am_wI h3 28 3 (nI (W.1 + 1))) from ⟨ex_5 (c_P l9.1), ?_⟩)
      rw [ex_r5_0 (h := am_wI h3 28 3 (nI (W.1 + 1))) (c_P l9.1)]
      refine am_goX 2 (show am_rc (am_wI h3 28 3 (nI (W.1 + 1))) 1 7 ∧ 0 ≤ 8 ∧ (am_wI h3 28 3 (nI (W.1 + 1))).2.2.2.2 + am_al 61 ≤ 175 ∧ am_call am_cod 6 61 [.ref 1, .int (Int8.ofInt 59).toInt32] (am_wI h3 28 3 (nI (W.1 + 1))) (fun vv h' => pz_S 5 (some .boolean) am_r82 6 Q 121 [(4, .int (nI W.1)), (3, .int 0), (0, .ref 5), (1, .ref 28), (2, .ref 6)] (vv.toList ++ []) h') from ⟨Or.inl ⟨by decide, ex_1 (c_P l9.1)⟩, by decide, ex_lim (c_P l9.1) rfl, am_call.up (c_tSt l9.1 (fun e9 h9 m9 f9 => ?_) (fun e9 => ?_)) (by decide)⟩)
      ·
        exact am_goX 1 (show (∃ ty, (some .boolean) = some ty ∧ narrow ty (.int (1)) = .int (1)) ∧ h9.2.2.2.2 = 175 ∧ _ from ⟨⟨.boolean, rfl, rfl⟩, ex_175 (c_P m9), hS (a + 1 + 1, sw_ad W 0 0 0) h9 (by unfold sw_line; dsimp only; simp only [e1, e2, decide_true, cond_true, cond_false, show decide ((0 : Int32) = 0) = true from by decide, show decide ((0 : Int32) = 1) = false from by decide, sw_end, e9]) (cwr_fr (by decide) (by decide) l9 m9 f9)⟩)
      ·
        have hP9 : ex_P (am_wI h3 28 3 (nI (W.1 + 1))) := c_P l9.1
        exact am_goX 1 (show (∃ ty, (some .boolean) = some ty ∧ narrow ty (.int (0)) = .int (0)) ∧ (am_wI (am_wI h3 28 3 (nI (W.1 + 1))) 1 7 (sp_ft (tt T sz) (a + 1) (Int32.ofInt 1))).2.2.2.2 = 175 ∧ _ from ⟨⟨.boolean, rfl, rfl⟩, ex_175 hP9, hF _ _ (by unfold sw_line; dsimp only; simp only [e1, e2, decide_true, cond_true, cond_false, show decide ((0 : Int32) = 0) = true from by decide, show decide ((0 : Int32) = 1) = false from by decide, sw_end, e9]) (cwr_x (s := (a + 1, sw_ad W 0 0 0)) l9 (by decide))⟩)
  · rw [e1]
    refine am_goX 4 (show 3 < 5 ∧ (¬ 1 = (Int32.ofInt (-1)) → pz_S 5 (some .boolean) am_r82 6 Q 19 [(3, .int 1), (0, .ref 5), (1, .ref 28), (2, .ref 6)] [] h) ∧ (¬ ¬ 1 = (Int32.ofInt (-1)) → pz_S 5 (some .boolean) am_r82 6 Q 10 [(3, .int 1), (0, .ref 5), (1, .ref 28), (2, .ref 6)] [] h) from ⟨by decide, fun _ => ?_, fun hz => absurd (by decide) hz⟩)
    refine am_goX 2 (show am_sh h 28 = some (8, 0) ∧ pz_S 5 (some .boolean) am_r82 6 Q 23 [(3, .int 1), (0, .ref 5), (1, .ref 28), (2, .ref 6)] [.int (h.1 28 3)] h from ⟨ex_28 hP, ?_⟩)
    rw [a1]
    refine am_goX 3 (show 4 < 5 ∧ pz_S 5 (some .boolean) am_r82 6 Q 29 [(4, .int (nI W.1)), (3, .int 1), (0, .ref 5), (1, .ref 28), (2, .ref 6)] [.int (Int8.ofInt 40).toInt32, .int (nI W.1)] h from ⟨by decide, ?_⟩)
    cases e2 : Nat.ble 40 W.1 with
    | true =>
      refine am_goX 1 (show ((nI W.1) < (Int8.ofInt 40).toInt32 → pz_S 5 (some .boolean) am_r82 6 Q 41 [(4, .int (nI W.1)), (3, .int 1), (0, .ref 5), (1, .ref 28), (2, .ref 6)] [] h) ∧ (¬ ((nI W.1) < (Int8.ofInt 40).toInt32) → pz_S 5 (some .boolean) am_r82 6 Q 32 [(4, .int (nI W.1)), (3, .int 1), (0, .ref 5), (1, .ref 28), (2, .ref 6)] [] h) from ⟨fun hz => absurd hz (i40 e2 a2), fun _ => ?_⟩)
      refine am_goX 2 (show am_sh h 5 = some (9, 0) ∧ pz_S 5 (some .boolean) am_r82 6 Q 36 [(4, .int (nI W.1)), (3, .int 1), (0, .ref 5), (1, .ref 28), (2, .ref 6)] [am_rf (h.2.2.1 5 0)] h from ⟨ex_5 hP, ?_⟩)
      rw [ex_r5_0 (h := h) hP]
      refine am_goX 2 (show am_rc h 1 7 ∧ 0 ≤ 8 ∧ h.2.2.2.2 + am_al 52 ≤ 175 ∧ am_call am_cod 6 52 [.ref 1, .int (Int32.ofInt 5)] h (fun vv h' => pz_S 5 (some .boolean) am_r82 6 Q 40 [(4, .int (nI W.1)), (3, .int 1), (0, .ref 5), (1, .ref 28), (2, .ref 6)] (vv.toList ++ []) h') from ⟨Or.inl ⟨by decide, ex_1 hP⟩, by decide, ex_lim hP rfl, am_call.up (c_refuse l.1 ?_) (by decide)⟩)
      exact am_goX 1 (show (∃ ty, (some .boolean) = some ty ∧ narrow ty (.int ((Int32.ofInt 0))) = .int ((Int32.ofInt 0))) ∧ (am_wI h 1 7 (sp_ft (tt T sz) a (Int32.ofInt 5))).2.2.2.2 = 175 ∧ _ from ⟨⟨.boolean, rfl, rfl⟩, ex_175 hP, hF _ _ (by unfold sw_line; dsimp only; simp only [e1, e2, cond_true]) (cwr_x (s := (a, W)) l (by decide))⟩)
    | false =>
      refine am_goX 1 (show ((nI W.1) < (Int8.ofInt 40).toInt32 → pz_S 5 (some .boolean) am_r82 6 Q 41 [(4, .int (nI W.1)), (3, .int 1), (0, .ref 5), (1, .ref 28), (2, .ref 6)] [] h) ∧ (¬ ((nI W.1) < (Int8.ofInt 40).toInt32) → pz_S 5 (some .boolean) am_r82 6 Q 32 [(4, .int (nI W.1)), (3, .int 1), (0, .ref 5), (1, .ref 28), (2, .ref 6)] [] h) from ⟨fun _ => ?_, fun hz => absurd (j40 e2) hz⟩)
      have hlt := j40n e2
      refine am_goX 2 (show am_sh h 28 = some (8, 0) ∧ pz_S 5 (some .boolean) am_r82 6 Q 45 [(4, .int (nI W.1)), (3, .int 1), (0, .ref 5), (1, .ref 28), (2, .ref 6)] [am_rf (h.2.2.1 28 0)] h from ⟨ex_28 hP, ?_⟩)
      rw [ex_r28_0 (h := h) hP]
      refine am_goX 3 (show ∃ jj nn : Nat, am_so h 29 = some (13, nn) ∧ jj < nn ∧ (nI W.1) = nI jj ∧ pz_S 5 (some .boolean) am_r82 6 Q 49 [(4, .int (nI W.1)), (3, .int 1), (0, .ref 5), (1, .ref 28), (2, .ref 6)] [] (am_wI h 29 jj 1) from ⟨W.1, 40, ex_w29 hP, by omega, rfl, ?_⟩)
      have l2 : cwr h0 28 6 N T sz (a, W) (am_wI h 29 (W.1) 1) := cwr_w (by decide) (by decide) l (Or.inl rfl) (Nat.le_refl _)
      refine am_goX 2 (show am_sh (am_wI h 29 (W.1) 1) 28 = some (8, 0) ∧ pz_S 5 (some .boolean) am_r82 6 Q 53 [(4, .int (nI W.1)), (3, .int 1), (0, .ref 5), (1, .ref 28), (2, .ref 6)] [am_rf ((am_wI h 29 (W.1) 1).2.2.1 28 1)] (am_wI h 29 (W.1) 1) from ⟨ex_28 (c_P l2.1), ?_⟩)
      rw [ex_r28_1 (h := am_wI h 29 (W.1) 1) (c_P l2.1)]
      refine am_goX 3 (show ∃ jj nn : Nat, am_so (am_wI h 29 (W.1) 1) 30 = some (13, nn) ∧ jj < nn ∧ (nI W.1) = nI jj ∧ pz_S 5 (some .boolean) am_r82 6 Q 57 [(4, .int (nI W.1)), (3, .int 1), (0, .ref 5), (1, .ref 28), (2, .ref 6)] [] (am_wI (am_wI h 29 (W.1) 1) 30 jj 0) from ⟨W.1, 40, ex_w30 (c_P l2.1), by omega, rfl, ?_⟩)
      have l3 : cwr h0 28 6 N T sz (a, W) (am_wI (am_wI h 29 (W.1) 1) 30 (W.1) 0) := cwr_w (by decide) (by decide) l2 (Or.inr (Or.inl rfl)) (Nat.le_refl _)
      refine am_goX 2 (show am_sh (am_wI (am_wI h 29 (W.1) 1) 30 (W.1) 0) 28 = some (8, 0) ∧ pz_S 5 (some .boolean) am_r82 6 Q 61 [(4, .int (nI W.1)), (3, .int 1), (0, .ref 5), (1, .ref 28), (2, .ref 6)] [am_rf ((am_wI (am_wI h 29 (W.1) 1) 30 (W.1) 0).2.2.1 28 2)] (am_wI (am_wI h 29 (W.1) 1) 30 (W.1) 0) from ⟨ex_28 (c_P l3.1), ?_⟩)
      rw [ex_r28_2 (h := am_wI (am_wI h 29 (W.1) 1) 30 (W.1) 0) (c_P l3.1)]
      refine am_goX 3 (show ∃ jj nn : Nat, am_so (am_wI (am_wI h 29 (W.1) 1) 30 (W.1) 0) 31 = some (13, nn) ∧ jj < nn ∧ (nI W.1) = nI jj ∧ pz_S 5 (some .boolean) am_r82 6 Q 65 [(4, .int (nI W.1)), (3, .int 1), (0, .ref 5), (1, .ref 28), (2, .ref 6)] [] (am_wI (am_wI (am_wI h 29 (W.1) 1) 30 (W.1) 0) 31 jj 0) from ⟨W.1, 40, ex_w31 (c_P l3.1), by omega, rfl, ?_⟩)
      have l4 : cwr h0 28 6 N T sz (a, W) (am_wI (am_wI (am_wI h 29 (W.1) 1) 30 (W.1) 0) 31 (W.1) 0) := cwr_w (by decide) (by decide) l3 (Or.inr (Or.inr rfl)) (Nat.le_refl _)
      have x1 : (am_wI (am_wI (am_wI h 29 (W.1) 1) 30 (W.1) 0) 31 (W.1) 0).1 29 W.1 = 1 := by rw [em_wn _ _ (by omega), em_wn _ _ (by omega), em_we]
      have x2 : (am_wI (am_wI (am_wI h 29 (W.1) 1) 30 (W.1) 0) 31 (W.1) 0).1 30 W.1 = 0 := by rw [em_wn _ _ (by omega), em_we]
      have x3 : (am_wI (am_wI (am_wI h 29 (W.1) 1) 30 (W.1) 0) 31 (W.1) 0).1 31 W.1 = 0 := em_we _ _ _ _
      refine am_goX 2 (show am_sh (am_wI (am_wI (am_wI h 29 (W.1) 1) 30 (W.1) 0) 31 (W.1) 0) 5 = some (9, 0) ∧ pz_S 5 (some .boolean) am_r82 6 Q 69 [(4, .int (nI W.1)), (3, .int 1), (0, .ref 5), (1, .ref 28), (2, .ref 6)] [am_rf ((am_wI (am_wI (am_wI h 29 (W.1) 1) 30 (W.1) 0) 31 (W.1) 0).2.2.1 5 0)] (am_wI (am_wI (am_wI h 29 (W.1) 1) 30 (W.1) 0) 31 (W.1) 0) from ⟨ex_5 (c_P l4.1), ?_⟩)
      rw [ex_r5_0 (h := am_wI (am_wI (am_wI h 29 (W.1) 1) 30 (W.1) 0) 31 (W.1) 0) (c_P l4.1)]
      refine am_goX 1 (show am_rc (am_wI (am_wI (am_wI h 29 (W.1) 1) 30 (W.1) 0) 31 (W.1) 0) 1 7 ∧ 0 ≤ 8 ∧ (am_wI (am_wI (am_wI h 29 (W.1) 1) 30 (W.1) 0) 31 (W.1) 0).2.2.2.2 + am_al 18 ≤ 175 ∧ am_call am_cod 6 18 [.ref 1] (am_wI (am_wI (am_wI h 29 (W.1) 1) 30 (W.1) 0) 31 (W.1) 0) (fun vv h' => pz_S 5 (some .boolean) am_r82 6 Q 72 [(4, .int (nI W.1)), (3, .int 1), (0, .ref 5), (1, .ref 28), (2, .ref 6)] (vv.toList ++ []) h') from ⟨Or.inl ⟨by decide, ex_1 (c_P l4.1)⟩, by decide, ex_lim (c_P l4.1) rfl, am_call.up (c_step l4.1 hn (fun h3 m f => ?_)) (by decide)⟩)
      have l5 := cwr_fr (by decide) (by decide) l4 m f
      have x1 := (f.2 29 W.1 (by decide)).1.trans x1
      have x2 := (f.2 30 W.1 (by decide)).1.trans x2
      have x3 := (f.2 31 W.1 (by decide)).1.trans x3
      refine am_goX 2 (show (1 = 0 → pz_S 5 (some .boolean) am_r82 6 Q 87 [(4, .int (nI W.1)), (3, .int 1), (0, .ref 5), (1, .ref 28), (2, .ref 6)] [] h3) ∧ (¬ (1 = 0) → pz_S 5 (some .boolean) am_r82 6 Q 76 [(4, .int (nI W.1)), (3, .int 1), (0, .ref 5), (1, .ref 28), (2, .ref 6)] [] h3) from ⟨fun hz => absurd hz (by decide), fun _ => ?_⟩)
      refine am_goX 4 (show am_rc h3 5 9 ∧ 0 ≤ 8 ∧ h3.2.2.2.2 + am_al 84 ≤ 175 ∧ am_call am_cod 6 84 [.ref 5, .ref 28, .ref 6] h3 (fun vv h' => pz_S 5 (some .boolean) am_r82 6 Q 82 [(4, .int (nI W.1)), (3, .int 1), (0, .ref 5), (1, .ref 28), (2, .ref 6)] (vv.toList ++ []) h') from ⟨Or.inl ⟨by decide, ex_5 (c_P l5.1)⟩, by decide, ex_lim (c_P l5.1) rfl, c_84_28_6 hlt l5 (fun F h6 e6 y => ?_) (fun p h6 e6 l6 y1 y2 => ?_)⟩)
      ·
        refine am_goX 1 (show (¬ 0 = 0 → pz_S 5 (some .boolean) am_r82 6 Q 87 [(4, .int (nI W.1)), (3, .int 1), (0, .ref 5), (1, .ref 28), (2, .ref 6)] [] h6) ∧ (¬ ¬ 0 = 0 → pz_S 5 (some .boolean) am_r82 6 Q 85 [(4, .int (nI W.1)), (3, .int 1), (0, .ref 5), (1, .ref 28), (2, .ref 6)] [] h6) from ⟨fun hz => absurd hz (by decide), fun _ => ?_⟩)
        exact am_goX 2 (show (∃ ty, (some .boolean) = some ty ∧ narrow ty (.int ((Int32.ofInt 0))) = .int ((Int32.ofInt 0))) ∧ h6.2.2.2.2 = 175 ∧ _ from ⟨⟨.boolean, rfl, rfl⟩, ex_175 y.1, hF F h6 (by unfold sw_line; dsimp only; simp only [e1, e2, show decide ((1 : Int32) = 0) = false from by decide, show decide ((1 : Int32) = 1) = true from by decide, decide_true, cond_true, cond_false, e6]) y⟩)
      ·
        have x1 := (y2 W.1).1.trans x1
        have x2 := y1
        have x3 := (y2 W.1).2.trans x3
        refine am_goX 1 (show (¬ 1 = 0 → pz_S 5 (some .boolean) am_r82 6 Q 87 [(4, .int (nI W.1)), (3, .int 1), (0, .ref 5), (1, .ref 28), (2, .ref 6)] [] h6) ∧ (¬ ¬ 1 = 0 → pz_S 5 (some .boolean) am_r82 6 Q 85 [(4, .int (nI W.1)), (3, .int 1), (0, .ref 5), (1, .ref 28), (2, .ref 6)] [] h6) from ⟨fun _ => ?_, fun hz => absurd (by decide) hz⟩)
        refine am_goX 3 (show (¬ 1 = (Int32.ofInt 1) → pz_S 5 (some .boolean) am_r82 6 Q 102 [(4, .int (nI W.1)), (3, .int 1), (0, .ref 5), (1, .ref 28), (2, .ref 6)] [] h6) ∧ (¬ ¬ 1 = (Int32.ofInt 1) → pz_S 5 (some .boolean) am_r82 6 Q 92 [(4, .int (nI W.1)), (3, .int 1), (0, .ref 5), (1, .ref 28), (2, .ref 6)] [] h6) from ⟨fun hz => absurd hz (by decide), fun _ => ?_⟩)
        refine am_goX 3 (show am_rc h6 5 9 ∧ 0 ≤ 8 ∧ h6.2.2.2.2 + am_al 85 ≤ 175 ∧ am_call am_cod 6 85 [.ref 5, .ref 28] h6 (fun vv h' => pz_S 5 (some .boolean) am_r82 6 Q 97 [(4, .int (nI W.1)), (3, .int 1), (0, .ref 5), (1, .ref 28), (2, .ref 6)] (vv.toList ++ []) h') from ⟨Or.inl ⟨by decide, ex_5 (c_P l6.1)⟩, by decide, ex_lim (c_P l6.1) rfl, c_85_28 (by decide) (by decide) hlt l6 (fun F h7 e7 y => ?_) (fun v h7 e7 l7 y3 y4 => ?_)⟩)
        ·
          refine am_goX 1 (show (¬ 0 = 0 → pz_S 5 (some .boolean) am_r82 6 Q 102 [(4, .int (nI W.1)), (3, .int 1), (0, .ref 5), (1, .ref 28), (2, .ref 6)] [] h7) ∧ (¬ ¬ 0 = 0 → pz_S 5 (some .boolean) am_r82 6 Q 100 [(4, .int (nI W.1)), (3, .int 1), (0, .ref 5), (1, .ref 28), (2, .ref 6)] [] h7) from ⟨fun hz => absurd hz (by decide), fun _ => ?_⟩)
          exact am_goX 2 (show (∃ ty, (some .boolean) = some ty ∧ narrow ty (.int ((Int32.ofInt 0))) = .int ((Int32.ofInt 0))) ∧ h7.2.2.2.2 = 175 ∧ _ from ⟨⟨.boolean, rfl, rfl⟩, ex_175 y.1, hF F h7 (by unfold sw_line; dsimp only; simp only [e1, e2, show decide ((1 : Int32) = 0) = false from by decide, show decide ((1 : Int32) = 1) = true from by decide, decide_true, cond_true, cond_false, e6, e7]) y⟩)
        ·
          have x1 := (y4 W.1).1.trans x1
          have x2 := (y4 W.1).2.trans x2
          have x3 := y3
          refine am_goX 1 (show (¬ 1 = 0 → pz_S 5 (some .boolean) am_r82 6 Q 102 [(4, .int (nI W.1)), (3, .int 1), (0, .ref 5), (1, .ref 28), (2, .ref 6)] [] h7) ∧ (¬ ¬ 1 = 0 → pz_S 5 (some .boolean) am_r82 6 Q 100 [(4, .int (nI W.1)), (3, .int 1), (0, .ref 5), (1, .ref 28), (2, .ref 6)] [] h7) from ⟨fun _ => ?_, fun hz => absurd (by decide) hz⟩)
          refine am_goX 6 (show (Value.ref 28).category = 1 ∧ am_sh h7 28 = some (8, 0) ∧ am_sh h7 28 = some (8, 0) ∧ narrow (am_fty 8 3) (.int (((h7.1 28 3) + (Int32.ofInt 1)))) = .int (((h7.1 28 3) + (Int32.ofInt 1))) ∧ fits (am_fty 8 3) (.int (((h7.1 28 3) + (Int32.ofInt 1)))) = true ∧ pz_S 5 (some .boolean) am_r82 6 Q 112 [(4, .int (nI W.1)), (3, .int 1), (0, .ref 5), (1, .ref 28), (2, .ref 6)] [] (am_wI h7 28 3 (((h7.1 28 3) + (Int32.ofInt 1)))) from ⟨rfl, ex_28 (c_P l7.1), ex_28 (c_P l7.1), rfl, rfl, ?_⟩)
          rw [show h7.1 28 3 = nI W.1 from l7.2.1.1, xw_i1]
          have l9 : cwr h0 28 6 N T sz (a + 1 + 1 + 1, sw_ad W 1 (nI p) v) (am_wI h7 28 3 (nI (W.1 + 1))) := cwr_P (by decide) (by decide) l7 hlt x1 x2 x3
          refine am_goX 2 (show am_sh (am_wI h7 28 3 (nI (W.1 + 1))) 5 = some (9, 0) ∧ pz_S 5 (some .boolean) am_r82 6 Q 116 [(4, .int (nI W.1)), (3, .int 1), (0, .ref 5), (1, .ref 28), (2, .ref 6)] [am_rf ((am_wI h7 28 3 (nI (W.1 + 1))).2.2.1 5 0)] (am_wI h7 28 3 (nI (W.1 + 1))) from ⟨ex_5 (c_P l9.1), ?_⟩)
          rw [ex_r5_0 (h := am_wI h7 28 3 (nI (W.1 + 1))) (c_P l9.1)]
          refine am_goX 2 (show am_rc (am_wI h7 28 3 (nI (W.1 + 1))) 1 7 ∧ 0 ≤ 8 ∧ (am_wI h7 28 3 (nI (W.1 + 1))).2.2.2.2 + am_al 61 ≤ 175 ∧ am_call am_cod 6 61 [.ref 1, .int (Int8.ofInt 59).toInt32] (am_wI h7 28 3 (nI (W.1 + 1))) (fun vv h' => pz_S 5 (some .boolean) am_r82 6 Q 121 [(4, .int (nI W.1)), (3, .int 1), (0, .ref 5), (1, .ref 28), (2, .ref 6)] (vv.toList ++ []) h') from ⟨Or.inl ⟨by decide, ex_1 (c_P l9.1)⟩, by decide, ex_lim (c_P l9.1) rfl, am_call.up (c_tSt l9.1 (fun e9 h9 m9 f9 => ?_) (fun e9 => ?_)) (by decide)⟩)
          ·
            exact am_goX 1 (show (∃ ty, (some .boolean) = some ty ∧ narrow ty (.int (1)) = .int (1)) ∧ h9.2.2.2.2 = 175 ∧ _ from ⟨⟨.boolean, rfl, rfl⟩, ex_175 (c_P m9), hS (a + 1 + 1 + 1 + 1, sw_ad W 1 (nI p) v) h9 (by unfold sw_line; dsimp only; simp only [e1, e2, e6, e7, decide_true, cond_true, cond_false, show decide ((1 : Int32) = 0) = false from by decide, show decide ((1 : Int32) = 1) = true from by decide, sw_end, e9]) (cwr_fr (by decide) (by decide) l9 m9 f9)⟩)
          ·
            have hP9 : ex_P (am_wI h7 28 3 (nI (W.1 + 1))) := c_P l9.1
            exact am_goX 1 (show (∃ ty, (some .boolean) = some ty ∧ narrow ty (.int (0)) = .int (0)) ∧ (am_wI (am_wI h7 28 3 (nI (W.1 + 1))) 1 7 (sp_ft (tt T sz) (a + 1 + 1 + 1) (Int32.ofInt 1))).2.2.2.2 = 175 ∧ _ from ⟨⟨.boolean, rfl, rfl⟩, ex_175 hP9, hF _ _ (by unfold sw_line; dsimp only; simp only [e1, e2, e6, e7, decide_true, cond_true, cond_false, show decide ((1 : Int32) = 0) = false from by decide, show decide ((1 : Int32) = 1) = true from by decide, sw_end, e9]) (cwr_x (s := (a + 1 + 1 + 1, sw_ad W 1 (nI p) v)) l9 (by decide))⟩)
  · rw [e1]
    refine am_goX 4 (show 3 < 5 ∧ (¬ 2 = (Int32.ofInt (-1)) → pz_S 5 (some .boolean) am_r82 6 Q 19 [(3, .int 2), (0, .ref 5), (1, .ref 28), (2, .ref 6)] [] h) ∧ (¬ ¬ 2 = (Int32.ofInt (-1)) → pz_S 5 (some .boolean) am_r82 6 Q 10 [(3, .int 2), (0, .ref 5), (1, .ref 28), (2, .ref 6)] [] h) from ⟨by decide, fun _ => ?_, fun hz => absurd (by decide) hz⟩)
    refine am_goX 2 (show am_sh h 28 = some (8, 0) ∧ pz_S 5 (some .boolean) am_r82 6 Q 23 [(3, .int 2), (0, .ref 5), (1, .ref 28), (2, .ref 6)] [.int (h.1 28 3)] h from ⟨ex_28 hP, ?_⟩)
    rw [a1]
    refine am_goX 3 (show 4 < 5 ∧ pz_S 5 (some .boolean) am_r82 6 Q 29 [(4, .int (nI W.1)), (3, .int 2), (0, .ref 5), (1, .ref 28), (2, .ref 6)] [.int (Int8.ofInt 40).toInt32, .int (nI W.1)] h from ⟨by decide, ?_⟩)
    cases e2 : Nat.ble 40 W.1 with
    | true =>
      refine am_goX 1 (show ((nI W.1) < (Int8.ofInt 40).toInt32 → pz_S 5 (some .boolean) am_r82 6 Q 41 [(4, .int (nI W.1)), (3, .int 2), (0, .ref 5), (1, .ref 28), (2, .ref 6)] [] h) ∧ (¬ ((nI W.1) < (Int8.ofInt 40).toInt32) → pz_S 5 (some .boolean) am_r82 6 Q 32 [(4, .int (nI W.1)), (3, .int 2), (0, .ref 5), (1, .ref 28), (2, .ref 6)] [] h) from ⟨fun hz => absurd hz (i40 e2 a2), fun _ => ?_⟩)
      refine am_goX 2 (show am_sh h 5 = some (9, 0) ∧ pz_S 5 (some .boolean) am_r82 6 Q 36 [(4, .int (nI W.1)), (3, .int 2), (0, .ref 5), (1, .ref 28), (2, .ref 6)] [am_rf (h.2.2.1 5 0)] h from ⟨ex_5 hP, ?_⟩)
      rw [ex_r5_0 (h := h) hP]
      refine am_goX 2 (show am_rc h 1 7 ∧ 0 ≤ 8 ∧ h.2.2.2.2 + am_al 52 ≤ 175 ∧ am_call am_cod 6 52 [.ref 1, .int (Int32.ofInt 5)] h (fun vv h' => pz_S 5 (some .boolean) am_r82 6 Q 40 [(4, .int (nI W.1)), (3, .int 2), (0, .ref 5), (1, .ref 28), (2, .ref 6)] (vv.toList ++ []) h') from ⟨Or.inl ⟨by decide, ex_1 hP⟩, by decide, ex_lim hP rfl, am_call.up (c_refuse l.1 ?_) (by decide)⟩)
      exact am_goX 1 (show (∃ ty, (some .boolean) = some ty ∧ narrow ty (.int ((Int32.ofInt 0))) = .int ((Int32.ofInt 0))) ∧ (am_wI h 1 7 (sp_ft (tt T sz) a (Int32.ofInt 5))).2.2.2.2 = 175 ∧ _ from ⟨⟨.boolean, rfl, rfl⟩, ex_175 hP, hF _ _ (by unfold sw_line; dsimp only; simp only [e1, e2, cond_true]) (cwr_x (s := (a, W)) l (by decide))⟩)
    | false =>
      refine am_goX 1 (show ((nI W.1) < (Int8.ofInt 40).toInt32 → pz_S 5 (some .boolean) am_r82 6 Q 41 [(4, .int (nI W.1)), (3, .int 2), (0, .ref 5), (1, .ref 28), (2, .ref 6)] [] h) ∧ (¬ ((nI W.1) < (Int8.ofInt 40).toInt32) → pz_S 5 (some .boolean) am_r82 6 Q 32 [(4, .int (nI W.1)), (3, .int 2), (0, .ref 5), (1, .ref 28), (2, .ref 6)] [] h) from ⟨fun _ => ?_, fun hz => absurd (j40 e2) hz⟩)
      have hlt := j40n e2
      refine am_goX 2 (show am_sh h 28 = some (8, 0) ∧ pz_S 5 (some .boolean) am_r82 6 Q 45 [(4, .int (nI W.1)), (3, .int 2), (0, .ref 5), (1, .ref 28), (2, .ref 6)] [am_rf (h.2.2.1 28 0)] h from ⟨ex_28 hP, ?_⟩)
      rw [ex_r28_0 (h := h) hP]
      refine am_goX 3 (show ∃ jj nn : Nat, am_so h 29 = some (13, nn) ∧ jj < nn ∧ (nI W.1) = nI jj ∧ pz_S 5 (some .boolean) am_r82 6 Q 49 [(4, .int (nI W.1)), (3, .int 2), (0, .ref 5), (1, .ref 28), (2, .ref 6)] [] (am_wI h 29 jj 2) from ⟨W.1, 40, ex_w29 hP, by omega, rfl, ?_⟩)
      have l2 : cwr h0 28 6 N T sz (a, W) (am_wI h 29 (W.1) 2) := cwr_w (by decide) (by decide) l (Or.inl rfl) (Nat.le_refl _)
      refine am_goX 2 (show am_sh (am_wI h 29 (W.1) 2) 28 = some (8, 0) ∧ pz_S 5 (some .boolean) am_r82 6 Q 53 [(4, .int (nI W.1)), (3, .int 2), (0, .ref 5), (1, .ref 28), (2, .ref 6)] [am_rf ((am_wI h 29 (W.1) 2).2.2.1 28 1)] (am_wI h 29 (W.1) 2) from ⟨ex_28 (c_P l2.1), ?_⟩)
      rw [ex_r28_1 (h := am_wI h 29 (W.1) 2) (c_P l2.1)]
      refine am_goX 3 (show ∃ jj nn : Nat, am_so (am_wI h 29 (W.1) 2) 30 = some (13, nn) ∧ jj < nn ∧ (nI W.1) = nI jj ∧ pz_S 5 (some .boolean) am_r82 6 Q 57 [(4, .int (nI W.1)), (3, .int 2), (0, .ref 5), (1, .ref 28), (2, .ref 6)] [] (am_wI (am_wI h 29 (W.1) 2) 30 jj 0) from ⟨W.1, 40, ex_w30 (c_P l2.1), by omega, rfl, ?_⟩)
      have l3 : cwr h0 28 6 N T sz (a, W) (am_wI (am_wI h 29 (W.1) 2) 30 (W.1) 0) := cwr_w (by decide) (by decide) l2 (Or.inr (Or.inl rfl)) (Nat.le_refl _)
      refine am_goX 2 (show am_sh (am_wI (am_wI h 29 (W.1) 2) 30 (W.1) 0) 28 = some (8, 0) ∧ pz_S 5 (some .boolean) am_r82 6 Q 61 [(4, .int (nI W.1)), (3, .int 2), (0, .ref 5), (1, .ref 28), (2, .ref 6)] [am_rf ((am_wI (am_wI h 29 (W.1) 2) 30 (W.1) 0).2.2.1 28 2)] (am_wI (am_wI h 29 (W.1) 2) 30 (W.1) 0) from ⟨ex_28 (c_P l3.1), ?_⟩)
      rw [ex_r28_2 (h := am_wI (am_wI h 29 (W.1) 2) 30 (W.1) 0) (c_P l3.1)]
      refine am_goX 3 (show ∃ jj nn : Nat, am_so (am_wI (am_wI h 29 (W.1) 2) 30 (W.1) 0) 31 = some (13, nn) ∧ jj < nn ∧ (nI W.1) = nI jj ∧ pz_S 5 (some .boolean) am_r82 6 Q 65 [(4, .int (nI W.1)), (3, .int 2), (0, .ref 5), (1, .ref 28), (2, .ref 6)] [] (am_wI (am_wI (am_wI h 29 (W.1) 2) 30 (W.1) 0) 31 jj 0) from ⟨W.1, 40, ex_w31 (c_P l3.1), by omega, rfl, ?_⟩)
      have l4 : cwr h0 28 6 N T sz (a, W) (am_wI (am_wI (am_wI h 29 (W.1) 2) 30 (W.1) 0) 31 (W.1) 0) := cwr_w (by decide) (by decide) l3 (Or.inr (Or.inr rfl)) (Nat.le_refl _)
      have x1 : (am_wI (am_wI (am_wI h 29 (W.1) 2) 30 (W.1) 0) 31 (W.1) 0).1 29 W.1 = 2 := by rw [em_wn _ _ (by omega), em_wn _ _ (by omega), em_we]
      have x2 : (am_wI (am_wI (am_wI h 29 (W.1) 2) 30 (W.1) 0) 31 (W.1) 0).1 30 W.1 = 0 := by rw [em_wn _ _ (by omega), em_we]
      have x3 : (am_wI (am_wI (am_wI h 29 (W.1) 2) 30 (W.1) 0) 31 (W.1) 0).1 31 W.1 = 0 := em_we _ _ _ _
      refine am_goX 2 (show am_sh (am_wI (am_wI (am_wI h 29 (W.1) 2) 30 (W.1) 0) 31 (W.1) 0) 5 = some (9, 0) ∧ pz_S 5 (some .boolean) am_r82 6 Q 69 [(4, .int (nI W.1)), (3, .int 2), (0, .ref 5), (1, .ref 28), (2, .ref 6)] [am_rf ((am_wI (am_wI (am_wI h 29 (W.1) 2) 30 (W.1) 0) 31 (W.1) 0).2.2.1 5 0)] (am_wI (am_wI (am_wI h 29 (W.1) 2) 30 (W.1) 0) 31 (W.1) 0) from ⟨ex_5 (c_P l4.1), ?_⟩)
      rw [ex_r5_0 (h := am_wI (am_wI (am_wI h 29 (W.1) 2) 30 (W.1) 0) 31 (W.1) 0) (c_P l4.1)]
      refine am_goX 1 (show am_rc (am_wI (am_wI (am_wI h 29 (W.1) 2) 30 (W.1) 0) 31 (W.1) 0) 1 7 ∧ 0 ≤ 8 ∧ (am_wI (am_wI (am_wI h 29 (W.1) 2) 30 (W.1) 0) 31 (W.1) 0).2.2.2.2 + am_al 18 ≤ 175 ∧ am_call am_cod 6 18 [.ref 1] (am_wI (am_wI (am_wI h 29 (W.1) 2) 30 (W.1) 0) 31 (W.1) 0) (fun vv h' => pz_S 5 (some .boolean) am_r82 6 Q 72 [(4, .int (nI W.1)), (3, .int 2), (0, .ref 5), (1, .ref 28), (2, .ref 6)] (vv.toList ++ []) h') from ⟨Or.inl ⟨by decide, ex_1 (c_P l4.1)⟩, by decide, ex_lim (c_P l4.1) rfl, am_call.up (c_step l4.1 hn (fun h3 m f => ?_)) (by decide)⟩)
      have l5 := cwr_fr (by decide) (by decide) l4 m f
      have x1 := (f.2 29 W.1 (by decide)).1.trans x1
      have x2 := (f.2 30 W.1 (by decide)).1.trans x2
      have x3 := (f.2 31 W.1 (by decide)).1.trans x3
      refine am_goX 2 (show (2 = 0 → pz_S 5 (some .boolean) am_r82 6 Q 87 [(4, .int (nI W.1)), (3, .int 2), (0, .ref 5), (1, .ref 28), (2, .ref 6)] [] h3) ∧ (¬ (2 = 0) → pz_S 5 (some .boolean) am_r82 6 Q 76 [(4, .int (nI W.1)), (3, .int 2), (0, .ref 5), (1, .ref 28), (2, .ref 6)] [] h3) from ⟨fun hz => absurd hz (by decide), fun _ => ?_⟩)
      refine am_goX 4 (show am_rc h3 5 9 ∧ 0 ≤ 8 ∧ h3.2.2.2.2 + am_al 84 ≤ 175 ∧ am_call am_cod 6 84 [.ref 5, .ref 28, .ref 6] h3 (fun vv h' => pz_S 5 (some .boolean) am_r82 6 Q 82 [(4, .int (nI W.1)), (3, .int 2), (0, .ref 5), (1, .ref 28), (2, .ref 6)] (vv.toList ++ []) h') from ⟨Or.inl ⟨by decide, ex_5 (c_P l5.1)⟩, by decide, ex_lim (c_P l5.1) rfl, c_84_28_6 hlt l5 (fun F h6 e6 y => ?_) (fun p h6 e6 l6 y1 y2 => ?_)⟩)
      ·
        refine am_goX 1 (show (¬ 0 = 0 → pz_S 5 (some .boolean) am_r82 6 Q 87 [(4, .int (nI W.1)), (3, .int 2), (0, .ref 5), (1, .ref 28), (2, .ref 6)] [] h6) ∧ (¬ ¬ 0 = 0 → pz_S 5 (some .boolean) am_r82 6 Q 85 [(4, .int (nI W.1)), (3, .int 2), (0, .ref 5), (1, .ref 28), (2, .ref 6)] [] h6) from ⟨fun hz => absurd hz (by decide), fun _ => ?_⟩)
        exact am_goX 2 (show (∃ ty, (some .boolean) = some ty ∧ narrow ty (.int ((Int32.ofInt 0))) = .int ((Int32.ofInt 0))) ∧ h6.2.2.2.2 = 175 ∧ _ from ⟨⟨.boolean, rfl, rfl⟩, ex_175 y.1, hF F h6 (by unfold sw_line; dsimp only; simp only [e1, e2, show decide ((2 : Int32) = 0) = false from by decide, show decide ((2 : Int32) = 1) = false from by decide, decide_true, cond_true, cond_false, e6]) y⟩)
      ·
        have x1 := (y2 W.1).1.trans x1
        have x2 := y1
        have x3 := (y2 W.1).2.trans x3
        refine am_goX 1 (show (¬ 1 = 0 → pz_S 5 (some .boolean) am_r82 6 Q 87 [(4, .int (nI W.1)), (3, .int 2), (0, .ref 5), (1, .ref 28), (2, .ref 6)] [] h6) ∧ (¬ ¬ 1 = 0 → pz_S 5 (some .boolean) am_r82 6 Q 85 [(4, .int (nI W.1)), (3, .int 2), (0, .ref 5), (1, .ref 28), (2, .ref 6)] [] h6) from ⟨fun _ => ?_, fun hz => absurd (by decide) hz⟩)
        refine am_goX 3 (show (¬ 2 = (Int32.ofInt 1) → pz_S 5 (some .boolean) am_r82 6 Q 102 [(4, .int (nI W.1)), (3, .int 2), (0, .ref 5), (1, .ref 28), (2, .ref 6)] [] h6) ∧ (¬ ¬ 2 = (Int32.ofInt 1) → pz_S 5 (some .boolean) am_r82 6 Q 92 [(4, .int (nI W.1)), (3, .int 2), (0, .ref 5), (1, .ref 28), (2, .ref 6)] [] h6) from ⟨fun _ => ?_, fun hz => absurd (by decide) hz⟩)
        refine am_goX 6 (show (Value.ref 28).category = 1 ∧ am_sh h6 28 = some (8, 0) ∧ am_sh h6 28 = some (8, 0) ∧ narrow (am_fty 8 3) (.int (((h6.1 28 3) + (Int32.ofInt 1)))) = .int (((h6.1 28 3) + (Int32.ofInt 1))) ∧ fits (am_fty 8 3) (.int (((h6.1 28 3) + (Int32.ofInt 1)))) = true ∧ pz_S 5 (some .boolean) am_r82 6 Q 112 [(4, .int (nI W.1)), (3, .int 2), (0, .ref 5), (1, .ref 28), (2, .ref 6)] [] (am_wI h6 28 3 (((h6.1 28 3) + (Int32.ofInt 1)))) from ⟨rfl, ex_28 (c_P l6.1), ex_28 (c_P l6.1), rfl, rfl, ?_⟩)
        rw [show h6.1 28 3 = nI W.1 from l6.2.1.1, xw_i1]
        have l9 : cwr h0 28 6 N T sz (a + 1 + 1, sw_ad W 2 (nI p) 0) (am_wI h6 28 3 (nI (W.1 + 1))) := cwr_P (by decide) (by decide) l6 hlt x1 x2 x3
        refine am_goX 2 (show am_sh (am_wI h6 28 3 (nI (W.1 + 1))) 5 = some (9, 0) ∧ pz_S 5 (some .boolean) am_r82 6 Q 116 [(4, .int (nI W.1)), (3, .int 2), (0, .ref 5), (1, .ref 28), (2, .ref 6)] [am_rf ((am_wI h6 28 3 (nI (W.1 + 1))).2.2.1 5 0)] (am_wI h6 28 3 (nI (W.1 + 1))) from ⟨ex_5 (c_P l9.1), ?_⟩)
        rw [ex_r5_0 (h := am_wI h6 28 3 (nI (W.1 + 1))) (c_P l9.1)]
        refine am_goX 2 (show am_rc (am_wI h6 28 3 (nI (W.1 + 1))) 1 7 ∧ 0 ≤ 8 ∧ (am_wI h6 28 3 (nI (W.1 + 1))).2.2.2.2 + am_al 61 ≤ 175 ∧ am_call am_cod 6 61 [.ref 1, .int (Int8.ofInt 59).toInt32] (am_wI h6 28 3 (nI (W.1 + 1))) (fun vv h' => pz_S 5 (some .boolean) am_r82 6 Q 121 [(4, .int (nI W.1)), (3, .int 2), (0, .ref 5), (1, .ref 28), (2, .ref 6)] (vv.toList ++ []) h') from ⟨Or.inl ⟨by decide, ex_1 (c_P l9.1)⟩, by decide, ex_lim (c_P l9.1) rfl, am_call.up (c_tSt l9.1 (fun e9 h9 m9 f9 => ?_) (fun e9 => ?_)) (by decide)⟩)
        ·
          exact am_goX 1 (show (∃ ty, (some .boolean) = some ty ∧ narrow ty (.int (1)) = .int (1)) ∧ h9.2.2.2.2 = 175 ∧ _ from ⟨⟨.boolean, rfl, rfl⟩, ex_175 (c_P m9), hS (a + 1 + 1 + 1, sw_ad W 2 (nI p) 0) h9 (by unfold sw_line; dsimp only; simp only [e1, e2, e6, decide_true, cond_true, cond_false, show decide ((2 : Int32) = 0) = false from by decide, show decide ((2 : Int32) = 1) = false from by decide, sw_end, e9]) (cwr_fr (by decide) (by decide) l9 m9 f9)⟩)
        ·
          have hP9 : ex_P (am_wI h6 28 3 (nI (W.1 + 1))) := c_P l9.1
          exact am_goX 1 (show (∃ ty, (some .boolean) = some ty ∧ narrow ty (.int (0)) = .int (0)) ∧ (am_wI (am_wI h6 28 3 (nI (W.1 + 1))) 1 7 (sp_ft (tt T sz) (a + 1 + 1) (Int32.ofInt 1))).2.2.2.2 = 175 ∧ _ from ⟨⟨.boolean, rfl, rfl⟩, ex_175 hP9, hF _ _ (by unfold sw_line; dsimp only; simp only [e1, e2, e6, decide_true, cond_true, cond_false, show decide ((2 : Int32) = 0) = false from by decide, show decide ((2 : Int32) = 1) = false from by decide, sw_end, e9]) (cwr_x (s := (a + 1 + 1, sw_ad W 2 (nI p) 0)) l9 (by decide))⟩)
theorem c_81l_28_6 : ∀ (m i : Nat) (s : sw_S) (h : am_H) (Q : am_Q), sz < s.1 + m → i ≤ s.1 → cwr h0 28 6 N T sz s h → (∀ F h1, sw_all (tt T sz) N m s = .inl F → cwx h0 28 F h1 → Q (some (.int F)) h1) → (∀ t h1, sw_all (tt T sz) N m s = .inr t → cwr h0 28 6 N T sz t h1 → Q (some (.int 0)) h1) → pz_S 5 (some .int) am_r81 7 Q 17 [(4, .int (nI i)), (3, .int 1), (0, .ref 5), (1, .ref 28), (2, .ref 6)] [] h := by
  intro m
  induction m with
  | zero =>
    intro i s h Q hm hi l hF hS
    have := (cwr_a l).1
    omega
  | succ m ih =>
    intro i s h Q hm hi l hF hS
    have ha := cwr_a l
    have hP := c_P l.1
    have hk := ck_4 T sz s.1
    have hf : h.1 1 7 = 0 := l.1.2.2.2.1
    refine am_goX 2 (show (1 = 0 → pz_S 5 (some .int) am_r81 7 Q 53 [(4, .int (nI i)), (3, .int 1), (0, .ref 5), (1, .ref 28), (2, .ref 6)] [] h) ∧ (¬ (1 = 0) → pz_S 5 (some .int) am_r81 7 Q 21 [(4, .int (nI i)), (3, .int 1), (0, .ref 5), (1, .ref 28), (2, .ref 6)] [] h) from ⟨fun hz => absurd hz (by decide), fun _ => ?_⟩)
    refine am_goX 2 (show am_sh h 5 = some (9, 0) ∧ pz_S 5 (some .int) am_r81 7 Q 25 [(4, .int (nI i)), (3, .int 1), (0, .ref 5), (1, .ref 28), (2, .ref 6)] [am_rf (h.2.2.1 5 0)] h from ⟨ex_5 hP, ?_⟩)
    rw [ex_r5_0 (h := h) hP]
    refine am_goX 2 (show am_sh h 1 = some (7, 0) ∧ pz_S 5 (some .int) am_r81 7 Q 29 [(4, .int (nI i)), (3, .int 1), (0, .ref 5), (1, .ref 28), (2, .ref 6)] [.int (Int32.ofInt 4), .int (h.1 1 2)] h from ⟨ex_1 hP, ?_⟩)
    rw [c_kd l.1]
    refine am_goX 1 (show ((ck (tt T sz s.1).1) = (Int32.ofInt 4) → pz_S 5 (some .int) am_r81 7 Q 53 [(4, .int (nI i)), (3, .int 1), (0, .ref 5), (1, .ref 28), (2, .ref 6)] [] h) ∧ (¬ ((ck (tt T sz s.1).1) = (Int32.ofInt 4)) → pz_S 5 (some .int) am_r81 7 Q 32 [(4, .int (nI i)), (3, .int 1), (0, .ref 5), (1, .ref 28), (2, .ref 6)] [] h) from ⟨fun hc => ?_, fun hc => ?_⟩)
    ·
      have e2 : sp_k (tt T sz) s.1 0 = true := by rw [← hk]; exact decide_eq_true hc
      refine am_goX 2 (show am_sh h 5 = some (9, 0) ∧ pz_S 5 (some .int) am_r81 7 Q 57 [(4, .int (nI i)), (3, .int 1), (0, .ref 5), (1, .ref 28), (2, .ref 6)] [am_rf (h.2.2.1 5 0)] h from ⟨ex_5 hP, ?_⟩)
      rw [ex_r5_0 (h := h) hP]
      refine am_goX 1 (show am_sh h 1 = some (7, 0) ∧ pz_S 5 (some .int) am_r81 7 Q 60 [(4, .int (nI i)), (3, .int 1), (0, .ref 5), (1, .ref 28), (2, .ref 6)] [.int (h.1 1 7)] h from ⟨ex_1 hP, ?_⟩)
      rw [hf]
      exact am_goX 1 (show (∃ ty, (some .int) = some ty ∧ narrow ty (.int (0)) = .int (0)) ∧ h.2.2.2.2 = 175 ∧ _ from ⟨⟨.int, rfl, rfl⟩, ex_175 hP, hS s h (by unfold sw_all; rw [e2]; rfl) l⟩)
    ·
      have e2 : sp_k (tt T sz) s.1 0 = false := by rw [← hk]; exact decide_eq_false hc
      clear hc
      have hlt : s.1 < sz := by
        have w := l.1.2.2.2.2.1
        have w2 : tk_pl T sz s.1 < sz := kz_lt (of_decide_eq_false e2)
        omega
      refine am_goX 3 (show ((Int16.ofInt 1000).toInt32 ≤ (nI i) → pz_S 5 (some .int) am_r81 7 Q 53 [(4, .int (nI i)), (3, .int 1), (0, .ref 5), (1, .ref 28), (2, .ref 6)] [] h) ∧ (¬ ((Int16.ofInt 1000).toInt32 ≤ (nI i)) → pz_S 5 (some .int) am_r81 7 Q 40 [(4, .int (nI i)), (3, .int 1), (0, .ref 5), (1, .ref 28), (2, .ref 6)] [] h) from ⟨fun hz => absurd hz (i1000 (by omega)), fun _ => ?_⟩)
      refine am_goX 4 (show am_rc h 5 9 ∧ 0 ≤ 8 ∧ h.2.2.2.2 + am_al 82 ≤ 175 ∧ am_call am_cod 7 82 [.ref 5, .ref 28, .ref 6] h (fun vv h' => pz_S 5 (some .int) am_r81 7 Q 46 [(4, .int (nI i)), (3, .int 1), (0, .ref 5), (1, .ref 28), (2, .ref 6)] (vv.toList ++ []) h') from ⟨Or.inl ⟨by decide, ex_5 hP⟩, by decide, ex_lim hP rfl, c_82_28_6 l (fun F h1 e3 y => ?_) (fun t h1 e3 y => ?_)⟩)
      ·
        refine am_goX 5 (show 3 < 5 ∧ 4 < 5 ∧ (0 = 0 → pz_S 5 (some .int) am_r81 7 Q 53 [(4, .int ((nI i) + Int32.ofInt 1)), (3, .int 0), (0, .ref 5), (1, .ref 28), (2, .ref 6)] [] h1) ∧ (¬ (0 = 0) → pz_S 5 (some .int) am_r81 7 Q 21 [(4, .int ((nI i) + Int32.ofInt 1)), (3, .int 0), (0, .ref 5), (1, .ref 28), (2, .ref 6)] [] h1) from ⟨by decide, by decide, fun _ => ?_, fun hz => absurd (by decide) hz⟩)
        refine am_goX 2 (show am_sh h1 5 = some (9, 0) ∧ pz_S 5 (some .int) am_r81 7 Q 57 [(4, .int ((nI i) + Int32.ofInt 1)), (3, .int 0), (0, .ref 5), (1, .ref 28), (2, .ref 6)] [am_rf (h1.2.2.1 5 0)] h1 from ⟨ex_5 y.1, ?_⟩)
        rw [ex_r5_0 (h := h1) y.1]
        refine am_goX 1 (show am_sh h1 1 = some (7, 0) ∧ pz_S 5 (some .int) am_r81 7 Q 60 [(4, .int ((nI i) + Int32.ofInt 1)), (3, .int 0), (0, .ref 5), (1, .ref 28), (2, .ref 6)] [.int (h1.1 1 7)] h1 from ⟨ex_1 y.1, ?_⟩)
        rw [y.2.1.1]
        exact am_goX 1 (show (∃ ty, (some .int) = some ty ∧ narrow ty (.int (F)) = .int (F)) ∧ h1.2.2.2.2 = 175 ∧ _ from ⟨⟨.int, rfl, rfl⟩, ex_175 y.1, hF F h1 (by unfold sw_all; rw [e2, cond_false, e3]) y⟩)
      ·
        refine am_goX 3 (show 3 < 5 ∧ 4 < 5 ∧ pz_S 5 (some .int) am_r81 7 Q 17 [(4, .int ((nI i) + Int32.ofInt 1)), (3, .int 1), (0, .ref 5), (1, .ref 28), (2, .ref 6)] [] h1 from ⟨by decide, by decide, ?_⟩)
        rw [xw_i1]
        have g1 := sw_line_lt e3
        have hx : sw_all (tt T sz) N (m + 1) s = sw_all (tt T sz) N m t := by
          conv => lhs; unfold sw_all
          rw [e2, cond_false, e3]
        exact ih (i + 1) t h1 Q (by omega) (by omega) y (fun F h2 e => hF F h2 (hx.trans e)) (fun t h2 e => hS t h2 (hx.trans e))
theorem c_81_28_6 (hP : ex_P h) (hz : sz ≤ 1000) (hch : ∀ q, q < sz → 0 ≤ (T q).toInt ∧ (T q).toInt ≤ 126) (l1 : h.1 1 1 = nI sz) (l2 : ∀ q, q < sz → h.1 2 q = T q) (ln : cnm 6 N h) (hF : ∀ F h1, sw_week (tt T sz) N = .inl F → cwx h 28 F h1 → Q (some (.int F)) h1) (hS : ∀ t h1, sw_week (tt T sz) N = .inr t → cwr h 28 6 N T sz t h1 → Q (some (.int 0)) h1) : am_call am_cod 8 81 [.ref 5, .ref 28, .ref 6] h Q := by
  refine pz_call (n := 81) (nL := 5) (rt := (some .int)) (rows := am_r81) (d := 7) (by decide +kernel) (by decide +kernel) rfl (by funext pc; rfl) (ex_175 hP) (by exact Nat.le_of_ble_eq_true rfl) ?_
  refine am_goX 3 (show am_sh h 28 = some (8, 0) ∧ narrow (am_fty 8 3) (.int ((Int32.ofInt 0))) = .int ((Int32.ofInt 0)) ∧ fits (am_fty 8 3) (.int ((Int32.ofInt 0))) = true ∧ pz_S 5 (some .int) am_r81 7 Q 5 [(0, .ref 5), (1, .ref 28), (2, .ref 6)] [] (am_wI h 28 3 ((Int32.ofInt 0))) from ⟨ex_28 hP, rfl, rfl, ?_⟩)
  refine am_goX 2 (show am_sh (am_wI h 28 3 0) 5 = some (9, 0) ∧ pz_S 5 (some .int) am_r81 7 Q 9 [(0, .ref 5), (1, .ref 28), (2, .ref 6)] [am_rf ((am_wI h 28 3 0).2.2.1 5 0)] (am_wI h 28 3 0) from ⟨ex_5 hP, ?_⟩)
  rw [ex_r5_0 (h := am_wI h 28 3 0) hP]
  refine am_goX 1 (show am_rc (am_wI h 28 3 0) 1 7 ∧ 0 ≤ 8 ∧ (am_wI h 28 3 0).2.2.2.2 + am_al 17 ≤ 175 ∧ am_call am_cod 7 17 [.ref 1] (am_wI h 28 3 0) (fun vv h' => pz_S 5 (some .int) am_r81 7 Q 12 [(0, .ref 5), (1, .ref 28), (2, .ref 6)] (vv.toList ++ []) h') from ⟨Or.inl ⟨by decide, ex_1 hP⟩, by decide, ex_lim hP rfl, am_call.up (c_begin (T := T) (sz := sz) hP hz hch (by rw [em_wn _ _ (by omega)]; exact l1) (fun q hq => by rw [em_wn _ _ (by omega)]; exact l2 q hq) (fun h1 t f => ?_)) (by decide)⟩)
  have l : cwr h 28 6 N T sz (0, sw_W0) h1 := by
    refine ⟨t, ⟨(f.2 28 3 (by decide)).1.trans (em_we _ _ _ _), by decide, fun i hi => absurd hi (Nat.not_lt_zero i)⟩, cwq_fr (h := am_wI h 28 3 0) ⟨rfl, fun o k hn => ⟨em_wn _ _ (by omega), rfl⟩⟩ f, ⟨(f.2 6 0 (by decide)).1.trans ((em_wn _ _ (by omega)).trans ln.1), ln.2.1, fun i hi => ?_⟩⟩
    rw [(f.2 7 i (by decide)).2]
    exact ln.2.2 i hi
  refine am_goX 4 (show 3 < 5 ∧ 4 < 5 ∧ pz_S 5 (some .int) am_r81 7 Q 17 [(4, .int (Int32.ofInt 0)), (3, .int (Int32.ofInt 1)), (0, .ref 5), (1, .ref 28), (2, .ref 6)] [] h1 from ⟨by decide, by decide, ?_⟩)
  exact c_81l_28_6 1001 0 (0, sw_W0) h1 Q (by dsimp only; omega) (Nat.zero_le _) l hF hS
theorem c_80_28_6 (hw : h.2.2.1 0 6 = some 28) (hk : h.2.2.1 0 5 = some 32) (ht : h.2.2.1 0 3 = some 6) (hP : ex_P h) (hz : sz ≤ 1000) (hch : ∀ q, q < sz → 0 ≤ (T q).toInt ∧ (T q).toInt ≤ 126) (l1 : h.1 1 1 = nI sz) (l2 : ∀ q, q < sz → h.1 2 q = T q) (ln : cnm 6 N h) (hF : ∀ F h1, sw_week (tt T sz) N = .inl F → cwx h 28 F h1 → Q (some (.int F)) (am_wI h1 1 1 (Int32.ofInt 0))) (hS : ∀ t h1, sw_week (tt T sz) N = .inr t → cwr h 28 6 N T sz t h1 → Q (some (.int (Int32.ofInt 0))) (am_wR (am_wR (am_wI h1 1 1 (Int32.ofInt 0)) 0 6 (some 32)) 0 5 (some 28))) : am_call am_cod 9 80 [.ref 0] h Q := by
  refine pz_call (n := 80) (nL := 3) (rt := (some .int)) (rows := am_r80) (d := 8) (by decide +kernel) (by decide +kernel) rfl (by funext pc; rfl) (ex_175 hP) (by exact Nat.le_of_ble_eq_true rfl) ?_
  refine am_goX 2 (show am_sh h 0 = some (10, 0) ∧ pz_S 3 (some .int) am_r80 8 Q 4 [(0, .ref 0)] [am_rf (h.2.2.1 0 2)] h from ⟨ex_0 hP, ?_⟩)
  rw [ex_r0_2 (h := h) hP]
  refine am_goX 2 (show am_sh h 0 = some (10, 0) ∧ pz_S 3 (some .int) am_r80 8 Q 8 [(0, .ref 0)] [am_rf (h.2.2.1 0 6), .ref 5] h from ⟨ex_0 hP, ?_⟩)
  rw [hw]
  refine am_goX 2 (show am_sh h 0 = some (10, 0) ∧ pz_S 3 (some .int) am_r80 8 Q 12 [(0, .ref 0)] [am_rf (h.2.2.1 0 3), .ref 28, .ref 5] h from ⟨ex_0 hP, ?_⟩)
  rw [ht]
  refine am_goX 1 (show am_rc h 5 9 ∧ 0 ≤ 8 ∧ h.2.2.2.2 + am_al 81 ≤ 175 ∧ am_call am_cod 8 81 [.ref 5, .ref 28, .ref 6] h (fun vv h' => pz_S 3 (some .int) am_r80 8 Q 15 [(0, .ref 0)] (vv.toList ++ []) h') from ⟨Or.inl ⟨by decide, ex_5 hP⟩, by decide, ex_lim hP rfl, c_81_28_6 hP hz hch l1 l2 ln (fun F h1 e y => ?_) (fun t h1 e y => ?_)⟩)
  ·
    have hPy : ex_P h1 := y.1
    refine am_goX 3 (show 1 < 3 ∧ am_sh h1 0 = some (10, 0) ∧ pz_S 3 (some .int) am_r80 8 Q 20 [(1, .int F), (0, .ref 0)] [am_rf (h1.2.2.1 0 0)] h1 from ⟨by decide, ex_0 hPy, ?_⟩)
    rw [ex_r0_0 (h := h1) hPy]
    refine am_goX 2 (show am_sh h1 1 = some (7, 0) ∧ narrow (am_fty 7 1) (.int ((Int32.ofInt 0))) = .int ((Int32.ofInt 0)) ∧ fits (am_fty 7 1) (.int ((Int32.ofInt 0))) = true ∧ pz_S 3 (some .int) am_r80 8 Q 24 [(1, .int F), (0, .ref 0)] [] (am_wI h1 1 1 ((Int32.ofInt 0))) from ⟨ex_1 hPy, rfl, rfl, ?_⟩)
    refine am_goX 2 (show (F = 0 → pz_S 3 (some .int) am_r80 8 Q 30 [(1, .int F), (0, .ref 0)] [] (am_wI h1 1 1 ((Int32.ofInt 0)))) ∧ (¬ (F = 0) → pz_S 3 (some .int) am_r80 8 Q 28 [(1, .int F), (0, .ref 0)] [] (am_wI h1 1 1 ((Int32.ofInt 0)))) from ⟨fun hz => absurd hz y.2.1.2, fun _ => ?_⟩)
    exact am_goX 2 (show (∃ ty, (some .int) = some ty ∧ narrow ty (.int (F)) = .int (F)) ∧ (am_wI h1 1 1 ((Int32.ofInt 0))).2.2.2.2 = 175 ∧ _ from ⟨⟨.int, rfl, rfl⟩, ex_175 hPy, hF F h1 e y⟩)
  ·
    have hPy : ex_P h1 := c_P y.1
    have q5 : h1.2.2.1 0 5 = some 32 := by rw [y.2.2.1.1]; exact hk
    have q6 : h1.2.2.1 0 6 = some 28 := by rw [y.2.2.1.1]; exact hw
    refine am_goX 3 (show 1 < 3 ∧ am_sh h1 0 = some (10, 0) ∧ pz_S 3 (some .int) am_r80 8 Q 20 [(1, .int 0), (0, .ref 0)] [am_rf (h1.2.2.1 0 0)] h1 from ⟨by decide, ex_0 hPy, ?_⟩)
    rw [ex_r0_0 (h := h1) hPy]
    refine am_goX 2 (show am_sh h1 1 = some (7, 0) ∧ narrow (am_fty 7 1) (.int ((Int32.ofInt 0))) = .int ((Int32.ofInt 0)) ∧ fits (am_fty 7 1) (.int ((Int32.ofInt 0))) = true ∧ pz_S 3 (some .int) am_r80 8 Q 24 [(1, .int 0), (0, .ref 0)] [] (am_wI h1 1 1 ((Int32.ofInt 0))) from ⟨ex_1 hPy, rfl, rfl, ?_⟩)
    refine am_goX 2 (show (0 = 0 → pz_S 3 (some .int) am_r80 8 Q 30 [(1, .int 0), (0, .ref 0)] [] (am_wI h1 1 1 ((Int32.ofInt 0)))) ∧ (¬ (0 = 0) → pz_S 3 (some .int) am_r80 8 Q 28 [(1, .int 0), (0, .ref 0)] [] (am_wI h1 1 1 ((Int32.ofInt 0)))) from ⟨fun _ => ?_, fun hz => absurd (by decide) hz⟩)
    refine am_goX 2 (show am_sh (am_wI h1 1 1 ((Int32.ofInt 0))) 0 = some (10, 0) ∧ pz_S 3 (some .int) am_r80 8 Q 34 [(1, .int 0), (0, .ref 0)] [am_rf ((am_wI h1 1 1 ((Int32.ofInt 0))).2.2.1 0 6)] (am_wI h1 1 1 ((Int32.ofInt 0))) from ⟨ex_0 hPy, ?_⟩)
    rw [show (am_wI h1 1 1 ((Int32.ofInt 0))).2.2.1 0 6 = some 28 from q6]
    refine am_goX 4 (show 2 < 3 ∧ am_sh (am_wI h1 1 1 ((Int32.ofInt 0))) 0 = some (10, 0) ∧ pz_S 3 (some .int) am_r80 8 Q 40 [(2, .ref 28), (1, .int 0), (0, .ref 0)] [am_rf ((am_wI h1 1 1 ((Int32.ofInt 0))).2.2.1 0 5), .ref 0] (am_wI h1 1 1 ((Int32.ofInt 0))) from ⟨by decide, ex_0 hPy, ?_⟩)
    rw [show (am_wI h1 1 1 ((Int32.ofInt 0))).2.2.1 0 5 = some 32 from q5]
    refine am_goX 1 (show am_sh (am_wI h1 1 1 ((Int32.ofInt 0))) 0 = some (10, 0) ∧ pz_S 3 (some .int) am_r80 8 Q 43 [(2, .ref 28), (1, .int 0), (0, .ref 0)] [] (am_wR (am_wI h1 1 1 ((Int32.ofInt 0))) 0 6 (some 32)) from ⟨ex_0 hPy, ?_⟩)
    have hPw6 : ex_P (am_wR (am_wI h1 1 1 ((Int32.ofInt 0))) 0 6 (some 32)) := ex_wR56 (by decide) hPy
    refine am_goX 3 (show am_sh (am_wR (am_wI h1 1 1 ((Int32.ofInt 0))) 0 6 (some 32)) 0 = some (10, 0) ∧ pz_S 3 (some .int) am_r80 8 Q 48 [(2, .ref 28), (1, .int 0), (0, .ref 0)] [] (am_wR (am_wR (am_wI h1 1 1 ((Int32.ofInt 0))) 0 6 (some 32)) 0 5 (some 28)) from ⟨ex_0 hPw6, ?_⟩)
    have hPw5 : ex_P (am_wR (am_wR (am_wI h1 1 1 ((Int32.ofInt 0))) 0 6 (some 32)) 0 5 (some 28)) := ex_wR56 (by decide) hPw6
    exact am_goX 2 (show (∃ ty, (some .int) = some ty ∧ narrow ty (.int ((Int32.ofInt 0))) = .int ((Int32.ofInt 0))) ∧ (am_wR (am_wR (am_wI h1 1 1 ((Int32.ofInt 0))) 0 6 (some 32)) 0 5 (some 28)).2.2.2.2 = 175 ∧ _ from ⟨⟨.int, rfl, rfl⟩, ex_175 hPw5, hS t h1 e y⟩)
theorem c_84_28_17 (hlt : W.1 < 40) (l : cwr h0 28 17 N T sz (a, W) h) (hF : ∀ F h1, sw_pn (tt T sz) N a = .inl F → cwx h0 28 F h1 → Q (some (.int 0)) h1) (hS : ∀ p h1, sw_pn (tt T sz) N a = .inr p → cwr h0 28 17 N T sz (a + 1, W) h1 → h1.1 30 W.1 = nI p → (∀ k, h1.1 29 k = h.1 29 k ∧ h1.1 31 k = h.1 31 k) → Q (some (.int 1)) h1) : am_call am_cod 6 84 [.ref 5, .ref 28, .ref 17] h Q := by
  have hP := c_P l.1
  have a1 : h.1 28 3 = nI W.1 := l.2.1.1
  refine pz_call (n := 84) (nL := 4) (rt := (some .boolean)) (rows := am_r84) (d := 5) (by decide +kernel) (by decide +kernel) rfl (by funext pc; rfl) (ex_175 hP) (by exact Nat.le_of_ble_eq_true rfl) ?_
  refine am_goX 2 (show am_sh h 5 = some (9, 0) ∧ pz_S 4 (some .boolean) am_r84 5 Q 4 [(0, .ref 5), (1, .ref 28), (2, .ref 17)] [am_rf (h.2.2.1 5 0)] h from ⟨ex_5 hP, ?_⟩)
  rw [ex_r5_0 (h := h) hP]
  refine am_goX 1 (show am_rc h 1 7 ∧ 0 ≤ 8 ∧ h.2.2.2.2 + am_al 54 ≤ 175 ∧ am_call am_cod 5 54 [.ref 1] h (fun vv h' => pz_S 4 (some .boolean) am_r84 5 Q 7 [(0, .ref 5), (1, .ref 28), (2, .ref 17)] (vv.toList ++ []) h') from ⟨Or.inl ⟨by decide, ex_1 hP⟩, by decide, ex_lim hP rfl, am_call.up (c_isn l.1 ?_) (by decide)⟩)
  cases e1 : sp_n (tt T sz) a with
  | true =>
    refine am_goX 1 (show (¬ (pz_b (true)) = 0 → pz_S 4 (some .boolean) am_r84 5 Q 19 [(0, .ref 5), (1, .ref 28), (2, .ref 17)] [] h) ∧ (¬ ¬ (pz_b (true)) = 0 → pz_S 4 (some .boolean) am_r84 5 Q 10 [(0, .ref 5), (1, .ref 28), (2, .ref 17)] [] h) from ⟨fun _ => ?_, fun hz => absurd (by decide) hz⟩)
    refine am_goX 3 (show am_sh h 5 = some (9, 0) ∧ pz_S 4 (some .boolean) am_r84 5 Q 24 [(0, .ref 5), (1, .ref 28), (2, .ref 17)] [am_rf (h.2.2.1 5 0), .ref 17] h from ⟨ex_5 hP, ?_⟩)
    rw [ex_r5_0 (h := h) hP]
    refine am_goX 2 (show am_sh h 1 = some (7, 0) ∧ am_rc h 17 0 ∧ 0 ≤ 8 ∧ h.2.2.2.2 + am_al 55 ≤ 175 ∧ am_call am_cod 5 55 [.ref 17, .long (h.2.1 1 5)] h (fun vv h' => pz_S 4 (some .boolean) am_r84 5 Q 30 [(0, .ref 5), (1, .ref 28), (2, .ref 17)] (vv.toList ++ []) h') from ⟨ex_1 hP, Or.inl ⟨by decide, ex_17 hP⟩, by decide, ex_lim hP rfl, am_call.up (c_55n_17 (v := (tt T sz a).2.1) hP l.2.2.2 (c_wd l.1 (sp_nk e1)) ?_) (by decide)⟩)
    cases e2 : sp_fd N.2 (tt T sz a).2.1 N.1 0 with
    | none =>
      refine am_goX 4 (show 3 < 4 ∧ (¬ (Int32.ofInt (-1)) = (Int32.ofInt (-1)) → pz_S 4 (some .boolean) am_r84 5 Q 45 [(3, .int (Int32.ofInt (-1))), (0, .ref 5), (1, .ref 28), (2, .ref 17)] [] h) ∧ (¬ ¬ (Int32.ofInt (-1)) = (Int32.ofInt (-1)) → pz_S 4 (some .boolean) am_r84 5 Q 36 [(3, .int (Int32.ofInt (-1))), (0, .ref 5), (1, .ref 28), (2, .ref 17)] [] h) from ⟨by decide, fun hz => absurd hz (by decide), fun _ => ?_⟩)
      refine am_goX 2 (show am_sh h 5 = some (9, 0) ∧ pz_S 4 (some .boolean) am_r84 5 Q 40 [(3, .int (Int32.ofInt (-1))), (0, .ref 5), (1, .ref 28), (2, .ref 17)] [am_rf (h.2.2.1 5 0)] h from ⟨ex_5 hP, ?_⟩)
      rw [ex_r5_0 (h := h) hP]
      refine am_goX 2 (show am_rc h 1 7 ∧ 0 ≤ 8 ∧ h.2.2.2.2 + am_al 52 ≤ 175 ∧ am_call am_cod 5 52 [.ref 1, .int (Int32.ofInt 2)] h (fun vv h' => pz_S 4 (some .boolean) am_r84 5 Q 44 [(3, .int (Int32.ofInt (-1))), (0, .ref 5), (1, .ref 28), (2, .ref 17)] (vv.toList ++ []) h') from ⟨Or.inl ⟨by decide, ex_1 hP⟩, by decide, ex_lim hP rfl, am_call.up (c_refuse l.1 ?_) (by decide)⟩)
      exact am_goX 1 (show (∃ ty, (some .boolean) = some ty ∧ narrow ty (.int ((Int32.ofInt 0))) = .int ((Int32.ofInt 0))) ∧ (am_wI h 1 7 (sp_ft (tt T sz) a (Int32.ofInt 2))).2.2.2.2 = 175 ∧ _ from ⟨⟨.boolean, rfl, rfl⟩, ex_175 hP, hF _ _ (by unfold sw_pn; rw [e1, cond_true, e2]; first | done | rfl) (cwr_x (s := (a, W)) l (by decide))⟩)
    | some p =>
      have wp := sp_fd_lt e2
      have w6 := l.2.2.2.2.1
      refine am_goX 4 (show 3 < 4 ∧ (¬ (nI p) = (Int32.ofInt (-1)) → pz_S 4 (some .boolean) am_r84 5 Q 45 [(3, .int (nI p)), (0, .ref 5), (1, .ref 28), (2, .ref 17)] [] h) ∧ (¬ ¬ (nI p) = (Int32.ofInt (-1)) → pz_S 4 (some .boolean) am_r84 5 Q 36 [(3, .int (nI p)), (0, .ref 5), (1, .ref 28), (2, .ref 17)] [] h) from ⟨by decide, fun _ => ?_, fun hz => absurd (nI_m1 (by omega)) hz⟩)
      refine am_goX 2 (show am_sh h 28 = some (8, 0) ∧ pz_S 4 (some .boolean) am_r84 5 Q 49 [(3, .int (nI p)), (0, .ref 5), (1, .ref 28), (2, .ref 17)] [am_rf (h.2.2.1 28 1)] h from ⟨ex_28 hP, ?_⟩)
      rw [ex_r28_1 (h := h) hP]
      refine am_goX 3 (show am_sh h 28 = some (8, 0) ∧ pz_S 4 (some .boolean) am_r84 5 Q 54 [(3, .int (nI p)), (0, .ref 5), (1, .ref 28), (2, .ref 17)] [.int (nI p), .int (h.1 28 3), .ref 30] h from ⟨ex_28 hP, ?_⟩)
      rw [a1]
      refine am_goX 1 (show ∃ jj nn : Nat, am_so h 30 = some (13, nn) ∧ jj < nn ∧ (nI W.1) = nI jj ∧ pz_S 4 (some .boolean) am_r84 5 Q 55 [(3, .int (nI p)), (0, .ref 5), (1, .ref 28), (2, .ref 17)] [] (am_wI h 30 jj (nI p)) from ⟨W.1, 40, ex_w30 hP, by omega, rfl, ?_⟩)
      have l2 : cwr h0 28 17 N T sz (a, W) (am_wI h 30 (W.1) (nI p)) := cwr_w (by decide) (by decide) l (Or.inr (Or.inl rfl)) (Nat.le_refl _)
      refine am_goX 2 (show am_sh (am_wI h 30 (W.1) (nI p)) 5 = some (9, 0) ∧ pz_S 4 (some .boolean) am_r84 5 Q 59 [(3, .int (nI p)), (0, .ref 5), (1, .ref 28), (2, .ref 17)] [am_rf ((am_wI h 30 (W.1) (nI p)).2.2.1 5 0)] (am_wI h 30 (W.1) (nI p)) from ⟨ex_5 (c_P l2.1), ?_⟩)
      rw [ex_r5_0 (h := am_wI h 30 (W.1) (nI p)) (c_P l2.1)]
      refine am_goX 1 (show am_rc (am_wI h 30 (W.1) (nI p)) 1 7 ∧ 0 ≤ 8 ∧ (am_wI h 30 (W.1) (nI p)).2.2.2.2 + am_al 18 ≤ 175 ∧ am_call am_cod 5 18 [.ref 1] (am_wI h 30 (W.1) (nI p)) (fun vv h' => pz_S 4 (some .boolean) am_r84 5 Q 62 [(3, .int (nI p)), (0, .ref 5), (1, .ref 28), (2, .ref 17)] (vv.toList ++ []) h') from ⟨Or.inl ⟨by decide, ex_1 (c_P l2.1)⟩, by decide, ex_lim (c_P l2.1) rfl, am_call.up (c_step l2.1 (sp_nn e1) (fun h3 m f => ?_)) (by decide)⟩)
      exact am_goX 2 (show (∃ ty, (some .boolean) = some ty ∧ narrow ty (.int ((Int32.ofInt 1))) = .int ((Int32.ofInt 1))) ∧ h3.2.2.2.2 = 175 ∧ _ from ⟨⟨.boolean, rfl, rfl⟩, ex_175 (c_P m), hS p h3 (by unfold sw_pn; rw [e1, cond_true, e2]) (cwr_fr (by decide) (by decide) l2 m f) ((f.2 30 W.1 (by decide)).1.trans (em_we _ _ _ _)) (fun k => ⟨(f.2 29 k (by decide)).1.trans (em_wn _ _ (by omega)), (f.2 31 k (by decide)).1.trans (em_wn _ _ (by omega))⟩)⟩)
  | false =>
    refine am_goX 1 (show (¬ (pz_b (false)) = 0 → pz_S 4 (some .boolean) am_r84 5 Q 19 [(0, .ref 5), (1, .ref 28), (2, .ref 17)] [] h) ∧ (¬ ¬ (pz_b (false)) = 0 → pz_S 4 (some .boolean) am_r84 5 Q 10 [(0, .ref 5), (1, .ref 28), (2, .ref 17)] [] h) from ⟨fun hz => absurd hz (by decide), fun _ => ?_⟩)
    refine am_goX 2 (show am_sh h 5 = some (9, 0) ∧ pz_S 4 (some .boolean) am_r84 5 Q 14 [(0, .ref 5), (1, .ref 28), (2, .ref 17)] [am_rf (h.2.2.1 5 0)] h from ⟨ex_5 hP, ?_⟩)
    rw [ex_r5_0 (h := h) hP]
    refine am_goX 2 (show am_rc h 1 7 ∧ 0 ≤ 8 ∧ h.2.2.2.2 + am_al 52 ≤ 175 ∧ am_call am_cod 5 52 [.ref 1, .int (Int32.ofInt 1)] h (fun vv h' => pz_S 4 (some .boolean) am_r84 5 Q 18 [(0, .ref 5), (1, .ref 28), (2, .ref 17)] (vv.toList ++ []) h') from ⟨Or.inl ⟨by decide, ex_1 hP⟩, by decide, ex_lim hP rfl, am_call.up (c_refuse l.1 ?_) (by decide)⟩)
    exact am_goX 1 (show (∃ ty, (some .boolean) = some ty ∧ narrow ty (.int ((Int32.ofInt 0))) = .int ((Int32.ofInt 0))) ∧ (am_wI h 1 7 (sp_ft (tt T sz) a (Int32.ofInt 1))).2.2.2.2 = 175 ∧ _ from ⟨⟨.boolean, rfl, rfl⟩, ex_175 hP, hF _ _ (by unfold sw_pn; rw [e1]; first | done | rfl) (cwr_x (s := (a, W)) l (by decide))⟩)
theorem c_82_28_17 (l : cwr h0 28 17 N T sz s h) (hF : ∀ F h1, sw_line (tt T sz) N s = .inl F → cwx h0 28 F h1 → Q (some (.int 0)) h1) (hS : ∀ t h1, sw_line (tt T sz) N s = .inr t → cwr h0 28 17 N T sz t h1 → Q (some (.int 1)) h1) : am_call am_cod 7 82 [.ref 5, .ref 28, .ref 17] h Q := by
  have hP := c_P l.1
  obtain ⟨a, W⟩ := s
  have a1 : h.1 28 3 = nI W.1 := l.2.1.1
  have a2 : W.1 ≤ 40 := l.2.1.2.1
  refine pz_call (n := 82) (nL := 5) (rt := (some .boolean)) (rows := am_r82) (d := 6) (by decide +kernel) (by decide +kernel) rfl (by funext pc; rfl) (ex_175 hP) (by exact Nat.le_of_ble_eq_true rfl) ?_
  refine am_goX 2 (show am_rc h 5 9 ∧ 0 ≤ 8 ∧ h.2.2.2.2 + am_al 83 ≤ 175 ∧ am_call am_cod 6 83 [.ref 5] h (fun vv h' => pz_S 5 (some .boolean) am_r82 6 Q 4 [(0, .ref 5), (1, .ref 28), (2, .ref 17)] (vv.toList ++ []) h') from ⟨Or.inl ⟨by decide, ex_5 hP⟩, by decide, ex_lim hP rfl, am_call.up (c_83 l.1 ?_) (by decide)⟩)
  rcases sw_act_cs (tt T sz) a with e1 | ⟨e1 | e1 | e1, hn⟩
  · rw [e1]
    refine am_goX 4 (show 3 < 5 ∧ (¬ (Int32.ofInt (-1)) = (Int32.ofInt (-1)) → pz_S 5 (some .boolean) am_r82 6 Q 19 [(3, .int (Int32.ofInt (-1))), (0, .ref 5), (1, .ref 28), (2, .ref 17)] [] h) ∧ (¬ ¬ (Int32.ofInt (-1)) = (Int32.ofInt (-1)) → pz_S 5 (some .boolean) am_r82 6 Q 10 [(3, .int (Int32.ofInt (-1))), (0, .ref 5), (1, .ref 28), (2, .ref 17)] [] h) from ⟨by decide, fun hz => absurd hz (by decide), fun _ => ?_⟩)
    refine am_goX 2 (show am_sh h 5 = some (9, 0) ∧ pz_S 5 (some .boolean) am_r82 6 Q 14 [(3, .int (Int32.ofInt (-1))), (0, .ref 5), (1, .ref 28), (2, .ref 17)] [am_rf (h.2.2.1 5 0)] h from ⟨ex_5 hP, ?_⟩)
    rw [ex_r5_0 (h := h) hP]
    refine am_goX 2 (show am_rc h 1 7 ∧ 0 ≤ 8 ∧ h.2.2.2.2 + am_al 52 ≤ 175 ∧ am_call am_cod 6 52 [.ref 1, .int (Int32.ofInt 1)] h (fun vv h' => pz_S 5 (some .boolean) am_r82 6 Q 18 [(3, .int (Int32.ofInt (-1))), (0, .ref 5), (1, .ref 28), (2, .ref 17)] (vv.toList ++ []) h') from ⟨Or.inl ⟨by decide, ex_1 hP⟩, by decide, ex_lim hP rfl, am_call.up (c_refuse l.1 ?_) (by decide)⟩)
    exact am_goX 1 (show (∃ ty, (some .boolean) = some ty ∧ narrow ty (.int ((Int32.ofInt 0))) = .int ((Int32.ofInt 0))) ∧ (am_wI h 1 7 (sp_ft (tt T sz) a (Int32.ofInt 1))).2.2.2.2 = 175 ∧ _ from ⟨⟨.boolean, rfl, rfl⟩, ex_175 hP, hF _ _ (by unfold sw_line; dsimp only; simp only [e1]) (cwr_x (s := (a, W)) l (by decide))⟩)
  · rw [e1]
    refine am_goX 4 (show 3 < 5 ∧ (¬ 0 = (Int32.ofInt (-1)) → pz_S 5 (some .boolean) am_r82 6 Q 19 [(3, .int 0), (0, .ref 5), (1, .ref 28), (2, .ref 17)] [] h) ∧ (¬ ¬ 0 = (Int32.ofInt (-1)) → pz_S 5 (some .boolean) am_r82 6 Q 10 [(3, .int 0), (0, .ref 5), (1, .ref 28), (2, .ref 17)] [] h) from ⟨by decide, fun _ => ?_, fun hz => absurd (by decide) hz⟩)
    refine am_goX 2 (show am_sh h 28 = some (8, 0) ∧ pz_S 5 (some .boolean) am_r82 6 Q 23 [(3, .int 0), (0, .ref 5), (1, .ref 28), (2, .ref 17)] [.int (h.1 28 3)] h from ⟨ex_28 hP, ?_⟩)
    rw [a1]
    refine am_goX 3 (show 4 < 5 ∧ pz_S 5 (some .boolean) am_r82 6 Q 29 [(4, .int (nI W.1)), (3, .int 0), (0, .ref 5), (1, .ref 28), (2, .ref 17)] [.int (Int8.ofInt 40).toInt32, .int (nI W.1)] h from ⟨by decide, ?_⟩)
    cases e2 : Nat.ble 40 W.1 with
    | true =>
      refine am_goX 1 (show ((nI W.1) < (Int8.ofInt 40).toInt32 → pz_S 5 (some .boolean) am_r82 6 Q 41 [(4, .int (nI W.1)), (3, .int 0), (0, .ref 5), (1, .ref 28), (2, .ref 17)] [] h) ∧ (¬ ((nI W.1) < (Int8.ofInt 40).toInt32) → pz_S 5 (some .boolean) am_r82 6 Q 32 [(4, .int (nI W.1)), (3, .int 0), (0, .ref 5), (1, .ref 28), (2, .ref 17)] [] h) from ⟨fun hz => absurd hz (i40 e2 a2), fun _ => ?_⟩)
      refine am_goX 2 (show am_sh h 5 = some (9, 0) ∧ pz_S 5 (some .boolean) am_r82 6 Q 36 [(4, .int (nI W.1)), (3, .int 0), (0, .ref 5), (1, .ref 28), (2, .ref 17)] [am_rf (h.2.2.1 5 0)] h from ⟨ex_5 hP, ?_⟩)
      rw [ex_r5_0 (h := h) hP]
      refine am_goX 2 (show am_rc h 1 7 ∧ 0 ≤ 8 ∧ h.2.2.2.2 + am_al 52 ≤ 175 ∧ am_call am_cod 6 52 [.ref 1, .int (Int32.ofInt 5)] h (fun vv h' => pz_S 5 (some .boolean) am_r82 6 Q 40 [(4, .int (nI W.1)), (3, .int 0), (0, .ref 5), (1, .ref 28), (2, .ref 17)] (vv.toList ++ []) h') from ⟨Or.inl ⟨by decide, ex_1 hP⟩, by decide, ex_lim hP rfl, am_call.up (c_refuse l.1 ?_) (by decide)⟩)
      exact am_goX 1 (show (∃ ty, (some .boolean) = some ty ∧ narrow ty (.int ((Int32.ofInt 0))) = .int ((Int32.ofInt 0))) ∧ (am_wI h 1 7 (sp_ft (tt T sz) a (Int32.ofInt 5))).2.2.2.2 = 175 ∧ _ from ⟨⟨.boolean, rfl, rfl⟩, ex_175 hP, hF _ _ (by unfold sw_line; dsimp only; simp only [e1, e2, cond_true]) (cwr_x (s := (a, W)) l (by decide))⟩)
    | false =>
      refine am_goX 1 (show ((nI W.1) < (Int8.ofInt 40).toInt32 → pz_S 5 (some .boolean) am_r82 6 Q 41 [(4, .int (nI W.1)), (3, .int 0), (0, .ref 5), (1, .ref 28), (2, .ref 17)] [] h) ∧ (¬ ((nI W.1) < (Int8.ofInt 40).toInt32) → pz_S 5 (some .boolean) am_r82 6 Q 32 [(4, .int (nI W.1)), (3, .int 0), (0, .ref 5), (1, .ref 28), (2, .ref 17)] [] h) from ⟨fun _ => ?_, fun hz => absurd (j40 e2) hz⟩)
      have hlt := j40n e2
      refine am_goX 2 (show am_sh h 28 = some (8, 0) ∧ pz_S 5 (some .boolean) am_r82 6 Q 45 [(4, .int (nI W.1)), (3, .int 0), (0, .ref 5), (1, .ref 28), (2, .ref 17)] [am_rf (h.2.2.1 28 0)] h from ⟨ex_28 hP, ?_⟩)
      rw [ex_r28_0 (h := h) hP]
      refine am_goX 3 (show ∃ jj nn : Nat, am_so h 29 = some (13, nn) ∧ jj < nn ∧ (nI W.1) = nI jj ∧ pz_S 5 (some .boolean) am_r82 6 Q 49 [(4, .int (nI W.1)), (3, .int 0), (0, .ref 5), (1, .ref 28), (2, .ref 17)] [] (am_wI h 29 jj 0) from ⟨W.1, 40, ex_w29 hP, by omega, rfl, ?_⟩)
      have l2 : cwr h0 28 17 N T sz (a, W) (am_wI h 29 (W.1) 0) := cwr_w (by decide) (by decide) l (Or.inl rfl) (Nat.le_refl _)
      refine am_goX 2 (show am_sh (am_wI h 29 (W.1) 0) 28 = some (8, 0) ∧ pz_S 5 (some .boolean) am_r82 6 Q 53 [(4, .int (nI W.1)), (3, .int 0), (0, .ref 5), (1, .ref 28), (2, .ref 17)] [am_rf ((am_wI h 29 (W.1) 0).2.2.1 28 1)] (am_wI h 29 (W.1) 0) from ⟨ex_28 (c_P l2.1), ?_⟩)
      rw [ex_r28_1 (h := am_wI h 29 (W.1) 0) (c_P l2.1)]
      refine am_goX 3 (show ∃ jj nn : Nat, am_so (am_wI h 29 (W.1) 0) 30 = some (13, nn) ∧ jj < nn ∧ (nI W.1) = nI jj ∧ pz_S 5 (some .boolean) am_r82 6 Q 57 [(4, .int (nI W.1)), (3, .int 0), (0, .ref 5), (1, .ref 28), (2, .ref 17)] [] (am_wI (am_wI h 29 (W.1) 0) 30 jj 0) from ⟨W.1, 40, ex_w30 (c_P l2.1), by omega, rfl, ?_⟩)
      have l3 : cwr h0 28 17 N T sz (a, W) (am_wI (am_wI h 29 (W.1) 0) 30 (W.1) 0) := cwr_w (by decide) (by decide) l2 (Or.inr (Or.inl rfl)) (Nat.le_refl _)
      refine am_goX 2 (show am_sh (am_wI (am_wI h 29 (W.1) 0) 30 (W.1) 0) 28 = some (8, 0) ∧ pz_S 5 (some .boolean) am_r82 6 Q 61 [(4, .int (nI W.1)), (3, .int 0), (0, .ref 5), (1, .ref 28), (2, .ref 17)] [am_rf ((am_wI (am_wI h 29 (W.1) 0) 30 (W.1) 0).2.2.1 28 2)] (am_wI (am_wI h 29 (W.1) 0) 30 (W.1) 0) from ⟨ex_28 (c_P l3.1), ?_⟩)
      rw [ex_r28_2 (h := am_wI (am_wI h 29 (W.1) 0) 30 (W.1) 0) (c_P l3.1)]
      refine am_goX 3 (show ∃ jj nn : Nat, am_so (am_wI (am_wI h 29 (W.1) 0) 30 (W.1) 0) 31 = some (13, nn) ∧ jj < nn ∧ (nI W.1) = nI jj ∧ pz_S 5 (some .boolean) am_r82 6 Q 65 [(4, .int (nI W.1)), (3, .int 0), (0, .ref 5), (1, .ref 28), (2, .ref 17)] [] (am_wI (am_wI (am_wI h 29 (W.1) 0) 30 (W.1) 0) 31 jj 0) from ⟨W.1, 40, ex_w31 (c_P l3.1), by omega, rfl, ?_⟩)
      have l4 : cwr h0 28 17 N T sz (a, W) (am_wI (am_wI (am_wI h 29 (W.1) 0) 30 (W.1) 0) 31 (W.1) 0) := cwr_w (by decide) (by decide) l3 (Or.inr (Or.inr rfl)) (Nat.le_refl _)
      have x1 : (am_wI (am_wI (am_wI h 29 (W.1) 0) 30 (W.1) 0) 31 (W.1) 0).1 29 W.1 = 0 := by rw [em_wn _ _ (by omega), em_wn _ _ (by omega), em_we]
      have x2 : (am_wI (am_wI (am_wI h 29 (W.1) 0) 30 (W.1) 0) 31 (W.1) 0).1 30 W.1 = 0 := by rw [em_wn _ _ (by omega), em_we]
      have x3 : (am_wI (am_wI (am_wI h 29 (W.1) 0) 30 (W.1) 0) 31 (W.1) 0).1 31 W.1 = 0 := em_we _ _ _ _
      refine am_goX 2 (show am_sh (am_wI (am_wI (am_wI h 29 (W.1) 0) 30 (W.1) 0) 31 (W.1) 0) 5 = some (9, 0) ∧ pz_S 5 (some .boolean) am_r82 6 Q 69 [(4, .int (nI W.1)), (3, .int 0), (0, .ref 5), (1, .ref 28), (2, .ref 17)] [am_rf ((am_wI (am_wI (am_wI h 29 (W.1) 0) 30 (W.1) 0) 31 (W.1) 0).2.2.1 5 0)] (am_wI (am_wI (am_wI h 29 (W.1) 0) 30 (W.1) 0) 31 (W.1) 0) from ⟨ex_5 (c_P l4.1), ?_⟩)
      rw [ex_r5_0 (h := am_wI (am_wI (am_wI h 29 (W.1) 0) 30 (W.1) 0) 31 (W.1) 0) (c_P l4.1)]
      refine am_goX 1 (show am_rc (am_wI (am_wI (am_wI h 29 (W.1) 0) 30 (W.1) 0) 31 (W.1) 0) 1 7 ∧ 0 ≤ 8 ∧ (am_wI (am_wI (am_wI h 29 (W.1) 0) 30 (W.1) 0) 31 (W.1) 0).2.2.2.2 + am_al 18 ≤ 175 ∧ am_call am_cod 6 18 [.ref 1] (am_wI (am_wI (am_wI h 29 (W.1) 0) 30 (W.1) 0) 31 (W.1) 0) (fun vv h' => pz_S 5 (some .boolean) am_r82 6 Q 72 [(4, .int (nI W.1)), (3, .int 0), (0, .ref 5), (1, .ref 28), (2, .ref 17)] (vv.toList ++ []) h') from ⟨Or.inl ⟨by decide, ex_1 (c_P l4.1)⟩, by decide, ex_lim (c_P l4.1) rfl, am_call.up (c_step l4.1 hn (fun h3 m f => ?_)) (by decide)⟩)
      have l5 := cwr_fr (by decide) (by decide) l4 m f
      have x1 := (f.2 29 W.1 (by decide)).1.trans x1
      have x2 := (f.2 30 W.1 (by decide)).1.trans x2
      have x3 := (f.2 31 W.1 (by decide)).1.trans x3
      refine am_goX 2 (show (0 = 0 → pz_S 5 (some .boolean) am_r82 6 Q 87 [(4, .int (nI W.1)), (3, .int 0), (0, .ref 5), (1, .ref 28), (2, .ref 17)] [] h3) ∧ (¬ (0 = 0) → pz_S 5 (some .boolean) am_r82 6 Q 76 [(4, .int (nI W.1)), (3, .int 0), (0, .ref 5), (1, .ref 28), (2, .ref 17)] [] h3) from ⟨fun _ => ?_, fun hz => absurd (by decide) hz⟩)
      refine am_goX 3 (show (¬ 0 = (Int32.ofInt 1) → pz_S 5 (some .boolean) am_r82 6 Q 102 [(4, .int (nI W.1)), (3, .int 0), (0, .ref 5), (1, .ref 28), (2, .ref 17)] [] h3) ∧ (¬ ¬ 0 = (Int32.ofInt 1) → pz_S 5 (some .boolean) am_r82 6 Q 92 [(4, .int (nI W.1)), (3, .int 0), (0, .ref 5), (1, .ref 28), (2, .ref 17)] [] h3) from ⟨fun _ => ?_, fun hz => absurd (by decide) hz⟩)
      refine am_goX 6 (show (Value.ref 28).category = 1 ∧ am_sh h3 28 = some (8, 0) ∧ am_sh h3 28 = some (8, 0) ∧ narrow (am_fty 8 3) (.int (((h3.1 28 3) + (Int32.ofInt 1)))) = .int (((h3.1 28 3) + (Int32.ofInt 1))) ∧ fits (am_fty 8 3) (.int (((h3.1 28 3) + (Int32.ofInt 1)))) = true ∧ pz_S 5 (some .boolean) am_r82 6 Q 112 [(4, .int (nI W.1)), (3, .int 0), (0, .ref 5), (1, .ref 28), (2, .ref 17)] [] (am_wI h3 28 3 (((h3.1 28 3) + (Int32.ofInt 1)))) from ⟨rfl, ex_28 (c_P l5.1), ex_28 (c_P l5.1), rfl, rfl, ?_⟩)
      rw [show h3.1 28 3 = nI W.1 from l5.2.1.1, xw_i1]
      have l9 : cwr h0 28 17 N T sz (a + 1, sw_ad W 0 0 0) (am_wI h3 28 3 (nI (W.1 + 1))) := cwr_P (by decide) (by decide) l5 hlt x1 x2 x3
      refine am_goX 2 (show am_sh (am_wI h3 28 3 (nI (W.1 + 1))) 5 = some (9, 0) ∧ pz_S 5 (some .boolean) am_r82 6 Q 116 [(4, .int (nI W.1)), (3, .int 0), (0, .ref 5), (1, .ref 28), (2, .ref 17)] [am_rf ((am_wI h3 28 3 (nI (W.1 + 1))).2.2.1 5 0)] (am_wI h3 28 3 (nI (W.1 + 1))) from ⟨ex_5 (c_P l9.1), ?_⟩)
      rw [ex_r5_0 (h := am_wI h3 28 3 (nI (W.1 + 1))) (c_P l9.1)]
      refine am_goX 2 (show am_rc (am_wI h3 28 3 (nI (W.1 + 1))) 1 7 ∧ 0 ≤ 8 ∧ (am_wI h3 28 3 (nI (W.1 + 1))).2.2.2.2 + am_al 61 ≤ 175 ∧ am_call am_cod 6 61 [.ref 1, .int (Int8.ofInt 59).toInt32] (am_wI h3 28 3 (nI (W.1 + 1))) (fun vv h' => pz_S 5 (some .boolean) am_r82 6 Q 121 [(4, .int (nI W.1)), (3, .int 0), (0, .ref 5), (1, .ref 28), (2, .ref 17)] (vv.toList ++ []) h') from ⟨Or.inl ⟨by decide, ex_1 (c_P l9.1)⟩, by decide, ex_lim (c_P l9.1) rfl, am_call.up (c_tSt l9.1 (fun e9 h9 m9 f9 => ?_) (fun e9 => ?_)) (by decide)⟩)
      ·
        exact am_goX 1 (show (∃ ty, (some .boolean) = some ty ∧ narrow ty (.int (1)) = .int (1)) ∧ h9.2.2.2.2 = 175 ∧ _ from ⟨⟨.boolean, rfl, rfl⟩, ex_175 (c_P m9), hS (a + 1 + 1, sw_ad W 0 0 0) h9 (by unfold sw_line; dsimp only; simp only [e1, e2, decide_true, cond_true, cond_false, show decide ((0 : Int32) = 0) = true from by decide, show decide ((0 : Int32) = 1) = false from by decide, sw_end, e9]) (cwr_fr (by decide) (by decide) l9 m9 f9)⟩)
      ·
        have hP9 : ex_P (am_wI h3 28 3 (nI (W.1 + 1))) := c_P l9.1
        exact am_goX 1 (show (∃ ty, (some .boolean) = some ty ∧ narrow ty (.int (0)) = .int (0)) ∧ (am_wI (am_wI h3 28 3 (nI (W.1 + 1))) 1 7 (sp_ft (tt T sz) (a + 1) (Int32.ofInt 1))).2.2.2.2 = 175 ∧ _ from ⟨⟨.boolean, rfl, rfl⟩, ex_175 hP9, hF _ _ (by unfold sw_line; dsimp only; simp only [e1, e2, decide_true, cond_true, cond_false, show decide ((0 : Int32) = 0) = true from by decide, show decide ((0 : Int32) = 1) = false from by decide, sw_end, e9]) (cwr_x (s := (a + 1, sw_ad W 0 0 0)) l9 (by decide))⟩)
  · rw [e1]
    refine am_goX 4 (show 3 < 5 ∧ (¬ 1 = (Int32.ofInt (-1)) → pz_S 5 (some .boolean) am_r82 6 Q 19 [(3, .int 1), (0, .ref 5), (1, .ref 28), (2, .ref 17)] [] h) ∧ (¬ ¬ 1 = (Int32.ofInt (-1)) → pz_S 5 (some .boolean) am_r82 6 Q 10 [(3, .int 1), (0, .ref 5), (1, .ref 28), (2, .ref 17)] [] h) from ⟨by decide, fun _ => ?_, fun hz => absurd (by decide) hz⟩)
    refine am_goX 2 (show am_sh h 28 = some (8, 0) ∧ pz_S 5 (some .boolean) am_r82 6 Q 23 [(3, .int 1), (0, .ref 5), (1, .ref 28), (2, .ref 17)] [.int (h.1 28 3)] h from ⟨ex_28 hP, ?_⟩)
    rw [a1]
    refine am_goX 3 (show 4 < 5 ∧ pz_S 5 (some .boolean) am_r82 6 Q 29 [(4, .int (nI W.1)), (3, .int 1), (0, .ref 5), (1, .ref 28), (2, .ref 17)] [.int (Int8.ofInt 40).toInt32, .int (nI W.1)] h from ⟨by decide, ?_⟩)
    cases e2 : Nat.ble 40 W.1 with
    | true =>
      refine am_goX 1 (show ((nI W.1) < (Int8.ofInt 40).toInt32 → pz_S 5 (some .boolean) am_r82 6 Q 41 [(4, .int (nI W.1)), (3, .int 1), (0, .ref 5), (1, .ref 28), (2, .ref 17)] [] h) ∧ (¬ ((nI W.1) < (Int8.ofInt 40).toInt32) → pz_S 5 (some .boolean) am_r82 6 Q 32 [(4, .int (nI W.1)), (3, .int 1), (0, .ref 5), (1, .ref 28), (2, .ref 17)] [] h) from ⟨fun hz => absurd hz (i40 e2 a2), fun _ => ?_⟩)
      refine am_goX 2 (show am_sh h 5 = some (9, 0) ∧ pz_S 5 (some .boolean) am_r82 6 Q 36 [(4, .int (nI W.1)), (3, .int 1), (0, .ref 5), (1, .ref 28), (2, .ref 17)] [am_rf (h.2.2.1 5 0)] h from ⟨ex_5 hP, ?_⟩)
      rw [ex_r5_0 (h := h) hP]
      refine am_goX 2 (show am_rc h 1 7 ∧ 0 ≤ 8 ∧ h.2.2.2.2 + am_al 52 ≤ 175 ∧ am_call am_cod 6 52 [.ref 1, .int (Int32.ofInt 5)] h (fun vv h' => pz_S 5 (some .boolean) am_r82 6 Q 40 [(4, .int (nI W.1)), (3, .int 1), (0, .ref 5), (1, .ref 28), (2, .ref 17)] (vv.toList ++ []) h') from ⟨Or.inl ⟨by decide, ex_1 hP⟩, by decide, ex_lim hP rfl, am_call.up (c_refuse l.1 ?_) (by decide)⟩)
      exact am_goX 1 (show (∃ ty, (some .boolean) = some ty ∧ narrow ty (.int ((Int32.ofInt 0))) = .int ((Int32.ofInt 0))) ∧ (am_wI h 1 7 (sp_ft (tt T sz) a (Int32.ofInt 5))).2.2.2.2 = 175 ∧ _ from ⟨⟨.boolean, rfl, rfl⟩, ex_175 hP, hF _ _ (by unfold sw_line; dsimp only; simp only [e1, e2, cond_true]) (cwr_x (s := (a, W)) l (by decide))⟩)
    | false =>
      refine am_goX 1 (show ((nI W.1) < (Int8.ofInt 40).toInt32 → pz_S 5 (some .boolean) am_r82 6 Q 41 [(4, .int (nI W.1)), (3, .int 1), (0, .ref 5), (1, .ref 28), (2, .ref 17)] [] h) ∧ (¬ ((nI W.1) < (Int8.ofInt 40).toInt32) → pz_S 5 (some .boolean) am_r82 6 Q 32 [(4, .int (nI W.1)), (3, .int 1), (0, .ref 5), (1, .ref 28), (2, .ref 17)] [] h) from ⟨fun _ => ?_, fun hz => absurd (j40 e2) hz⟩)
      have hlt := j40n e2
      refine am_goX 2 (show am_sh h 28 = some (8, 0) ∧ pz_S 5 (some .boolean) am_r82 6 Q 45 [(4, .int (nI W.1)), (3, .int 1), (0, .ref 5), (1, .ref 28), (2, .ref 17)] [am_rf (h.2.2.1 28 0)] h from ⟨ex_28 hP, ?_⟩)
      rw [ex_r28_0 (h := h) hP]
      refine am_goX 3 (show ∃ jj nn : Nat, am_so h 29 = some (13, nn) ∧ jj < nn ∧ (nI W.1) = nI jj ∧ pz_S 5 (some .boolean) am_r82 6 Q 49 [(4, .int (nI W.1)), (3, .int 1), (0, .ref 5), (1, .ref 28), (2, .ref 17)] [] (am_wI h 29 jj 1) from ⟨W.1, 40, ex_w29 hP, by omega, rfl, ?_⟩)
      have l2 : cwr h0 28 17 N T sz (a, W) (am_wI h 29 (W.1) 1) := cwr_w (by decide) (by decide) l (Or.inl rfl) (Nat.le_refl _)
      refine am_goX 2 (show am_sh (am_wI h 29 (W.1) 1) 28 = some (8, 0) ∧ pz_S 5 (some .boolean) am_r82 6 Q 53 [(4, .int (nI W.1)), (3, .int 1), (0, .ref 5), (1, .ref 28), (2, .ref 17)] [am_rf ((am_wI h 29 (W.1) 1).2.2.1 28 1)] (am_wI h 29 (W.1) 1) from ⟨ex_28 (c_P l2.1), ?_⟩)
      rw [ex_r28_1 (h := am_wI h 29 (W.1) 1) (c_P l2.1)]
      refine am_goX 3 (show ∃ jj nn : Nat, am_so (am_wI h 29 (W.1) 1) 30 = some (13, nn) ∧ jj < nn ∧ (nI W.1) = nI jj ∧ pz_S 5 (some .boolean) am_r82 6 Q 57 [(4, .int (nI W.1)), (3, .int 1), (0, .ref 5), (1, .ref 28), (2, .ref 17)] [] (am_wI (am_wI h 29 (W.1) 1) 30 jj 0) from ⟨W.1, 40, ex_w30 (c_P l2.1), by omega, rfl, ?_⟩)
      have l3 : cwr h0 28 17 N T sz (a, W) (am_wI (am_wI h 29 (W.1) 1) 30 (W.1) 0) := cwr_w (by decide) (by decide) l2 (Or.inr (Or.inl rfl)) (Nat.le_refl _)
      refine am_goX 2 (show am_sh (am_wI (am_wI h 29 (W.1) 1) 30 (W.1) 0) 28 = some (8, 0) ∧ pz_S 5 (some .boolean) am_r82 6 Q 61 [(4, .int (nI W.1)), (3, .int 1), (0, .ref 5), (1, .ref 28), (2, .ref 17)] [am_rf ((am_wI (am_wI h 29 (W.1) 1) 30 (W.1) 0).2.2.1 28 2)] (am_wI (am_wI h 29 (W.1) 1) 30 (W.1) 0) from ⟨ex_28 (c_P l3.1), ?_⟩)
      rw [ex_r28_2 (h := am_wI (am_wI h 29 (W.1) 1) 30 (W.1) 0) (c_P l3.1)]
      refine am_goX 3 (show ∃ jj nn : Nat, am_so (am_wI (am_wI h 29 (W.1) 1) 30 (W.1) 0) 31 = some (13, nn) ∧ jj < nn ∧ (nI W.1) = nI jj ∧ pz_S 5 (some .boolean) am_r82 6 Q 65 [(4, .int (nI W.1)), (3, .int 1), (0, .ref 5), (1, .ref 28), (2, .ref 17)] [] (am_wI (am_wI (am_wI h 29 (W.1) 1) 30 (W.1) 0) 31 jj 0) from ⟨W.1, 40, ex_w31 (c_P l3.1), by omega, rfl, ?_⟩)
      have l4 : cwr h0 28 17 N T sz (a, W) (am_wI (am_wI (am_wI h 29 (W.1) 1) 30 (W.1) 0) 31 (W.1) 0) := cwr_w (by decide) (by decide) l3 (Or.inr (Or.inr rfl)) (Nat.le_refl _)
      have x1 : (am_wI (am_wI (am_wI h 29 (W.1) 1) 30 (W.1) 0) 31 (W.1) 0).1 29 W.1 = 1 := by rw [em_wn _ _ (by omega), em_wn _ _ (by omega), em_we]
      have x2 : (am_wI (am_wI (am_wI h 29 (W.1) 1) 30 (W.1) 0) 31 (W.1) 0).1 30 W.1 = 0 := by rw [em_wn _ _ (by omega), em_we]
      have x3 : (am_wI (am_wI (am_wI h 29 (W.1) 1) 30 (W.1) 0) 31 (W.1) 0).1 31 W.1 = 0 := em_we _ _ _ _
      refine am_goX 2 (show am_sh (am_wI (am_wI (am_wI h 29 (W.1) 1) 30 (W.1) 0) 31 (W.1) 0) 5 = some (9, 0) ∧ pz_S 5 (some .boolean) am_r82 6 Q 69 [(4, .int (nI W.1)), (3, .int 1), (0, .ref 5), (1, .ref 28), (2, .ref 17)] [am_rf ((am_wI (am_wI (am_wI h 29 (W.1) 1) 30 (W.1) 0) 31 (W.1) 0).2.2.1 5 0)] (am_wI (am_wI (am_wI h 29 (W.1) 1) 30 (W.1) 0) 31 (W.1) 0) from ⟨ex_5 (c_P l4.1), ?_⟩)
      rw [ex_r5_0 (h := am_wI (am_wI (am_wI h 29 (W.1) 1) 30 (W.1) 0) 31 (W.1) 0) (c_P l4.1)]
      refine am_goX 1 (show am_rc (am_wI (am_wI (am_wI h 29 (W.1) 1) 30 (W.1) 0) 31 (W.1) 0) 1 7 ∧ 0 ≤ 8 ∧ (am_wI (am_wI (am_wI h 29 (W.1) 1) 30 (W.1) 0) 31 (W.1) 0).2.2.2.2 + am_al 18 ≤ 175 ∧ am_call am_cod 6 18 [.ref 1] (am_wI (am_wI (am_wI h 29 (W.1) 1) 30 (W.1) 0) 31 (W.1) 0) (fun vv h' => pz_S 5 (some .boolean) am_r82 6 Q 72 [(4, .int (nI W.1)), (3, .int 1), (0, .ref 5), (1, .ref 28), (2, .ref 17)] (vv.toList ++ []) h') from ⟨Or.inl ⟨by decide, ex_1 (c_P l4.1)⟩, by decide, ex_lim (c_P l4.1) rfl, am_call.up (c_step l4.1 hn (fun h3 m f => ?_)) (by decide)⟩)
      have l5 := cwr_fr (by decide) (by decide) l4 m f
      have x1 := (f.2 29 W.1 (by decide)).1.trans x1
      have x2 := (f.2 30 W.1 (by decide)).1.trans x2
      have x3 := (f.2 31 W.1 (by decide)).1.trans x3
      refine am_goX 2 (show (1 = 0 → pz_S 5 (some .boolean) am_r82 6 Q 87 [(4, .int (nI W.1)), (3, .int 1), (0, .ref 5), (1, .ref 28), (2, .ref 17)] [] h3) ∧ (¬ (1 = 0) → pz_S 5 (some .boolean) am_r82 6 Q 76 [(4, .int (nI W.1)), (3, .int 1), (0, .ref 5), (1, .ref 28), (2, .ref 17)] [] h3) from ⟨fun hz => absurd hz (by decide), fun _ => ?_⟩)
      refine am_goX 4 (show am_rc h3 5 9 ∧ 0 ≤ 8 ∧ h3.2.2.2.2 + am_al 84 ≤ 175 ∧ am_call am_cod 6 84 [.ref 5, .ref 28, .ref 17] h3 (fun vv h' => pz_S 5 (some .boolean) am_r82 6 Q 82 [(4, .int (nI W.1)), (3, .int 1), (0, .ref 5), (1, .ref 28), (2, .ref 17)] (vv.toList ++ []) h') from ⟨Or.inl ⟨by decide, ex_5 (c_P l5.1)⟩, by decide, ex_lim (c_P l5.1) rfl, c_84_28_17 hlt l5 (fun F h6 e6 y => ?_) (fun p h6 e6 l6 y1 y2 => ?_)⟩)
      ·
        refine am_goX 1 (show (¬ 0 = 0 → pz_S 5 (some .boolean) am_r82 6 Q 87 [(4, .int (nI W.1)), (3, .int 1), (0, .ref 5), (1, .ref 28), (2, .ref 17)] [] h6) ∧ (¬ ¬ 0 = 0 → pz_S 5 (some .boolean) am_r82 6 Q 85 [(4, .int (nI W.1)), (3, .int 1), (0, .ref 5), (1, .ref 28), (2, .ref 17)] [] h6) from ⟨fun hz => absurd hz (by decide), fun _ => ?_⟩)
        exact am_goX 2 (show (∃ ty, (some .boolean) = some ty ∧ narrow ty (.int ((Int32.ofInt 0))) = .int ((Int32.ofInt 0))) ∧ h6.2.2.2.2 = 175 ∧ _ from ⟨⟨.boolean, rfl, rfl⟩, ex_175 y.1, hF F h6 (by unfold sw_line; dsimp only; simp only [e1, e2, show decide ((1 : Int32) = 0) = false from by decide, show decide ((1 : Int32) = 1) = true from by decide, decide_true, cond_true, cond_false, e6]) y⟩)
      ·
        have x1 := (y2 W.1).1.trans x1
        have x2 := y1
        have x3 := (y2 W.1).2.trans x3
        refine am_goX 1 (show (¬ 1 = 0 → pz_S 5 (some .boolean) am_r82 6 Q 87 [(4, .int (nI W.1)), (3, .int 1), (0, .ref 5), (1, .ref 28), (2, .ref 17)] [] h6) ∧ (¬ ¬ 1 = 0 → pz_S 5 (some .boolean) am_r82 6 Q 85 [(4, .int (nI W.1)), (3, .int 1), (0, .ref 5), (1, .ref 28), (2, .ref 17)] [] h6) from ⟨fun _ => ?_, fun hz => absurd (by decide) hz⟩)
        refine am_goX 3 (show (¬ 1 = (Int32.ofInt 1) → pz_S 5 (some .boolean) am_r82 6 Q 102 [(4, .int (nI W.1)), (3, .int 1), (0, .ref 5), (1, .ref 28), (2, .ref 17)] [] h6) ∧ (¬ ¬ 1 = (Int32.ofInt 1) → pz_S 5 (some .boolean) am_r82 6 Q 92 [(4, .int (nI W.1)), (3, .int 1), (0, .ref 5), (1, .ref 28), (2, .ref 17)] [] h6) from ⟨fun hz => absurd hz (by decide), fun _ => ?_⟩)
        refine am_goX 3 (show am_rc h6 5 9 ∧ 0 ≤ 8 ∧ h6.2.2.2.2 + am_al 85 ≤ 175 ∧ am_call am_cod 6 85 [.ref 5, .ref 28] h6 (fun vv h' => pz_S 5 (some .boolean) am_r82 6 Q 97 [(4, .int (nI W.1)), (3, .int 1), (0, .ref 5), (1, .ref 28), (2, .ref 17)] (vv.toList ++ []) h') from ⟨Or.inl ⟨by decide, ex_5 (c_P l6.1)⟩, by decide, ex_lim (c_P l6.1) rfl, c_85_28 (by decide) (by decide) hlt l6 (fun F h7 e7 y => ?_) (fun v h7 e7 l7 y3 y4 => ?_)⟩)
        ·
          refine am_goX 1 (show (¬ 0 = 0 → pz_S 5 (some .boolean) am_r82 6 Q 102 [(4, .int (nI W.1)), (3, .int 1), (0, .ref 5), (1, .ref 28), (2, .ref 17)] [] h7) ∧ (¬ ¬ 0 = 0 → pz_S 5 (some .boolean) am_r82 6 Q 100 [(4, .int (nI W.1)), (3, .int 1), (0, .ref 5), (1, .ref 28), (2, .ref 17)] [] h7) from ⟨fun hz => absurd hz (by decide), fun _ => ?_⟩)
          exact am_goX 2 (show (∃ ty, (some .boolean) = some ty ∧ narrow ty (.int ((Int32.ofInt 0))) = .int ((Int32.ofInt 0))) ∧ h7.2.2.2.2 = 175 ∧ _ from ⟨⟨.boolean, rfl, rfl⟩, ex_175 y.1, hF F h7 (by unfold sw_line; dsimp only; simp only [e1, e2, show decide ((1 : Int32) = 0) = false from by decide, show decide ((1 : Int32) = 1) = true from by decide, decide_true, cond_true, cond_false, e6, e7]) y⟩)
        ·
          have x1 := (y4 W.1).1.trans x1
          have x2 := (y4 W.1).2.trans x2
          have x3 := y3
          refine am_goX 1 (show (¬ 1 = 0 → pz_S 5 (some .boolean) am_r82 6 Q 102 [(4, .int (nI W.1)), (3, .int 1), (0, .ref 5), (1, .ref 28), (2, .ref 17)] [] h7) ∧ (¬ ¬ 1 = 0 → pz_S 5 (some .boolean) am_r82 6 Q 100 [(4, .int (nI W.1)), (3, .int 1), (0, .ref 5), (1, .ref 28), (2, .ref 17)] [] h7) from ⟨fun _ => ?_, fun hz => absurd (by decide) hz⟩)
          refine am_goX 6 (show (Value.ref 28).category = 1 ∧ am_sh h7 28 = some (8, 0) ∧ am_sh h7 28 = some (8, 0) ∧ narrow (am_fty 8 3) (.int (((h7.1 28 3) + (Int32.ofInt 1)))) = .int (((h7.1 28 3) + (Int32.ofInt 1))) ∧ fits (am_fty 8 3) (.int (((h7.1 28 3) + (Int32.ofInt 1)))) = true ∧ pz_S 5 (some .boolean) am_r82 6 Q 112 [(4, .int (nI W.1)), (3, .int 1), (0, .ref 5), (1, .ref 28), (2, .ref 17)] [] (am_wI h7 28 3 (((h7.1 28 3) + (Int32.ofInt 1)))) from ⟨rfl, ex_28 (c_P l7.1), ex_28 (c_P l7.1), rfl, rfl, ?_⟩)
          rw [show h7.1 28 3 = nI W.1 from l7.2.1.1, xw_i1]
          have l9 : cwr h0 28 17 N T sz (a + 1 + 1 + 1, sw_ad W 1 (nI p) v) (am_wI h7 28 3 (nI (W.1 + 1))) := cwr_P (by decide) (by decide) l7 hlt x1 x2 x3
          refine am_goX 2 (show am_sh (am_wI h7 28 3 (nI (W.1 + 1))) 5 = some (9, 0) ∧ pz_S 5 (some .boolean) am_r82 6 Q 116 [(4, .int (nI W.1)), (3, .int 1), (0, .ref 5), (1, .ref 28), (2, .ref 17)] [am_rf ((am_wI h7 28 3 (nI (W.1 + 1))).2.2.1 5 0)] (am_wI h7 28 3 (nI (W.1 + 1))) from ⟨ex_5 (c_P l9.1), ?_⟩)
          rw [ex_r5_0 (h := am_wI h7 28 3 (nI (W.1 + 1))) (c_P l9.1)]
          refine am_goX 2 (show am_rc (am_wI h7 28 3 (nI (W.1 + 1))) 1 7 ∧ 0 ≤ 8 ∧ (am_wI h7 28 3 (nI (W.1 + 1))).2.2.2.2 + am_al 61 ≤ 175 ∧ am_call am_cod 6 61 [.ref 1, .int (Int8.ofInt 59).toInt32] (am_wI h7 28 3 (nI (W.1 + 1))) (fun vv h' => pz_S 5 (some .boolean) am_r82 6 Q 121 [(4, .int (nI W.1)), (3, .int 1), (0, .ref 5), (1, .ref 28), (2, .ref 17)] (vv.toList ++ []) h') from ⟨Or.inl ⟨by decide, ex_1 (c_P l9.1)⟩, by decide, ex_lim (c_P l9.1) rfl, am_call.up (c_tSt l9.1 (fun e9 h9 m9 f9 => ?_) (fun e9 => ?_)) (by decide)⟩)
          ·
            exact am_goX 1 (show (∃ ty, (some .boolean) = some ty ∧ narrow ty (.int (1)) = .int (1)) ∧ h9.2.2.2.2 = 175 ∧ _ from ⟨⟨.boolean, rfl, rfl⟩, ex_175 (c_P m9), hS (a + 1 + 1 + 1 + 1, sw_ad W 1 (nI p) v) h9 (by unfold sw_line; dsimp only; simp only [e1, e2, e6, e7, decide_true, cond_true, cond_false, show decide ((1 : Int32) = 0) = false from by decide, show decide ((1 : Int32) = 1) = true from by decide, sw_end, e9]) (cwr_fr (by decide) (by decide) l9 m9 f9)⟩)
          ·
            have hP9 : ex_P (am_wI h7 28 3 (nI (W.1 + 1))) := c_P l9.1
            exact am_goX 1 (show (∃ ty, (some .boolean) = some ty ∧ narrow ty (.int (0)) = .int (0)) ∧ (am_wI (am_wI h7 28 3 (nI (W.1 + 1))) 1 7 (sp_ft (tt T sz) (a + 1 + 1 + 1) (Int32.ofInt 1))).2.2.2.2 = 175 ∧ _ from ⟨⟨.boolean, rfl, rfl⟩, ex_175 hP9, hF _ _ (by unfold sw_line; dsimp only; simp only [e1, e2, e6, e7, decide_true, cond_true, cond_false, show decide ((1 : Int32) = 0) = false from by decide, show decide ((1 : Int32) = 1) = true from by decide, sw_end, e9]) (cwr_x (s := (a + 1 + 1 + 1, sw_ad W 1 (nI p) v)) l9 (by decide))⟩)
  · rw [e1]
    refine am_goX 4 (show 3 < 5 ∧ (¬ 2 = (Int32.ofInt (-1)) → pz_S 5 (some .boolean) am_r82 6 Q 19 [(3, .int 2), (0, .ref 5), (1, .ref 28), (2, .ref 17)] [] h) ∧ (¬ ¬ 2 = (Int32.ofInt (-1)) → pz_S 5 (some .boolean) am_r82 6 Q 10 [(3, .int 2), (0, .ref 5), (1, .ref 28), (2, .ref 17)] [] h) from ⟨by decide, fun _ => ?_, fun hz => absurd (by decide) hz⟩)
    refine am_goX 2 (show am_sh h 28 = some (8, 0) ∧ pz_S 5 (some .boolean) am_r82 6 Q 23 [(3, .int 2), (0, .ref 5), (1, .ref 28), (2, .ref 17)] [.int (h.1 28 3)] h from ⟨ex_28 hP, ?_⟩)
    rw [a1]
    refine am_goX 3 (show 4 < 5 ∧ pz_S 5 (some .boolean) am_r82 6 Q 29 [(4, .int (nI W.1)), (3, .int 2), (0, .ref 5), (1, .ref 28), (2, .ref 17)] [.int (Int8.ofInt 40).toInt32, .int (nI W.1)] h from ⟨by decide, ?_⟩)
    cases e2 : Nat.ble 40 W.1 with
    | true =>
      refine am_goX 1 (show ((nI W.1) < (Int8.ofInt 40).toInt32 → pz_S 5 (some .boolean) am_r82 6 Q 41 [(4, .int (nI W.1)), (3, .int 2), (0, .ref 5), (1, .ref 28), (2, .ref 17)] [] h) ∧ (¬ ((nI W.1) < (Int8.ofInt 40).toInt32) → pz_S 5 (some .boolean) am_r82 6 Q 32 [(4, .int (nI W.1)), (3, .int 2), (0, .ref 5), (1, .ref 28), (2, .ref 17)] [] h) from ⟨fun hz => absurd hz (i40 e2 a2), fun _ => ?_⟩)
      refine am_goX 2 (show am_sh h 5 = some (9, 0) ∧ pz_S 5 (some .boolean) am_r82 6 Q 36 [(4, .int (nI W.1)), (3, .int 2), (0, .ref 5), (1, .ref 28), (2, .ref 17)] [am_rf (h.2.2.1 5 0)] h from ⟨ex_5 hP, ?_⟩)
      rw [ex_r5_0 (h := h) hP]
      refine am_goX 2 (show am_rc h 1 7 ∧ 0 ≤ 8 ∧ h.2.2.2.2 + am_al 52 ≤ 175 ∧ am_call am_cod 6 52 [.ref 1, .int (Int32.ofInt 5)] h (fun vv h' => pz_S 5 (some .boolean) am_r82 6 Q 40 [(4, .int (nI W.1)), (3, .int 2), (0, .ref 5), (1, .ref 28), (2, .ref 17)] (vv.toList ++ []) h') from ⟨Or.inl ⟨by decide, ex_1 hP⟩, by decide, ex_lim hP rfl, am_call.up (c_refuse l.1 ?_) (by decide)⟩)
      exact am_goX 1 (show (∃ ty, (some .boolean) = some ty ∧ narrow ty (.int ((Int32.ofInt 0))) = .int ((Int32.ofInt 0))) ∧ (am_wI h 1 7 (sp_ft (tt T sz) a (Int32.ofInt 5))).2.2.2.2 = 175 ∧ _ from ⟨⟨.boolean, rfl, rfl⟩, ex_175 hP, hF _ _ (by unfold sw_line; dsimp only; simp only [e1, e2, cond_true]) (cwr_x (s := (a, W)) l (by decide))⟩)
    | false =>
      refine am_goX 1 (show ((nI W.1) < (Int8.ofInt 40).toInt32 → pz_S 5 (some .boolean) am_r82 6 Q 41 [(4, .int (nI W.1)), (3, .int 2), (0, .ref 5), (1, .ref 28), (2, .ref 17)] [] h) ∧ (¬ ((nI W.1) < (Int8.ofInt 40).toInt32) → pz_S 5 (some .boolean) am_r82 6 Q 32 [(4, .int (nI W.1)), (3, .int 2), (0, .ref 5), (1, .ref 28), (2, .ref 17)] [] h) from ⟨fun _ => ?_, fun hz => absurd (j40 e2) hz⟩)
      have hlt := j40n e2
      refine am_goX 2 (show am_sh h 28 = some (8, 0) ∧ pz_S 5 (some .boolean) am_r82 6 Q 45 [(4, .int (nI W.1)), (3, .int 2), (0, .ref 5), (1, .ref 28), (2, .ref 17)] [am_rf (h.2.2.1 28 0)] h from ⟨ex_28 hP, ?_⟩)
      rw [ex_r28_0 (h := h) hP]
      refine am_goX 3 (show ∃ jj nn : Nat, am_so h 29 = some (13, nn) ∧ jj < nn ∧ (nI W.1) = nI jj ∧ pz_S 5 (some .boolean) am_r82 6 Q 49 [(4, .int (nI W.1)), (3, .int 2), (0, .ref 5), (1, .ref 28), (2, .ref 17)] [] (am_wI h 29 jj 2) from ⟨W.1, 40, ex_w29 hP, by omega, rfl, ?_⟩)
      have l2 : cwr h0 28 17 N T sz (a, W) (am_wI h 29 (W.1) 2) := cwr_w (by decide) (by decide) l (Or.inl rfl) (Nat.le_refl _)
      refine am_goX 2 (show am_sh (am_wI h 29 (W.1) 2) 28 = some (8, 0) ∧ pz_S 5 (some .boolean) am_r82 6 Q 53 [(4, .int (nI W.1)), (3, .int 2), (0, .ref 5), (1, .ref 28), (2, .ref 17)] [am_rf ((am_wI h 29 (W.1) 2).2.2.1 28 1)] (am_wI h 29 (W.1) 2) from ⟨ex_28 (c_P l2.1), ?_⟩)
      rw [ex_r28_1 (h := am_wI h 29 (W.1) 2) (c_P l2.1)]
      refine am_goX 3 (show ∃ jj nn : Nat, am_so (am_wI h 29 (W.1) 2) 30 = some (13, nn) ∧ jj < nn ∧ (nI W.1) = nI jj ∧ pz_S 5 (some .boolean) am_r82 6 Q 57 [(4, .int (nI W.1)), (3, .int 2), (0, .ref 5), (1, .ref 28), (2, .ref 17)] [] (am_wI (am_wI h 29 (W.1) 2) 30 jj 0) from ⟨W.1, 40, ex_w30 (c_P l2.1), by omega, rfl, ?_⟩)
      have l3 : cwr h0 28 17 N T sz (a, W) (am_wI (am_wI h 29 (W.1) 2) 30 (W.1) 0) := cwr_w (by decide) (by decide) l2 (Or.inr (Or.inl rfl)) (Nat.le_refl _)
      refine am_goX 2 (show am_sh (am_wI (am_wI h 29 (W.1) 2) 30 (W.1) 0) 28 = some (8, 0) ∧ pz_S 5 (some .boolean) am_r82 6 Q 61 [(4, .int (nI W.1)), (3, .int 2), (0, .ref 5), (1, .ref 28), (2, .ref 17)] [am_rf ((am_wI (am_wI h 29 (W.1) 2) 30 (W.1) 0).2.2.1 28 2)] (am_wI (am_wI h 29 (W.1) 2) 30 (W.1) 0) from ⟨ex_28 (c_P l3.1), ?_⟩)
      rw [ex_r28_2 (h := am_wI (am_wI h 29 (W.1) 2) 30 (W.1) 0) (c_P l3.1)]
      refine am_goX 3 (show ∃ jj nn : Nat, am_so (am_wI (am_wI h 29 (W.1) 2) 30 (W.1) 0) 31 = some (13, nn) ∧ jj < nn ∧ (nI W.1) = nI jj ∧ pz_S 5 (some .boolean) am_r82 6 Q 65 [(4, .int (nI W.1)), (3, .int 2), (0, .ref 5), (1, .ref 28), (2, .ref 17)] [] (am_wI (am_wI (am_wI h 29 (W.1) 2) 30 (W.1) 0) 31 jj 0) from ⟨W.1, 40, ex_w31 (c_P l3.1), by omega, rfl, ?_⟩)
      have l4 : cwr h0 28 17 N T sz (a, W) (am_wI (am_wI (am_wI h 29 (W.1) 2) 30 (W.1) 0) 31 (W.1) 0) := cwr_w (by decide) (by decide) l3 (Or.inr (Or.inr rfl)) (Nat.le_refl _)
      have x1 : (am_wI (am_wI (am_wI h 29 (W.1) 2) 30 (W.1) 0) 31 (W.1) 0).1 29 W.1 = 2 := by rw [em_wn _ _ (by omega), em_wn _ _ (by omega), em_we]
      have x2 : (am_wI (am_wI (am_wI h 29 (W.1) 2) 30 (W.1) 0) 31 (W.1) 0).1 30 W.1 = 0 := by rw [em_wn _ _ (by omega), em_we]
      have x3 : (am_wI (am_wI (am_wI h 29 (W.1) 2) 30 (W.1) 0) 31 (W.1) 0).1 31 W.1 = 0 := em_we _ _ _ _
      refine am_goX 2 (show am_sh (am_wI (am_wI (am_wI h 29 (W.1) 2) 30 (W.1) 0) 31 (W.1) 0) 5 = some (9, 0) ∧ pz_S 5 (some .boolean) am_r82 6 Q 69 [(4, .int (nI W.1)), (3, .int 2), (0, .ref 5), (1, .ref 28), (2, .ref 17)] [am_rf ((am_wI (am_wI (am_wI h 29 (W.1) 2) 30 (W.1) 0) 31 (W.1) 0).2.2.1 5 0)] (am_wI (am_wI (am_wI h 29 (W.1) 2) 30 (W.1) 0) 31 (W.1) 0) from ⟨ex_5 (c_P l4.1), ?_⟩)
      rw [ex_r5_0 (h := am_wI (am_wI (am_wI h 29 (W.1) 2) 30 (W.1) 0) 31 (W.1) 0) (c_P l4.1)]
      refine am_goX 1 (show am_rc (am_wI (am_wI (am_wI h 29 (W.1) 2) 30 (W.1) 0) 31 (W.1) 0) 1 7 ∧ 0 ≤ 8 ∧ (am_wI (am_wI (am_wI h 29 (W.1) 2) 30 (W.1) 0) 31 (W.1) 0).2.2.2.2 + am_al 18 ≤ 175 ∧ am_call am_cod 6 18 [.ref 1] (am_wI (am_wI (am_wI h 29 (W.1) 2) 30 (W.1) 0) 31 (W.1) 0) (fun vv h' => pz_S 5 (some .boolean) am_r82 6 Q 72 [(4, .int (nI W.1)), (3, .int 2), (0, .ref 5), (1, .ref 28), (2, .ref 17)] (vv.toList ++ []) h') from ⟨Or.inl ⟨by decide, ex_1 (c_P l4.1)⟩, by decide, ex_lim (c_P l4.1) rfl, am_call.up (c_step l4.1 hn (fun h3 m f => ?_)) (by decide)⟩)
      have l5 := cwr_fr (by decide) (by decide) l4 m f
      have x1 := (f.2 29 W.1 (by decide)).1.trans x1
      have x2 := (f.2 30 W.1 (by decide)).1.trans x2
      have x3 := (f.2 31 W.1 (by decide)).1.trans x3
      refine am_goX 2 (show (2 = 0 → pz_S 5 (some .boolean) am_r82 6 Q 87 [(4, .int (nI W.1)), (3, .int 2), (0, .ref 5), (1, .ref 28), (2, .ref 17)] [] h3) ∧ (¬ (2 = 0) → pz_S 5 (some .boolean) am_r82 6 Q 76 [(4, .int (nI W.1)), (3, .int 2), (0, .ref 5), (1, .ref 28), (2, .ref 17)] [] h3) from ⟨fun hz => absurd hz (by decide), fun _ => ?_⟩)
      refine am_goX 4 (show am_rc h3 5 9 ∧ 0 ≤ 8 ∧ h3.2.2.2.2 + am_al 84 ≤ 175 ∧ am_call am_cod 6 84 [.ref 5, .ref 28, .ref 17] h3 (fun vv h' => pz_S 5 (some .boolean) am_r82 6 Q 82 [(4, .int (nI W.1)), (3, .int 2), (0, .ref 5), (1, .ref 28), (2, .ref 17)] (vv.toList ++ []) h') from ⟨Or.inl ⟨by decide, ex_5 (c_P l5.1)⟩, by decide, ex_lim (c_P l5.1) rfl, c_84_28_17 hlt l5 (fun F h6 e6 y => ?_) (fun p h6 e6 l6 y1 y2 => ?_)⟩)
      ·
        refine am_goX 1 (show (¬ 0 = 0 → pz_S 5 (some .boolean) am_r82 6 Q 87 [(4, .int (nI W.1)), (3, .int 2), (0, .ref 5), (1, .ref 28), (2, .ref 17)] [] h6) ∧ (¬ ¬ 0 = 0 → pz_S 5 (some .boolean) am_r82 6 Q 85 [(4, .int (nI W.1)), (3, .int 2), (0, .ref 5), (1, .ref 28), (2, .ref 17)] [] h6) from ⟨fun hz => absurd hz (by decide), fun _ => ?_⟩)
        exact am_goX 2 (show (∃ ty, (some .boolean) = some ty ∧ narrow ty (.int ((Int32.ofInt 0))) = .int ((Int32.ofInt 0))) ∧ h6.2.2.2.2 = 175 ∧ _ from ⟨⟨.boolean, rfl, rfl⟩, ex_175 y.1, hF F h6 (by unfold sw_line; dsimp only; simp only [e1, e2, show decide ((2 : Int32) = 0) = false from by decide, show decide ((2 : Int32) = 1) = false from by decide, decide_true, cond_true, cond_false, e6]) y⟩)
      ·
        have x1 := (y2 W.1).1.trans x1
        have x2 := y1
        have x3 := (y2 W.1).2.trans x3
        refine am_goX 1 (show (¬ 1 = 0 → pz_S 5 (some .boolean) am_r82 6 Q 87 [(4, .int (nI W.1)), (3, .int 2), (0, .ref 5), (1, .ref 28), (2, .ref 17)] [] h6) ∧ (¬ ¬ 1 = 0 → pz_S 5 (some .boolean) am_r82 6 Q 85 [(4, .int (nI W.1)), (3, .int 2), (0, .ref 5), (1, .ref 28), (2, .ref 17)] [] h6) from ⟨fun _ => ?_, fun hz => absurd (by decide) hz⟩)
        refine am_goX 3 (show (¬ 2 = (Int32.ofInt 1) → pz_S 5 (some .boolean) am_r82 6 Q 102 [(4, .int (nI W.1)), (3, .int 2), (0, .ref 5), (1, .ref 28), (2, .ref 17)] [] h6) ∧ (¬ ¬ 2 = (Int32.ofInt 1) → pz_S 5 (some .boolean) am_r82 6 Q 92 [(4, .int (nI W.1)), (3, .int 2), (0, .ref 5), (1, .ref 28), (2, .ref 17)] [] h6) from ⟨fun _ => ?_, fun hz => absurd (by decide) hz⟩)
        refine am_goX 6 (show (Value.ref 28).category = 1 ∧ am_sh h6 28 = some (8, 0) ∧ am_sh h6 28 = some (8, 0) ∧ narrow (am_fty 8 3) (.int (((h6.1 28 3) + (Int32.ofInt 1)))) = .int (((h6.1 28 3) + (Int32.ofInt 1))) ∧ fits (am_fty 8 3) (.int (((h6.1 28 3) + (Int32.ofInt 1)))) = true ∧ pz_S 5 (some .boolean) am_r82 6 Q 112 [(4, .int (nI W.1)), (3, .int 2), (0, .ref 5), (1, .ref 28), (2, .ref 17)] [] (am_wI h6 28 3 (((h6.1 28 3) + (Int32.ofInt 1)))) from ⟨rfl, ex_28 (c_P l6.1), ex_28 (c_P l6.1), rfl, rfl, ?_⟩)
        rw [show h6.1 28 3 = nI W.1 from l6.2.1.1, xw_i1]
        have l9 : cwr h0 28 17 N T sz (a + 1 + 1, sw_ad W 2 (nI p) 0) (am_wI h6 28 3 (nI (W.1 + 1))) := cwr_P (by decide) (by decide) l6 hlt x1 x2 x3
        refine am_goX 2 (show am_sh (am_wI h6 28 3 (nI (W.1 + 1))) 5 = some (9, 0) ∧ pz_S 5 (some .boolean) am_r82 6 Q 116 [(4, .int (nI W.1)), (3, .int 2), (0, .ref 5), (1, .ref 28), (2, .ref 17)] [am_rf ((am_wI h6 28 3 (nI (W.1 + 1))).2.2.1 5 0)] (am_wI h6 28 3 (nI (W.1 + 1))) from ⟨ex_5 (c_P l9.1), ?_⟩)
        rw [ex_r5_0 (h := am_wI h6 28 3 (nI (W.1 + 1))) (c_P l9.1)]
        refine am_goX 2 (show am_rc (am_wI h6 28 3 (nI (W.1 + 1))) 1 7 ∧ 0 ≤ 8 ∧ (am_wI h6 28 3 (nI (W.1 + 1))).2.2.2.2 + am_al 61 ≤ 175 ∧ am_call am_cod 6 61 [.ref 1, .int (Int8.ofInt 59).toInt32] (am_wI h6 28 3 (nI (W.1 + 1))) (fun vv h' => pz_S 5 (some .boolean) am_r82 6 Q 121 [(4, .int (nI W.1)), (3, .int 2), (0, .ref 5), (1, .ref 28), (2, .ref 17)] (vv.toList ++ []) h') from ⟨Or.inl ⟨by decide, ex_1 (c_P l9.1)⟩, by decide, ex_lim (c_P l9.1) rfl, am_call.up (c_tSt l9.1 (fun e9 h9 m9 f9 => ?_) (fun e9 => ?_)) (by decide)⟩)
        ·
          exact am_goX 1 (show (∃ ty, (some .boolean) = some ty ∧ narrow ty (.int (1)) = .int (1)) ∧ h9.2.2.2.2 = 175 ∧ _ from ⟨⟨.boolean, rfl, rfl⟩, ex_175 (c_P m9), hS (a + 1 + 1 + 1, sw_ad W 2 (nI p) 0) h9 (by unfold sw_line; dsimp only; simp only [e1, e2, e6, decide_true, cond_true, cond_false, show decide ((2 : Int32) = 0) = false from by decide, show decide ((2 : Int32) = 1) = false from by decide, sw_end, e9]) (cwr_fr (by decide) (by decide) l9 m9 f9)⟩)
        ·
          have hP9 : ex_P (am_wI h6 28 3 (nI (W.1 + 1))) := c_P l9.1
          exact am_goX 1 (show (∃ ty, (some .boolean) = some ty ∧ narrow ty (.int (0)) = .int (0)) ∧ (am_wI (am_wI h6 28 3 (nI (W.1 + 1))) 1 7 (sp_ft (tt T sz) (a + 1 + 1) (Int32.ofInt 1))).2.2.2.2 = 175 ∧ _ from ⟨⟨.boolean, rfl, rfl⟩, ex_175 hP9, hF _ _ (by unfold sw_line; dsimp only; simp only [e1, e2, e6, decide_true, cond_true, cond_false, show decide ((2 : Int32) = 0) = false from by decide, show decide ((2 : Int32) = 1) = false from by decide, sw_end, e9]) (cwr_x (s := (a + 1 + 1, sw_ad W 2 (nI p) 0)) l9 (by decide))⟩)
theorem c_81l_28_17 : ∀ (m i : Nat) (s : sw_S) (h : am_H) (Q : am_Q), sz < s.1 + m → i ≤ s.1 → cwr h0 28 17 N T sz s h → (∀ F h1, sw_all (tt T sz) N m s = .inl F → cwx h0 28 F h1 → Q (some (.int F)) h1) → (∀ t h1, sw_all (tt T sz) N m s = .inr t → cwr h0 28 17 N T sz t h1 → Q (some (.int 0)) h1) → pz_S 5 (some .int) am_r81 7 Q 17 [(4, .int (nI i)), (3, .int 1), (0, .ref 5), (1, .ref 28), (2, .ref 17)] [] h := by
  intro m
  induction m with
  | zero =>
    intro i s h Q hm hi l hF hS
    have := (cwr_a l).1
    omega
  | succ m ih =>
    intro i s h Q hm hi l hF hS
    have ha := cwr_a l
    have hP := c_P l.1
    have hk := ck_4 T sz s.1
    have hf : h.1 1 7 = 0 := l.1.2.2.2.1
    refine am_goX 2 (show (1 = 0 → pz_S 5 (some .int) am_r81 7 Q 53 [(4, .int (nI i)), (3, .int 1), (0, .ref 5), (1, .ref 28), (2, .ref 17)] [] h) ∧ (¬ (1 = 0) → pz_S 5 (some .int) am_r81 7 Q 21 [(4, .int (nI i)), (3, .int 1), (0, .ref 5), (1, .ref 28), (2, .ref 17)] [] h) from ⟨fun hz => absurd hz (by decide), fun _ => ?_⟩)
    refine am_goX 2 (show am_sh h 5 = some (9, 0) ∧ pz_S 5 (some .int) am_r81 7 Q 25 [(4, .int (nI i)), (3, .int 1), (0, .ref 5), (1, .ref 28), (2, .ref 17)] [am_rf (h.2.2.1 5 0)] h from ⟨ex_5 hP, ?_⟩)
    rw [ex_r5_0 (h := h) hP]
    refine am_goX 2 (show am_sh h 1 = some (7, 0) ∧ pz_S 5 (some .int) am_r81 7 Q 29 [(4, .int (nI i)), (3, .int 1), (0, .ref 5), (1, .ref 28), (2, .ref 17)] [.int (Int32.ofInt 4), .int (h.1 1 2)] h from ⟨ex_1 hP, ?_⟩)
    rw [c_kd l.1]
    refine am_goX 1 (show ((ck (tt T sz s.1).1) = (Int32.ofInt 4) → pz_S 5 (some .int) am_r81 7 Q 53 [(4, .int (nI i)), (3, .int 1), (0, .ref 5), (1, .ref 28), (2, .ref 17)] [] h) ∧ (¬ ((ck (tt T sz s.1).1) = (Int32.ofInt 4)) → pz_S 5 (some .int) am_r81 7 Q 32 [(4, .int (nI i)), (3, .int 1), (0, .ref 5), (1, .ref 28), (2, .ref 17)] [] h) from ⟨fun hc => ?_, fun hc => ?_⟩)
    ·
      have e2 : sp_k (tt T sz) s.1 0 = true := by rw [← hk]; exact decide_eq_true hc
      refine am_goX 2 (show am_sh h 5 = some (9, 0) ∧ pz_S 5 (some .int) am_r81 7 Q 57 [(4, .int (nI i)), (3, .int 1), (0, .ref 5), (1, .ref 28), (2, .ref 17)] [am_rf (h.2.2.1 5 0)] h from ⟨ex_5 hP, ?_⟩)
      rw [ex_r5_0 (h := h) hP]
      refine am_goX 1 (show am_sh h 1 = some (7, 0) ∧ pz_S 5 (some .int) am_r81 7 Q 60 [(4, .int (nI i)), (3, .int 1), (0, .ref 5), (1, .ref 28), (2, .ref 17)] [.int (h.1 1 7)] h from ⟨ex_1 hP, ?_⟩)
      rw [hf]
      exact am_goX 1 (show (∃ ty, (some .int) = some ty ∧ narrow ty (.int (0)) = .int (0)) ∧ h.2.2.2.2 = 175 ∧ _ from ⟨⟨.int, rfl, rfl⟩, ex_175 hP, hS s h (by unfold sw_all; rw [e2]; rfl) l⟩)
    ·
      have e2 : sp_k (tt T sz) s.1 0 = false := by rw [← hk]; exact decide_eq_false hc
      clear hc
      have hlt : s.1 < sz := by
        have w := l.1.2.2.2.2.1
        have w2 : tk_pl T sz s.1 < sz := kz_lt (of_decide_eq_false e2)
        omega
      refine am_goX 3 (show ((Int16.ofInt 1000).toInt32 ≤ (nI i) → pz_S 5 (some .int) am_r81 7 Q 53 [(4, .int (nI i)), (3, .int 1), (0, .ref 5), (1, .ref 28), (2, .ref 17)] [] h) ∧ (¬ ((Int16.ofInt 1000).toInt32 ≤ (nI i)) → pz_S 5 (some .int) am_r81 7 Q 40 [(4, .int (nI i)), (3, .int 1), (0, .ref 5), (1, .ref 28), (2, .ref 17)] [] h) from ⟨fun hz => absurd hz (i1000 (by omega)), fun _ => ?_⟩)
      refine am_goX 4 (show am_rc h 5 9 ∧ 0 ≤ 8 ∧ h.2.2.2.2 + am_al 82 ≤ 175 ∧ am_call am_cod 7 82 [.ref 5, .ref 28, .ref 17] h (fun vv h' => pz_S 5 (some .int) am_r81 7 Q 46 [(4, .int (nI i)), (3, .int 1), (0, .ref 5), (1, .ref 28), (2, .ref 17)] (vv.toList ++ []) h') from ⟨Or.inl ⟨by decide, ex_5 hP⟩, by decide, ex_lim hP rfl, c_82_28_17 l (fun F h1 e3 y => ?_) (fun t h1 e3 y => ?_)⟩)
      ·
        refine am_goX 5 (show 3 < 5 ∧ 4 < 5 ∧ (0 = 0 → pz_S 5 (some .int) am_r81 7 Q 53 [(4, .int ((nI i) + Int32.ofInt 1)), (3, .int 0), (0, .ref 5), (1, .ref 28), (2, .ref 17)] [] h1) ∧ (¬ (0 = 0) → pz_S 5 (some .int) am_r81 7 Q 21 [(4, .int ((nI i) + Int32.ofInt 1)), (3, .int 0), (0, .ref 5), (1, .ref 28), (2, .ref 17)] [] h1) from ⟨by decide, by decide, fun _ => ?_, fun hz => absurd (by decide) hz⟩)
        refine am_goX 2 (show am_sh h1 5 = some (9, 0) ∧ pz_S 5 (some .int) am_r81 7 Q 57 [(4, .int ((nI i) + Int32.ofInt 1)), (3, .int 0), (0, .ref 5), (1, .ref 28), (2, .ref 17)] [am_rf (h1.2.2.1 5 0)] h1 from ⟨ex_5 y.1, ?_⟩)
        rw [ex_r5_0 (h := h1) y.1]
        refine am_goX 1 (show am_sh h1 1 = some (7, 0) ∧ pz_S 5 (some .int) am_r81 7 Q 60 [(4, .int ((nI i) + Int32.ofInt 1)), (3, .int 0), (0, .ref 5), (1, .ref 28), (2, .ref 17)] [.int (h1.1 1 7)] h1 from ⟨ex_1 y.1, ?_⟩)
        rw [y.2.1.1]
        exact am_goX 1 (show (∃ ty, (some .int) = some ty ∧ narrow ty (.int (F)) = .int (F)) ∧ h1.2.2.2.2 = 175 ∧ _ from ⟨⟨.int, rfl, rfl⟩, ex_175 y.1, hF F h1 (by unfold sw_all; rw [e2, cond_false, e3]) y⟩)
      ·
        refine am_goX 3 (show 3 < 5 ∧ 4 < 5 ∧ pz_S 5 (some .int) am_r81 7 Q 17 [(4, .int ((nI i) + Int32.ofInt 1)), (3, .int 1), (0, .ref 5), (1, .ref 28), (2, .ref 17)] [] h1 from ⟨by decide, by decide, ?_⟩)
        rw [xw_i1]
        have g1 := sw_line_lt e3
        have hx : sw_all (tt T sz) N (m + 1) s = sw_all (tt T sz) N m t := by
          conv => lhs; unfold sw_all
          rw [e2, cond_false, e3]
        exact ih (i + 1) t h1 Q (by omega) (by omega) y (fun F h2 e => hF F h2 (hx.trans e)) (fun t h2 e => hS t h2 (hx.trans e))
theorem c_81_28_17 (hP : ex_P h) (hz : sz ≤ 1000) (hch : ∀ q, q < sz → 0 ≤ (T q).toInt ∧ (T q).toInt ≤ 126) (l1 : h.1 1 1 = nI sz) (l2 : ∀ q, q < sz → h.1 2 q = T q) (ln : cnm 17 N h) (hF : ∀ F h1, sw_week (tt T sz) N = .inl F → cwx h 28 F h1 → Q (some (.int F)) h1) (hS : ∀ t h1, sw_week (tt T sz) N = .inr t → cwr h 28 17 N T sz t h1 → Q (some (.int 0)) h1) : am_call am_cod 8 81 [.ref 5, .ref 28, .ref 17] h Q := by
  refine pz_call (n := 81) (nL := 5) (rt := (some .int)) (rows := am_r81) (d := 7) (by decide +kernel) (by decide +kernel) rfl (by funext pc; rfl) (ex_175 hP) (by exact Nat.le_of_ble_eq_true rfl) ?_
  refine am_goX 3 (show am_sh h 28 = some (8, 0) ∧ narrow (am_fty 8 3) (.int ((Int32.ofInt 0))) = .int ((Int32.ofInt 0)) ∧ fits (am_fty 8 3) (.int ((Int32.ofInt 0))) = true ∧ pz_S 5 (some .int) am_r81 7 Q 5 [(0, .ref 5), (1, .ref 28), (2, .ref 17)] [] (am_wI h 28 3 ((Int32.ofInt 0))) from ⟨ex_28 hP, rfl, rfl, ?_⟩)
  refine am_goX 2 (show am_sh (am_wI h 28 3 0) 5 = some (9, 0) ∧ pz_S 5 (some .int) am_r81 7 Q 9 [(0, .ref 5), (1, .ref 28), (2, .ref 17)] [am_rf ((am_wI h 28 3 0).2.2.1 5 0)] (am_wI h 28 3 0) from ⟨ex_5 hP, ?_⟩)
  rw [ex_r5_0 (h := am_wI h 28 3 0) hP]
  refine am_goX 1 (show am_rc (am_wI h 28 3 0) 1 7 ∧ 0 ≤ 8 ∧ (am_wI h 28 3 0).2.2.2.2 + am_al 17 ≤ 175 ∧ am_call am_cod 7 17 [.ref 1] (am_wI h 28 3 0) (fun vv h' => pz_S 5 (some .int) am_r81 7 Q 12 [(0, .ref 5), (1, .ref 28), (2, .ref 17)] (vv.toList ++ []) h') from ⟨Or.inl ⟨by decide, ex_1 hP⟩, by decide, ex_lim hP rfl, am_call.up (c_begin (T := T) (sz := sz) hP hz hch (by rw [em_wn _ _ (by omega)]; exact l1) (fun q hq => by rw [em_wn _ _ (by omega)]; exact l2 q hq) (fun h1 t f => ?_)) (by decide)⟩)
  have l : cwr h 28 17 N T sz (0, sw_W0) h1 := by
    refine ⟨t, ⟨(f.2 28 3 (by decide)).1.trans (em_we _ _ _ _), by decide, fun i hi => absurd hi (Nat.not_lt_zero i)⟩, cwq_fr (h := am_wI h 28 3 0) ⟨rfl, fun o k hn => ⟨em_wn _ _ (by omega), rfl⟩⟩ f, ⟨(f.2 17 0 (by decide)).1.trans ((em_wn _ _ (by omega)).trans ln.1), ln.2.1, fun i hi => ?_⟩⟩
    rw [(f.2 18 i (by decide)).2]
    exact ln.2.2 i hi
  refine am_goX 4 (show 3 < 5 ∧ 4 < 5 ∧ pz_S 5 (some .int) am_r81 7 Q 17 [(4, .int (Int32.ofInt 0)), (3, .int (Int32.ofInt 1)), (0, .ref 5), (1, .ref 28), (2, .ref 17)] [] h1 from ⟨by decide, by decide, ?_⟩)
  exact c_81l_28_17 1001 0 (0, sw_W0) h1 Q (by dsimp only; omega) (Nat.zero_le _) l hF hS
theorem c_80_28_17 (hw : h.2.2.1 0 6 = some 28) (hk : h.2.2.1 0 5 = some 32) (ht : h.2.2.1 0 3 = some 17) (hP : ex_P h) (hz : sz ≤ 1000) (hch : ∀ q, q < sz → 0 ≤ (T q).toInt ∧ (T q).toInt ≤ 126) (l1 : h.1 1 1 = nI sz) (l2 : ∀ q, q < sz → h.1 2 q = T q) (ln : cnm 17 N h) (hF : ∀ F h1, sw_week (tt T sz) N = .inl F → cwx h 28 F h1 → Q (some (.int F)) (am_wI h1 1 1 (Int32.ofInt 0))) (hS : ∀ t h1, sw_week (tt T sz) N = .inr t → cwr h 28 17 N T sz t h1 → Q (some (.int (Int32.ofInt 0))) (am_wR (am_wR (am_wI h1 1 1 (Int32.ofInt 0)) 0 6 (some 32)) 0 5 (some 28))) : am_call am_cod 9 80 [.ref 0] h Q := by
  refine pz_call (n := 80) (nL := 3) (rt := (some .int)) (rows := am_r80) (d := 8) (by decide +kernel) (by decide +kernel) rfl (by funext pc; rfl) (ex_175 hP) (by exact Nat.le_of_ble_eq_true rfl) ?_
  refine am_goX 2 (show am_sh h 0 = some (10, 0) ∧ pz_S 3 (some .int) am_r80 8 Q 4 [(0, .ref 0)] [am_rf (h.2.2.1 0 2)] h from ⟨ex_0 hP, ?_⟩)
  rw [ex_r0_2 (h := h) hP]
  refine am_goX 2 (show am_sh h 0 = some (10, 0) ∧ pz_S 3 (some .int) am_r80 8 Q 8 [(0, .ref 0)] [am_rf (h.2.2.1 0 6), .ref 5] h from ⟨ex_0 hP, ?_⟩)
  rw [hw]
  refine am_goX 2 (show am_sh h 0 = some (10, 0) ∧ pz_S 3 (some .int) am_r80 8 Q 12 [(0, .ref 0)] [am_rf (h.2.2.1 0 3), .ref 28, .ref 5] h from ⟨ex_0 hP, ?_⟩)
  rw [ht]
  refine am_goX 1 (show am_rc h 5 9 ∧ 0 ≤ 8 ∧ h.2.2.2.2 + am_al 81 ≤ 175 ∧ am_call am_cod 8 81 [.ref 5, .ref 28, .ref 17] h (fun vv h' => pz_S 3 (some .int) am_r80 8 Q 15 [(0, .ref 0)] (vv.toList ++ []) h') from ⟨Or.inl ⟨by decide, ex_5 hP⟩, by decide, ex_lim hP rfl, c_81_28_17 hP hz hch l1 l2 ln (fun F h1 e y => ?_) (fun t h1 e y => ?_)⟩)
  ·
    have hPy : ex_P h1 := y.1
    refine am_goX 3 (show 1 < 3 ∧ am_sh h1 0 = some (10, 0) ∧ pz_S 3 (some .int) am_r80 8 Q 20 [(1, .int F), (0, .ref 0)] [am_rf (h1.2.2.1 0 0)] h1 from ⟨by decide, ex_0 hPy, ?_⟩)
    rw [ex_r0_0 (h := h1) hPy]
    refine am_goX 2 (show am_sh h1 1 = some (7, 0) ∧ narrow (am_fty 7 1) (.int ((Int32.ofInt 0))) = .int ((Int32.ofInt 0)) ∧ fits (am_fty 7 1) (.int ((Int32.ofInt 0))) = true ∧ pz_S 3 (some .int) am_r80 8 Q 24 [(1, .int F), (0, .ref 0)] [] (am_wI h1 1 1 ((Int32.ofInt 0))) from ⟨ex_1 hPy, rfl, rfl, ?_⟩)
    refine am_goX 2 (show (F = 0 → pz_S 3 (some .int) am_r80 8 Q 30 [(1, .int F), (0, .ref 0)] [] (am_wI h1 1 1 ((Int32.ofInt 0)))) ∧ (¬ (F = 0) → pz_S 3 (some .int) am_r80 8 Q 28 [(1, .int F), (0, .ref 0)] [] (am_wI h1 1 1 ((Int32.ofInt 0)))) from ⟨fun hz => absurd hz y.2.1.2, fun _ => ?_⟩)
    exact am_goX 2 (show (∃ ty, (some .int) = some ty ∧ narrow ty (.int (F)) = .int (F)) ∧ (am_wI h1 1 1 ((Int32.ofInt 0))).2.2.2.2 = 175 ∧ _ from ⟨⟨.int, rfl, rfl⟩, ex_175 hPy, hF F h1 e y⟩)
  ·
    have hPy : ex_P h1 := c_P y.1
    have q5 : h1.2.2.1 0 5 = some 32 := by rw [y.2.2.1.1]; exact hk
    have q6 : h1.2.2.1 0 6 = some 28 := by rw [y.2.2.1.1]; exact hw
    refine am_goX 3 (show 1 < 3 ∧ am_sh h1 0 = some (10, 0) ∧ pz_S 3 (some .int) am_r80 8 Q 20 [(1, .int 0), (0, .ref 0)] [am_rf (h1.2.2.1 0 0)] h1 from ⟨by decide, ex_0 hPy, ?_⟩)
    rw [ex_r0_0 (h := h1) hPy]
    refine am_goX 2 (show am_sh h1 1 = some (7, 0) ∧ narrow (am_fty 7 1) (.int ((Int32.ofInt 0))) = .int ((Int32.ofInt 0)) ∧ fits (am_fty 7 1) (.int ((Int32.ofInt 0))) = true ∧ pz_S 3 (some .int) am_r80 8 Q 24 [(1, .int 0), (0, .ref 0)] [] (am_wI h1 1 1 ((Int32.ofInt 0))) from ⟨ex_1 hPy, rfl, rfl, ?_⟩)
    refine am_goX 2 (show (0 = 0 → pz_S 3 (some .int) am_r80 8 Q 30 [(1, .int 0), (0, .ref 0)] [] (am_wI h1 1 1 ((Int32.ofInt 0)))) ∧ (¬ (0 = 0) → pz_S 3 (some .int) am_r80 8 Q 28 [(1, .int 0), (0, .ref 0)] [] (am_wI h1 1 1 ((Int32.ofInt 0)))) from ⟨fun _ => ?_, fun hz => absurd (by decide) hz⟩)
    refine am_goX 2 (show am_sh (am_wI h1 1 1 ((Int32.ofInt 0))) 0 = some (10, 0) ∧ pz_S 3 (some .int) am_r80 8 Q 34 [(1, .int 0), (0, .ref 0)] [am_rf ((am_wI h1 1 1 ((Int32.ofInt 0))).2.2.1 0 6)] (am_wI h1 1 1 ((Int32.ofInt 0))) from ⟨ex_0 hPy, ?_⟩)
    rw [show (am_wI h1 1 1 ((Int32.ofInt 0))).2.2.1 0 6 = some 28 from q6]
    refine am_goX 4 (show 2 < 3 ∧ am_sh (am_wI h1 1 1 ((Int32.ofInt 0))) 0 = some (10, 0) ∧ pz_S 3 (some .int) am_r80 8 Q 40 [(2, .ref 28), (1, .int 0), (0, .ref 0)] [am_rf ((am_wI h1 1 1 ((Int32.ofInt 0))).2.2.1 0 5), .ref 0] (am_wI h1 1 1 ((Int32.ofInt 0))) from ⟨by decide, ex_0 hPy, ?_⟩)
    rw [show (am_wI h1 1 1 ((Int32.ofInt 0))).2.2.1 0 5 = some 32 from q5]
    refine am_goX 1 (show am_sh (am_wI h1 1 1 ((Int32.ofInt 0))) 0 = some (10, 0) ∧ pz_S 3 (some .int) am_r80 8 Q 43 [(2, .ref 28), (1, .int 0), (0, .ref 0)] [] (am_wR (am_wI h1 1 1 ((Int32.ofInt 0))) 0 6 (some 32)) from ⟨ex_0 hPy, ?_⟩)
    have hPw6 : ex_P (am_wR (am_wI h1 1 1 ((Int32.ofInt 0))) 0 6 (some 32)) := ex_wR56 (by decide) hPy
    refine am_goX 3 (show am_sh (am_wR (am_wI h1 1 1 ((Int32.ofInt 0))) 0 6 (some 32)) 0 = some (10, 0) ∧ pz_S 3 (some .int) am_r80 8 Q 48 [(2, .ref 28), (1, .int 0), (0, .ref 0)] [] (am_wR (am_wR (am_wI h1 1 1 ((Int32.ofInt 0))) 0 6 (some 32)) 0 5 (some 28)) from ⟨ex_0 hPw6, ?_⟩)
    have hPw5 : ex_P (am_wR (am_wR (am_wI h1 1 1 ((Int32.ofInt 0))) 0 6 (some 32)) 0 5 (some 28)) := ex_wR56 (by decide) hPw6
    exact am_goX 2 (show (∃ ty, (some .int) = some ty ∧ narrow ty (.int ((Int32.ofInt 0))) = .int ((Int32.ofInt 0))) ∧ (am_wR (am_wR (am_wI h1 1 1 ((Int32.ofInt 0))) 0 6 (some 32)) 0 5 (some 28)).2.2.2.2 = 175 ∧ _ from ⟨⟨.int, rfl, rfl⟩, ex_175 hPw5, hS t h1 e y⟩)
theorem c_85_32 {c : Nat} (hc1 : 1 < c) (hcw : c + 1 < 32) (hlt : W.1 < 40) (l : cwr h0 32 c N T sz (a, W) h) (hF : ∀ F h1, sw_lt (tt T sz) a = .inl F → cwx h0 32 F h1 → Q (some (.int 0)) h1) (hS : ∀ v h1, sw_lt (tt T sz) a = .inr v → cwr h0 32 c N T sz (a + 1, W) h1 → h1.1 35 W.1 = v → (∀ k, h1.1 33 k = h.1 33 k ∧ h1.1 34 k = h.1 34 k) → Q (some (.int 1)) h1) : am_call am_cod 6 85 [.ref 5, .ref 32] h Q := by
  have hP := c_P l.1
  have a1 : h.1 32 3 = nI W.1 := l.2.1.1
  refine pz_call (n := 85) (nL := 2) (rt := (some .boolean)) (rows := am_r85) (d := 5) (by decide +kernel) (by decide +kernel) rfl (by funext pc; rfl) (ex_175 hP) (by exact Nat.le_of_ble_eq_true rfl) ?_
  refine am_goX 2 (show am_sh h 5 = some (9, 0) ∧ pz_S 2 (some .boolean) am_r85 5 Q 4 [(0, .ref 5), (1, .ref 32)] [am_rf (h.2.2.1 5 0)] h from ⟨ex_5 hP, ?_⟩)
  rw [ex_r5_0 (h := h) hP]
  refine am_goX 3 (show am_rc h 1 7 ∧ 0 ≤ 8 ∧ h.2.2.2.2 + am_al 59 ≤ 175 ∧ am_call am_cod 5 59 [.ref 1, .int (Int32.ofInt 0), .int (Int32.ofInt 4)] h (fun vv h' => pz_S 2 (some .boolean) am_r85 5 Q 9 [(0, .ref 5), (1, .ref 32)] (vv.toList ++ []) h') from ⟨Or.inl ⟨by decide, ex_1 hP⟩, by decide, ex_lim hP rfl, am_call.up (c_tNt l.1 (fun e1 e2 => ?_) (fun e1 e2 => ?_) (fun e1 => ?_)) (by decide)⟩)
  ·
    refine am_goX 1 (show (¬ 1 = 0 → pz_S 2 (some .boolean) am_r85 5 Q 14 [(0, .ref 5), (1, .ref 32)] [] h) ∧ (¬ ¬ 1 = 0 → pz_S 2 (some .boolean) am_r85 5 Q 12 [(0, .ref 5), (1, .ref 32)] [] h) from ⟨fun _ => ?_, fun hz => absurd (by decide) hz⟩)
    refine am_goX 2 (show am_sh h 32 = some (8, 0) ∧ pz_S 2 (some .boolean) am_r85 5 Q 18 [(0, .ref 5), (1, .ref 32)] [am_rf (h.2.2.1 32 2)] h from ⟨ex_32 hP, ?_⟩)
    rw [ex_r32_2 (h := h) hP]
    refine am_goX 4 (show am_sh h 32 = some (8, 0) ∧ am_sh h 5 = some (9, 0) ∧ pz_S 2 (some .boolean) am_r85 5 Q 26 [(0, .ref 5), (1, .ref 32)] [am_rf (h.2.2.1 5 0), .int (h.1 32 3), .ref 35] h from ⟨ex_32 hP, ex_5 hP, ?_⟩)
    rw [ex_r5_0 (h := h) hP]
    refine am_goX 1 (show am_sh h 1 = some (7, 0) ∧ pz_S 2 (some .boolean) am_r85 5 Q 29 [(0, .ref 5), (1, .ref 32)] [.int (h.1 1 6), .int (h.1 32 3), .ref 35] h from ⟨ex_1 hP, ?_⟩)
    rw [a1, c_nv l.1 e1]
    refine am_goX 1 (show ∃ jj nn : Nat, am_so h 35 = some (13, nn) ∧ jj < nn ∧ (nI W.1) = nI jj ∧ pz_S 2 (some .boolean) am_r85 5 Q 30 [(0, .ref 5), (1, .ref 32)] [] (am_wI h 35 jj (sp_v (tt T sz) a)) from ⟨W.1, 40, ex_w35 hP, by omega, rfl, ?_⟩)
    have l2 : cwr h0 32 c N T sz (a, W) (am_wI h 35 (W.1) (sp_v (tt T sz) a)) := cwr_w hcw hc1 l (Or.inr (Or.inr rfl)) (Nat.le_refl _)
    refine am_goX 2 (show am_sh (am_wI h 35 (W.1) (sp_v (tt T sz) a)) 5 = some (9, 0) ∧ pz_S 2 (some .boolean) am_r85 5 Q 34 [(0, .ref 5), (1, .ref 32)] [am_rf ((am_wI h 35 (W.1) (sp_v (tt T sz) a)).2.2.1 5 0)] (am_wI h 35 (W.1) (sp_v (tt T sz) a)) from ⟨ex_5 (c_P l2.1), ?_⟩)
    rw [ex_r5_0 (h := am_wI h 35 (W.1) (sp_v (tt T sz) a)) (c_P l2.1)]
    refine am_goX 1 (show am_rc (am_wI h 35 (W.1) (sp_v (tt T sz) a)) 1 7 ∧ 0 ≤ 8 ∧ (am_wI h 35 (W.1) (sp_v (tt T sz) a)).2.2.2.2 + am_al 18 ≤ 175 ∧ am_call am_cod 5 18 [.ref 1] (am_wI h 35 (W.1) (sp_v (tt T sz) a)) (fun vv h' => pz_S 2 (some .boolean) am_r85 5 Q 37 [(0, .ref 5), (1, .ref 32)] (vv.toList ++ []) h') from ⟨Or.inl ⟨by decide, ex_1 (c_P l2.1)⟩, by decide, ex_lim (c_P l2.1) rfl, am_call.up (c_step l2.1 (sp_kn (by decide) e1) (fun h3 m f => ?_)) (by decide)⟩)
    exact am_goX 2 (show (∃ ty, (some .boolean) = some ty ∧ narrow ty (.int ((Int32.ofInt 1))) = .int ((Int32.ofInt 1))) ∧ h3.2.2.2.2 = 175 ∧ _ from ⟨⟨.boolean, rfl, rfl⟩, ex_175 (c_P m), hS (sp_v (tt T sz) a) h3 (by unfold sw_lt; rw [e1, e2]; rfl) (cwr_fr (by decide) hc1 l2 m f) ((f.2 35 W.1 (by decide)).1.trans (em_we _ _ _ _)) (fun k => ⟨(f.2 33 k (by decide)).1.trans (em_wn _ _ (by omega)), (f.2 34 k (by decide)).1.trans (em_wn _ _ (by omega))⟩)⟩)
  ·
    refine am_goX 1 (show (¬ 0 = 0 → pz_S 2 (some .boolean) am_r85 5 Q 14 [(0, .ref 5), (1, .ref 32)] [] (am_wI h 1 7 (sp_ft (tt T sz) a (Int32.ofInt 4)))) ∧ (¬ ¬ 0 = 0 → pz_S 2 (some .boolean) am_r85 5 Q 12 [(0, .ref 5), (1, .ref 32)] [] (am_wI h 1 7 (sp_ft (tt T sz) a (Int32.ofInt 4)))) from ⟨fun hz => absurd hz (by decide), fun _ => ?_⟩)
    exact am_goX 2 (show (∃ ty, (some .boolean) = some ty ∧ narrow ty (.int ((Int32.ofInt 0))) = .int ((Int32.ofInt 0))) ∧ (am_wI h 1 7 (sp_ft (tt T sz) a (Int32.ofInt 4))).2.2.2.2 = 175 ∧ _ from ⟨⟨.boolean, rfl, rfl⟩, ex_175 hP, hF _ _ (by unfold sw_lt; rw [e1, e2]; rfl) (cwr_x (s := (a, W)) l (by decide))⟩)
  ·
    refine am_goX 1 (show (¬ 0 = 0 → pz_S 2 (some .boolean) am_r85 5 Q 14 [(0, .ref 5), (1, .ref 32)] [] (am_wI h 1 7 (sp_ft (tt T sz) a (Int32.ofInt 1)))) ∧ (¬ ¬ 0 = 0 → pz_S 2 (some .boolean) am_r85 5 Q 12 [(0, .ref 5), (1, .ref 32)] [] (am_wI h 1 7 (sp_ft (tt T sz) a (Int32.ofInt 1)))) from ⟨fun hz => absurd hz (by decide), fun _ => ?_⟩)
    exact am_goX 2 (show (∃ ty, (some .boolean) = some ty ∧ narrow ty (.int ((Int32.ofInt 0))) = .int ((Int32.ofInt 0))) ∧ (am_wI h 1 7 (sp_ft (tt T sz) a (Int32.ofInt 1))).2.2.2.2 = 175 ∧ _ from ⟨⟨.boolean, rfl, rfl⟩, ex_175 hP, hF _ _ (by unfold sw_lt; rw [e1]; rfl) (cwr_x (s := (a, W)) l (by decide))⟩)
theorem c_84_32_6 (hlt : W.1 < 40) (l : cwr h0 32 6 N T sz (a, W) h) (hF : ∀ F h1, sw_pn (tt T sz) N a = .inl F → cwx h0 32 F h1 → Q (some (.int 0)) h1) (hS : ∀ p h1, sw_pn (tt T sz) N a = .inr p → cwr h0 32 6 N T sz (a + 1, W) h1 → h1.1 34 W.1 = nI p → (∀ k, h1.1 33 k = h.1 33 k ∧ h1.1 35 k = h.1 35 k) → Q (some (.int 1)) h1) : am_call am_cod 6 84 [.ref 5, .ref 32, .ref 6] h Q := by
  have hP := c_P l.1
  have a1 : h.1 32 3 = nI W.1 := l.2.1.1
  refine pz_call (n := 84) (nL := 4) (rt := (some .boolean)) (rows := am_r84) (d := 5) (by decide +kernel) (by decide +kernel) rfl (by funext pc; rfl) (ex_175 hP) (by exact Nat.le_of_ble_eq_true rfl) ?_
  refine am_goX 2 (show am_sh h 5 = some (9, 0) ∧ pz_S 4 (some .boolean) am_r84 5 Q 4 [(0, .ref 5), (1, .ref 32), (2, .ref 6)] [am_rf (h.2.2.1 5 0)] h from ⟨ex_5 hP, ?_⟩)
  rw [ex_r5_0 (h := h) hP]
  refine am_goX 1 (show am_rc h 1 7 ∧ 0 ≤ 8 ∧ h.2.2.2.2 + am_al 54 ≤ 175 ∧ am_call am_cod 5 54 [.ref 1] h (fun vv h' => pz_S 4 (some .boolean) am_r84 5 Q 7 [(0, .ref 5), (1, .ref 32), (2, .ref 6)] (vv.toList ++ []) h') from ⟨Or.inl ⟨by decide, ex_1 hP⟩, by decide, ex_lim hP rfl, am_call.up (c_isn l.1 ?_) (by decide)⟩)
  cases e1 : sp_n (tt T sz) a with
  | true =>
    refine am_goX 1 (show (¬ (pz_b (true)) = 0 → pz_S 4 (some .boolean) am_r84 5 Q 19 [(0, .ref 5), (1, .ref 32), (2, .ref 6)] [] h) ∧ (¬ ¬ (pz_b (true)) = 0 → pz_S 4 (some .boolean) am_r84 5 Q 10 [(0, .ref 5), (1, .ref 32), (2, .ref 6)] [] h) from ⟨fun _ => ?_, fun hz => absurd (by decide) hz⟩)
    refine am_goX 3 (show am_sh h 5 = some (9, 0) ∧ pz_S 4 (some .boolean) am_r84 5 Q 24 [(0, .ref 5), (1, .ref 32), (2, .ref 6)] [am_rf (h.2.2.1 5 0), .ref 6] h from ⟨ex_5 hP, ?_⟩)
    rw [ex_r5_0 (h := h) hP]
    refine am_goX 2 (show am_sh h 1 = some (7, 0) ∧ am_rc h 6 0 ∧ 0 ≤ 8 ∧ h.2.2.2.2 + am_al 55 ≤ 175 ∧ am_call am_cod 5 55 [.ref 6, .long (h.2.1 1 5)] h (fun vv h' => pz_S 4 (some .boolean) am_r84 5 Q 30 [(0, .ref 5), (1, .ref 32), (2, .ref 6)] (vv.toList ++ []) h') from ⟨ex_1 hP, Or.inl ⟨by decide, ex_6 hP⟩, by decide, ex_lim hP rfl, am_call.up (c_55n_6 (v := (tt T sz a).2.1) hP l.2.2.2 (c_wd l.1 (sp_nk e1)) ?_) (by decide)⟩)
    cases e2 : sp_fd N.2 (tt T sz a).2.1 N.1 0 with
    | none =>
      refine am_goX 4 (show 3 < 4 ∧ (¬ (Int32.ofInt (-1)) = (Int32.ofInt (-1)) → pz_S 4 (some .boolean) am_r84 5 Q 45 [(3, .int (Int32.ofInt (-1))), (0, .ref 5), (1, .ref 32), (2, .ref 6)] [] h) ∧ (¬ ¬ (Int32.ofInt (-1)) = (Int32.ofInt (-1)) → pz_S 4 (some .boolean) am_r84 5 Q 36 [(3, .int (Int32.ofInt (-1))), (0, .ref 5), (1, .ref 32), (2, .ref 6)] [] h) from ⟨by decide, fun hz => absurd hz (by decide), fun _ => ?_⟩)
      refine am_goX 2 (show am_sh h 5 = some (9, 0) ∧ pz_S 4 (some .boolean) am_r84 5 Q 40 [(3, .int (Int32.ofInt (-1))), (0, .ref 5), (1, .ref 32), (2, .ref 6)] [am_rf (h.2.2.1 5 0)] h from ⟨ex_5 hP, ?_⟩)
      rw [ex_r5_0 (h := h) hP]
      refine am_goX 2 (show am_rc h 1 7 ∧ 0 ≤ 8 ∧ h.2.2.2.2 + am_al 52 ≤ 175 ∧ am_call am_cod 5 52 [.ref 1, .int (Int32.ofInt 2)] h (fun vv h' => pz_S 4 (some .boolean) am_r84 5 Q 44 [(3, .int (Int32.ofInt (-1))), (0, .ref 5), (1, .ref 32), (2, .ref 6)] (vv.toList ++ []) h') from ⟨Or.inl ⟨by decide, ex_1 hP⟩, by decide, ex_lim hP rfl, am_call.up (c_refuse l.1 ?_) (by decide)⟩)
      exact am_goX 1 (show (∃ ty, (some .boolean) = some ty ∧ narrow ty (.int ((Int32.ofInt 0))) = .int ((Int32.ofInt 0))) ∧ (am_wI h 1 7 (sp_ft (tt T sz) a (Int32.ofInt 2))).2.2.2.2 = 175 ∧ _ from ⟨⟨.boolean, rfl, rfl⟩, ex_175 hP, hF _ _ (by unfold sw_pn; rw [e1, cond_true, e2]; first | done | rfl) (cwr_x (s := (a, W)) l (by decide))⟩)
    | some p =>
      have wp := sp_fd_lt e2
      have w6 := l.2.2.2.2.1
      refine am_goX 4 (show 3 < 4 ∧ (¬ (nI p) = (Int32.ofInt (-1)) → pz_S 4 (some .boolean) am_r84 5 Q 45 [(3, .int (nI p)), (0, .ref 5), (1, .ref 32), (2, .ref 6)] [] h) ∧ (¬ ¬ (nI p) = (Int32.ofInt (-1)) → pz_S 4 (some .boolean) am_r84 5 Q 36 [(3, .int (nI p)), (0, .ref 5), (1, .ref 32), (2, .ref 6)] [] h) from ⟨by decide, fun _ => ?_, fun hz => absurd (nI_m1 (by omega)) hz⟩)
      refine am_goX 2 (show am_sh h 32 = some (8, 0) ∧ pz_S 4 (some .boolean) am_r84 5 Q 49 [(3, .int (nI p)), (0, .ref 5), (1, .ref 32), (2, .ref 6)] [am_rf (h.2.2.1 32 1)] h from ⟨ex_32 hP, ?_⟩)
      rw [ex_r32_1 (h := h) hP]
      refine am_goX 3 (show am_sh h 32 = some (8, 0) ∧ pz_S 4 (some .boolean) am_r84 5 Q 54 [(3, .int (nI p)), (0, .ref 5), (1, .ref 32), (2, .ref 6)] [.int (nI p), .int (h.1 32 3), .ref 34] h from ⟨ex_32 hP, ?_⟩)
      rw [a1]
      refine am_goX 1 (show ∃ jj nn : Nat, am_so h 34 = some (13, nn) ∧ jj < nn ∧ (nI W.1) = nI jj ∧ pz_S 4 (some .boolean) am_r84 5 Q 55 [(3, .int (nI p)), (0, .ref 5), (1, .ref 32), (2, .ref 6)] [] (am_wI h 34 jj (nI p)) from ⟨W.1, 40, ex_w34 hP, by omega, rfl, ?_⟩)
      have l2 : cwr h0 32 6 N T sz (a, W) (am_wI h 34 (W.1) (nI p)) := cwr_w (by decide) (by decide) l (Or.inr (Or.inl rfl)) (Nat.le_refl _)
      refine am_goX 2 (show am_sh (am_wI h 34 (W.1) (nI p)) 5 = some (9, 0) ∧ pz_S 4 (some .boolean) am_r84 5 Q 59 [(3, .int (nI p)), (0, .ref 5), (1, .ref 32), (2, .ref 6)] [am_rf ((am_wI h 34 (W.1) (nI p)).2.2.1 5 0)] (am_wI h 34 (W.1) (nI p)) from ⟨ex_5 (c_P l2.1), ?_⟩)
      rw [ex_r5_0 (h := am_wI h 34 (W.1) (nI p)) (c_P l2.1)]
      refine am_goX 1 (show am_rc (am_wI h 34 (W.1) (nI p)) 1 7 ∧ 0 ≤ 8 ∧ (am_wI h 34 (W.1) (nI p)).2.2.2.2 + am_al 18 ≤ 175 ∧ am_call am_cod 5 18 [.ref 1] (am_wI h 34 (W.1) (nI p)) (fun vv h' => pz_S 4 (some .boolean) am_r84 5 Q 62 [(3, .int (nI p)), (0, .ref 5), (1, .ref 32), (2, .ref 6)] (vv.toList ++ []) h') from ⟨Or.inl ⟨by decide, ex_1 (c_P l2.1)⟩, by decide, ex_lim (c_P l2.1) rfl, am_call.up (c_step l2.1 (sp_nn e1) (fun h3 m f => ?_)) (by decide)⟩)
      exact am_goX 2 (show (∃ ty, (some .boolean) = some ty ∧ narrow ty (.int ((Int32.ofInt 1))) = .int ((Int32.ofInt 1))) ∧ h3.2.2.2.2 = 175 ∧ _ from ⟨⟨.boolean, rfl, rfl⟩, ex_175 (c_P m), hS p h3 (by unfold sw_pn; rw [e1, cond_true, e2]) (cwr_fr (by decide) (by decide) l2 m f) ((f.2 34 W.1 (by decide)).1.trans (em_we _ _ _ _)) (fun k => ⟨(f.2 33 k (by decide)).1.trans (em_wn _ _ (by omega)), (f.2 35 k (by decide)).1.trans (em_wn _ _ (by omega))⟩)⟩)
  | false =>
    refine am_goX 1 (show (¬ (pz_b (false)) = 0 → pz_S 4 (some .boolean) am_r84 5 Q 19 [(0, .ref 5), (1, .ref 32), (2, .ref 6)] [] h) ∧ (¬ ¬ (pz_b (false)) = 0 → pz_S 4 (some .boolean) am_r84 5 Q 10 [(0, .ref 5), (1, .ref 32), (2, .ref 6)] [] h) from ⟨fun hz => absurd hz (by decide), fun _ => ?_⟩)
    refine am_goX 2 (show am_sh h 5 = some (9, 0) ∧ pz_S 4 (some .boolean) am_r84 5 Q 14 [(0, .ref 5), (1, .ref 32), (2, .ref 6)] [am_rf (h.2.2.1 5 0)] h from ⟨ex_5 hP, ?_⟩)
    rw [ex_r5_0 (h := h) hP]
    refine am_goX 2 (show am_rc h 1 7 ∧ 0 ≤ 8 ∧ h.2.2.2.2 + am_al 52 ≤ 175 ∧ am_call am_cod 5 52 [.ref 1, .int (Int32.ofInt 1)] h (fun vv h' => pz_S 4 (some .boolean) am_r84 5 Q 18 [(0, .ref 5), (1, .ref 32), (2, .ref 6)] (vv.toList ++ []) h') from ⟨Or.inl ⟨by decide, ex_1 hP⟩, by decide, ex_lim hP rfl, am_call.up (c_refuse l.1 ?_) (by decide)⟩)
    exact am_goX 1 (show (∃ ty, (some .boolean) = some ty ∧ narrow ty (.int ((Int32.ofInt 0))) = .int ((Int32.ofInt 0))) ∧ (am_wI h 1 7 (sp_ft (tt T sz) a (Int32.ofInt 1))).2.2.2.2 = 175 ∧ _ from ⟨⟨.boolean, rfl, rfl⟩, ex_175 hP, hF _ _ (by unfold sw_pn; rw [e1]; first | done | rfl) (cwr_x (s := (a, W)) l (by decide))⟩)
theorem c_82_32_6 (l : cwr h0 32 6 N T sz s h) (hF : ∀ F h1, sw_line (tt T sz) N s = .inl F → cwx h0 32 F h1 → Q (some (.int 0)) h1) (hS : ∀ t h1, sw_line (tt T sz) N s = .inr t → cwr h0 32 6 N T sz t h1 → Q (some (.int 1)) h1) : am_call am_cod 7 82 [.ref 5, .ref 32, .ref 6] h Q := by
  have hP := c_P l.1
  obtain ⟨a, W⟩ := s
  have a1 : h.1 32 3 = nI W.1 := l.2.1.1
  have a2 : W.1 ≤ 40 := l.2.1.2.1
  refine pz_call (n := 82) (nL := 5) (rt := (some .boolean)) (rows := am_r82) (d := 6) (by decide +kernel) (by decide +kernel) rfl (by funext pc; rfl) (ex_175 hP) (by exact Nat.le_of_ble_eq_true rfl) ?_
  refine am_goX 2 (show am_rc h 5 9 ∧ 0 ≤ 8 ∧ h.2.2.2.2 + am_al 83 ≤ 175 ∧ am_call am_cod 6 83 [.ref 5] h (fun vv h' => pz_S 5 (some .boolean) am_r82 6 Q 4 [(0, .ref 5), (1, .ref 32), (2, .ref 6)] (vv.toList ++ []) h') from ⟨Or.inl ⟨by decide, ex_5 hP⟩, by decide, ex_lim hP rfl, am_call.up (c_83 l.1 ?_) (by decide)⟩)
  rcases sw_act_cs (tt T sz) a with e1 | ⟨e1 | e1 | e1, hn⟩
  · rw [e1]
    refine am_goX 4 (show 3 < 5 ∧ (¬ (Int32.ofInt (-1)) = (Int32.ofInt (-1)) → pz_S 5 (some .boolean) am_r82 6 Q 19 [(3, .int (Int32.ofInt (-1))), (0, .ref 5), (1, .ref 32), (2, .ref 6)] [] h) ∧ (¬ ¬ (Int32.ofInt (-1)) = (Int32.ofInt (-1)) → pz_S 5 (some .boolean) am_r82 6 Q 10 [(3, .int (Int32.ofInt (-1))), (0, .ref 5), (1, .ref 32), (2, .ref 6)] [] h) from ⟨by decide, fun hz => absurd hz (by decide), fun _ => ?_⟩)
    refine am_goX 2 (show am_sh h 5 = some (9, 0) ∧ pz_S 5 (some .boolean) am_r82 6 Q 14 [(3, .int (Int32.ofInt (-1))), (0, .ref 5), (1, .ref 32), (2, .ref 6)] [am_rf (h.2.2.1 5 0)] h from ⟨ex_5 hP, ?_⟩)
    rw [ex_r5_0 (h := h) hP]
    refine am_goX 2 (show am_rc h 1 7 ∧ 0 ≤ 8 ∧ h.2.2.2.2 + am_al 52 ≤ 175 ∧ am_call am_cod 6 52 [.ref 1, .int (Int32.ofInt 1)] h (fun vv h' => pz_S 5 (some .boolean) am_r82 6 Q 18 [(3, .int (Int32.ofInt (-1))), (0, .ref 5), (1, .ref 32), (2, .ref 6)] (vv.toList ++ []) h') from ⟨Or.inl ⟨by decide, ex_1 hP⟩, by decide, ex_lim hP rfl, am_call.up (c_refuse l.1 ?_) (by decide)⟩)
    exact am_goX 1 (show (∃ ty, (some .boolean) = some ty ∧ narrow ty (.int ((Int32.ofInt 0))) = .int ((Int32.ofInt 0))) ∧ (am_wI h 1 7 (sp_ft (tt T sz) a (Int32.ofInt 1))).2.2.2.2 = 175 ∧ _ from ⟨⟨.boolean, rfl, rfl⟩, ex_175 hP, hF _ _ (by unfold sw_line; dsimp only; simp only [e1]) (cwr_x (s := (a, W)) l (by decide))⟩)
  · rw [e1]
    refine am_goX 4 (show 3 < 5 ∧ (¬ 0 = (Int32.ofInt (-1)) → pz_S 5 (some .boolean) am_r82 6 Q 19 [(3, .int 0), (0, .ref 5), (1, .ref 32), (2, .ref 6)] [] h) ∧ (¬ ¬ 0 = (Int32.ofInt (-1)) → pz_S 5 (some .boolean) am_r82 6 Q 10 [(3, .int 0), (0, .ref 5), (1, .ref 32), (2, .ref 6)] [] h) from ⟨by decide, fun _ => ?_, fun hz => absurd (by decide) hz⟩)
    refine am_goX 2 (show am_sh h 32 = some (8, 0) ∧ pz_S 5 (some .boolean) am_r82 6 Q 23 [(3, .int 0), (0, .ref 5), (1, .ref 32), (2, .ref 6)] [.int (h.1 32 3)] h from ⟨ex_32 hP, ?_⟩)
    rw [a1]
    refine am_goX 3 (show 4 < 5 ∧ pz_S 5 (some .boolean) am_r82 6 Q 29 [(4, .int (nI W.1)), (3, .int 0), (0, .ref 5), (1, .ref 32), (2, .ref 6)] [.int (Int8.ofInt 40).toInt32, .int (nI W.1)] h from ⟨by decide, ?_⟩)
    cases e2 : Nat.ble 40 W.1 with
    | true =>
      refine am_goX 1 (show ((nI W.1) < (Int8.ofInt 40).toInt32 → pz_S 5 (some .boolean) am_r82 6 Q 41 [(4, .int (nI W.1)), (3, .int 0), (0, .ref 5), (1, .ref 32), (2, .ref 6)] [] h) ∧ (¬ ((nI W.1) < (Int8.ofInt 40).toInt32) → pz_S 5 (some .boolean) am_r82 6 Q 32 [(4, .int (nI W.1)), (3, .int 0), (0, .ref 5), (1, .ref 32), (2, .ref 6)] [] h) from ⟨fun hz => absurd hz (i40 e2 a2), fun _ => ?_⟩)
      refine am_goX 2 (show am_sh h 5 = some (9, 0) ∧ pz_S 5 (some .boolean) am_r82 6 Q 36 [(4, .int (nI W.1)), (3, .int 0), (0, .ref 5), (1, .ref 32), (2, .ref 6)] [am_rf (h.2.2.1 5 0)] h from ⟨ex_5 hP, ?_⟩)
      rw [ex_r5_0 (h := h) hP]
      refine am_goX 2 (show am_rc h 1 7 ∧ 0 ≤ 8 ∧ h.2.2.2.2 + am_al 52 ≤ 175 ∧ am_call am_cod 6 52 [.ref 1, .int (Int32.ofInt 5)] h (fun vv h' => pz_S 5 (some .boolean) am_r82 6 Q 40 [(4, .int (nI W.1)), (3, .int 0), (0, .ref 5), (1, .ref 32), (2, .ref 6)] (vv.toList ++ []) h') from ⟨Or.inl ⟨by decide, ex_1 hP⟩, by decide, ex_lim hP rfl, am_call.up (c_refuse l.1 ?_) (by decide)⟩)
      exact am_goX 1 (show (∃ ty, (some .boolean) = some ty ∧ narrow ty (.int ((Int32.ofInt 0))) = .int ((Int32.ofInt 0))) ∧ (am_wI h 1 7 (sp_ft (tt T sz) a (Int32.ofInt 5))).2.2.2.2 = 175 ∧ _ from ⟨⟨.boolean, rfl, rfl⟩, ex_175 hP, hF _ _ (by unfold sw_line; dsimp only; simp only [e1, e2, cond_true]) (cwr_x (s := (a, W)) l (by decide))⟩)
    | false =>
      refine am_goX 1 (show ((nI W.1) < (Int8.ofInt 40).toInt32 → pz_S 5 (some .boolean) am_r82 6 Q 41 [(4, .int (nI W.1)), (3, .int 0), (0, .ref 5), (1, .ref 32), (2, .ref 6)] [] h) ∧ (¬ ((nI W.1) < (Int8.ofInt 40).toInt32) → pz_S 5 (some .boolean) am_r82 6 Q 32 [(4, .int (nI W.1)), (3, .int 0), (0, .ref 5), (1, .ref 32), (2, .ref 6)] [] h) from ⟨fun _ => ?_, fun hz => absurd (j40 e2) hz⟩)
      have hlt := j40n e2
      refine am_goX 2 (show am_sh h 32 = some (8, 0) ∧ pz_S 5 (some .boolean) am_r82 6 Q 45 [(4, .int (nI W.1)), (3, .int 0), (0, .ref 5), (1, .ref 32), (2, .ref 6)] [am_rf (h.2.2.1 32 0)] h from ⟨ex_32 hP, ?_⟩)
      rw [ex_r32_0 (h := h) hP]
      refine am_goX 3 (show ∃ jj nn : Nat, am_so h 33 = some (13, nn) ∧ jj < nn ∧ (nI W.1) = nI jj ∧ pz_S 5 (some .boolean) am_r82 6 Q 49 [(4, .int (nI W.1)), (3, .int 0), (0, .ref 5), (1, .ref 32), (2, .ref 6)] [] (am_wI h 33 jj 0) from ⟨W.1, 40, ex_w33 hP, by omega, rfl, ?_⟩)
      have l2 : cwr h0 32 6 N T sz (a, W) (am_wI h 33 (W.1) 0) := cwr_w (by decide) (by decide) l (Or.inl rfl) (Nat.le_refl _)
      refine am_goX 2 (show am_sh (am_wI h 33 (W.1) 0) 32 = some (8, 0) ∧ pz_S 5 (some .boolean) am_r82 6 Q 53 [(4, .int (nI W.1)), (3, .int 0), (0, .ref 5), (1, .ref 32), (2, .ref 6)] [am_rf ((am_wI h 33 (W.1) 0).2.2.1 32 1)] (am_wI h 33 (W.1) 0) from ⟨ex_32 (c_P l2.1), ?_⟩)
      rw [ex_r32_1 (h := am_wI h 33 (W.1) 0) (c_P l2.1)]
      refine am_goX 3 (show ∃ jj nn : Nat, am_so (am_wI h 33 (W.1) 0) 34 = some (13, nn) ∧ jj < nn ∧ (nI W.1) = nI jj ∧ pz_S 5 (some .boolean) am_r82 6 Q 57 [(4, .int (nI W.1)), (3, .int 0), (0, .ref 5), (1, .ref 32), (2, .ref 6)] [] (am_wI (am_wI h 33 (W.1) 0) 34 jj 0) from ⟨W.1, 40, ex_w34 (c_P l2.1), by omega, rfl, ?_⟩)
      have l3 : cwr h0 32 6 N T sz (a, W) (am_wI (am_wI h 33 (W.1) 0) 34 (W.1) 0) := cwr_w (by decide) (by decide) l2 (Or.inr (Or.inl rfl)) (Nat.le_refl _)
      refine am_goX 2 (show am_sh (am_wI (am_wI h 33 (W.1) 0) 34 (W.1) 0) 32 = some (8, 0) ∧ pz_S 5 (some .boolean) am_r82 6 Q 61 [(4, .int (nI W.1)), (3, .int 0), (0, .ref 5), (1, .ref 32), (2, .ref 6)] [am_rf ((am_wI (am_wI h 33 (W.1) 0) 34 (W.1) 0).2.2.1 32 2)] (am_wI (am_wI h 33 (W.1) 0) 34 (W.1) 0) from ⟨ex_32 (c_P l3.1), ?_⟩)
      rw [ex_r32_2 (h := am_wI (am_wI h 33 (W.1) 0) 34 (W.1) 0) (c_P l3.1)]
      refine am_goX 3 (show ∃ jj nn : Nat, am_so (am_wI (am_wI h 33 (W.1) 0) 34 (W.1) 0) 35 = some (13, nn) ∧ jj < nn ∧ (nI W.1) = nI jj ∧ pz_S 5 (some .boolean) am_r82 6 Q 65 [(4, .int (nI W.1)), (3, .int 0), (0, .ref 5), (1, .ref 32), (2, .ref 6)] [] (am_wI (am_wI (am_wI h 33 (W.1) 0) 34 (W.1) 0) 35 jj 0) from ⟨W.1, 40, ex_w35 (c_P l3.1), by omega, rfl, ?_⟩)
      have l4 : cwr h0 32 6 N T sz (a, W) (am_wI (am_wI (am_wI h 33 (W.1) 0) 34 (W.1) 0) 35 (W.1) 0) := cwr_w (by decide) (by decide) l3 (Or.inr (Or.inr rfl)) (Nat.le_refl _)
      have x1 : (am_wI (am_wI (am_wI h 33 (W.1) 0) 34 (W.1) 0) 35 (W.1) 0).1 33 W.1 = 0 := by rw [em_wn _ _ (by omega), em_wn _ _ (by omega), em_we]
      have x2 : (am_wI (am_wI (am_wI h 33 (W.1) 0) 34 (W.1) 0) 35 (W.1) 0).1 34 W.1 = 0 := by rw [em_wn _ _ (by omega), em_we]
      have x3 : (am_wI (am_wI (am_wI h 33 (W.1) 0) 34 (W.1) 0) 35 (W.1) 0).1 35 W.1 = 0 := em_we _ _ _ _
      refine am_goX 2 (show am_sh (am_wI (am_wI (am_wI h 33 (W.1) 0) 34 (W.1) 0) 35 (W.1) 0) 5 = some (9, 0) ∧ pz_S 5 (some .boolean) am_r82 6 Q 69 [(4, .int (nI W.1)), (3, .int 0), (0, .ref 5), (1, .ref 32), (2, .ref 6)] [am_rf ((am_wI (am_wI (am_wI h 33 (W.1) 0) 34 (W.1) 0) 35 (W.1) 0).2.2.1 5 0)] (am_wI (am_wI (am_wI h 33 (W.1) 0) 34 (W.1) 0) 35 (W.1) 0) from ⟨ex_5 (c_P l4.1), ?_⟩)
      rw [ex_r5_0 (h := am_wI (am_wI (am_wI h 33 (W.1) 0) 34 (W.1) 0) 35 (W.1) 0) (c_P l4.1)]
      refine am_goX 1 (show am_rc (am_wI (am_wI (am_wI h 33 (W.1) 0) 34 (W.1) 0) 35 (W.1) 0) 1 7 ∧ 0 ≤ 8 ∧ (am_wI (am_wI (am_wI h 33 (W.1) 0) 34 (W.1) 0) 35 (W.1) 0).2.2.2.2 + am_al 18 ≤ 175 ∧ am_call am_cod 6 18 [.ref 1] (am_wI (am_wI (am_wI h 33 (W.1) 0) 34 (W.1) 0) 35 (W.1) 0) (fun vv h' => pz_S 5 (some .boolean) am_r82 6 Q 72 [(4, .int (nI W.1)), (3, .int 0), (0, .ref 5), (1, .ref 32), (2, .ref 6)] (vv.toList ++ []) h') from ⟨Or.inl ⟨by decide, ex_1 (c_P l4.1)⟩, by decide, ex_lim (c_P l4.1) rfl, am_call.up (c_step l4.1 hn (fun h3 m f => ?_)) (by decide)⟩)
      have l5 := cwr_fr (by decide) (by decide) l4 m f
      have x1 := (f.2 33 W.1 (by decide)).1.trans x1
      have x2 := (f.2 34 W.1 (by decide)).1.trans x2
      have x3 := (f.2 35 W.1 (by decide)).1.trans x3
      refine am_goX 2 (show (0 = 0 → pz_S 5 (some .boolean) am_r82 6 Q 87 [(4, .int (nI W.1)), (3, .int 0), (0, .ref 5), (1, .ref 32), (2, .ref 6)] [] h3) ∧ (¬ (0 = 0) → pz_S 5 (some .boolean) am_r82 6 Q 76 [(4, .int (nI W.1)), (3, .int 0), (0, .ref 5), (1, .ref 32), (2, .ref 6)] [] h3) from ⟨fun _ => ?_, fun hz => absurd (by decide) hz⟩)
      refine am_goX 3 (show (¬ 0 = (Int32.ofInt 1) → pz_S 5 (some .boolean) am_r82 6 Q 102 [(4, .int (nI W.1)), (3, .int 0), (0, .ref 5), (1, .ref 32), (2, .ref 6)] [] h3) ∧ (¬ ¬ 0 = (Int32.ofInt 1) → pz_S 5 (some .boolean) am_r82 6 Q 92 [(4, .int (nI W.1)), (3, .int 0), (0, .ref 5), (1, .ref 32), (2, .ref 6)] [] h3) from ⟨fun _ => ?_, fun hz => absurd (by decide) hz⟩)
      refine am_goX 6 (show (Value.ref 32).category = 1 ∧ am_sh h3 32 = some (8, 0) ∧ am_sh h3 32 = some (8, 0) ∧ narrow (am_fty 8 3) (.int (((h3.1 32 3) + (Int32.ofInt 1)))) = .int (((h3.1 32 3) + (Int32.ofInt 1))) ∧ fits (am_fty 8 3) (.int (((h3.1 32 3) + (Int32.ofInt 1)))) = true ∧ pz_S 5 (some .boolean) am_r82 6 Q 112 [(4, .int (nI W.1)), (3, .int 0), (0, .ref 5), (1, .ref 32), (2, .ref 6)] [] (am_wI h3 32 3 (((h3.1 32 3) + (Int32.ofInt 1)))) from ⟨rfl, ex_32 (c_P l5.1), ex_32 (c_P l5.1), rfl, rfl, ?_⟩)
      rw [show h3.1 32 3 = nI W.1 from l5.2.1.1, xw_i1]
      have l9 : cwr h0 32 6 N T sz (a + 1, sw_ad W 0 0 0) (am_wI h3 32 3 (nI (W.1 + 1))) := cwr_P (by decide) (by decide) l5 hlt x1 x2 x3
      refine am_goX 2 (show am_sh (am_wI h3 32 3 (nI (W.1 + 1))) 5 = some (9, 0) ∧ pz_S 5 (some .boolean) am_r82 6 Q 116 [(4, .int (nI W.1)), (3, .int 0), (0, .ref 5), (1, .ref 32), (2, .ref 6)] [am_rf ((am_wI h3 32 3 (nI (W.1 + 1))).2.2.1 5 0)] (am_wI h3 32 3 (nI (W.1 + 1))) from ⟨ex_5 (c_P l9.1), ?_⟩)
      rw [ex_r5_0 (h := am_wI h3 32 3 (nI (W.1 + 1))) (c_P l9.1)]
      refine am_goX 2 (show am_rc (am_wI h3 32 3 (nI (W.1 + 1))) 1 7 ∧ 0 ≤ 8 ∧ (am_wI h3 32 3 (nI (W.1 + 1))).2.2.2.2 + am_al 61 ≤ 175 ∧ am_call am_cod 6 61 [.ref 1, .int (Int8.ofInt 59).toInt32] (am_wI h3 32 3 (nI (W.1 + 1))) (fun vv h' => pz_S 5 (some .boolean) am_r82 6 Q 121 [(4, .int (nI W.1)), (3, .int 0), (0, .ref 5), (1, .ref 32), (2, .ref 6)] (vv.toList ++ []) h') from ⟨Or.inl ⟨by decide, ex_1 (c_P l9.1)⟩, by decide, ex_lim (c_P l9.1) rfl, am_call.up (c_tSt l9.1 (fun e9 h9 m9 f9 => ?_) (fun e9 => ?_)) (by decide)⟩)
      ·
        exact am_goX 1 (show (∃ ty, (some .boolean) = some ty ∧ narrow ty (.int (1)) = .int (1)) ∧ h9.2.2.2.2 = 175 ∧ _ from ⟨⟨.boolean, rfl, rfl⟩, ex_175 (c_P m9), hS (a + 1 + 1, sw_ad W 0 0 0) h9 (by unfold sw_line; dsimp only; simp only [e1, e2, decide_true, cond_true, cond_false, show decide ((0 : Int32) = 0) = true from by decide, show decide ((0 : Int32) = 1) = false from by decide, sw_end, e9]) (cwr_fr (by decide) (by decide) l9 m9 f9)⟩)
      ·
        have hP9 : ex_P (am_wI h3 32 3 (nI (W.1 + 1))) := c_P l9.1
        exact am_goX 1 (show (∃ ty, (some .boolean) = some ty ∧ narrow ty (.int (0)) = .int (0)) ∧ (am_wI (am_wI h3 32 3 (nI (W.1 + 1))) 1 7 (sp_ft (tt T sz) (a + 1) (Int32.ofInt 1))).2.2.2.2 = 175 ∧ _ from ⟨⟨.boolean, rfl, rfl⟩, ex_175 hP9, hF _ _ (by unfold sw_line; dsimp only; simp only [e1, e2, decide_true, cond_true, cond_false, show decide ((0 : Int32) = 0) = true from by decide, show decide ((0 : Int32) = 1) = false from by decide, sw_end, e9]) (cwr_x (s := (a + 1, sw_ad W 0 0 0)) l9 (by decide))⟩)
  · rw [e1]
    refine am_goX 4 (show 3 < 5 ∧ (¬ 1 = (Int32.ofInt (-1)) → pz_S 5 (some .boolean) am_r82 6 Q 19 [(3, .int 1), (0, .ref 5), (1, .ref 32), (2, .ref 6)] [] h) ∧ (¬ ¬ 1 = (Int32.ofInt (-1)) → pz_S 5 (some .boolean) am_r82 6 Q 10 [(3, .int 1), (0, .ref 5), (1, .ref 32), (2, .ref 6)] [] h) from ⟨by decide, fun _ => ?_, fun hz => absurd (by decide) hz⟩)
    refine am_goX 2 (show am_sh h 32 = some (8, 0) ∧ pz_S 5 (some .boolean) am_r82 6 Q 23 [(3, .int 1), (0, .ref 5), (1, .ref 32), (2, .ref 6)] [.int (h.1 32 3)] h from ⟨ex_32 hP, ?_⟩)
    rw [a1]
    refine am_goX 3 (show 4 < 5 ∧ pz_S 5 (some .boolean) am_r82 6 Q 29 [(4, .int (nI W.1)), (3, .int 1), (0, .ref 5), (1, .ref 32), (2, .ref 6)] [.int (Int8.ofInt 40).toInt32, .int (nI W.1)] h from ⟨by decide, ?_⟩)
    cases e2 : Nat.ble 40 W.1 with
    | true =>
      refine am_goX 1 (show ((nI W.1) < (Int8.ofInt 40).toInt32 → pz_S 5 (some .boolean) am_r82 6 Q 41 [(4, .int (nI W.1)), (3, .int 1), (0, .ref 5), (1, .ref 32), (2, .ref 6)] [] h) ∧ (¬ ((nI W.1) < (Int8.ofInt 40).toInt32) → pz_S 5 (some .boolean) am_r82 6 Q 32 [(4, .int (nI W.1)), (3, .int 1), (0, .ref 5), (1, .ref 32), (2, .ref 6)] [] h) from ⟨fun hz => absurd hz (i40 e2 a2), fun _ => ?_⟩)
      refine am_goX 2 (show am_sh h 5 = some (9, 0) ∧ pz_S 5 (some .boolean) am_r82 6 Q 36 [(4, .int (nI W.1)), (3, .int 1), (0, .ref 5), (1, .ref 32), (2, .ref 6)] [am_rf (h.2.2.1 5 0)] h from ⟨ex_5 hP, ?_⟩)
      rw [ex_r5_0 (h := h) hP]
      refine am_goX 2 (show am_rc h 1 7 ∧ 0 ≤ 8 ∧ h.2.2.2.2 + am_al 52 ≤ 175 ∧ am_call am_cod 6 52 [.ref 1, .int (Int32.ofInt 5)] h (fun vv h' => pz_S 5 (some .boolean) am_r82 6 Q 40 [(4, .int (nI W.1)), (3, .int 1), (0, .ref 5), (1, .ref 32), (2, .ref 6)] (vv.toList ++ []) h') from ⟨Or.inl ⟨by decide, ex_1 hP⟩, by decide, ex_lim hP rfl, am_call.up (c_refuse l.1 ?_) (by decide)⟩)
      exact am_goX 1 (show (∃ ty, (some .boolean) = some ty ∧ narrow ty (.int ((Int32.ofInt 0))) = .int ((Int32.ofInt 0))) ∧ (am_wI h 1 7 (sp_ft (tt T sz) a (Int32.ofInt 5))).2.2.2.2 = 175 ∧ _ from ⟨⟨.boolean, rfl, rfl⟩, ex_175 hP, hF _ _ (by unfold sw_line; dsimp only; simp only [e1, e2, cond_true]) (cwr_x (s := (a, W)) l (by decide))⟩)
    | false =>
      refine am_goX 1 (show ((nI W.1) < (Int8.ofInt 40).toInt32 → pz_S 5 (some .boolean) am_r82 6 Q 41 [(4, .int (nI W.1)), (3, .int 1), (0, .ref 5), (1, .ref 32), (2, .ref 6)] [] h) ∧ (¬ ((nI W.1) < (Int8.ofInt 40).toInt32) → pz_S 5 (some .boolean) am_r82 6 Q 32 [(4, .int (nI W.1)), (3, .int 1), (0, .ref 5), (1, .ref 32), (2, .ref 6)] [] h) from ⟨fun _ => ?_, fun hz => absurd (j40 e2) hz⟩)
      have hlt := j40n e2
      refine am_goX 2 (show am_sh h 32 = some (8, 0) ∧ pz_S 5 (some .boolean) am_r82 6 Q 45 [(4, .int (nI W.1)), (3, .int 1), (0, .ref 5), (1, .ref 32), (2, .ref 6)] [am_rf (h.2.2.1 32 0)] h from ⟨ex_32 hP, ?_⟩)
      rw [ex_r32_0 (h := h) hP]
      refine am_goX 3 (show ∃ jj nn : Nat, am_so h 33 = some (13, nn) ∧ jj < nn ∧ (nI W.1) = nI jj ∧ pz_S 5 (some .boolean) am_r82 6 Q 49 [(4, .int (nI W.1)), (3, .int 1), (0, .ref 5), (1, .ref 32), (2, .ref 6)] [] (am_wI h 33 jj 1) from ⟨W.1, 40, ex_w33 hP, by omega, rfl, ?_⟩)
      have l2 : cwr h0 32 6 N T sz (a, W) (am_wI h 33 (W.1) 1) := cwr_w (by decide) (by decide) l (Or.inl rfl) (Nat.le_refl _)
      refine am_goX 2 (show am_sh (am_wI h 33 (W.1) 1) 32 = some (8, 0) ∧ pz_S 5 (some .boolean) am_r82 6 Q 53 [(4, .int (nI W.1)), (3, .int 1), (0, .ref 5), (1, .ref 32), (2, .ref 6)] [am_rf ((am_wI h 33 (W.1) 1).2.2.1 32 1)] (am_wI h 33 (W.1) 1) from ⟨ex_32 (c_P l2.1), ?_⟩)
      rw [ex_r32_1 (h := am_wI h 33 (W.1) 1) (c_P l2.1)]
      refine am_goX 3 (show ∃ jj nn : Nat, am_so (am_wI h 33 (W.1) 1) 34 = some (13, nn) ∧ jj < nn ∧ (nI W.1) = nI jj ∧ pz_S 5 (some .boolean) am_r82 6 Q 57 [(4, .int (nI W.1)), (3, .int 1), (0, .ref 5), (1, .ref 32), (2, .ref 6)] [] (am_wI (am_wI h 33 (W.1) 1) 34 jj 0) from ⟨W.1, 40, ex_w34 (c_P l2.1), by omega, rfl, ?_⟩)
      have l3 : cwr h0 32 6 N T sz (a, W) (am_wI (am_wI h 33 (W.1) 1) 34 (W.1) 0) := cwr_w (by decide) (by decide) l2 (Or.inr (Or.inl rfl)) (Nat.le_refl _)
      refine am_goX 2 (show am_sh (am_wI (am_wI h 33 (W.1) 1) 34 (W.1) 0) 32 = some (8, 0) ∧ pz_S 5 (some .boolean) am_r82 6 Q 61 [(4, .int (nI W.1)), (3, .int 1), (0, .ref 5), (1, .ref 32), (2, .ref 6)] [am_rf ((am_wI (am_wI h 33 (W.1) 1) 34 (W.1) 0).2.2.1 32 2)] (am_wI (am_wI h 33 (W.1) 1) 34 (W.1) 0) from ⟨ex_32 (c_P l3.1), ?_⟩)
      rw [ex_r32_2 (h := am_wI (am_wI h 33 (W.1) 1) 34 (W.1) 0) (c_P l3.1)]
      refine am_goX 3 (show ∃ jj nn : Nat, am_so (am_wI (am_wI h 33 (W.1) 1) 34 (W.1) 0) 35 = some (13, nn) ∧ jj < nn ∧ (nI W.1) = nI jj ∧ pz_S 5 (some .boolean) am_r82 6 Q 65 [(4, .int (nI W.1)), (3, .int 1), (0, .ref 5), (1, .ref 32), (2, .ref 6)] [] (am_wI (am_wI (am_wI h 33 (W.1) 1) 34 (W.1) 0) 35 jj 0) from ⟨W.1, 40, ex_w35 (c_P l3.1), by omega, rfl, ?_⟩)
      have l4 : cwr h0 32 6 N T sz (a, W) (am_wI (am_wI (am_wI h 33 (W.1) 1) 34 (W.1) 0) 35 (W.1) 0) := cwr_w (by decide) (by decide) l3 (Or.inr (Or.inr rfl)) (Nat.le_refl _)
      have x1 : (am_wI (am_wI (am_wI h 33 (W.1) 1) 34 (W.1) 0) 35 (W.1) 0).1 33 W.1 = 1 := by rw [em_wn _ _ (by omega), em_wn _ _ (by omega), em_we]
      have x2 : (am_wI (am_wI (am_wI h 33 (W.1) 1) 34 (W.1) 0) 35 (W.1) 0).1 34 W.1 = 0 := by rw [em_wn _ _ (by omega), em_we]
      have x3 : (am_wI (am_wI (am_wI h 33 (W.1) 1) 34 (W.1) 0) 35 (W.1) 0).1 35 W.1 = 0 := em_we _ _ _ _
      refine am_goX 2 (show am_sh (am_wI (am_wI (am_wI h 33 (W.1) 1) 34 (W.1) 0) 35 (W.1) 0) 5 = some (9, 0) ∧ pz_S 5 (some .boolean) am_r82 6 Q 69 [(4, .int (nI W.1)), (3, .int 1), (0, .ref 5), (1, .ref 32), (2, .ref 6)] [am_rf ((am_wI (am_wI (am_wI h 33 (W.1) 1) 34 (W.1) 0) 35 (W.1) 0).2.2.1 5 0)] (am_wI (am_wI (am_wI h 33 (W.1) 1) 34 (W.1) 0) 35 (W.1) 0) from ⟨ex_5 (c_P l4.1), ?_⟩)
      rw [ex_r5_0 (h := am_wI (am_wI (am_wI h 33 (W.1) 1) 34 (W.1) 0) 35 (W.1) 0) (c_P l4.1)]
      refine am_goX 1 (show am_rc (am_wI (am_wI (am_wI h 33 (W.1) 1) 34 (W.1) 0) 35 (W.1) 0) 1 7 ∧ 0 ≤ 8 ∧ (am_wI (am_wI (am_wI h 33 (W.1) 1) 34 (W.1) 0) 35 (W.1) 0).2.2.2.2 + am_al 18 ≤ 175 ∧ am_call am_cod 6 18 [.ref 1] (am_wI (am_wI (am_wI h 33 (W.1) 1) 34 (W.1) 0) 35 (W.1) 0) (fun vv h' => pz_S 5 (some .boolean) am_r82 6 Q 72 [(4, .int (nI W.1)), (3, .int 1), (0, .ref 5), (1, .ref 32), (2, .ref 6)] (vv.toList ++ []) h') from ⟨Or.inl ⟨by decide, ex_1 (c_P l4.1)⟩, by decide, ex_lim (c_P l4.1) rfl, am_call.up (c_step l4.1 hn (fun h3 m f => ?_)) (by decide)⟩)
      have l5 := cwr_fr (by decide) (by decide) l4 m f
      have x1 := (f.2 33 W.1 (by decide)).1.trans x1
      have x2 := (f.2 34 W.1 (by decide)).1.trans x2
      have x3 := (f.2 35 W.1 (by decide)).1.trans x3
      refine am_goX 2 (show (1 = 0 → pz_S 5 (some .boolean) am_r82 6 Q 87 [(4, .int (nI W.1)), (3, .int 1), (0, .ref 5), (1, .ref 32), (2, .ref 6)] [] h3) ∧ (¬ (1 = 0) → pz_S 5 (some .boolean) am_r82 6 Q 76 [(4, .int (nI W.1)), (3, .int 1), (0, .ref 5), (1, .ref 32), (2, .ref 6)] [] h3) from ⟨fun hz => absurd hz (by decide), fun _ => ?_⟩)
      refine am_goX 4 (show am_rc h3 5 9 ∧ 0 ≤ 8 ∧ h3.2.2.2.2 + am_al 84 ≤ 175 ∧ am_call am_cod 6 84 [.ref 5, .ref 32, .ref 6] h3 (fun vv h' => pz_S 5 (some .boolean) am_r82 6 Q 82 [(4, .int (nI W.1)), (3, .int 1), (0, .ref 5), (1, .ref 32), (2, .ref 6)] (vv.toList ++ []) h') from ⟨Or.inl ⟨by decide, ex_5 (c_P l5.1)⟩, by decide, ex_lim (c_P l5.1) rfl, c_84_32_6 hlt l5 (fun F h6 e6 y => ?_) (fun p h6 e6 l6 y1 y2 => ?_)⟩)
      ·
        refine am_goX 1 (show (¬ 0 = 0 → pz_S 5 (some .boolean) am_r82 6 Q 87 [(4, .int (nI W.1)), (3, .int 1), (0, .ref 5), (1, .ref 32), (2, .ref 6)] [] h6) ∧ (¬ ¬ 0 = 0 → pz_S 5 (some .boolean) am_r82 6 Q 85 [(4, .int (nI W.1)), (3, .int 1), (0, .ref 5), (1, .ref 32), (2, .ref 6)] [] h6) from ⟨fun hz => absurd hz (by decide), fun _ => ?_⟩)
        exact am_goX 2 (show (∃ ty, (some .boolean) = some ty ∧ narrow ty (.int ((Int32.ofInt 0))) = .int ((Int32.ofInt 0))) ∧ h6.2.2.2.2 = 175 ∧ _ from ⟨⟨.boolean, rfl, rfl⟩, ex_175 y.1, hF F h6 (by unfold sw_line; dsimp only; simp only [e1, e2, show decide ((1 : Int32) = 0) = false from by decide, show decide ((1 : Int32) = 1) = true from by decide, decide_true, cond_true, cond_false, e6]) y⟩)
      ·
        have x1 := (y2 W.1).1.trans x1
        have x2 := y1
        have x3 := (y2 W.1).2.trans x3
        refine am_goX 1 (show (¬ 1 = 0 → pz_S 5 (some .boolean) am_r82 6 Q 87 [(4, .int (nI W.1)), (3, .int 1), (0, .ref 5), (1, .ref 32), (2, .ref 6)] [] h6) ∧ (¬ ¬ 1 = 0 → pz_S 5 (some .boolean) am_r82 6 Q 85 [(4, .int (nI W.1)), (3, .int 1), (0, .ref 5), (1, .ref 32), (2, .ref 6)] [] h6) from ⟨fun _ => ?_, fun hz => absurd (by decide) hz⟩)
        refine am_goX 3 (show (¬ 1 = (Int32.ofInt 1) → pz_S 5 (some .boolean) am_r82 6 Q 102 [(4, .int (nI W.1)), (3, .int 1), (0, .ref 5), (1, .ref 32), (2, .ref 6)] [] h6) ∧ (¬ ¬ 1 = (Int32.ofInt 1) → pz_S 5 (some .boolean) am_r82 6 Q 92 [(4, .int (nI W.1)), (3, .int 1), (0, .ref 5), (1, .ref 32), (2, .ref 6)] [] h6) from ⟨fun hz => absurd hz (by decide), fun _ => ?_⟩)
        refine am_goX 3 (show am_rc h6 5 9 ∧ 0 ≤ 8 ∧ h6.2.2.2.2 + am_al 85 ≤ 175 ∧ am_call am_cod 6 85 [.ref 5, .ref 32] h6 (fun vv h' => pz_S 5 (some .boolean) am_r82 6 Q 97 [(4, .int (nI W.1)), (3, .int 1), (0, .ref 5), (1, .ref 32), (2, .ref 6)] (vv.toList ++ []) h') from ⟨Or.inl ⟨by decide, ex_5 (c_P l6.1)⟩, by decide, ex_lim (c_P l6.1) rfl, c_85_32 (by decide) (by decide) hlt l6 (fun F h7 e7 y => ?_) (fun v h7 e7 l7 y3 y4 => ?_)⟩)
        ·
          refine am_goX 1 (show (¬ 0 = 0 → pz_S 5 (some .boolean) am_r82 6 Q 102 [(4, .int (nI W.1)), (3, .int 1), (0, .ref 5), (1, .ref 32), (2, .ref 6)] [] h7) ∧ (¬ ¬ 0 = 0 → pz_S 5 (some .boolean) am_r82 6 Q 100 [(4, .int (nI W.1)), (3, .int 1), (0, .ref 5), (1, .ref 32), (2, .ref 6)] [] h7) from ⟨fun hz => absurd hz (by decide), fun _ => ?_⟩)
          exact am_goX 2 (show (∃ ty, (some .boolean) = some ty ∧ narrow ty (.int ((Int32.ofInt 0))) = .int ((Int32.ofInt 0))) ∧ h7.2.2.2.2 = 175 ∧ _ from ⟨⟨.boolean, rfl, rfl⟩, ex_175 y.1, hF F h7 (by unfold sw_line; dsimp only; simp only [e1, e2, show decide ((1 : Int32) = 0) = false from by decide, show decide ((1 : Int32) = 1) = true from by decide, decide_true, cond_true, cond_false, e6, e7]) y⟩)
        ·
          have x1 := (y4 W.1).1.trans x1
          have x2 := (y4 W.1).2.trans x2
          have x3 := y3
          refine am_goX 1 (show (¬ 1 = 0 → pz_S 5 (some .boolean) am_r82 6 Q 102 [(4, .int (nI W.1)), (3, .int 1), (0, .ref 5), (1, .ref 32), (2, .ref 6)] [] h7) ∧ (¬ ¬ 1 = 0 → pz_S 5 (some .boolean) am_r82 6 Q 100 [(4, .int (nI W.1)), (3, .int 1), (0, .ref 5), (1, .ref 32), (2, .ref 6)] [] h7) from ⟨fun _ => ?_, fun hz => absurd (by decide) hz⟩)
          refine am_goX 6 (show (Value.ref 32).category = 1 ∧ am_sh h7 32 = some (8, 0) ∧ am_sh h7 32 = some (8, 0) ∧ narrow (am_fty 8 3) (.int (((h7.1 32 3) + (Int32.ofInt 1)))) = .int (((h7.1 32 3) + (Int32.ofInt 1))) ∧ fits (am_fty 8 3) (.int (((h7.1 32 3) + (Int32.ofInt 1)))) = true ∧ pz_S 5 (some .boolean) am_r82 6 Q 112 [(4, .int (nI W.1)), (3, .int 1), (0, .ref 5), (1, .ref 32), (2, .ref 6)] [] (am_wI h7 32 3 (((h7.1 32 3) + (Int32.ofInt 1)))) from ⟨rfl, ex_32 (c_P l7.1), ex_32 (c_P l7.1), rfl, rfl, ?_⟩)
          rw [show h7.1 32 3 = nI W.1 from l7.2.1.1, xw_i1]
          have l9 : cwr h0 32 6 N T sz (a + 1 + 1 + 1, sw_ad W 1 (nI p) v) (am_wI h7 32 3 (nI (W.1 + 1))) := cwr_P (by decide) (by decide) l7 hlt x1 x2 x3
          refine am_goX 2 (show am_sh (am_wI h7 32 3 (nI (W.1 + 1))) 5 = some (9, 0) ∧ pz_S 5 (some .boolean) am_r82 6 Q 116 [(4, .int (nI W.1)), (3, .int 1), (0, .ref 5), (1, .ref 32), (2, .ref 6)] [am_rf ((am_wI h7 32 3 (nI (W.1 + 1))).2.2.1 5 0)] (am_wI h7 32 3 (nI (W.1 + 1))) from ⟨ex_5 (c_P l9.1), ?_⟩)
          rw [ex_r5_0 (h := am_wI h7 32 3 (nI (W.1 + 1))) (c_P l9.1)]
          refine am_goX 2 (show am_rc (am_wI h7 32 3 (nI (W.1 + 1))) 1 7 ∧ 0 ≤ 8 ∧ (am_wI h7 32 3 (nI (W.1 + 1))).2.2.2.2 + am_al 61 ≤ 175 ∧ am_call am_cod 6 61 [.ref 1, .int (Int8.ofInt 59).toInt32] (am_wI h7 32 3 (nI (W.1 + 1))) (fun vv h' => pz_S 5 (some .boolean) am_r82 6 Q 121 [(4, .int (nI W.1)), (3, .int 1), (0, .ref 5), (1, .ref 32), (2, .ref 6)] (vv.toList ++ []) h') from ⟨Or.inl ⟨by decide, ex_1 (c_P l9.1)⟩, by decide, ex_lim (c_P l9.1) rfl, am_call.up (c_tSt l9.1 (fun e9 h9 m9 f9 => ?_) (fun e9 => ?_)) (by decide)⟩)
          ·
            exact am_goX 1 (show (∃ ty, (some .boolean) = some ty ∧ narrow ty (.int (1)) = .int (1)) ∧ h9.2.2.2.2 = 175 ∧ _ from ⟨⟨.boolean, rfl, rfl⟩, ex_175 (c_P m9), hS (a + 1 + 1 + 1 + 1, sw_ad W 1 (nI p) v) h9 (by unfold sw_line; dsimp only; simp only [e1, e2, e6, e7, decide_true, cond_true, cond_false, show decide ((1 : Int32) = 0) = false from by decide, show decide ((1 : Int32) = 1) = true from by decide, sw_end, e9]) (cwr_fr (by decide) (by decide) l9 m9 f9)⟩)
          ·
            have hP9 : ex_P (am_wI h7 32 3 (nI (W.1 + 1))) := c_P l9.1
            exact am_goX 1 (show (∃ ty, (some .boolean) = some ty ∧ narrow ty (.int (0)) = .int (0)) ∧ (am_wI (am_wI h7 32 3 (nI (W.1 + 1))) 1 7 (sp_ft (tt T sz) (a + 1 + 1 + 1) (Int32.ofInt 1))).2.2.2.2 = 175 ∧ _ from ⟨⟨.boolean, rfl, rfl⟩, ex_175 hP9, hF _ _ (by unfold sw_line; dsimp only; simp only [e1, e2, e6, e7, decide_true, cond_true, cond_false, show decide ((1 : Int32) = 0) = false from by decide, show decide ((1 : Int32) = 1) = true from by decide, sw_end, e9]) (cwr_x (s := (a + 1 + 1 + 1, sw_ad W 1 (nI p) v)) l9 (by decide))⟩)
  · rw [e1]
    refine am_goX 4 (show 3 < 5 ∧ (¬ 2 = (Int32.ofInt (-1)) → pz_S 5 (some .boolean) am_r82 6 Q 19 [(3, .int 2), (0, .ref 5), (1, .ref 32), (2, .ref 6)] [] h) ∧ (¬ ¬ 2 = (Int32.ofInt (-1)) → pz_S 5 (some .boolean) am_r82 6 Q 10 [(3, .int 2), (0, .ref 5), (1, .ref 32), (2, .ref 6)] [] h) from ⟨by decide, fun _ => ?_, fun hz => absurd (by decide) hz⟩)
    refine am_goX 2 (show am_sh h 32 = some (8, 0) ∧ pz_S 5 (some .boolean) am_r82 6 Q 23 [(3, .int 2), (0, .ref 5), (1, .ref 32), (2, .ref 6)] [.int (h.1 32 3)] h from ⟨ex_32 hP, ?_⟩)
    rw [a1]
    refine am_goX 3 (show 4 < 5 ∧ pz_S 5 (some .boolean) am_r82 6 Q 29 [(4, .int (nI W.1)), (3, .int 2), (0, .ref 5), (1, .ref 32), (2, .ref 6)] [.int (Int8.ofInt 40).toInt32, .int (nI W.1)] h from ⟨by decide, ?_⟩)
    cases e2 : Nat.ble 40 W.1 with
    | true =>
      refine am_goX 1 (show ((nI W.1) < (Int8.ofInt 40).toInt32 → pz_S 5 (some .boolean) am_r82 6 Q 41 [(4, .int (nI W.1)), (3, .int 2), (0, .ref 5), (1, .ref 32), (2, .ref 6)] [] h) ∧ (¬ ((nI W.1) < (Int8.ofInt 40).toInt32) → pz_S 5 (some .boolean) am_r82 6 Q 32 [(4, .int (nI W.1)), (3, .int 2), (0, .ref 5), (1, .ref 32), (2, .ref 6)] [] h) from ⟨fun hz => absurd hz (i40 e2 a2), fun _ => ?_⟩)
      refine am_goX 2 (show am_sh h 5 = some (9, 0) ∧ pz_S 5 (some .boolean) am_r82 6 Q 36 [(4, .int (nI W.1)), (3, .int 2), (0, .ref 5), (1, .ref 32), (2, .ref 6)] [am_rf (h.2.2.1 5 0)] h from ⟨ex_5 hP, ?_⟩)
      rw [ex_r5_0 (h := h) hP]
      refine am_goX 2 (show am_rc h 1 7 ∧ 0 ≤ 8 ∧ h.2.2.2.2 + am_al 52 ≤ 175 ∧ am_call am_cod 6 52 [.ref 1, .int (Int32.ofInt 5)] h (fun vv h' => pz_S 5 (some .boolean) am_r82 6 Q 40 [(4, .int (nI W.1)), (3, .int 2), (0, .ref 5), (1, .ref 32), (2, .ref 6)] (vv.toList ++ []) h') from ⟨Or.inl ⟨by decide, ex_1 hP⟩, by decide, ex_lim hP rfl, am_call.up (c_refuse l.1 ?_) (by decide)⟩)
      exact am_goX 1 (show (∃ ty, (some .boolean) = some ty ∧ narrow ty (.int ((Int32.ofInt 0))) = .int ((Int32.ofInt 0))) ∧ (am_wI h 1 7 (sp_ft (tt T sz) a (Int32.ofInt 5))).2.2.2.2 = 175 ∧ _ from ⟨⟨.boolean, rfl, rfl⟩, ex_175 hP, hF _ _ (by unfold sw_line; dsimp only; simp only [e1, e2, cond_true]) (cwr_x (s := (a, W)) l (by decide))⟩)
    | false =>
      refine am_goX 1 (show ((nI W.1) < (Int8.ofInt 40).toInt32 → pz_S 5 (some .boolean) am_r82 6 Q 41 [(4, .int (nI W.1)), (3, .int 2), (0, .ref 5), (1, .ref 32), (2, .ref 6)] [] h) ∧ (¬ ((nI W.1) < (Int8.ofInt 40).toInt32) → pz_S 5 (some .boolean) am_r82 6 Q 32 [(4, .int (nI W.1)), (3, .int 2), (0, .ref 5), (1, .ref 32), (2, .ref 6)] [] h) from ⟨fun _ => ?_, fun hz => absurd (j40 e2) hz⟩)
      have hlt := j40n e2
      refine am_goX 2 (show am_sh h 32 = some (8, 0) ∧ pz_S 5 (some .boolean) am_r82 6 Q 45 [(4, .int (nI W.1)), (3, .int 2), (0, .ref 5), (1, .ref 32), (2, .ref 6)] [am_rf (h.2.2.1 32 0)] h from ⟨ex_32 hP, ?_⟩)
      rw [ex_r32_0 (h := h) hP]
      refine am_goX 3 (show ∃ jj nn : Nat, am_so h 33 = some (13, nn) ∧ jj < nn ∧ (nI W.1) = nI jj ∧ pz_S 5 (some .boolean) am_r82 6 Q 49 [(4, .int (nI W.1)), (3, .int 2), (0, .ref 5), (1, .ref 32), (2, .ref 6)] [] (am_wI h 33 jj 2) from ⟨W.1, 40, ex_w33 hP, by omega, rfl, ?_⟩)
      have l2 : cwr h0 32 6 N T sz (a, W) (am_wI h 33 (W.1) 2) := cwr_w (by decide) (by decide) l (Or.inl rfl) (Nat.le_refl _)
      refine am_goX 2 (show am_sh (am_wI h 33 (W.1) 2) 32 = some (8, 0) ∧ pz_S 5 (some .boolean) am_r82 6 Q 53 [(4, .int (nI W.1)), (3, .int 2), (0, .ref 5), (1, .ref 32), (2, .ref 6)] [am_rf ((am_wI h 33 (W.1) 2).2.2.1 32 1)] (am_wI h 33 (W.1) 2) from ⟨ex_32 (c_P l2.1), ?_⟩)
      rw [ex_r32_1 (h := am_wI h 33 (W.1) 2) (c_P l2.1)]
      refine am_goX 3 (show ∃ jj nn : Nat, am_so (am_wI h 33 (W.1) 2) 34 = some (13, nn) ∧ jj < nn ∧ (nI W.1) = nI jj ∧ pz_S 5 (some .boolean) am_r82 6 Q 57 [(4, .int (nI W.1)), (3, .int 2), (0, .ref 5), (1, .ref 32), (2, .ref 6)] [] (am_wI (am_wI h 33 (W.1) 2) 34 jj 0) from ⟨W.1, 40, ex_w34 (c_P l2.1), by omega, rfl, ?_⟩)
      have l3 : cwr h0 32 6 N T sz (a, W) (am_wI (am_wI h 33 (W.1) 2) 34 (W.1) 0) := cwr_w (by decide) (by decide) l2 (Or.inr (Or.inl rfl)) (Nat.le_refl _)
      refine am_goX 2 (show am_sh (am_wI (am_wI h 33 (W.1) 2) 34 (W.1) 0) 32 = some (8, 0) ∧ pz_S 5 (some .boolean) am_r82 6 Q 61 [(4, .int (nI W.1)), (3, .int 2), (0, .ref 5), (1, .ref 32), (2, .ref 6)] [am_rf ((am_wI (am_wI h 33 (W.1) 2) 34 (W.1) 0).2.2.1 32 2)] (am_wI (am_wI h 33 (W.1) 2) 34 (W.1) 0) from ⟨ex_32 (c_P l3.1), ?_⟩)
      rw [ex_r32_2 (h := am_wI (am_wI h 33 (W.1) 2) 34 (W.1) 0) (c_P l3.1)]
      refine am_goX 3 (show ∃ jj nn : Nat, am_so (am_wI (am_wI h 33 (W.1) 2) 34 (W.1) 0) 35 = some (13, nn) ∧ jj < nn ∧ (nI W.1) = nI jj ∧ pz_S 5 (some .boolean) am_r82 6 Q 65 [(4, .int (nI W.1)), (3, .int 2), (0, .ref 5), (1, .ref 32), (2, .ref 6)] [] (am_wI (am_wI (am_wI h 33 (W.1) 2) 34 (W.1) 0) 35 jj 0) from ⟨W.1, 40, ex_w35 (c_P l3.1), by omega, rfl, ?_⟩)
      have l4 : cwr h0 32 6 N T sz (a, W) (am_wI (am_wI (am_wI h 33 (W.1) 2) 34 (W.1) 0) 35 (W.1) 0) := cwr_w (by decide) (by decide) l3 (Or.inr (Or.inr rfl)) (Nat.le_refl _)
      have x1 : (am_wI (am_wI (am_wI h 33 (W.1) 2) 34 (W.1) 0) 35 (W.1) 0).1 33 W.1 = 2 := by rw [em_wn _ _ (by omega), em_wn _ _ (by omega), em_we]
      have x2 : (am_wI (am_wI (am_wI h 33 (W.1) 2) 34 (W.1) 0) 35 (W.1) 0).1 34 W.1 = 0 := by rw [em_wn _ _ (by omega), em_we]
      have x3 : (am_wI (am_wI (am_wI h 33 (W.1) 2) 34 (W.1) 0) 35 (W.1) 0).1 35 W.1 = 0 := em_we _ _ _ _
      refine am_goX 2 (show am_sh (am_wI (am_wI (am_wI h 33 (W.1) 2) 34 (W.1) 0) 35 (W.1) 0) 5 = some (9, 0) ∧ pz_S 5 (some .boolean) am_r82 6 Q 69 [(4, .int (nI W.1)), (3, .int 2), (0, .ref 5), (1, .ref 32), (2, .ref 6)] [am_rf ((am_wI (am_wI (am_wI h 33 (W.1) 2) 34 (W.1) 0) 35 (W.1) 0).2.2.1 5 0)] (am_wI (am_wI (am_wI h 33 (W.1) 2) 34 (W.1) 0) 35 (W.1) 0) from ⟨ex_5 (c_P l4.1), ?_⟩)
      rw [ex_r5_0 (h := am_wI (am_wI (am_wI h 33 (W.1) 2) 34 (W.1) 0) 35 (W.1) 0) (c_P l4.1)]
      refine am_goX 1 (show am_rc (am_wI (am_wI (am_wI h 33 (W.1) 2) 34 (W.1) 0) 35 (W.1) 0) 1 7 ∧ 0 ≤ 8 ∧ (am_wI (am_wI (am_wI h 33 (W.1) 2) 34 (W.1) 0) 35 (W.1) 0).2.2.2.2 + am_al 18 ≤ 175 ∧ am_call am_cod 6 18 [.ref 1] (am_wI (am_wI (am_wI h 33 (W.1) 2) 34 (W.1) 0) 35 (W.1) 0) (fun vv h' => pz_S 5 (some .boolean) am_r82 6 Q 72 [(4, .int (nI W.1)), (3, .int 2), (0, .ref 5), (1, .ref 32), (2, .ref 6)] (vv.toList ++ []) h') from ⟨Or.inl ⟨by decide, ex_1 (c_P l4.1)⟩, by decide, ex_lim (c_P l4.1) rfl, am_call.up (c_step l4.1 hn (fun h3 m f => ?_)) (by decide)⟩)
      have l5 := cwr_fr (by decide) (by decide) l4 m f
      have x1 := (f.2 33 W.1 (by decide)).1.trans x1
      have x2 := (f.2 34 W.1 (by decide)).1.trans x2
      have x3 := (f.2 35 W.1 (by decide)).1.trans x3
      refine am_goX 2 (show (2 = 0 → pz_S 5 (some .boolean) am_r82 6 Q 87 [(4, .int (nI W.1)), (3, .int 2), (0, .ref 5), (1, .ref 32), (2, .ref 6)] [] h3) ∧ (¬ (2 = 0) → pz_S 5 (some .boolean) am_r82 6 Q 76 [(4, .int (nI W.1)), (3, .int 2), (0, .ref 5), (1, .ref 32), (2, .ref 6)] [] h3) from ⟨fun hz => absurd hz (by decide), fun _ => ?_⟩)
      refine am_goX 4 (show am_rc h3 5 9 ∧ 0 ≤ 8 ∧ h3.2.2.2.2 + am_al 84 ≤ 175 ∧ am_call am_cod 6 84 [.ref 5, .ref 32, .ref 6] h3 (fun vv h' => pz_S 5 (some .boolean) am_r82 6 Q 82 [(4, .int (nI W.1)), (3, .int 2), (0, .ref 5), (1, .ref 32), (2, .ref 6)] (vv.toList ++ []) h') from ⟨Or.inl ⟨by decide, ex_5 (c_P l5.1)⟩, by decide, ex_lim (c_P l5.1) rfl, c_84_32_6 hlt l5 (fun F h6 e6 y => ?_) (fun p h6 e6 l6 y1 y2 => ?_)⟩)
      ·
        refine am_goX 1 (show (¬ 0 = 0 → pz_S 5 (some .boolean) am_r82 6 Q 87 [(4, .int (nI W.1)), (3, .int 2), (0, .ref 5), (1, .ref 32), (2, .ref 6)] [] h6) ∧ (¬ ¬ 0 = 0 → pz_S 5 (some .boolean) am_r82 6 Q 85 [(4, .int (nI W.1)), (3, .int 2), (0, .ref 5), (1, .ref 32), (2, .ref 6)] [] h6) from ⟨fun hz => absurd hz (by decide), fun _ => ?_⟩)
        exact am_goX 2 (show (∃ ty, (some .boolean) = some ty ∧ narrow ty (.int ((Int32.ofInt 0))) = .int ((Int32.ofInt 0))) ∧ h6.2.2.2.2 = 175 ∧ _ from ⟨⟨.boolean, rfl, rfl⟩, ex_175 y.1, hF F h6 (by unfold sw_line; dsimp only; simp only [e1, e2, show decide ((2 : Int32) = 0) = false from by decide, show decide ((2 : Int32) = 1) = false from by decide, decide_true, cond_true, cond_false, e6]) y⟩)
      ·
        have x1 := (y2 W.1).1.trans x1
        have x2 := y1
        have x3 := (y2 W.1).2.trans x3
        refine am_goX 1 (show (¬ 1 = 0 → pz_S 5 (some .boolean) am_r82 6 Q 87 [(4, .int (nI W.1)), (3, .int 2), (0, .ref 5), (1, .ref 32), (2, .ref 6)] [] h6) ∧ (¬ ¬ 1 = 0 → pz_S 5 (some .boolean) am_r82 6 Q 85 [(4, .int (nI W.1)), (3, .int 2), (0, .ref 5), (1, .ref 32), (2, .ref 6)] [] h6) from ⟨fun _ => ?_, fun hz => absurd (by decide) hz⟩)
        refine am_goX 3 (show (¬ 2 = (Int32.ofInt 1) → pz_S 5 (some .boolean) am_r82 6 Q 102 [(4, .int (nI W.1)), (3, .int 2), (0, .ref 5), (1, .ref 32), (2, .ref 6)] [] h6) ∧ (¬ ¬ 2 = (Int32.ofInt 1) → pz_S 5 (some .boolean) am_r82 6 Q 92 [(4, .int (nI W.1)), (3, .int 2), (0, .ref 5), (1, .ref 32), (2, .ref 6)] [] h6) from ⟨fun _ => ?_, fun hz => absurd (by decide) hz⟩)
        refine am_goX 6 (show (Value.ref 32).category = 1 ∧ am_sh h6 32 = some (8, 0) ∧ am_sh h6 32 = some (8, 0) ∧ narrow (am_fty 8 3) (.int (((h6.1 32 3) + (Int32.ofInt 1)))) = .int (((h6.1 32 3) + (Int32.ofInt 1))) ∧ fits (am_fty 8 3) (.int (((h6.1 32 3) + (Int32.ofInt 1)))) = true ∧ pz_S 5 (some .boolean) am_r82 6 Q 112 [(4, .int (nI W.1)), (3, .int 2), (0, .ref 5), (1, .ref 32), (2, .ref 6)] [] (am_wI h6 32 3 (((h6.1 32 3) + (Int32.ofInt 1)))) from ⟨rfl, ex_32 (c_P l6.1), ex_32 (c_P l6.1), rfl, rfl, ?_⟩)
        rw [show h6.1 32 3 = nI W.1 from l6.2.1.1, xw_i1]
        have l9 : cwr h0 32 6 N T sz (a + 1 + 1, sw_ad W 2 (nI p) 0) (am_wI h6 32 3 (nI (W.1 + 1))) := cwr_P (by decide) (by decide) l6 hlt x1 x2 x3
        refine am_goX 2 (show am_sh (am_wI h6 32 3 (nI (W.1 + 1))) 5 = some (9, 0) ∧ pz_S 5 (some .boolean) am_r82 6 Q 116 [(4, .int (nI W.1)), (3, .int 2), (0, .ref 5), (1, .ref 32), (2, .ref 6)] [am_rf ((am_wI h6 32 3 (nI (W.1 + 1))).2.2.1 5 0)] (am_wI h6 32 3 (nI (W.1 + 1))) from ⟨ex_5 (c_P l9.1), ?_⟩)
        rw [ex_r5_0 (h := am_wI h6 32 3 (nI (W.1 + 1))) (c_P l9.1)]
        refine am_goX 2 (show am_rc (am_wI h6 32 3 (nI (W.1 + 1))) 1 7 ∧ 0 ≤ 8 ∧ (am_wI h6 32 3 (nI (W.1 + 1))).2.2.2.2 + am_al 61 ≤ 175 ∧ am_call am_cod 6 61 [.ref 1, .int (Int8.ofInt 59).toInt32] (am_wI h6 32 3 (nI (W.1 + 1))) (fun vv h' => pz_S 5 (some .boolean) am_r82 6 Q 121 [(4, .int (nI W.1)), (3, .int 2), (0, .ref 5), (1, .ref 32), (2, .ref 6)] (vv.toList ++ []) h') from ⟨Or.inl ⟨by decide, ex_1 (c_P l9.1)⟩, by decide, ex_lim (c_P l9.1) rfl, am_call.up (c_tSt l9.1 (fun e9 h9 m9 f9 => ?_) (fun e9 => ?_)) (by decide)⟩)
        ·
          exact am_goX 1 (show (∃ ty, (some .boolean) = some ty ∧ narrow ty (.int (1)) = .int (1)) ∧ h9.2.2.2.2 = 175 ∧ _ from ⟨⟨.boolean, rfl, rfl⟩, ex_175 (c_P m9), hS (a + 1 + 1 + 1, sw_ad W 2 (nI p) 0) h9 (by unfold sw_line; dsimp only; simp only [e1, e2, e6, decide_true, cond_true, cond_false, show decide ((2 : Int32) = 0) = false from by decide, show decide ((2 : Int32) = 1) = false from by decide, sw_end, e9]) (cwr_fr (by decide) (by decide) l9 m9 f9)⟩)
        ·
          have hP9 : ex_P (am_wI h6 32 3 (nI (W.1 + 1))) := c_P l9.1
          exact am_goX 1 (show (∃ ty, (some .boolean) = some ty ∧ narrow ty (.int (0)) = .int (0)) ∧ (am_wI (am_wI h6 32 3 (nI (W.1 + 1))) 1 7 (sp_ft (tt T sz) (a + 1 + 1) (Int32.ofInt 1))).2.2.2.2 = 175 ∧ _ from ⟨⟨.boolean, rfl, rfl⟩, ex_175 hP9, hF _ _ (by unfold sw_line; dsimp only; simp only [e1, e2, e6, decide_true, cond_true, cond_false, show decide ((2 : Int32) = 0) = false from by decide, show decide ((2 : Int32) = 1) = false from by decide, sw_end, e9]) (cwr_x (s := (a + 1 + 1, sw_ad W 2 (nI p) 0)) l9 (by decide))⟩)
theorem c_81l_32_6 : ∀ (m i : Nat) (s : sw_S) (h : am_H) (Q : am_Q), sz < s.1 + m → i ≤ s.1 → cwr h0 32 6 N T sz s h → (∀ F h1, sw_all (tt T sz) N m s = .inl F → cwx h0 32 F h1 → Q (some (.int F)) h1) → (∀ t h1, sw_all (tt T sz) N m s = .inr t → cwr h0 32 6 N T sz t h1 → Q (some (.int 0)) h1) → pz_S 5 (some .int) am_r81 7 Q 17 [(4, .int (nI i)), (3, .int 1), (0, .ref 5), (1, .ref 32), (2, .ref 6)] [] h := by
  intro m
  induction m with
  | zero =>
    intro i s h Q hm hi l hF hS
    have := (cwr_a l).1
    omega
  | succ m ih =>
    intro i s h Q hm hi l hF hS
    have ha := cwr_a l
    have hP := c_P l.1
    have hk := ck_4 T sz s.1
    have hf : h.1 1 7 = 0 := l.1.2.2.2.1
    refine am_goX 2 (show (1 = 0 → pz_S 5 (some .int) am_r81 7 Q 53 [(4, .int (nI i)), (3, .int 1), (0, .ref 5), (1, .ref 32), (2, .ref 6)] [] h) ∧ (¬ (1 = 0) → pz_S 5 (some .int) am_r81 7 Q 21 [(4, .int (nI i)), (3, .int 1), (0, .ref 5), (1, .ref 32), (2, .ref 6)] [] h) from ⟨fun hz => absurd hz (by decide), fun _ => ?_⟩)
    refine am_goX 2 (show am_sh h 5 = some (9, 0) ∧ pz_S 5 (some .int) am_r81 7 Q 25 [(4, .int (nI i)), (3, .int 1), (0, .ref 5), (1, .ref 32), (2, .ref 6)] [am_rf (h.2.2.1 5 0)] h from ⟨ex_5 hP, ?_⟩)
    rw [ex_r5_0 (h := h) hP]
    refine am_goX 2 (show am_sh h 1 = some (7, 0) ∧ pz_S 5 (some .int) am_r81 7 Q 29 [(4, .int (nI i)), (3, .int 1), (0, .ref 5), (1, .ref 32), (2, .ref 6)] [.int (Int32.ofInt 4), .int (h.1 1 2)] h from ⟨ex_1 hP, ?_⟩)
    rw [c_kd l.1]
    refine am_goX 1 (show ((ck (tt T sz s.1).1) = (Int32.ofInt 4) → pz_S 5 (some .int) am_r81 7 Q 53 [(4, .int (nI i)), (3, .int 1), (0, .ref 5), (1, .ref 32), (2, .ref 6)] [] h) ∧ (¬ ((ck (tt T sz s.1).1) = (Int32.ofInt 4)) → pz_S 5 (some .int) am_r81 7 Q 32 [(4, .int (nI i)), (3, .int 1), (0, .ref 5), (1, .ref 32), (2, .ref 6)] [] h) from ⟨fun hc => ?_, fun hc => ?_⟩)
    ·
      have e2 : sp_k (tt T sz) s.1 0 = true := by rw [← hk]; exact decide_eq_true hc
      refine am_goX 2 (show am_sh h 5 = some (9, 0) ∧ pz_S 5 (some .int) am_r81 7 Q 57 [(4, .int (nI i)), (3, .int 1), (0, .ref 5), (1, .ref 32), (2, .ref 6)] [am_rf (h.2.2.1 5 0)] h from ⟨ex_5 hP, ?_⟩)
      rw [ex_r5_0 (h := h) hP]
      refine am_goX 1 (show am_sh h 1 = some (7, 0) ∧ pz_S 5 (some .int) am_r81 7 Q 60 [(4, .int (nI i)), (3, .int 1), (0, .ref 5), (1, .ref 32), (2, .ref 6)] [.int (h.1 1 7)] h from ⟨ex_1 hP, ?_⟩)
      rw [hf]
      exact am_goX 1 (show (∃ ty, (some .int) = some ty ∧ narrow ty (.int (0)) = .int (0)) ∧ h.2.2.2.2 = 175 ∧ _ from ⟨⟨.int, rfl, rfl⟩, ex_175 hP, hS s h (by unfold sw_all; rw [e2]; rfl) l⟩)
    ·
      have e2 : sp_k (tt T sz) s.1 0 = false := by rw [← hk]; exact decide_eq_false hc
      clear hc
      have hlt : s.1 < sz := by
        have w := l.1.2.2.2.2.1
        have w2 : tk_pl T sz s.1 < sz := kz_lt (of_decide_eq_false e2)
        omega
      refine am_goX 3 (show ((Int16.ofInt 1000).toInt32 ≤ (nI i) → pz_S 5 (some .int) am_r81 7 Q 53 [(4, .int (nI i)), (3, .int 1), (0, .ref 5), (1, .ref 32), (2, .ref 6)] [] h) ∧ (¬ ((Int16.ofInt 1000).toInt32 ≤ (nI i)) → pz_S 5 (some .int) am_r81 7 Q 40 [(4, .int (nI i)), (3, .int 1), (0, .ref 5), (1, .ref 32), (2, .ref 6)] [] h) from ⟨fun hz => absurd hz (i1000 (by omega)), fun _ => ?_⟩)
      refine am_goX 4 (show am_rc h 5 9 ∧ 0 ≤ 8 ∧ h.2.2.2.2 + am_al 82 ≤ 175 ∧ am_call am_cod 7 82 [.ref 5, .ref 32, .ref 6] h (fun vv h' => pz_S 5 (some .int) am_r81 7 Q 46 [(4, .int (nI i)), (3, .int 1), (0, .ref 5), (1, .ref 32), (2, .ref 6)] (vv.toList ++ []) h') from ⟨Or.inl ⟨by decide, ex_5 hP⟩, by decide, ex_lim hP rfl, c_82_32_6 l (fun F h1 e3 y => ?_) (fun t h1 e3 y => ?_)⟩)
      ·
        refine am_goX 5 (show 3 < 5 ∧ 4 < 5 ∧ (0 = 0 → pz_S 5 (some .int) am_r81 7 Q 53 [(4, .int ((nI i) + Int32.ofInt 1)), (3, .int 0), (0, .ref 5), (1, .ref 32), (2, .ref 6)] [] h1) ∧ (¬ (0 = 0) → pz_S 5 (some .int) am_r81 7 Q 21 [(4, .int ((nI i) + Int32.ofInt 1)), (3, .int 0), (0, .ref 5), (1, .ref 32), (2, .ref 6)] [] h1) from ⟨by decide, by decide, fun _ => ?_, fun hz => absurd (by decide) hz⟩)
        refine am_goX 2 (show am_sh h1 5 = some (9, 0) ∧ pz_S 5 (some .int) am_r81 7 Q 57 [(4, .int ((nI i) + Int32.ofInt 1)), (3, .int 0), (0, .ref 5), (1, .ref 32), (2, .ref 6)] [am_rf (h1.2.2.1 5 0)] h1 from ⟨ex_5 y.1, ?_⟩)
        rw [ex_r5_0 (h := h1) y.1]
        refine am_goX 1 (show am_sh h1 1 = some (7, 0) ∧ pz_S 5 (some .int) am_r81 7 Q 60 [(4, .int ((nI i) + Int32.ofInt 1)), (3, .int 0), (0, .ref 5), (1, .ref 32), (2, .ref 6)] [.int (h1.1 1 7)] h1 from ⟨ex_1 y.1, ?_⟩)
        rw [y.2.1.1]
        exact am_goX 1 (show (∃ ty, (some .int) = some ty ∧ narrow ty (.int (F)) = .int (F)) ∧ h1.2.2.2.2 = 175 ∧ _ from ⟨⟨.int, rfl, rfl⟩, ex_175 y.1, hF F h1 (by unfold sw_all; rw [e2, cond_false, e3]) y⟩)
      ·
        refine am_goX 3 (show 3 < 5 ∧ 4 < 5 ∧ pz_S 5 (some .int) am_r81 7 Q 17 [(4, .int ((nI i) + Int32.ofInt 1)), (3, .int 1), (0, .ref 5), (1, .ref 32), (2, .ref 6)] [] h1 from ⟨by decide, by decide, ?_⟩)
        rw [xw_i1]
        have g1 := sw_line_lt e3
        have hx : sw_all (tt T sz) N (m + 1) s = sw_all (tt T sz) N m t := by
          conv => lhs; unfold sw_all
          rw [e2, cond_false, e3]
        exact ih (i + 1) t h1 Q (by omega) (by omega) y (fun F h2 e => hF F h2 (hx.trans e)) (fun t h2 e => hS t h2 (hx.trans e))
theorem c_81_32_6 (hP : ex_P h) (hz : sz ≤ 1000) (hch : ∀ q, q < sz → 0 ≤ (T q).toInt ∧ (T q).toInt ≤ 126) (l1 : h.1 1 1 = nI sz) (l2 : ∀ q, q < sz → h.1 2 q = T q) (ln : cnm 6 N h) (hF : ∀ F h1, sw_week (tt T sz) N = .inl F → cwx h 32 F h1 → Q (some (.int F)) h1) (hS : ∀ t h1, sw_week (tt T sz) N = .inr t → cwr h 32 6 N T sz t h1 → Q (some (.int 0)) h1) : am_call am_cod 8 81 [.ref 5, .ref 32, .ref 6] h Q := by
  refine pz_call (n := 81) (nL := 5) (rt := (some .int)) (rows := am_r81) (d := 7) (by decide +kernel) (by decide +kernel) rfl (by funext pc; rfl) (ex_175 hP) (by exact Nat.le_of_ble_eq_true rfl) ?_
  refine am_goX 3 (show am_sh h 32 = some (8, 0) ∧ narrow (am_fty 8 3) (.int ((Int32.ofInt 0))) = .int ((Int32.ofInt 0)) ∧ fits (am_fty 8 3) (.int ((Int32.ofInt 0))) = true ∧ pz_S 5 (some .int) am_r81 7 Q 5 [(0, .ref 5), (1, .ref 32), (2, .ref 6)] [] (am_wI h 32 3 ((Int32.ofInt 0))) from ⟨ex_32 hP, rfl, rfl, ?_⟩)
  refine am_goX 2 (show am_sh (am_wI h 32 3 0) 5 = some (9, 0) ∧ pz_S 5 (some .int) am_r81 7 Q 9 [(0, .ref 5), (1, .ref 32), (2, .ref 6)] [am_rf ((am_wI h 32 3 0).2.2.1 5 0)] (am_wI h 32 3 0) from ⟨ex_5 hP, ?_⟩)
  rw [ex_r5_0 (h := am_wI h 32 3 0) hP]
  refine am_goX 1 (show am_rc (am_wI h 32 3 0) 1 7 ∧ 0 ≤ 8 ∧ (am_wI h 32 3 0).2.2.2.2 + am_al 17 ≤ 175 ∧ am_call am_cod 7 17 [.ref 1] (am_wI h 32 3 0) (fun vv h' => pz_S 5 (some .int) am_r81 7 Q 12 [(0, .ref 5), (1, .ref 32), (2, .ref 6)] (vv.toList ++ []) h') from ⟨Or.inl ⟨by decide, ex_1 hP⟩, by decide, ex_lim hP rfl, am_call.up (c_begin (T := T) (sz := sz) hP hz hch (by rw [em_wn _ _ (by omega)]; exact l1) (fun q hq => by rw [em_wn _ _ (by omega)]; exact l2 q hq) (fun h1 t f => ?_)) (by decide)⟩)
  have l : cwr h 32 6 N T sz (0, sw_W0) h1 := by
    refine ⟨t, ⟨(f.2 32 3 (by decide)).1.trans (em_we _ _ _ _), by decide, fun i hi => absurd hi (Nat.not_lt_zero i)⟩, cwq_fr (h := am_wI h 32 3 0) ⟨rfl, fun o k hn => ⟨em_wn _ _ (by omega), rfl⟩⟩ f, ⟨(f.2 6 0 (by decide)).1.trans ((em_wn _ _ (by omega)).trans ln.1), ln.2.1, fun i hi => ?_⟩⟩
    rw [(f.2 7 i (by decide)).2]
    exact ln.2.2 i hi
  refine am_goX 4 (show 3 < 5 ∧ 4 < 5 ∧ pz_S 5 (some .int) am_r81 7 Q 17 [(4, .int (Int32.ofInt 0)), (3, .int (Int32.ofInt 1)), (0, .ref 5), (1, .ref 32), (2, .ref 6)] [] h1 from ⟨by decide, by decide, ?_⟩)
  exact c_81l_32_6 1001 0 (0, sw_W0) h1 Q (by dsimp only; omega) (Nat.zero_le _) l hF hS
theorem c_80_32_6 (hw : h.2.2.1 0 6 = some 32) (hk : h.2.2.1 0 5 = some 28) (ht : h.2.2.1 0 3 = some 6) (hP : ex_P h) (hz : sz ≤ 1000) (hch : ∀ q, q < sz → 0 ≤ (T q).toInt ∧ (T q).toInt ≤ 126) (l1 : h.1 1 1 = nI sz) (l2 : ∀ q, q < sz → h.1 2 q = T q) (ln : cnm 6 N h) (hF : ∀ F h1, sw_week (tt T sz) N = .inl F → cwx h 32 F h1 → Q (some (.int F)) (am_wI h1 1 1 (Int32.ofInt 0))) (hS : ∀ t h1, sw_week (tt T sz) N = .inr t → cwr h 32 6 N T sz t h1 → Q (some (.int (Int32.ofInt 0))) (am_wR (am_wR (am_wI h1 1 1 (Int32.ofInt 0)) 0 6 (some 28)) 0 5 (some 32))) : am_call am_cod 9 80 [.ref 0] h Q := by
  refine pz_call (n := 80) (nL := 3) (rt := (some .int)) (rows := am_r80) (d := 8) (by decide +kernel) (by decide +kernel) rfl (by funext pc; rfl) (ex_175 hP) (by exact Nat.le_of_ble_eq_true rfl) ?_
  refine am_goX 2 (show am_sh h 0 = some (10, 0) ∧ pz_S 3 (some .int) am_r80 8 Q 4 [(0, .ref 0)] [am_rf (h.2.2.1 0 2)] h from ⟨ex_0 hP, ?_⟩)
  rw [ex_r0_2 (h := h) hP]
  refine am_goX 2 (show am_sh h 0 = some (10, 0) ∧ pz_S 3 (some .int) am_r80 8 Q 8 [(0, .ref 0)] [am_rf (h.2.2.1 0 6), .ref 5] h from ⟨ex_0 hP, ?_⟩)
  rw [hw]
  refine am_goX 2 (show am_sh h 0 = some (10, 0) ∧ pz_S 3 (some .int) am_r80 8 Q 12 [(0, .ref 0)] [am_rf (h.2.2.1 0 3), .ref 32, .ref 5] h from ⟨ex_0 hP, ?_⟩)
  rw [ht]
  refine am_goX 1 (show am_rc h 5 9 ∧ 0 ≤ 8 ∧ h.2.2.2.2 + am_al 81 ≤ 175 ∧ am_call am_cod 8 81 [.ref 5, .ref 32, .ref 6] h (fun vv h' => pz_S 3 (some .int) am_r80 8 Q 15 [(0, .ref 0)] (vv.toList ++ []) h') from ⟨Or.inl ⟨by decide, ex_5 hP⟩, by decide, ex_lim hP rfl, c_81_32_6 hP hz hch l1 l2 ln (fun F h1 e y => ?_) (fun t h1 e y => ?_)⟩)
  ·
    have hPy : ex_P h1 := y.1
    refine am_goX 3 (show 1 < 3 ∧ am_sh h1 0 = some (10, 0) ∧ pz_S 3 (some .int) am_r80 8 Q 20 [(1, .int F), (0, .ref 0)] [am_rf (h1.2.2.1 0 0)] h1 from ⟨by decide, ex_0 hPy, ?_⟩)
    rw [ex_r0_0 (h := h1) hPy]
    refine am_goX 2 (show am_sh h1 1 = some (7, 0) ∧ narrow (am_fty 7 1) (.int ((Int32.ofInt 0))) = .int ((Int32.ofInt 0)) ∧ fits (am_fty 7 1) (.int ((Int32.ofInt 0))) = true ∧ pz_S 3 (some .int) am_r80 8 Q 24 [(1, .int F), (0, .ref 0)] [] (am_wI h1 1 1 ((Int32.ofInt 0))) from ⟨ex_1 hPy, rfl, rfl, ?_⟩)
    refine am_goX 2 (show (F = 0 → pz_S 3 (some .int) am_r80 8 Q 30 [(1, .int F), (0, .ref 0)] [] (am_wI h1 1 1 ((Int32.ofInt 0)))) ∧ (¬ (F = 0) → pz_S 3 (some .int) am_r80 8 Q 28 [(1, .int F), (0, .ref 0)] [] (am_wI h1 1 1 ((Int32.ofInt 0)))) from ⟨fun hz => absurd hz y.2.1.2, fun _ => ?_⟩)
    exact am_goX 2 (show (∃ ty, (some .int) = some ty ∧ narrow ty (.int (F)) = .int (F)) ∧ (am_wI h1 1 1 ((Int32.ofInt 0))).2.2.2.2 = 175 ∧ _ from ⟨⟨.int, rfl, rfl⟩, ex_175 hPy, hF F h1 e y⟩)
  ·
    have hPy : ex_P h1 := c_P y.1
    have q5 : h1.2.2.1 0 5 = some 28 := by rw [y.2.2.1.1]; exact hk
    have q6 : h1.2.2.1 0 6 = some 32 := by rw [y.2.2.1.1]; exact hw
    refine am_goX 3 (show 1 < 3 ∧ am_sh h1 0 = some (10, 0) ∧ pz_S 3 (some .int) am_r80 8 Q 20 [(1, .int 0), (0, .ref 0)] [am_rf (h1.2.2.1 0 0)] h1 from ⟨by decide, ex_0 hPy, ?_⟩)
    rw [ex_r0_0 (h := h1) hPy]
    refine am_goX 2 (show am_sh h1 1 = some (7, 0) ∧ narrow (am_fty 7 1) (.int ((Int32.ofInt 0))) = .int ((Int32.ofInt 0)) ∧ fits (am_fty 7 1) (.int ((Int32.ofInt 0))) = true ∧ pz_S 3 (some .int) am_r80 8 Q 24 [(1, .int 0), (0, .ref 0)] [] (am_wI h1 1 1 ((Int32.ofInt 0))) from ⟨ex_1 hPy, rfl, rfl, ?_⟩)
    refine am_goX 2 (show (0 = 0 → pz_S 3 (some .int) am_r80 8 Q 30 [(1, .int 0), (0, .ref 0)] [] (am_wI h1 1 1 ((Int32.ofInt 0)))) ∧ (¬ (0 = 0) → pz_S 3 (some .int) am_r80 8 Q 28 [(1, .int 0), (0, .ref 0)] [] (am_wI h1 1 1 ((Int32.ofInt 0)))) from ⟨fun _ => ?_, fun hz => absurd (by decide) hz⟩)
    refine am_goX 2 (show am_sh (am_wI h1 1 1 ((Int32.ofInt 0))) 0 = some (10, 0) ∧ pz_S 3 (some .int) am_r80 8 Q 34 [(1, .int 0), (0, .ref 0)] [am_rf ((am_wI h1 1 1 ((Int32.ofInt 0))).2.2.1 0 6)] (am_wI h1 1 1 ((Int32.ofInt 0))) from ⟨ex_0 hPy, ?_⟩)
    rw [show (am_wI h1 1 1 ((Int32.ofInt 0))).2.2.1 0 6 = some 32 from q6]
    refine am_goX 4 (show 2 < 3 ∧ am_sh (am_wI h1 1 1 ((Int32.ofInt 0))) 0 = some (10, 0) ∧ pz_S 3 (some .int) am_r80 8 Q 40 [(2, .ref 32), (1, .int 0), (0, .ref 0)] [am_rf ((am_wI h1 1 1 ((Int32.ofInt 0))).2.2.1 0 5), .ref 0] (am_wI h1 1 1 ((Int32.ofInt 0))) from ⟨by decide, ex_0 hPy, ?_⟩)
    rw [show (am_wI h1 1 1 ((Int32.ofInt 0))).2.2.1 0 5 = some 28 from q5]
    refine am_goX 1 (show am_sh (am_wI h1 1 1 ((Int32.ofInt 0))) 0 = some (10, 0) ∧ pz_S 3 (some .int) am_r80 8 Q 43 [(2, .ref 32), (1, .int 0), (0, .ref 0)] [] (am_wR (am_wI h1 1 1 ((Int32.ofInt 0))) 0 6 (some 28)) from ⟨ex_0 hPy, ?_⟩)
    have hPw6 : ex_P (am_wR (am_wI h1 1 1 ((Int32.ofInt 0))) 0 6 (some 28)) := ex_wR56 (by decide) hPy
    refine am_goX 3 (show am_sh (am_wR (am_wI h1 1 1 ((Int32.ofInt 0))) 0 6 (some 28)) 0 = some (10, 0) ∧ pz_S 3 (some .int) am_r80 8 Q 48 [(2, .ref 32), (1, .int 0), (0, .ref 0)] [] (am_wR (am_wR (am_wI h1 1 1 ((Int32.ofInt 0))) 0 6 (some 28)) 0 5 (some 32)) from ⟨ex_0 hPw6, ?_⟩)
    have hPw5 : ex_P (am_wR (am_wR (am_wI h1 1 1 ((Int32.ofInt 0))) 0 6 (some 28)) 0 5 (some 32)) := ex_wR56 (by decide) hPw6
    exact am_goX 2 (show (∃ ty, (some .int) = some ty ∧ narrow ty (.int ((Int32.ofInt 0))) = .int ((Int32.ofInt 0))) ∧ (am_wR (am_wR (am_wI h1 1 1 ((Int32.ofInt 0))) 0 6 (some 28)) 0 5 (some 32)).2.2.2.2 = 175 ∧ _ from ⟨⟨.int, rfl, rfl⟩, ex_175 hPw5, hS t h1 e y⟩)
theorem c_84_32_17 (hlt : W.1 < 40) (l : cwr h0 32 17 N T sz (a, W) h) (hF : ∀ F h1, sw_pn (tt T sz) N a = .inl F → cwx h0 32 F h1 → Q (some (.int 0)) h1) (hS : ∀ p h1, sw_pn (tt T sz) N a = .inr p → cwr h0 32 17 N T sz (a + 1, W) h1 → h1.1 34 W.1 = nI p → (∀ k, h1.1 33 k = h.1 33 k ∧ h1.1 35 k = h.1 35 k) → Q (some (.int 1)) h1) : am_call am_cod 6 84 [.ref 5, .ref 32, .ref 17] h Q := by
  have hP := c_P l.1
  have a1 : h.1 32 3 = nI W.1 := l.2.1.1
  refine pz_call (n := 84) (nL := 4) (rt := (some .boolean)) (rows := am_r84) (d := 5) (by decide +kernel) (by decide +kernel) rfl (by funext pc; rfl) (ex_175 hP) (by exact Nat.le_of_ble_eq_true rfl) ?_
  refine am_goX 2 (show am_sh h 5 = some (9, 0) ∧ pz_S 4 (some .boolean) am_r84 5 Q 4 [(0, .ref 5), (1, .ref 32), (2, .ref 17)] [am_rf (h.2.2.1 5 0)] h from ⟨ex_5 hP, ?_⟩)
  rw [ex_r5_0 (h := h) hP]
  refine am_goX 1 (show am_rc h 1 7 ∧ 0 ≤ 8 ∧ h.2.2.2.2 + am_al 54 ≤ 175 ∧ am_call am_cod 5 54 [.ref 1] h (fun vv h' => pz_S 4 (some .boolean) am_r84 5 Q 7 [(0, .ref 5), (1, .ref 32), (2, .ref 17)] (vv.toList ++ []) h') from ⟨Or.inl ⟨by decide, ex_1 hP⟩, by decide, ex_lim hP rfl, am_call.up (c_isn l.1 ?_) (by decide)⟩)
  cases e1 : sp_n (tt T sz) a with
  | true =>
    refine am_goX 1 (show (¬ (pz_b (true)) = 0 → pz_S 4 (some .boolean) am_r84 5 Q 19 [(0, .ref 5), (1, .ref 32), (2, .ref 17)] [] h) ∧ (¬ ¬ (pz_b (true)) = 0 → pz_S 4 (some .boolean) am_r84 5 Q 10 [(0, .ref 5), (1, .ref 32), (2, .ref 17)] [] h) from ⟨fun _ => ?_, fun hz => absurd (by decide) hz⟩)
    refine am_goX 3 (show am_sh h 5 = some (9, 0) ∧ pz_S 4 (some .boolean) am_r84 5 Q 24 [(0, .ref 5), (1, .ref 32), (2, .ref 17)] [am_rf (h.2.2.1 5 0), .ref 17] h from ⟨ex_5 hP, ?_⟩)
    rw [ex_r5_0 (h := h) hP]
    refine am_goX 2 (show am_sh h 1 = some (7, 0) ∧ am_rc h 17 0 ∧ 0 ≤ 8 ∧ h.2.2.2.2 + am_al 55 ≤ 175 ∧ am_call am_cod 5 55 [.ref 17, .long (h.2.1 1 5)] h (fun vv h' => pz_S 4 (some .boolean) am_r84 5 Q 30 [(0, .ref 5), (1, .ref 32), (2, .ref 17)] (vv.toList ++ []) h') from ⟨ex_1 hP, Or.inl ⟨by decide, ex_17 hP⟩, by decide, ex_lim hP rfl, am_call.up (c_55n_17 (v := (tt T sz a).2.1) hP l.2.2.2 (c_wd l.1 (sp_nk e1)) ?_) (by decide)⟩)
    cases e2 : sp_fd N.2 (tt T sz a).2.1 N.1 0 with
    | none =>
      refine am_goX 4 (show 3 < 4 ∧ (¬ (Int32.ofInt (-1)) = (Int32.ofInt (-1)) → pz_S 4 (some .boolean) am_r84 5 Q 45 [(3, .int (Int32.ofInt (-1))), (0, .ref 5), (1, .ref 32), (2, .ref 17)] [] h) ∧ (¬ ¬ (Int32.ofInt (-1)) = (Int32.ofInt (-1)) → pz_S 4 (some .boolean) am_r84 5 Q 36 [(3, .int (Int32.ofInt (-1))), (0, .ref 5), (1, .ref 32), (2, .ref 17)] [] h) from ⟨by decide, fun hz => absurd hz (by decide), fun _ => ?_⟩)
      refine am_goX 2 (show am_sh h 5 = some (9, 0) ∧ pz_S 4 (some .boolean) am_r84 5 Q 40 [(3, .int (Int32.ofInt (-1))), (0, .ref 5), (1, .ref 32), (2, .ref 17)] [am_rf (h.2.2.1 5 0)] h from ⟨ex_5 hP, ?_⟩)
      rw [ex_r5_0 (h := h) hP]
      refine am_goX 2 (show am_rc h 1 7 ∧ 0 ≤ 8 ∧ h.2.2.2.2 + am_al 52 ≤ 175 ∧ am_call am_cod 5 52 [.ref 1, .int (Int32.ofInt 2)] h (fun vv h' => pz_S 4 (some .boolean) am_r84 5 Q 44 [(3, .int (Int32.ofInt (-1))), (0, .ref 5), (1, .ref 32), (2, .ref 17)] (vv.toList ++ []) h') from ⟨Or.inl ⟨by decide, ex_1 hP⟩, by decide, ex_lim hP rfl, am_call.up (c_refuse l.1 ?_) (by decide)⟩)
      exact am_goX 1 (show (∃ ty, (some .boolean) = some ty ∧ narrow ty (.int ((Int32.ofInt 0))) = .int ((Int32.ofInt 0))) ∧ (am_wI h 1 7 (sp_ft (tt T sz) a (Int32.ofInt 2))).2.2.2.2 = 175 ∧ _ from ⟨⟨.boolean, rfl, rfl⟩, ex_175 hP, hF _ _ (by unfold sw_pn; rw [e1, cond_true, e2]; first | done | rfl) (cwr_x (s := (a, W)) l (by decide))⟩)
    | some p =>
      have wp := sp_fd_lt e2
      have w6 := l.2.2.2.2.1
      refine am_goX 4 (show 3 < 4 ∧ (¬ (nI p) = (Int32.ofInt (-1)) → pz_S 4 (some .boolean) am_r84 5 Q 45 [(3, .int (nI p)), (0, .ref 5), (1, .ref 32), (2, .ref 17)] [] h) ∧ (¬ ¬ (nI p) = (Int32.ofInt (-1)) → pz_S 4 (some .boolean) am_r84 5 Q 36 [(3, .int (nI p)), (0, .ref 5), (1, .ref 32), (2, .ref 17)] [] h) from ⟨by decide, fun _ => ?_, fun hz => absurd (nI_m1 (by omega)) hz⟩)
      refine am_goX 2 (show am_sh h 32 = some (8, 0) ∧ pz_S 4 (some .boolean) am_r84 5 Q 49 [(3, .int (nI p)), (0, .ref 5), (1, .ref 32), (2, .ref 17)] [am_rf (h.2.2.1 32 1)] h from ⟨ex_32 hP, ?_⟩)
      rw [ex_r32_1 (h := h) hP]
      refine am_goX 3 (show am_sh h 32 = some (8, 0) ∧ pz_S 4 (some .boolean) am_r84 5 Q 54 [(3, .int (nI p)), (0, .ref 5), (1, .ref 32), (2, .ref 17)] [.int (nI p), .int (h.1 32 3), .ref 34] h from ⟨ex_32 hP, ?_⟩)
      rw [a1]
      refine am_goX 1 (show ∃ jj nn : Nat, am_so h 34 = some (13, nn) ∧ jj < nn ∧ (nI W.1) = nI jj ∧ pz_S 4 (some .boolean) am_r84 5 Q 55 [(3, .int (nI p)), (0, .ref 5), (1, .ref 32), (2, .ref 17)] [] (am_wI h 34 jj (nI p)) from ⟨W.1, 40, ex_w34 hP, by omega, rfl, ?_⟩)
      have l2 : cwr h0 32 17 N T sz (a, W) (am_wI h 34 (W.1) (nI p)) := cwr_w (by decide) (by decide) l (Or.inr (Or.inl rfl)) (Nat.le_refl _)
      refine am_goX 2 (show am_sh (am_wI h 34 (W.1) (nI p)) 5 = some (9, 0) ∧ pz_S 4 (some .boolean) am_r84 5 Q 59 [(3, .int (nI p)), (0, .ref 5), (1, .ref 32), (2, .ref 17)] [am_rf ((am_wI h 34 (W.1) (nI p)).2.2.1 5 0)] (am_wI h 34 (W.1) (nI p)) from ⟨ex_5 (c_P l2.1), ?_⟩)
      rw [ex_r5_0 (h := am_wI h 34 (W.1) (nI p)) (c_P l2.1)]
      refine am_goX 1 (show am_rc (am_wI h 34 (W.1) (nI p)) 1 7 ∧ 0 ≤ 8 ∧ (am_wI h 34 (W.1) (nI p)).2.2.2.2 + am_al 18 ≤ 175 ∧ am_call am_cod 5 18 [.ref 1] (am_wI h 34 (W.1) (nI p)) (fun vv h' => pz_S 4 (some .boolean) am_r84 5 Q 62 [(3, .int (nI p)), (0, .ref 5), (1, .ref 32), (2, .ref 17)] (vv.toList ++ []) h') from ⟨Or.inl ⟨by decide, ex_1 (c_P l2.1)⟩, by decide, ex_lim (c_P l2.1) rfl, am_call.up (c_step l2.1 (sp_nn e1) (fun h3 m f => ?_)) (by decide)⟩)
      exact am_goX 2 (show (∃ ty, (some .boolean) = some ty ∧ narrow ty (.int ((Int32.ofInt 1))) = .int ((Int32.ofInt 1))) ∧ h3.2.2.2.2 = 175 ∧ _ from ⟨⟨.boolean, rfl, rfl⟩, ex_175 (c_P m), hS p h3 (by unfold sw_pn; rw [e1, cond_true, e2]) (cwr_fr (by decide) (by decide) l2 m f) ((f.2 34 W.1 (by decide)).1.trans (em_we _ _ _ _)) (fun k => ⟨(f.2 33 k (by decide)).1.trans (em_wn _ _ (by omega)), (f.2 35 k (by decide)).1.trans (em_wn _ _ (by omega))⟩)⟩)
  | false =>
    refine am_goX 1 (show (¬ (pz_b (false)) = 0 → pz_S 4 (some .boolean) am_r84 5 Q 19 [(0, .ref 5), (1, .ref 32), (2, .ref 17)] [] h) ∧ (¬ ¬ (pz_b (false)) = 0 → pz_S 4 (some .boolean) am_r84 5 Q 10 [(0, .ref 5), (1, .ref 32), (2, .ref 17)] [] h) from ⟨fun hz => absurd hz (by decide), fun _ => ?_⟩)
    refine am_goX 2 (show am_sh h 5 = some (9, 0) ∧ pz_S 4 (some .boolean) am_r84 5 Q 14 [(0, .ref 5), (1, .ref 32), (2, .ref 17)] [am_rf (h.2.2.1 5 0)] h from ⟨ex_5 hP, ?_⟩)
    rw [ex_r5_0 (h := h) hP]
    refine am_goX 2 (show am_rc h 1 7 ∧ 0 ≤ 8 ∧ h.2.2.2.2 + am_al 52 ≤ 175 ∧ am_call am_cod 5 52 [.ref 1, .int (Int32.ofInt 1)] h (fun vv h' => pz_S 4 (some .boolean) am_r84 5 Q 18 [(0, .ref 5), (1, .ref 32), (2, .ref 17)] (vv.toList ++ []) h') from ⟨Or.inl ⟨by decide, ex_1 hP⟩, by decide, ex_lim hP rfl, am_call.up (c_refuse l.1 ?_) (by decide)⟩)
    exact am_goX 1 (show (∃ ty, (some .boolean) = some ty ∧ narrow ty (.int ((Int32.ofInt 0))) = .int ((Int32.ofInt 0))) ∧ (am_wI h 1 7 (sp_ft (tt T sz) a (Int32.ofInt 1))).2.2.2.2 = 175 ∧ _ from ⟨⟨.boolean, rfl, rfl⟩, ex_175 hP, hF _ _ (by unfold sw_pn; rw [e1]; first | done | rfl) (cwr_x (s := (a, W)) l (by decide))⟩)
theorem c_82_32_17 (l : cwr h0 32 17 N T sz s h) (hF : ∀ F h1, sw_line (tt T sz) N s = .inl F → cwx h0 32 F h1 → Q (some (.int 0)) h1) (hS : ∀ t h1, sw_line (tt T sz) N s = .inr t → cwr h0 32 17 N T sz t h1 → Q (some (.int 1)) h1) : am_call am_cod 7 82 [.ref 5, .ref 32, .ref 17] h Q := by
  have hP := c_P l.1
  obtain ⟨a, W⟩ := s
  have a1 : h.1 32 3 = nI W.1 := l.2.1.1
  have a2 : W.1 ≤ 40 := l.2.1.2.1
  refine pz_call (n := 82) (nL := 5) (rt := (some .boolean)) (rows := am_r82) (d := 6) (by decide +kernel) (by decide +kernel) rfl (by funext pc; rfl) (ex_175 hP) (by exact Nat.le_of_ble_eq_true rfl) ?_
  refine am_goX 2 (show am_rc h 5 9 ∧ 0 ≤ 8 ∧ h.2.2.2.2 + am_al 83 ≤ 175 ∧ am_call am_cod 6 83 [.ref 5] h (fun vv h' => pz_S 5 (some .boolean) am_r82 6 Q 4 [(0, .ref 5), (1, .ref 32), (2, .ref 17)] (vv.toList ++ []) h') from ⟨Or.inl ⟨by decide, ex_5 hP⟩, by decide, ex_lim hP rfl, am_call.up (c_83 l.1 ?_) (by decide)⟩)
  rcases sw_act_cs (tt T sz) a with e1 | ⟨e1 | e1 | e1, hn⟩
  · rw [e1]
    refine am_goX 4 (show 3 < 5 ∧ (¬ (Int32.ofInt (-1)) = (Int32.ofInt (-1)) → pz_S 5 (some .boolean) am_r82 6 Q 19 [(3, .int (Int32.ofInt (-1))), (0, .ref 5), (1, .ref 32), (2, .ref 17)] [] h) ∧ (¬ ¬ (Int32.ofInt (-1)) = (Int32.ofInt (-1)) → pz_S 5 (some .boolean) am_r82 6 Q 10 [(3, .int (Int32.ofInt (-1))), (0, .ref 5), (1, .ref 32), (2, .ref 17)] [] h) from ⟨by decide, fun hz => absurd hz (by decide), fun _ => ?_⟩)
    refine am_goX 2 (show am_sh h 5 = some (9, 0) ∧ pz_S 5 (some .boolean) am_r82 6 Q 14 [(3, .int (Int32.ofInt (-1))), (0, .ref 5), (1, .ref 32), (2, .ref 17)] [am_rf (h.2.2.1 5 0)] h from ⟨ex_5 hP, ?_⟩)
    rw [ex_r5_0 (h := h) hP]
    refine am_goX 2 (show am_rc h 1 7 ∧ 0 ≤ 8 ∧ h.2.2.2.2 + am_al 52 ≤ 175 ∧ am_call am_cod 6 52 [.ref 1, .int (Int32.ofInt 1)] h (fun vv h' => pz_S 5 (some .boolean) am_r82 6 Q 18 [(3, .int (Int32.ofInt (-1))), (0, .ref 5), (1, .ref 32), (2, .ref 17)] (vv.toList ++ []) h') from ⟨Or.inl ⟨by decide, ex_1 hP⟩, by decide, ex_lim hP rfl, am_call.up (c_refuse l.1 ?_) (by decide)⟩)
    exact am_goX 1 (show (∃ ty, (some .boolean) = some ty ∧ narrow ty (.int ((Int32.ofInt 0))) = .int ((Int32.ofInt 0))) ∧ (am_wI h 1 7 (sp_ft (tt T sz) a (Int32.ofInt 1))).2.2.2.2 = 175 ∧ _ from ⟨⟨.boolean, rfl, rfl⟩, ex_175 hP, hF _ _ (by unfold sw_line; dsimp only; simp only [e1]) (cwr_x (s := (a, W)) l (by decide))⟩)
  · rw [e1]
    refine am_goX 4 (show 3 < 5 ∧ (¬ 0 = (Int32.ofInt (-1)) → pz_S 5 (some .boolean) am_r82 6 Q 19 [(3, .int 0), (0, .ref 5), (1, .ref 32), (2, .ref 17)] [] h) ∧ (¬ ¬ 0 = (Int32.ofInt (-1)) → pz_S 5 (some .boolean) am_r82 6 Q 10 [(3, .int 0), (0, .ref 5), (1, .ref 32), (2, .ref 17)] [] h) from ⟨by decide, fun _ => ?_, fun hz => absurd (by decide) hz⟩)
    refine am_goX 2 (show am_sh h 32 = some (8, 0) ∧ pz_S 5 (some .boolean) am_r82 6 Q 23 [(3, .int 0), (0, .ref 5), (1, .ref 32), (2, .ref 17)] [.int (h.1 32 3)] h from ⟨ex_32 hP, ?_⟩)
    rw [a1]
    refine am_goX 3 (show 4 < 5 ∧ pz_S 5 (some .boolean) am_r82 6 Q 29 [(4, .int (nI W.1)), (3, .int 0), (0, .ref 5), (1, .ref 32), (2, .ref 17)] [.int (Int8.ofInt 40).toInt32, .int (nI W.1)] h from ⟨by decide, ?_⟩)
    cases e2 : Nat.ble 40 W.1 with
    | true =>
      refine am_goX 1 (show ((nI W.1) < (Int8.ofInt 40).toInt32 → pz_S 5 (some .boolean) am_r82 6 Q 41 [(4, .int (nI W.1)), (3, .int 0), (0, .ref 5), (1, .ref 32), (2, .ref 17)] [] h) ∧ (¬ ((nI W.1) < (Int8.ofInt 40).toInt32) → pz_S 5 (some .boolean) am_r82 6 Q 32 [(4, .int (nI W.1)), (3, .int 0), (0, .ref 5), (1, .ref 32), (2, .ref 17)] [] h) from ⟨fun hz => absurd hz (i40 e2 a2), fun _ => ?_⟩)
      refine am_goX 2 (show am_sh h 5 = some (9, 0) ∧ pz_S 5 (some .boolean) am_r82 6 Q 36 [(4, .int (nI W.1)), (3, .int 0), (0, .ref 5), (1, .ref 32), (2, .ref 17)] [am_rf (h.2.2.1 5 0)] h from ⟨ex_5 hP, ?_⟩)
      rw [ex_r5_0 (h := h) hP]
      refine am_goX 2 (show am_rc h 1 7 ∧ 0 ≤ 8 ∧ h.2.2.2.2 + am_al 52 ≤ 175 ∧ am_call am_cod 6 52 [.ref 1, .int (Int32.ofInt 5)] h (fun vv h' => pz_S 5 (some .boolean) am_r82 6 Q 40 [(4, .int (nI W.1)), (3, .int 0), (0, .ref 5), (1, .ref 32), (2, .ref 17)] (vv.toList ++ []) h') from ⟨Or.inl ⟨by decide, ex_1 hP⟩, by decide, ex_lim hP rfl, am_call.up (c_refuse l.1 ?_) (by decide)⟩)
      exact am_goX 1 (show (∃ ty, (some .boolean) = some ty ∧ narrow ty (.int ((Int32.ofInt 0))) = .int ((Int32.ofInt 0))) ∧ (am_wI h 1 7 (sp_ft (tt T sz) a (Int32.ofInt 5))).2.2.2.2 = 175 ∧ _ from ⟨⟨.boolean, rfl, rfl⟩, ex_175 hP, hF _ _ (by unfold sw_line; dsimp only; simp only [e1, e2, cond_true]) (cwr_x (s := (a, W)) l (by decide))⟩)
    | false =>
      refine am_goX 1 (show ((nI W.1) < (Int8.ofInt 40).toInt32 → pz_S 5 (some .boolean) am_r82 6 Q 41 [(4, .int (nI W.1)), (3, .int 0), (0, .ref 5), (1, .ref 32), (2, .ref 17)] [] h) ∧ (¬ ((nI W.1) < (Int8.ofInt 40).toInt32) → pz_S 5 (some .boolean) am_r82 6 Q 32 [(4, .int (nI W.1)), (3, .int 0), (0, .ref 5), (1, .ref 32), (2, .ref 17)] [] h) from ⟨fun _ => ?_, fun hz => absurd (j40 e2) hz⟩)
      have hlt := j40n e2
      refine am_goX 2 (show am_sh h 32 = some (8, 0) ∧ pz_S 5 (some .boolean) am_r82 6 Q 45 [(4, .int (nI W.1)), (3, .int 0), (0, .ref 5), (1, .ref 32), (2, .ref 17)] [am_rf (h.2.2.1 32 0)] h from ⟨ex_32 hP, ?_⟩)
      rw [ex_r32_0 (h := h) hP]
      refine am_goX 3 (show ∃ jj nn : Nat, am_so h 33 = some (13, nn) ∧ jj < nn ∧ (nI W.1) = nI jj ∧ pz_S 5 (some .boolean) am_r82 6 Q 49 [(4, .int (nI W.1)), (3, .int 0), (0, .ref 5), (1, .ref 32), (2, .ref 17)] [] (am_wI h 33 jj 0) from ⟨W.1, 40, ex_w33 hP, by omega, rfl, ?_⟩)
      have l2 : cwr h0 32 17 N T sz (a, W) (am_wI h 33 (W.1) 0) := cwr_w (by decide) (by decide) l (Or.inl rfl) (Nat.le_refl _)
      refine am_goX 2 (show am_sh (am_wI h 33 (W.1) 0) 32 = some (8, 0) ∧ pz_S 5 (some .boolean) am_r82 6 Q 53 [(4, .int (nI W.1)), (3, .int 0), (0, .ref 5), (1, .ref 32), (2, .ref 17)] [am_rf ((am_wI h 33 (W.1) 0).2.2.1 32 1)] (am_wI h 33 (W.1) 0) from ⟨ex_32 (c_P l2.1), ?_⟩)
      rw [ex_r32_1 (h := am_wI h 33 (W.1) 0) (c_P l2.1)]
      refine am_goX 3 (show ∃ jj nn : Nat, am_so (am_wI h 33 (W.1) 0) 34 = some (13, nn) ∧ jj < nn ∧ (nI W.1) = nI jj ∧ pz_S 5 (some .boolean) am_r82 6 Q 57 [(4, .int (nI W.1)), (3, .int 0), (0, .ref 5), (1, .ref 32), (2, .ref 17)] [] (am_wI (am_wI h 33 (W.1) 0) 34 jj 0) from ⟨W.1, 40, ex_w34 (c_P l2.1), by omega, rfl, ?_⟩)
      have l3 : cwr h0 32 17 N T sz (a, W) (am_wI (am_wI h 33 (W.1) 0) 34 (W.1) 0) := cwr_w (by decide) (by decide) l2 (Or.inr (Or.inl rfl)) (Nat.le_refl _)
      refine am_goX 2 (show am_sh (am_wI (am_wI h 33 (W.1) 0) 34 (W.1) 0) 32 = some (8, 0) ∧ pz_S 5 (some .boolean) am_r82 6 Q 61 [(4, .int (nI W.1)), (3, .int 0), (0, .ref 5), (1, .ref 32), (2, .ref 17)] [am_rf ((am_wI (am_wI h 33 (W.1) 0) 34 (W.1) 0).2.2.1 32 2)] (am_wI (am_wI h 33 (W.1) 0) 34 (W.1) 0) from ⟨ex_32 (c_P l3.1), ?_⟩)
      rw [ex_r32_2 (h := am_wI (am_wI h 33 (W.1) 0) 34 (W.1) 0) (c_P l3.1)]
      refine am_goX 3 (show ∃ jj nn : Nat, am_so (am_wI (am_wI h 33 (W.1) 0) 34 (W.1) 0) 35 = some (13, nn) ∧ jj < nn ∧ (nI W.1) = nI jj ∧ pz_S 5 (some .boolean) am_r82 6 Q 65 [(4, .int (nI W.1)), (3, .int 0), (0, .ref 5), (1, .ref 32), (2, .ref 17)] [] (am_wI (am_wI (am_wI h 33 (W.1) 0) 34 (W.1) 0) 35 jj 0) from ⟨W.1, 40, ex_w35 (c_P l3.1), by omega, rfl, ?_⟩)
      have l4 : cwr h0 32 17 N T sz (a, W) (am_wI (am_wI (am_wI h 33 (W.1) 0) 34 (W.1) 0) 35 (W.1) 0) := cwr_w (by decide) (by decide) l3 (Or.inr (Or.inr rfl)) (Nat.le_refl _)
      have x1 : (am_wI (am_wI (am_wI h 33 (W.1) 0) 34 (W.1) 0) 35 (W.1) 0).1 33 W.1 = 0 := by rw [em_wn _ _ (by omega), em_wn _ _ (by omega), em_we]
      have x2 : (am_wI (am_wI (am_wI h 33 (W.1) 0) 34 (W.1) 0) 35 (W.1) 0).1 34 W.1 = 0 := by rw [em_wn _ _ (by omega), em_we]
      have x3 : (am_wI (am_wI (am_wI h 33 (W.1) 0) 34 (W.1) 0) 35 (W.1) 0).1 35 W.1 = 0 := em_we _ _ _ _
      refine am_goX 2 (show am_sh (am_wI (am_wI (am_wI h 33 (W.1) 0) 34 (W.1) 0) 35 (W.1) 0) 5 = some (9, 0) ∧ pz_S 5 (some .boolean) am_r82 6 Q 69 [(4, .int (nI W.1)), (3, .int 0), (0, .ref 5), (1, .ref 32), (2, .ref 17)] [am_rf ((am_wI (am_wI (am_wI h 33 (W.1) 0) 34 (W.1) 0) 35 (W.1) 0).2.2.1 5 0)] (am_wI (am_wI (am_wI h 33 (W.1) 0) 34 (W.1) 0) 35 (W.1) 0) from ⟨ex_5 (c_P l4.1), ?_⟩)
      rw [ex_r5_0 (h := am_wI (am_wI (am_wI h 33 (W.1) 0) 34 (W.1) 0) 35 (W.1) 0) (c_P l4.1)]
      refine am_goX 1 (show am_rc (am_wI (am_wI (am_wI h 33 (W.1) 0) 34 (W.1) 0) 35 (W.1) 0) 1 7 ∧ 0 ≤ 8 ∧ (am_wI (am_wI (am_wI h 33 (W.1) 0) 34 (W.1) 0) 35 (W.1) 0).2.2.2.2 + am_al 18 ≤ 175 ∧ am_call am_cod 6 18 [.ref 1] (am_wI (am_wI (am_wI h 33 (W.1) 0) 34 (W.1) 0) 35 (W.1) 0) (fun vv h' => pz_S 5 (some .boolean) am_r82 6 Q 72 [(4, .int (nI W.1)), (3, .int 0), (0, .ref 5), (1, .ref 32), (2, .ref 17)] (vv.toList ++ []) h') from ⟨Or.inl ⟨by decide, ex_1 (c_P l4.1)⟩, by decide, ex_lim (c_P l4.1) rfl, am_call.up (c_step l4.1 hn (fun h3 m f => ?_)) (by decide)⟩)
      have l5 := cwr_fr (by decide) (by decide) l4 m f
      have x1 := (f.2 33 W.1 (by decide)).1.trans x1
      have x2 := (f.2 34 W.1 (by decide)).1.trans x2
      have x3 := (f.2 35 W.1 (by decide)).1.trans x3
      refine am_goX 2 (show (0 = 0 → pz_S 5 (some .boolean) am_r82 6 Q 87 [(4, .int (nI W.1)), (3, .int 0), (0, .ref 5), (1, .ref 32), (2, .ref 17)] [] h3) ∧ (¬ (0 = 0) → pz_S 5 (some .boolean) am_r82 6 Q 76 [(4, .int (nI W.1)), (3, .int 0), (0, .ref 5), (1, .ref 32), (2, .ref 17)] [] h3) from ⟨fun _ => ?_, fun hz => absurd (by decide) hz⟩)
      refine am_goX 3 (show (¬ 0 = (Int32.ofInt 1) → pz_S 5 (some .boolean) am_r82 6 Q 102 [(4, .int (nI W.1)), (3, .int 0), (0, .ref 5), (1, .ref 32), (2, .ref 17)] [] h3) ∧ (¬ ¬ 0 = (Int32.ofInt 1) → pz_S 5 (some .boolean) am_r82 6 Q 92 [(4, .int (nI W.1)), (3, .int 0), (0, .ref 5), (1, .ref 32), (2, .ref 17)] [] h3) from ⟨fun _ => ?_, fun hz => absurd (by decide) hz⟩)
      refine am_goX 6 (show (Value.ref 32).category = 1 ∧ am_sh h3 32 = some (8, 0) ∧ am_sh h3 32 = some (8, 0) ∧ narrow (am_fty 8 3) (.int (((h3.1 32 3) + (Int32.ofInt 1)))) = .int (((h3.1 32 3) + (Int32.ofInt 1))) ∧ fits (am_fty 8 3) (.int (((h3.1 32 3) + (Int32.ofInt 1)))) = true ∧ pz_S 5 (some .boolean) am_r82 6 Q 112 [(4, .int (nI W.1)), (3, .int 0), (0, .ref 5), (1, .ref 32), (2, .ref 17)] [] (am_wI h3 32 3 (((h3.1 32 3) + (Int32.ofInt 1)))) from ⟨rfl, ex_32 (c_P l5.1), ex_32 (c_P l5.1), rfl, rfl, ?_⟩)
      rw [show h3.1 32 3 = nI W.1 from l5.2.1.1, xw_i1]
      have l9 : cwr h0 32 17 N T sz (a + 1, sw_ad W 0 0 0) (am_wI h3 32 3 (nI (W.1 + 1))) := cwr_P (by decide) (by decide) l5 hlt x1 x2 x3
      refine am_goX 2 (show am_sh (am_wI h3 32 3 (nI (W.1 + 1))) 5 = some (9, 0) ∧ pz_S 5 (some .boolean) am_r82 6 Q 116 [(4, .int (nI W.1)), (3, .int 0), (0, .ref 5), (1, .ref 32), (2, .ref 17)] [am_rf ((am_wI h3 32 3 (nI (W.1 + 1))).2.2.1 5 0)] (am_wI h3 32 3 (nI (W.1 + 1))) from ⟨ex_5 (c_P l9.1), ?_⟩)
      rw [ex_r5_0 (h := am_wI h3 32 3 (nI (W.1 + 1))) (c_P l9.1)]
      refine am_goX 2 (show am_rc (am_wI h3 32 3 (nI (W.1 + 1))) 1 7 ∧ 0 ≤ 8 ∧ (am_wI h3 32 3 (nI (W.1 + 1))).2.2.2.2 + am_al 61 ≤ 175 ∧ am_call am_cod 6 61 [.ref 1, .int (Int8.ofInt 59).toInt32] (am_wI h3 32 3 (nI (W.1 + 1))) (fun vv h' => pz_S 5 (some .boolean) am_r82 6 Q 121 [(4, .int (nI W.1)), (3, .int 0), (0, .ref 5), (1, .ref 32), (2, .ref 17)] (vv.toList ++ []) h') from ⟨Or.inl ⟨by decide, ex_1 (c_P l9.1)⟩, by decide, ex_lim (c_P l9.1) rfl, am_call.up (c_tSt l9.1 (fun e9 h9 m9 f9 => ?_) (fun e9 => ?_)) (by decide)⟩)
      ·
        exact am_goX 1 (show (∃ ty, (some .boolean) = some ty ∧ narrow ty (.int (1)) = .int (1)) ∧ h9.2.2.2.2 = 175 ∧ _ from ⟨⟨.boolean, rfl, rfl⟩, ex_175 (c_P m9), hS (a + 1 + 1, sw_ad W 0 0 0) h9 (by unfold sw_line; dsimp only; simp only [e1, e2, decide_true, cond_true, cond_false, show decide ((0 : Int32) = 0) = true from by decide, show decide ((0 : Int32) = 1) = false from by decide, sw_end, e9]) (cwr_fr (by decide) (by decide) l9 m9 f9)⟩)
      ·
        have hP9 : ex_P (am_wI h3 32 3 (nI (W.1 + 1))) := c_P l9.1
        exact am_goX 1 (show (∃ ty, (some .boolean) = some ty ∧ narrow ty (.int (0)) = .int (0)) ∧ (am_wI (am_wI h3 32 3 (nI (W.1 + 1))) 1 7 (sp_ft (tt T sz) (a + 1) (Int32.ofInt 1))).2.2.2.2 = 175 ∧ _ from ⟨⟨.boolean, rfl, rfl⟩, ex_175 hP9, hF _ _ (by unfold sw_line; dsimp only; simp only [e1, e2, decide_true, cond_true, cond_false, show decide ((0 : Int32) = 0) = true from by decide, show decide ((0 : Int32) = 1) = false from by decide, sw_end, e9]) (cwr_x (s := (a + 1, sw_ad W 0 0 0)) l9 (by decide))⟩)
  · rw [e1]
    refine am_goX 4 (show 3 < 5 ∧ (¬ 1 = (Int32.ofInt (-1)) → pz_S 5 (some .boolean) am_r82 6 Q 19 [(3, .int 1), (0, .ref 5), (1, .ref 32), (2, .ref 17)] [] h) ∧ (¬ ¬ 1 = (Int32.ofInt (-1)) → pz_S 5 (some .boolean) am_r82 6 Q 10 [(3, .int 1), (0, .ref 5), (1, .ref 32), (2, .ref 17)] [] h) from ⟨by decide, fun _ => ?_, fun hz => absurd (by decide) hz⟩)
    refine am_goX 2 (show am_sh h 32 = some (8, 0) ∧ pz_S 5 (some .boolean) am_r82 6 Q 23 [(3, .int 1), (0, .ref 5), (1, .ref 32), (2, .ref 17)] [.int (h.1 32 3)] h from ⟨ex_32 hP, ?_⟩)
    rw [a1]
    refine am_goX 3 (show 4 < 5 ∧ pz_S 5 (some .boolean) am_r82 6 Q 29 [(4, .int (nI W.1)), (3, .int 1), (0, .ref 5), (1, .ref 32), (2, .ref 17)] [.int (Int8.ofInt 40).toInt32, .int (nI W.1)] h from ⟨by decide, ?_⟩)
    cases e2 : Nat.ble 40 W.1 with
    | true =>
      refine am_goX 1 (show ((nI W.1) < (Int8.ofInt 40).toInt32 → pz_S 5 (some .boolean) am_r82 6 Q 41 [(4, .int (nI W.1)), (3, .int 1), (0, .ref 5), (1, .ref 32), (2, .ref 17)] [] h) ∧ (¬ ((nI W.1) < (Int8.ofInt 40).toInt32) → pz_S 5 (some .boolean) am_r82 6 Q 32 [(4, .int (nI W.1)), (3, .int 1), (0, .ref 5), (1, .ref 32), (2, .ref 17)] [] h) from ⟨fun hz => absurd hz (i40 e2 a2), fun _ => ?_⟩)
      refine am_goX 2 (show am_sh h 5 = some (9, 0) ∧ pz_S 5 (some .boolean) am_r82 6 Q 36 [(4, .int (nI W.1)), (3, .int 1), (0, .ref 5), (1, .ref 32), (2, .ref 17)] [am_rf (h.2.2.1 5 0)] h from ⟨ex_5 hP, ?_⟩)
      rw [ex_r5_0 (h := h) hP]
      refine am_goX 2 (show am_rc h 1 7 ∧ 0 ≤ 8 ∧ h.2.2.2.2 + am_al 52 ≤ 175 ∧ am_call am_cod 6 52 [.ref 1, .int (Int32.ofInt 5)] h (fun vv h' => pz_S 5 (some .boolean) am_r82 6 Q 40 [(4, .int (nI W.1)), (3, .int 1), (0, .ref 5), (1, .ref 32), (2, .ref 17)] (vv.toList ++ []) h') from ⟨Or.inl ⟨by decide, ex_1 hP⟩, by decide, ex_lim hP rfl, am_call.up (c_refuse l.1 ?_) (by decide)⟩)
      exact am_goX 1 (show (∃ ty, (some .boolean) = some ty ∧ narrow ty (.int ((Int32.ofInt 0))) = .int ((Int32.ofInt 0))) ∧ (am_wI h 1 7 (sp_ft (tt T sz) a (Int32.ofInt 5))).2.2.2.2 = 175 ∧ _ from ⟨⟨.boolean, rfl, rfl⟩, ex_175 hP, hF _ _ (by unfold sw_line; dsimp only; simp only [e1, e2, cond_true]) (cwr_x (s := (a, W)) l (by decide))⟩)
    | false =>
      refine am_goX 1 (show ((nI W.1) < (Int8.ofInt 40).toInt32 → pz_S 5 (some .boolean) am_r82 6 Q 41 [(4, .int (nI W.1)), (3, .int 1), (0, .ref 5), (1, .ref 32), (2, .ref 17)] [] h) ∧ (¬ ((nI W.1) < (Int8.ofInt 40).toInt32) → pz_S 5 (some .boolean) am_r82 6 Q 32 [(4, .int (nI W.1)), (3, .int 1), (0, .ref 5), (1, .ref 32), (2, .ref 17)] [] h) from ⟨fun _ => ?_, fun hz => absurd (j40 e2) hz⟩)
      have hlt := j40n e2
      refine am_goX 2 (show am_sh h 32 = some (8, 0) ∧ pz_S 5 (some .boolean) am_r82 6 Q 45 [(4, .int (nI W.1)), (3, .int 1), (0, .ref 5), (1, .ref 32), (2, .ref 17)] [am_rf (h.2.2.1 32 0)] h from ⟨ex_32 hP, ?_⟩)
      rw [ex_r32_0 (h := h) hP]
      refine am_goX 3 (show ∃ jj nn : Nat, am_so h 33 = some (13, nn) ∧ jj < nn ∧ (nI W.1) = nI jj ∧ pz_S 5 (some .boolean) am_r82 6 Q 49 [(4, .int (nI W.1)), (3, .int 1), (0, .ref 5), (1, .ref 32), (2, .ref 17)] [] (am_wI h 33 jj 1) from ⟨W.1, 40, ex_w33 hP, by omega, rfl, ?_⟩)
      have l2 : cwr h0 32 17 N T sz (a, W) (am_wI h 33 (W.1) 1) := cwr_w (by decide) (by decide) l (Or.inl rfl) (Nat.le_refl _)
      refine am_goX 2 (show am_sh (am_wI h 33 (W.1) 1) 32 = some (8, 0) ∧ pz_S 5 (some .boolean) am_r82 6 Q 53 [(4, .int (nI W.1)), (3, .int 1), (0, .ref 5), (1, .ref 32), (2, .ref 17)] [am_rf ((am_wI h 33 (W.1) 1).2.2.1 32 1)] (am_wI h 33 (W.1) 1) from ⟨ex_32 (c_P l2.1), ?_⟩)
      rw [ex_r32_1 (h := am_wI h 33 (W.1) 1) (c_P l2.1)]
      refine am_goX 3 (show ∃ jj nn : Nat, am_so (am_wI h 33 (W.1) 1) 34 = some (13, nn) ∧ jj < nn ∧ (nI W.1) = nI jj ∧ pz_S 5 (some .boolean) am_r82 6 Q 57 [(4, .int (nI W.1)), (3, .int 1), (0, .ref 5), (1, .ref 32), (2, .ref 17)] [] (am_wI (am_wI h 33 (W.1) 1) 34 jj 0) from ⟨W.1, 40, ex_w34 (c_P l2.1), by omega, rfl, ?_⟩)
      have l3 : cwr h0 32 17 N T sz (a, W) (am_wI (am_wI h 33 (W.1) 1) 34 (W.1) 0) := cwr_w (by decide) (by decide) l2 (Or.inr (Or.inl rfl)) (Nat.le_refl _)
      refine am_goX 2 (show am_sh (am_wI (am_wI h 33 (W.1) 1) 34 (W.1) 0) 32 = some (8, 0) ∧ pz_S 5 (some .boolean) am_r82 6 Q 61 [(4, .int (nI W.1)), (3, .int 1), (0, .ref 5), (1, .ref 32), (2, .ref 17)] [am_rf ((am_wI (am_wI h 33 (W.1) 1) 34 (W.1) 0).2.2.1 32 2)] (am_wI (am_wI h 33 (W.1) 1) 34 (W.1) 0) from ⟨ex_32 (c_P l3.1), ?_⟩)
      rw [ex_r32_2 (h := am_wI (am_wI h 33 (W.1) 1) 34 (W.1) 0) (c_P l3.1)]
      refine am_goX 3 (show ∃ jj nn : Nat, am_so (am_wI (am_wI h 33 (W.1) 1) 34 (W.1) 0) 35 = some (13, nn) ∧ jj < nn ∧ (nI W.1) = nI jj ∧ pz_S 5 (some .boolean) am_r82 6 Q 65 [(4, .int (nI W.1)), (3, .int 1), (0, .ref 5), (1, .ref 32), (2, .ref 17)] [] (am_wI (am_wI (am_wI h 33 (W.1) 1) 34 (W.1) 0) 35 jj 0) from ⟨W.1, 40, ex_w35 (c_P l3.1), by omega, rfl, ?_⟩)
      have l4 : cwr h0 32 17 N T sz (a, W) (am_wI (am_wI (am_wI h 33 (W.1) 1) 34 (W.1) 0) 35 (W.1) 0) := cwr_w (by decide) (by decide) l3 (Or.inr (Or.inr rfl)) (Nat.le_refl _)
      have x1 : (am_wI (am_wI (am_wI h 33 (W.1) 1) 34 (W.1) 0) 35 (W.1) 0).1 33 W.1 = 1 := by rw [em_wn _ _ (by omega), em_wn _ _ (by omega), em_we]
      have x2 : (am_wI (am_wI (am_wI h 33 (W.1) 1) 34 (W.1) 0) 35 (W.1) 0).1 34 W.1 = 0 := by rw [em_wn _ _ (by omega), em_we]
      have x3 : (am_wI (am_wI (am_wI h 33 (W.1) 1) 34 (W.1) 0) 35 (W.1) 0).1 35 W.1 = 0 := em_we _ _ _ _
      refine am_goX 2 (show am_sh (am_wI (am_wI (am_wI h 33 (W.1) 1) 34 (W.1) 0) 35 (W.1) 0) 5 = some (9, 0) ∧ pz_S 5 (some .boolean) am_r82 6 Q 69 [(4, .int (nI W.1)), (3, .int 1), (0, .ref 5), (1, .ref 32), (2, .ref 17)] [am_rf ((am_wI (am_wI (am_wI h 33 (W.1) 1) 34 (W.1) 0) 35 (W.1) 0).2.2.1 5 0)] (am_wI (am_wI (am_wI h 33 (W.1) 1) 34 (W.1) 0) 35 (W.1) 0) from ⟨ex_5 (c_P l4.1), ?_⟩)
      rw [ex_r5_0 (h := am_wI (am_wI (am_wI h 33 (W.1) 1) 34 (W.1) 0) 35 (W.1) 0) (c_P l4.1)]
      refine am_goX 1 (show am_rc (am_wI (am_wI (am_wI h 33 (W.1) 1) 34 (W.1) 0) 35 (W.1) 0) 1 7 ∧ 0 ≤ 8 ∧ (am_wI (am_wI (am_wI h 33 (W.1) 1) 34 (W.1) 0) 35 (W.1) 0).2.2.2.2 + am_al 18 ≤ 175 ∧ am_call am_cod 6 18 [.ref 1] (am_wI (am_wI (am_wI h 33 (W.1) 1) 34 (W.1) 0) 35 (W.1) 0) (fun vv h' => pz_S 5 (some .boolean) am_r82 6 Q 72 [(4, .int (nI W.1)), (3, .int 1), (0, .ref 5), (1, .ref 32), (2, .ref 17)] (vv.toList ++ []) h') from ⟨Or.inl ⟨by decide, ex_1 (c_P l4.1)⟩, by decide, ex_lim (c_P l4.1) rfl, am_call.up (c_step l4.1 hn (fun h3 m f => ?_)) (by decide)⟩)
      have l5 := cwr_fr (by decide) (by decide) l4 m f
      have x1 := (f.2 33 W.1 (by decide)).1.trans x1
      have x2 := (f.2 34 W.1 (by decide)).1.trans x2
      have x3 := (f.2 35 W.1 (by decide)).1.trans x3
      refine am_goX 2 (show (1 = 0 → pz_S 5 (some .boolean) am_r82 6 Q 87 [(4, .int (nI W.1)), (3, .int 1), (0, .ref 5), (1, .ref 32), (2, .ref 17)] [] h3) ∧ (¬ (1 = 0) → pz_S 5 (some .boolean) am_r82 6 Q 76 [(4, .int (nI W.1)), (3, .int 1), (0, .ref 5), (1, .ref 32), (2, .ref 17)] [] h3) from ⟨fun hz => absurd hz (by decide), fun _ => ?_⟩)
      refine am_goX 4 (show am_rc h3 5 9 ∧ 0 ≤ 8 ∧ h3.2.2.2.2 + am_al 84 ≤ 175 ∧ am_call am_cod 6 84 [.ref 5, .ref 32, .ref 17] h3 (fun vv h' => pz_S 5 (some .boolean) am_r82 6 Q 82 [(4, .int (nI W.1)), (3, .int 1), (0, .ref 5), (1, .ref 32), (2, .ref 17)] (vv.toList ++ []) h') from ⟨Or.inl ⟨by decide, ex_5 (c_P l5.1)⟩, by decide, ex_lim (c_P l5.1) rfl, c_84_32_17 hlt l5 (fun F h6 e6 y => ?_) (fun p h6 e6 l6 y1 y2 => ?_)⟩)
      ·
        refine am_goX 1 (show (¬ 0 = 0 → pz_S 5 (some .boolean) am_r82 6 Q 87 [(4, .int (nI W.1)), (3, .int 1), (0, .ref 5), (1, .ref 32), (2, .ref 17)] [] h6) ∧ (¬ ¬ 0 = 0 → pz_S 5 (some .boolean) am_r82 6 Q 85 [(4, .int (nI W.1)), (3, .int 1), (0, .ref 5), (1, .ref 32), (2, .ref 17)] [] h6) from ⟨fun hz => absurd hz (by decide), fun _ => ?_⟩)
        exact am_goX 2 (show (∃ ty, (some .boolean) = some ty ∧ narrow ty (.int ((Int32.ofInt 0))) = .int ((Int32.ofInt 0))) ∧ h6.2.2.2.2 = 175 ∧ _ from ⟨⟨.boolean, rfl, rfl⟩, ex_175 y.1, hF F h6 (by unfold sw_line; dsimp only; simp only [e1, e2, show decide ((1 : Int32) = 0) = false from by decide, show decide ((1 : Int32) = 1) = true from by decide, decide_true, cond_true, cond_false, e6]) y⟩)
      ·
        have x1 := (y2 W.1).1.trans x1
        have x2 := y1
        have x3 := (y2 W.1).2.trans x3
        refine am_goX 1 (show (¬ 1 = 0 → pz_S 5 (some .boolean) am_r82 6 Q 87 [(4, .int (nI W.1)), (3, .int 1), (0, .ref 5), (1, .ref 32), (2, .ref 17)] [] h6) ∧ (¬ ¬ 1 = 0 → pz_S 5 (some .boolean) am_r82 6 Q 85 [(4, .int (nI W.1)), (3, .int 1), (0, .ref 5), (1, .ref 32), (2, .ref 17)] [] h6) from ⟨fun _ => ?_, fun hz => absurd (by decide) hz⟩)
        refine am_goX 3 (show (¬ 1 = (Int32.ofInt 1) → pz_S 5 (some .boolean) am_r82 6 Q 102 [(4, .int (nI W.1)), (3, .int 1), (0, .ref 5), (1, .ref 32), (2, .ref 17)] [] h6) ∧ (¬ ¬ 1 = (Int32.ofInt 1) → pz_S 5 (some .boolean) am_r82 6 Q 92 [(4, .int (nI W.1)), (3, .int 1), (0, .ref 5), (1, .ref 32), (2, .ref 17)] [] h6) from ⟨fun hz => absurd hz (by decide), fun _ => ?_⟩)
        refine am_goX 3 (show am_rc h6 5 9 ∧ 0 ≤ 8 ∧ h6.2.2.2.2 + am_al 85 ≤ 175 ∧ am_call am_cod 6 85 [.ref 5, .ref 32] h6 (fun vv h' => pz_S 5 (some .boolean) am_r82 6 Q 97 [(4, .int (nI W.1)), (3, .int 1), (0, .ref 5), (1, .ref 32), (2, .ref 17)] (vv.toList ++ []) h') from ⟨Or.inl ⟨by decide, ex_5 (c_P l6.1)⟩, by decide, ex_lim (c_P l6.1) rfl, c_85_32 (by decide) (by decide) hlt l6 (fun F h7 e7 y => ?_) (fun v h7 e7 l7 y3 y4 => ?_)⟩)
        ·
          refine am_goX 1 (show (¬ 0 = 0 → pz_S 5 (some .boolean) am_r82 6 Q 102 [(4, .int (nI W.1)), (3, .int 1), (0, .ref 5), (1, .ref 32), (2, .ref 17)] [] h7) ∧ (¬ ¬ 0 = 0 → pz_S 5 (some .boolean) am_r82 6 Q 100 [(4, .int (nI W.1)), (3, .int 1), (0, .ref 5), (1, .ref 32), (2, .ref 17)] [] h7) from ⟨fun hz => absurd hz (by decide), fun _ => ?_⟩)
          exact am_goX 2 (show (∃ ty, (some .boolean) = some ty ∧ narrow ty (.int ((Int32.ofInt 0))) = .int ((Int32.ofInt 0))) ∧ h7.2.2.2.2 = 175 ∧ _ from ⟨⟨.boolean, rfl, rfl⟩, ex_175 y.1, hF F h7 (by unfold sw_line; dsimp only; simp only [e1, e2, show decide ((1 : Int32) = 0) = false from by decide, show decide ((1 : Int32) = 1) = true from by decide, decide_true, cond_true, cond_false, e6, e7]) y⟩)
        ·
          have x1 := (y4 W.1).1.trans x1
          have x2 := (y4 W.1).2.trans x2
          have x3 := y3
          refine am_goX 1 (show (¬ 1 = 0 → pz_S 5 (some .boolean) am_r82 6 Q 102 [(4, .int (nI W.1)), (3, .int 1), (0, .ref 5), (1, .ref 32), (2, .ref 17)] [] h7) ∧ (¬ ¬ 1 = 0 → pz_S 5 (some .boolean) am_r82 6 Q 100 [(4, .int (nI W.1)), (3, .int 1), (0, .ref 5), (1, .ref 32), (2, .ref 17)] [] h7) from ⟨fun _ => ?_, fun hz => absurd (by decide) hz⟩)
          refine am_goX 6 (show (Value.ref 32).category = 1 ∧ am_sh h7 32 = some (8, 0) ∧ am_sh h7 32 = some (8, 0) ∧ narrow (am_fty 8 3) (.int (((h7.1 32 3) + (Int32.ofInt 1)))) = .int (((h7.1 32 3) + (Int32.ofInt 1))) ∧ fits (am_fty 8 3) (.int (((h7.1 32 3) + (Int32.ofInt 1)))) = true ∧ pz_S 5 (some .boolean) am_r82 6 Q 112 [(4, .int (nI W.1)), (3, .int 1), (0, .ref 5), (1, .ref 32), (2, .ref 17)] [] (am_wI h7 32 3 (((h7.1 32 3) + (Int32.ofInt 1)))) from ⟨rfl, ex_32 (c_P l7.1), ex_32 (c_P l7.1), rfl, rfl, ?_⟩)
          rw [show h7.1 32 3 = nI W.1 from l7.2.1.1, xw_i1]
          have l9 : cwr h0 32 17 N T sz (a + 1 + 1 + 1, sw_ad W 1 (nI p) v) (am_wI h7 32 3 (nI (W.1 + 1))) := cwr_P (by decide) (by decide) l7 hlt x1 x2 x3
          refine am_goX 2 (show am_sh (am_wI h7 32 3 (nI (W.1 + 1))) 5 = some (9, 0) ∧ pz_S 5 (some .boolean) am_r82 6 Q 116 [(4, .int (nI W.1)), (3, .int 1), (0, .ref 5), (1, .ref 32), (2, .ref 17)] [am_rf ((am_wI h7 32 3 (nI (W.1 + 1))).2.2.1 5 0)] (am_wI h7 32 3 (nI (W.1 + 1))) from ⟨ex_5 (c_P l9.1), ?_⟩)
          rw [ex_r5_0 (h := am_wI h7 32 3 (nI (W.1 + 1))) (c_P l9.1)]
          refine am_goX 2 (show am_rc (am_wI h7 32 3 (nI (W.1 + 1))) 1 7 ∧ 0 ≤ 8 ∧ (am_wI h7 32 3 (nI (W.1 + 1))).2.2.2.2 + am_al 61 ≤ 175 ∧ am_call am_cod 6 61 [.ref 1, .int (Int8.ofInt 59).toInt32] (am_wI h7 32 3 (nI (W.1 + 1))) (fun vv h' => pz_S 5 (some .boolean) am_r82 6 Q 121 [(4, .int (nI W.1)), (3, .int 1), (0, .ref 5), (1, .ref 32), (2, .ref 17)] (vv.toList ++ []) h') from ⟨Or.inl ⟨by decide, ex_1 (c_P l9.1)⟩, by decide, ex_lim (c_P l9.1) rfl, am_call.up (c_tSt l9.1 (fun e9 h9 m9 f9 => ?_) (fun e9 => ?_)) (by decide)⟩)
          ·
            exact am_goX 1 (show (∃ ty, (some .boolean) = some ty ∧ narrow ty (.int (1)) = .int (1)) ∧ h9.2.2.2.2 = 175 ∧ _ from ⟨⟨.boolean, rfl, rfl⟩, ex_175 (c_P m9), hS (a + 1 + 1 + 1 + 1, sw_ad W 1 (nI p) v) h9 (by unfold sw_line; dsimp only; simp only [e1, e2, e6, e7, decide_true, cond_true, cond_false, show decide ((1 : Int32) = 0) = false from by decide, show decide ((1 : Int32) = 1) = true from by decide, sw_end, e9]) (cwr_fr (by decide) (by decide) l9 m9 f9)⟩)
          ·
            have hP9 : ex_P (am_wI h7 32 3 (nI (W.1 + 1))) := c_P l9.1
            exact am_goX 1 (show (∃ ty, (some .boolean) = some ty ∧ narrow ty (.int (0)) = .int (0)) ∧ (am_wI (am_wI h7 32 3 (nI (W.1 + 1))) 1 7 (sp_ft (tt T sz) (a + 1 + 1 + 1) (Int32.ofInt 1))).2.2.2.2 = 175 ∧ _ from ⟨⟨.boolean, rfl, rfl⟩, ex_175 hP9, hF _ _ (by unfold sw_line; dsimp only; simp only [e1, e2, e6, e7, decide_true, cond_true, cond_false, show decide ((1 : Int32) = 0) = false from by decide, show decide ((1 : Int32) = 1) = true from by decide, sw_end, e9]) (cwr_x (s := (a + 1 + 1 + 1, sw_ad W 1 (nI p) v)) l9 (by decide))⟩)
  · rw [e1]
    refine am_goX 4 (show 3 < 5 ∧ (¬ 2 = (Int32.ofInt (-1)) → pz_S 5 (some .boolean) am_r82 6 Q 19 [(3, .int 2), (0, .ref 5), (1, .ref 32), (2, .ref 17)] [] h) ∧ (¬ ¬ 2 = (Int32.ofInt (-1)) → pz_S 5 (some .boolean) am_r82 6 Q 10 [(3, .int 2), (0, .ref 5), (1, .ref 32), (2, .ref 17)] [] h) from ⟨by decide, fun _ => ?_, fun hz => absurd (by decide) hz⟩)
    refine am_goX 2 (show am_sh h 32 = some (8, 0) ∧ pz_S 5 (some .boolean) am_r82 6 Q 23 [(3, .int 2), (0, .ref 5), (1, .ref 32), (2, .ref 17)] [.int (h.1 32 3)] h from ⟨ex_32 hP, ?_⟩)
    rw [a1]
    refine am_goX 3 (show 4 < 5 ∧ pz_S 5 (some .boolean) am_r82 6 Q 29 [(4, .int (nI W.1)), (3, .int 2), (0, .ref 5), (1, .ref 32), (2, .ref 17)] [.int (Int8.ofInt 40).toInt32, .int (nI W.1)] h from ⟨by decide, ?_⟩)
    cases e2 : Nat.ble 40 W.1 with
    | true =>
      refine am_goX 1 (show ((nI W.1) < (Int8.ofInt 40).toInt32 → pz_S 5 (some .boolean) am_r82 6 Q 41 [(4, .int (nI W.1)), (3, .int 2), (0, .ref 5), (1, .ref 32), (2, .ref 17)] [] h) ∧ (¬ ((nI W.1) < (Int8.ofInt 40).toInt32) → pz_S 5 (some .boolean) am_r82 6 Q 32 [(4, .int (nI W.1)), (3, .int 2), (0, .ref 5), (1, .ref 32), (2, .ref 17)] [] h) from ⟨fun hz => absurd hz (i40 e2 a2), fun _ => ?_⟩)
      refine am_goX 2 (show am_sh h 5 = some (9, 0) ∧ pz_S 5 (some .boolean) am_r82 6 Q 36 [(4, .int (nI W.1)), (3, .int 2), (0, .ref 5), (1, .ref 32), (2, .ref 17)] [am_rf (h.2.2.1 5 0)] h from ⟨ex_5 hP, ?_⟩)
      rw [ex_r5_0 (h := h) hP]
      refine am_goX 2 (show am_rc h 1 7 ∧ 0 ≤ 8 ∧ h.2.2.2.2 + am_al 52 ≤ 175 ∧ am_call am_cod 6 52 [.ref 1, .int (Int32.ofInt 5)] h (fun vv h' => pz_S 5 (some .boolean) am_r82 6 Q 40 [(4, .int (nI W.1)), (3, .int 2), (0, .ref 5), (1, .ref 32), (2, .ref 17)] (vv.toList ++ []) h') from ⟨Or.inl ⟨by decide, ex_1 hP⟩, by decide, ex_lim hP rfl, am_call.up (c_refuse l.1 ?_) (by decide)⟩)
      exact am_goX 1 (show (∃ ty, (some .boolean) = some ty ∧ narrow ty (.int ((Int32.ofInt 0))) = .int ((Int32.ofInt 0))) ∧ (am_wI h 1 7 (sp_ft (tt T sz) a (Int32.ofInt 5))).2.2.2.2 = 175 ∧ _ from ⟨⟨.boolean, rfl, rfl⟩, ex_175 hP, hF _ _ (by unfold sw_line; dsimp only; simp only [e1, e2, cond_true]) (cwr_x (s := (a, W)) l (by decide))⟩)
    | false =>
      refine am_goX 1 (show ((nI W.1) < (Int8.ofInt 40).toInt32 → pz_S 5 (some .boolean) am_r82 6 Q 41 [(4, .int (nI W.1)), (3, .int 2), (0, .ref 5), (1, .ref 32), (2, .ref 17)] [] h) ∧ (¬ ((nI W.1) < (Int8.ofInt 40).toInt32) → pz_S 5 (some .boolean) am_r82 6 Q 32 [(4, .int (nI W.1)), (3, .int 2), (0, .ref 5), (1, .ref 32), (2, .ref 17)] [] h) from ⟨fun _ => ?_, fun hz => absurd (j40 e2) hz⟩)
      have hlt := j40n e2
      refine am_goX 2 (show am_sh h 32 = some (8, 0) ∧ pz_S 5 (some .boolean) am_r82 6 Q 45 [(4, .int (nI W.1)), (3, .int 2), (0, .ref 5), (1, .ref 32), (2, .ref 17)] [am_rf (h.2.2.1 32 0)] h from ⟨ex_32 hP, ?_⟩)
      rw [ex_r32_0 (h := h) hP]
      refine am_goX 3 (show ∃ jj nn : Nat, am_so h 33 = some (13, nn) ∧ jj < nn ∧ (nI W.1) = nI jj ∧ pz_S 5 (some .boolean) am_r82 6 Q 49 [(4, .int (nI W.1)), (3, .int 2), (0, .ref 5), (1, .ref 32), (2, .ref 17)] [] (am_wI h 33 jj 2) from ⟨W.1, 40, ex_w33 hP, by omega, rfl, ?_⟩)
      have l2 : cwr h0 32 17 N T sz (a, W) (am_wI h 33 (W.1) 2) := cwr_w (by decide) (by decide) l (Or.inl rfl) (Nat.le_refl _)
      refine am_goX 2 (show am_sh (am_wI h 33 (W.1) 2) 32 = some (8, 0) ∧ pz_S 5 (some .boolean) am_r82 6 Q 53 [(4, .int (nI W.1)), (3, .int 2), (0, .ref 5), (1, .ref 32), (2, .ref 17)] [am_rf ((am_wI h 33 (W.1) 2).2.2.1 32 1)] (am_wI h 33 (W.1) 2) from ⟨ex_32 (c_P l2.1), ?_⟩)
      rw [ex_r32_1 (h := am_wI h 33 (W.1) 2) (c_P l2.1)]
      refine am_goX 3 (show ∃ jj nn : Nat, am_so (am_wI h 33 (W.1) 2) 34 = some (13, nn) ∧ jj < nn ∧ (nI W.1) = nI jj ∧ pz_S 5 (some .boolean) am_r82 6 Q 57 [(4, .int (nI W.1)), (3, .int 2), (0, .ref 5), (1, .ref 32), (2, .ref 17)] [] (am_wI (am_wI h 33 (W.1) 2) 34 jj 0) from ⟨W.1, 40, ex_w34 (c_P l2.1), by omega, rfl, ?_⟩)
      have l3 : cwr h0 32 17 N T sz (a, W) (am_wI (am_wI h 33 (W.1) 2) 34 (W.1) 0) := cwr_w (by decide) (by decide) l2 (Or.inr (Or.inl rfl)) (Nat.le_refl _)
      refine am_goX 2 (show am_sh (am_wI (am_wI h 33 (W.1) 2) 34 (W.1) 0) 32 = some (8, 0) ∧ pz_S 5 (some .boolean) am_r82 6 Q 61 [(4, .int (nI W.1)), (3, .int 2), (0, .ref 5), (1, .ref 32), (2, .ref 17)] [am_rf ((am_wI (am_wI h 33 (W.1) 2) 34 (W.1) 0).2.2.1 32 2)] (am_wI (am_wI h 33 (W.1) 2) 34 (W.1) 0) from ⟨ex_32 (c_P l3.1), ?_⟩)
      rw [ex_r32_2 (h := am_wI (am_wI h 33 (W.1) 2) 34 (W.1) 0) (c_P l3.1)]
      refine am_goX 3 (show ∃ jj nn : Nat, am_so (am_wI (am_wI h 33 (W.1) 2) 34 (W.1) 0) 35 = some (13, nn) ∧ jj < nn ∧ (nI W.1) = nI jj ∧ pz_S 5 (some .boolean) am_r82 6 Q 65 [(4, .int (nI W.1)), (3, .int 2), (0, .ref 5), (1, .ref 32), (2, .ref 17)] [] (am_wI (am_wI (am_wI h 33 (W.1) 2) 34 (W.1) 0) 35 jj 0) from ⟨W.1, 40, ex_w35 (c_P l3.1), by omega, rfl, ?_⟩)
      have l4 : cwr h0 32 17 N T sz (a, W) (am_wI (am_wI (am_wI h 33 (W.1) 2) 34 (W.1) 0) 35 (W.1) 0) := cwr_w (by decide) (by decide) l3 (Or.inr (Or.inr rfl)) (Nat.le_refl _)
      have x1 : (am_wI (am_wI (am_wI h 33 (W.1) 2) 34 (W.1) 0) 35 (W.1) 0).1 33 W.1 = 2 := by rw [em_wn _ _ (by omega), em_wn _ _ (by omega), em_we]
      have x2 : (am_wI (am_wI (am_wI h 33 (W.1) 2) 34 (W.1) 0) 35 (W.1) 0).1 34 W.1 = 0 := by rw [em_wn _ _ (by omega), em_we]
      have x3 : (am_wI (am_wI (am_wI h 33 (W.1) 2) 34 (W.1) 0) 35 (W.1) 0).1 35 W.1 = 0 := em_we _ _ _ _
      refine am_goX 2 (show am_sh (am_wI (am_wI (am_wI h 33 (W.1) 2) 34 (W.1) 0) 35 (W.1) 0) 5 = some (9, 0) ∧ pz_S 5 (some .boolean) am_r82 6 Q 69 [(4, .int (nI W.1)), (3, .int 2), (0, .ref 5), (1, .ref 32), (2, .ref 17)] [am_rf ((am_wI (am_wI (am_wI h 33 (W.1) 2) 34 (W.1) 0) 35 (W.1) 0).2.2.1 5 0)] (am_wI (am_wI (am_wI h 33 (W.1) 2) 34 (W.1) 0) 35 (W.1) 0) from ⟨ex_5 (c_P l4.1), ?_⟩)
      rw [ex_r5_0 (h := am_wI (am_wI (am_wI h 33 (W.1) 2) 34 (W.1) 0) 35 (W.1) 0) (c_P l4.1)]
      refine am_goX 1 (show am_rc (am_wI (am_wI (am_wI h 33 (W.1) 2) 34 (W.1) 0) 35 (W.1) 0) 1 7 ∧ 0 ≤ 8 ∧ (am_wI (am_wI (am_wI h 33 (W.1) 2) 34 (W.1) 0) 35 (W.1) 0).2.2.2.2 + am_al 18 ≤ 175 ∧ am_call am_cod 6 18 [.ref 1] (am_wI (am_wI (am_wI h 33 (W.1) 2) 34 (W.1) 0) 35 (W.1) 0) (fun vv h' => pz_S 5 (some .boolean) am_r82 6 Q 72 [(4, .int (nI W.1)), (3, .int 2), (0, .ref 5), (1, .ref 32), (2, .ref 17)] (vv.toList ++ []) h') from ⟨Or.inl ⟨by decide, ex_1 (c_P l4.1)⟩, by decide, ex_lim (c_P l4.1) rfl, am_call.up (c_step l4.1 hn (fun h3 m f => ?_)) (by decide)⟩)
      have l5 := cwr_fr (by decide) (by decide) l4 m f
      have x1 := (f.2 33 W.1 (by decide)).1.trans x1
      have x2 := (f.2 34 W.1 (by decide)).1.trans x2
      have x3 := (f.2 35 W.1 (by decide)).1.trans x3
      refine am_goX 2 (show (2 = 0 → pz_S 5 (some .boolean) am_r82 6 Q 87 [(4, .int (nI W.1)), (3, .int 2), (0, .ref 5), (1, .ref 32), (2, .ref 17)] [] h3) ∧ (¬ (2 = 0) → pz_S 5 (some .boolean) am_r82 6 Q 76 [(4, .int (nI W.1)), (3, .int 2), (0, .ref 5), (1, .ref 32), (2, .ref 17)] [] h3) from ⟨fun hz => absurd hz (by decide), fun _ => ?_⟩)
      refine am_goX 4 (show am_rc h3 5 9 ∧ 0 ≤ 8 ∧ h3.2.2.2.2 + am_al 84 ≤ 175 ∧ am_call am_cod 6 84 [.ref 5, .ref 32, .ref 17] h3 (fun vv h' => pz_S 5 (some .boolean) am_r82 6 Q 82 [(4, .int (nI W.1)), (3, .int 2), (0, .ref 5), (1, .ref 32), (2, .ref 17)] (vv.toList ++ []) h') from ⟨Or.inl ⟨by decide, ex_5 (c_P l5.1)⟩, by decide, ex_lim (c_P l5.1) rfl, c_84_32_17 hlt l5 (fun F h6 e6 y => ?_) (fun p h6 e6 l6 y1 y2 => ?_)⟩)
      ·
        refine am_goX 1 (show (¬ 0 = 0 → pz_S 5 (some .boolean) am_r82 6 Q 87 [(4, .int (nI W.1)), (3, .int 2), (0, .ref 5), (1, .ref 32), (2, .ref 17)] [] h6) ∧ (¬ ¬ 0 = 0 → pz_S 5 (some .boolean) am_r82 6 Q 85 [(4, .int (nI W.1)), (3, .int 2), (0, .ref 5), (1, .ref 32), (2, .ref 17)] [] h6) from ⟨fun hz => absurd hz (by decide), fun _ => ?_⟩)
        exact am_goX 2 (show (∃ ty, (some .boolean) = some ty ∧ narrow ty (.int ((Int32.ofInt 0))) = .int ((Int32.ofInt 0))) ∧ h6.2.2.2.2 = 175 ∧ _ from ⟨⟨.boolean, rfl, rfl⟩, ex_175 y.1, hF F h6 (by unfold sw_line; dsimp only; simp only [e1, e2, show decide ((2 : Int32) = 0) = false from by decide, show decide ((2 : Int32) = 1) = false from by decide, decide_true, cond_true, cond_false, e6]) y⟩)
      ·
        have x1 := (y2 W.1).1.trans x1
        have x2 := y1
        have x3 := (y2 W.1).2.trans x3
        refine am_goX 1 (show (¬ 1 = 0 → pz_S 5 (some .boolean) am_r82 6 Q 87 [(4, .int (nI W.1)), (3, .int 2), (0, .ref 5), (1, .ref 32), (2, .ref 17)] [] h6) ∧ (¬ ¬ 1 = 0 → pz_S 5 (some .boolean) am_r82 6 Q 85 [(4, .int (nI W.1)), (3, .int 2), (0, .ref 5), (1, .ref 32), (2, .ref 17)] [] h6) from ⟨fun _ => ?_, fun hz => absurd (by decide) hz⟩)
        refine am_goX 3 (show (¬ 2 = (Int32.ofInt 1) → pz_S 5 (some .boolean) am_r82 6 Q 102 [(4, .int (nI W.1)), (3, .int 2), (0, .ref 5), (1, .ref 32), (2, .ref 17)] [] h6) ∧ (¬ ¬ 2 = (Int32.ofInt 1) → pz_S 5 (some .boolean) am_r82 6 Q 92 [(4, .int (nI W.1)), (3, .int 2), (0, .ref 5), (1, .ref 32), (2, .ref 17)] [] h6) from ⟨fun _ => ?_, fun hz => absurd (by decide) hz⟩)
        refine am_goX 6 (show (Value.ref 32).category = 1 ∧ am_sh h6 32 = some (8, 0) ∧ am_sh h6 32 = some (8, 0) ∧ narrow (am_fty 8 3) (.int (((h6.1 32 3) + (Int32.ofInt 1)))) = .int (((h6.1 32 3) + (Int32.ofInt 1))) ∧ fits (am_fty 8 3) (.int (((h6.1 32 3) + (Int32.ofInt 1)))) = true ∧ pz_S 5 (some .boolean) am_r82 6 Q 112 [(4, .int (nI W.1)), (3, .int 2), (0, .ref 5), (1, .ref 32), (2, .ref 17)] [] (am_wI h6 32 3 (((h6.1 32 3) + (Int32.ofInt 1)))) from ⟨rfl, ex_32 (c_P l6.1), ex_32 (c_P l6.1), rfl, rfl, ?_⟩)
        rw [show h6.1 32 3 = nI W.1 from l6.2.1.1, xw_i1]
        have l9 : cwr h0 32 17 N T sz (a + 1 + 1, sw_ad W 2 (nI p) 0) (am_wI h6 32 3 (nI (W.1 + 1))) := cwr_P (by decide) (by decide) l6 hlt x1 x2 x3
        refine am_goX 2 (show am_sh (am_wI h6 32 3 (nI (W.1 + 1))) 5 = some (9, 0) ∧ pz_S 5 (some .boolean) am_r82 6 Q 116 [(4, .int (nI W.1)), (3, .int 2), (0, .ref 5), (1, .ref 32), (2, .ref 17)] [am_rf ((am_wI h6 32 3 (nI (W.1 + 1))).2.2.1 5 0)] (am_wI h6 32 3 (nI (W.1 + 1))) from ⟨ex_5 (c_P l9.1), ?_⟩)
        rw [ex_r5_0 (h := am_wI h6 32 3 (nI (W.1 + 1))) (c_P l9.1)]
        refine am_goX 2 (show am_rc (am_wI h6 32 3 (nI (W.1 + 1))) 1 7 ∧ 0 ≤ 8 ∧ (am_wI h6 32 3 (nI (W.1 + 1))).2.2.2.2 + am_al 61 ≤ 175 ∧ am_call am_cod 6 61 [.ref 1, .int (Int8.ofInt 59).toInt32] (am_wI h6 32 3 (nI (W.1 + 1))) (fun vv h' => pz_S 5 (some .boolean) am_r82 6 Q 121 [(4, .int (nI W.1)), (3, .int 2), (0, .ref 5), (1, .ref 32), (2, .ref 17)] (vv.toList ++ []) h') from ⟨Or.inl ⟨by decide, ex_1 (c_P l9.1)⟩, by decide, ex_lim (c_P l9.1) rfl, am_call.up (c_tSt l9.1 (fun e9 h9 m9 f9 => ?_) (fun e9 => ?_)) (by decide)⟩)
        ·
          exact am_goX 1 (show (∃ ty, (some .boolean) = some ty ∧ narrow ty (.int (1)) = .int (1)) ∧ h9.2.2.2.2 = 175 ∧ _ from ⟨⟨.boolean, rfl, rfl⟩, ex_175 (c_P m9), hS (a + 1 + 1 + 1, sw_ad W 2 (nI p) 0) h9 (by unfold sw_line; dsimp only; simp only [e1, e2, e6, decide_true, cond_true, cond_false, show decide ((2 : Int32) = 0) = false from by decide, show decide ((2 : Int32) = 1) = false from by decide, sw_end, e9]) (cwr_fr (by decide) (by decide) l9 m9 f9)⟩)
        ·
          have hP9 : ex_P (am_wI h6 32 3 (nI (W.1 + 1))) := c_P l9.1
          exact am_goX 1 (show (∃ ty, (some .boolean) = some ty ∧ narrow ty (.int (0)) = .int (0)) ∧ (am_wI (am_wI h6 32 3 (nI (W.1 + 1))) 1 7 (sp_ft (tt T sz) (a + 1 + 1) (Int32.ofInt 1))).2.2.2.2 = 175 ∧ _ from ⟨⟨.boolean, rfl, rfl⟩, ex_175 hP9, hF _ _ (by unfold sw_line; dsimp only; simp only [e1, e2, e6, decide_true, cond_true, cond_false, show decide ((2 : Int32) = 0) = false from by decide, show decide ((2 : Int32) = 1) = false from by decide, sw_end, e9]) (cwr_x (s := (a + 1 + 1, sw_ad W 2 (nI p) 0)) l9 (by decide))⟩)
theorem c_81l_32_17 : ∀ (m i : Nat) (s : sw_S) (h : am_H) (Q : am_Q), sz < s.1 + m → i ≤ s.1 → cwr h0 32 17 N T sz s h → (∀ F h1, sw_all (tt T sz) N m s = .inl F → cwx h0 32 F h1 → Q (some (.int F)) h1) → (∀ t h1, sw_all (tt T sz) N m s = .inr t → cwr h0 32 17 N T sz t h1 → Q (some (.int 0)) h1) → pz_S 5 (some .int) am_r81 7 Q 17 [(4, .int (nI i)), (3, .int 1), (0, .ref 5), (1, .ref 32), (2, .ref 17)] [] h := by
  intro m
  induction m with
  | zero =>
    intro i s h Q hm hi l hF hS
    have := (cwr_a l).1
    omega
  | succ m ih =>
    intro i s h Q hm hi l hF hS
    have ha := cwr_a l
    have hP := c_P l.1
    have hk := ck_4 T sz s.1
    have hf : h.1 1 7 = 0 := l.1.2.2.2.1
    refine am_goX 2 (show (1 = 0 → pz_S 5 (some .int) am_r81 7 Q 53 [(4, .int (nI i)), (3, .int 1), (0, .ref 5), (1, .ref 32), (2, .ref 17)] [] h) ∧ (¬ (1 = 0) → pz_S 5 (some .int) am_r81 7 Q 21 [(4, .int (nI i)), (3, .int 1), (0, .ref 5), (1, .ref 32), (2, .ref 17)] [] h) from ⟨fun hz => absurd hz (by decide), fun _ => ?_⟩)
    refine am_goX 2 (show am_sh h 5 = some (9, 0) ∧ pz_S 5 (some .int) am_r81 7 Q 25 [(4, .int (nI i)), (3, .int 1), (0, .ref 5), (1, .ref 32), (2, .ref 17)] [am_rf (h.2.2.1 5 0)] h from ⟨ex_5 hP, ?_⟩)
    rw [ex_r5_0 (h := h) hP]
    refine am_goX 2 (show am_sh h 1 = some (7, 0) ∧ pz_S 5 (some .int) am_r81 7 Q 29 [(4, .int (nI i)), (3, .int 1), (0, .ref 5), (1, .ref 32), (2, .ref 17)] [.int (Int32.ofInt 4), .int (h.1 1 2)] h from ⟨ex_1 hP, ?_⟩)
    rw [c_kd l.1]
    refine am_goX 1 (show ((ck (tt T sz s.1).1) = (Int32.ofInt 4) → pz_S 5 (some .int) am_r81 7 Q 53 [(4, .int (nI i)), (3, .int 1), (0, .ref 5), (1, .ref 32), (2, .ref 17)] [] h) ∧ (¬ ((ck (tt T sz s.1).1) = (Int32.ofInt 4)) → pz_S 5 (some .int) am_r81 7 Q 32 [(4, .int (nI i)), (3, .int 1), (0, .ref 5), (1, .ref 32), (2, .ref 17)] [] h) from ⟨fun hc => ?_, fun hc => ?_⟩)
    ·
      have e2 : sp_k (tt T sz) s.1 0 = true := by rw [← hk]; exact decide_eq_true hc
      refine am_goX 2 (show am_sh h 5 = some (9, 0) ∧ pz_S 5 (some .int) am_r81 7 Q 57 [(4, .int (nI i)), (3, .int 1), (0, .ref 5), (1, .ref 32), (2, .ref 17)] [am_rf (h.2.2.1 5 0)] h from ⟨ex_5 hP, ?_⟩)
      rw [ex_r5_0 (h := h) hP]
      refine am_goX 1 (show am_sh h 1 = some (7, 0) ∧ pz_S 5 (some .int) am_r81 7 Q 60 [(4, .int (nI i)), (3, .int 1), (0, .ref 5), (1, .ref 32), (2, .ref 17)] [.int (h.1 1 7)] h from ⟨ex_1 hP, ?_⟩)
      rw [hf]
      exact am_goX 1 (show (∃ ty, (some .int) = some ty ∧ narrow ty (.int (0)) = .int (0)) ∧ h.2.2.2.2 = 175 ∧ _ from ⟨⟨.int, rfl, rfl⟩, ex_175 hP, hS s h (by unfold sw_all; rw [e2]; rfl) l⟩)
    ·
      have e2 : sp_k (tt T sz) s.1 0 = false := by rw [← hk]; exact decide_eq_false hc
      clear hc
      have hlt : s.1 < sz := by
        have w := l.1.2.2.2.2.1
        have w2 : tk_pl T sz s.1 < sz := kz_lt (of_decide_eq_false e2)
        omega
      refine am_goX 3 (show ((Int16.ofInt 1000).toInt32 ≤ (nI i) → pz_S 5 (some .int) am_r81 7 Q 53 [(4, .int (nI i)), (3, .int 1), (0, .ref 5), (1, .ref 32), (2, .ref 17)] [] h) ∧ (¬ ((Int16.ofInt 1000).toInt32 ≤ (nI i)) → pz_S 5 (some .int) am_r81 7 Q 40 [(4, .int (nI i)), (3, .int 1), (0, .ref 5), (1, .ref 32), (2, .ref 17)] [] h) from ⟨fun hz => absurd hz (i1000 (by omega)), fun _ => ?_⟩)
      refine am_goX 4 (show am_rc h 5 9 ∧ 0 ≤ 8 ∧ h.2.2.2.2 + am_al 82 ≤ 175 ∧ am_call am_cod 7 82 [.ref 5, .ref 32, .ref 17] h (fun vv h' => pz_S 5 (some .int) am_r81 7 Q 46 [(4, .int (nI i)), (3, .int 1), (0, .ref 5), (1, .ref 32), (2, .ref 17)] (vv.toList ++ []) h') from ⟨Or.inl ⟨by decide, ex_5 hP⟩, by decide, ex_lim hP rfl, c_82_32_17 l (fun F h1 e3 y => ?_) (fun t h1 e3 y => ?_)⟩)
      ·
        refine am_goX 5 (show 3 < 5 ∧ 4 < 5 ∧ (0 = 0 → pz_S 5 (some .int) am_r81 7 Q 53 [(4, .int ((nI i) + Int32.ofInt 1)), (3, .int 0), (0, .ref 5), (1, .ref 32), (2, .ref 17)] [] h1) ∧ (¬ (0 = 0) → pz_S 5 (some .int) am_r81 7 Q 21 [(4, .int ((nI i) + Int32.ofInt 1)), (3, .int 0), (0, .ref 5), (1, .ref 32), (2, .ref 17)] [] h1) from ⟨by decide, by decide, fun _ => ?_, fun hz => absurd (by decide) hz⟩)
        refine am_goX 2 (show am_sh h1 5 = some (9, 0) ∧ pz_S 5 (some .int) am_r81 7 Q 57 [(4, .int ((nI i) + Int32.ofInt 1)), (3, .int 0), (0, .ref 5), (1, .ref 32), (2, .ref 17)] [am_rf (h1.2.2.1 5 0)] h1 from ⟨ex_5 y.1, ?_⟩)
        rw [ex_r5_0 (h := h1) y.1]
        refine am_goX 1 (show am_sh h1 1 = some (7, 0) ∧ pz_S 5 (some .int) am_r81 7 Q 60 [(4, .int ((nI i) + Int32.ofInt 1)), (3, .int 0), (0, .ref 5), (1, .ref 32), (2, .ref 17)] [.int (h1.1 1 7)] h1 from ⟨ex_1 y.1, ?_⟩)
        rw [y.2.1.1]
        exact am_goX 1 (show (∃ ty, (some .int) = some ty ∧ narrow ty (.int (F)) = .int (F)) ∧ h1.2.2.2.2 = 175 ∧ _ from ⟨⟨.int, rfl, rfl⟩, ex_175 y.1, hF F h1 (by unfold sw_all; rw [e2, cond_false, e3]) y⟩)
      ·
        refine am_goX 3 (show 3 < 5 ∧ 4 < 5 ∧ pz_S 5 (some .int) am_r81 7 Q 17 [(4, .int ((nI i) + Int32.ofInt 1)), (3, .int 1), (0, .ref 5), (1, .ref 32), (2, .ref 17)] [] h1 from ⟨by decide, by decide, ?_⟩)
        rw [xw_i1]
        have g1 := sw_line_lt e3
        have hx : sw_all (tt T sz) N (m + 1) s = sw_all (tt T sz) N m t := by
          conv => lhs; unfold sw_all
          rw [e2, cond_false, e3]
        exact ih (i + 1) t h1 Q (by omega) (by omega) y (fun F h2 e => hF F h2 (hx.trans e)) (fun t h2 e => hS t h2 (hx.trans e))
theorem c_81_32_17 (hP : ex_P h) (hz : sz ≤ 1000) (hch : ∀ q, q < sz → 0 ≤ (T q).toInt ∧ (T q).toInt ≤ 126) (l1 : h.1 1 1 = nI sz) (l2 : ∀ q, q < sz → h.1 2 q = T q) (ln : cnm 17 N h) (hF : ∀ F h1, sw_week (tt T sz) N = .inl F → cwx h 32 F h1 → Q (some (.int F)) h1) (hS : ∀ t h1, sw_week (tt T sz) N = .inr t → cwr h 32 17 N T sz t h1 → Q (some (.int 0)) h1) : am_call am_cod 8 81 [.ref 5, .ref 32, .ref 17] h Q := by
  refine pz_call (n := 81) (nL := 5) (rt := (some .int)) (rows := am_r81) (d := 7) (by decide +kernel) (by decide +kernel) rfl (by funext pc; rfl) (ex_175 hP) (by exact Nat.le_of_ble_eq_true rfl) ?_
  refine am_goX 3 (show am_sh h 32 = some (8, 0) ∧ narrow (am_fty 8 3) (.int ((Int32.ofInt 0))) = .int ((Int32.ofInt 0)) ∧ fits (am_fty 8 3) (.int ((Int32.ofInt 0))) = true ∧ pz_S 5 (some .int) am_r81 7 Q 5 [(0, .ref 5), (1, .ref 32), (2, .ref 17)] [] (am_wI h 32 3 ((Int32.ofInt 0))) from ⟨ex_32 hP, rfl, rfl, ?_⟩)
  refine am_goX 2 (show am_sh (am_wI h 32 3 0) 5 = some (9, 0) ∧ pz_S 5 (some .int) am_r81 7 Q 9 [(0, .ref 5), (1, .ref 32), (2, .ref 17)] [am_rf ((am_wI h 32 3 0).2.2.1 5 0)] (am_wI h 32 3 0) from ⟨ex_5 hP, ?_⟩)
  rw [ex_r5_0 (h := am_wI h 32 3 0) hP]
  refine am_goX 1 (show am_rc (am_wI h 32 3 0) 1 7 ∧ 0 ≤ 8 ∧ (am_wI h 32 3 0).2.2.2.2 + am_al 17 ≤ 175 ∧ am_call am_cod 7 17 [.ref 1] (am_wI h 32 3 0) (fun vv h' => pz_S 5 (some .int) am_r81 7 Q 12 [(0, .ref 5), (1, .ref 32), (2, .ref 17)] (vv.toList ++ []) h') from ⟨Or.inl ⟨by decide, ex_1 hP⟩, by decide, ex_lim hP rfl, am_call.up (c_begin (T := T) (sz := sz) hP hz hch (by rw [em_wn _ _ (by omega)]; exact l1) (fun q hq => by rw [em_wn _ _ (by omega)]; exact l2 q hq) (fun h1 t f => ?_)) (by decide)⟩)
  have l : cwr h 32 17 N T sz (0, sw_W0) h1 := by
    refine ⟨t, ⟨(f.2 32 3 (by decide)).1.trans (em_we _ _ _ _), by decide, fun i hi => absurd hi (Nat.not_lt_zero i)⟩, cwq_fr (h := am_wI h 32 3 0) ⟨rfl, fun o k hn => ⟨em_wn _ _ (by omega), rfl⟩⟩ f, ⟨(f.2 17 0 (by decide)).1.trans ((em_wn _ _ (by omega)).trans ln.1), ln.2.1, fun i hi => ?_⟩⟩
    rw [(f.2 18 i (by decide)).2]
    exact ln.2.2 i hi
  refine am_goX 4 (show 3 < 5 ∧ 4 < 5 ∧ pz_S 5 (some .int) am_r81 7 Q 17 [(4, .int (Int32.ofInt 0)), (3, .int (Int32.ofInt 1)), (0, .ref 5), (1, .ref 32), (2, .ref 17)] [] h1 from ⟨by decide, by decide, ?_⟩)
  exact c_81l_32_17 1001 0 (0, sw_W0) h1 Q (by dsimp only; omega) (Nat.zero_le _) l hF hS
theorem c_80_32_17 (hw : h.2.2.1 0 6 = some 32) (hk : h.2.2.1 0 5 = some 28) (ht : h.2.2.1 0 3 = some 17) (hP : ex_P h) (hz : sz ≤ 1000) (hch : ∀ q, q < sz → 0 ≤ (T q).toInt ∧ (T q).toInt ≤ 126) (l1 : h.1 1 1 = nI sz) (l2 : ∀ q, q < sz → h.1 2 q = T q) (ln : cnm 17 N h) (hF : ∀ F h1, sw_week (tt T sz) N = .inl F → cwx h 32 F h1 → Q (some (.int F)) (am_wI h1 1 1 (Int32.ofInt 0))) (hS : ∀ t h1, sw_week (tt T sz) N = .inr t → cwr h 32 17 N T sz t h1 → Q (some (.int (Int32.ofInt 0))) (am_wR (am_wR (am_wI h1 1 1 (Int32.ofInt 0)) 0 6 (some 28)) 0 5 (some 32))) : am_call am_cod 9 80 [.ref 0] h Q := by
  refine pz_call (n := 80) (nL := 3) (rt := (some .int)) (rows := am_r80) (d := 8) (by decide +kernel) (by decide +kernel) rfl (by funext pc; rfl) (ex_175 hP) (by exact Nat.le_of_ble_eq_true rfl) ?_
  refine am_goX 2 (show am_sh h 0 = some (10, 0) ∧ pz_S 3 (some .int) am_r80 8 Q 4 [(0, .ref 0)] [am_rf (h.2.2.1 0 2)] h from ⟨ex_0 hP, ?_⟩)
  rw [ex_r0_2 (h := h) hP]
  refine am_goX 2 (show am_sh h 0 = some (10, 0) ∧ pz_S 3 (some .int) am_r80 8 Q 8 [(0, .ref 0)] [am_rf (h.2.2.1 0 6), .ref 5] h from ⟨ex_0 hP, ?_⟩)
  rw [hw]
  refine am_goX 2 (show am_sh h 0 = some (10, 0) ∧ pz_S 3 (some .int) am_r80 8 Q 12 [(0, .ref 0)] [am_rf (h.2.2.1 0 3), .ref 32, .ref 5] h from ⟨ex_0 hP, ?_⟩)
  rw [ht]
  refine am_goX 1 (show am_rc h 5 9 ∧ 0 ≤ 8 ∧ h.2.2.2.2 + am_al 81 ≤ 175 ∧ am_call am_cod 8 81 [.ref 5, .ref 32, .ref 17] h (fun vv h' => pz_S 3 (some .int) am_r80 8 Q 15 [(0, .ref 0)] (vv.toList ++ []) h') from ⟨Or.inl ⟨by decide, ex_5 hP⟩, by decide, ex_lim hP rfl, c_81_32_17 hP hz hch l1 l2 ln (fun F h1 e y => ?_) (fun t h1 e y => ?_)⟩)
  ·
    have hPy : ex_P h1 := y.1
    refine am_goX 3 (show 1 < 3 ∧ am_sh h1 0 = some (10, 0) ∧ pz_S 3 (some .int) am_r80 8 Q 20 [(1, .int F), (0, .ref 0)] [am_rf (h1.2.2.1 0 0)] h1 from ⟨by decide, ex_0 hPy, ?_⟩)
    rw [ex_r0_0 (h := h1) hPy]
    refine am_goX 2 (show am_sh h1 1 = some (7, 0) ∧ narrow (am_fty 7 1) (.int ((Int32.ofInt 0))) = .int ((Int32.ofInt 0)) ∧ fits (am_fty 7 1) (.int ((Int32.ofInt 0))) = true ∧ pz_S 3 (some .int) am_r80 8 Q 24 [(1, .int F), (0, .ref 0)] [] (am_wI h1 1 1 ((Int32.ofInt 0))) from ⟨ex_1 hPy, rfl, rfl, ?_⟩)
    refine am_goX 2 (show (F = 0 → pz_S 3 (some .int) am_r80 8 Q 30 [(1, .int F), (0, .ref 0)] [] (am_wI h1 1 1 ((Int32.ofInt 0)))) ∧ (¬ (F = 0) → pz_S 3 (some .int) am_r80 8 Q 28 [(1, .int F), (0, .ref 0)] [] (am_wI h1 1 1 ((Int32.ofInt 0)))) from ⟨fun hz => absurd hz y.2.1.2, fun _ => ?_⟩)
    exact am_goX 2 (show (∃ ty, (some .int) = some ty ∧ narrow ty (.int (F)) = .int (F)) ∧ (am_wI h1 1 1 ((Int32.ofInt 0))).2.2.2.2 = 175 ∧ _ from ⟨⟨.int, rfl, rfl⟩, ex_175 hPy, hF F h1 e y⟩)
  ·
    have hPy : ex_P h1 := c_P y.1
    have q5 : h1.2.2.1 0 5 = some 28 := by rw [y.2.2.1.1]; exact hk
    have q6 : h1.2.2.1 0 6 = some 32 := by rw [y.2.2.1.1]; exact hw
    refine am_goX 3 (show 1 < 3 ∧ am_sh h1 0 = some (10, 0) ∧ pz_S 3 (some .int) am_r80 8 Q 20 [(1, .int 0), (0, .ref 0)] [am_rf (h1.2.2.1 0 0)] h1 from ⟨by decide, ex_0 hPy, ?_⟩)
    rw [ex_r0_0 (h := h1) hPy]
    refine am_goX 2 (show am_sh h1 1 = some (7, 0) ∧ narrow (am_fty 7 1) (.int ((Int32.ofInt 0))) = .int ((Int32.ofInt 0)) ∧ fits (am_fty 7 1) (.int ((Int32.ofInt 0))) = true ∧ pz_S 3 (some .int) am_r80 8 Q 24 [(1, .int 0), (0, .ref 0)] [] (am_wI h1 1 1 ((Int32.ofInt 0))) from ⟨ex_1 hPy, rfl, rfl, ?_⟩)
    refine am_goX 2 (show (0 = 0 → pz_S 3 (some .int) am_r80 8 Q 30 [(1, .int 0), (0, .ref 0)] [] (am_wI h1 1 1 ((Int32.ofInt 0)))) ∧ (¬ (0 = 0) → pz_S 3 (some .int) am_r80 8 Q 28 [(1, .int 0), (0, .ref 0)] [] (am_wI h1 1 1 ((Int32.ofInt 0)))) from ⟨fun _ => ?_, fun hz => absurd (by decide) hz⟩)
    refine am_goX 2 (show am_sh (am_wI h1 1 1 ((Int32.ofInt 0))) 0 = some (10, 0) ∧ pz_S 3 (some .int) am_r80 8 Q 34 [(1, .int 0), (0, .ref 0)] [am_rf ((am_wI h1 1 1 ((Int32.ofInt 0))).2.2.1 0 6)] (am_wI h1 1 1 ((Int32.ofInt 0))) from ⟨ex_0 hPy, ?_⟩)
    rw [show (am_wI h1 1 1 ((Int32.ofInt 0))).2.2.1 0 6 = some 32 from q6]
    refine am_goX 4 (show 2 < 3 ∧ am_sh (am_wI h1 1 1 ((Int32.ofInt 0))) 0 = some (10, 0) ∧ pz_S 3 (some .int) am_r80 8 Q 40 [(2, .ref 32), (1, .int 0), (0, .ref 0)] [am_rf ((am_wI h1 1 1 ((Int32.ofInt 0))).2.2.1 0 5), .ref 0] (am_wI h1 1 1 ((Int32.ofInt 0))) from ⟨by decide, ex_0 hPy, ?_⟩)
    rw [show (am_wI h1 1 1 ((Int32.ofInt 0))).2.2.1 0 5 = some 28 from q5]
    refine am_goX 1 (show am_sh (am_wI h1 1 1 ((Int32.ofInt 0))) 0 = some (10, 0) ∧ pz_S 3 (some .int) am_r80 8 Q 43 [(2, .ref 32), (1, .int 0), (0, .ref 0)] [] (am_wR (am_wI h1 1 1 ((Int32.ofInt 0))) 0 6 (some 28)) from ⟨ex_0 hPy, ?_⟩)
    have hPw6 : ex_P (am_wR (am_wI h1 1 1 ((Int32.ofInt 0))) 0 6 (some 28)) := ex_wR56 (by decide) hPy
    refine am_goX 3 (show am_sh (am_wR (am_wI h1 1 1 ((Int32.ofInt 0))) 0 6 (some 28)) 0 = some (10, 0) ∧ pz_S 3 (some .int) am_r80 8 Q 48 [(2, .ref 32), (1, .int 0), (0, .ref 0)] [] (am_wR (am_wR (am_wI h1 1 1 ((Int32.ofInt 0))) 0 6 (some 28)) 0 5 (some 32)) from ⟨ex_0 hPw6, ?_⟩)
    have hPw5 : ex_P (am_wR (am_wR (am_wI h1 1 1 ((Int32.ofInt 0))) 0 6 (some 28)) 0 5 (some 32)) := ex_wR56 (by decide) hPw6
    exact am_goX 2 (show (∃ ty, (some .int) = some ty ∧ narrow ty (.int ((Int32.ofInt 0))) = .int ((Int32.ofInt 0))) ∧ (am_wR (am_wR (am_wI h1 1 1 ((Int32.ofInt 0))) 0 6 (some 28)) 0 5 (some 32)).2.2.2.2 = 175 ∧ _ from ⟨⟨.int, rfl, rfl⟩, ex_175 hPw5, hS t h1 e y⟩)
