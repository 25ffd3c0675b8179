/-! THE REFERENCE'S SMALL METHODS, EXACTLY -/
theorem xw_i0 (n : Nat) : nI n + Int32.ofInt 0 = nI n := by
  show nI n + 0 = nI n
  exact Int32.add_zero _
theorem sp_w_e {τ : sp_T} {a : Nat} {w : Int64} (e : sp_k τ a 1 = true) : sp_w τ a w = decide ((τ a).2.1 = w) := by
  unfold sp_w
  rw [e]
  rfl
theorem sp_w_n {τ : sp_T} {a : Nat} {w : Int64} (e : sp_k τ a 1 = false) : sp_w τ a w = false := by
  unfold sp_w
  rw [e]
  rfl
theorem sp_s_e {τ : sp_T} {a : Nat} {x : Int32} (e : sp_k τ a 3 = true) : sp_s τ a x = decide ((τ a).2.1 = x.toInt64) := by
  unfold sp_s
  rw [e]
  rfl
theorem sp_s_n {τ : sp_T} {a : Nat} {x : Int32} (e : sp_k τ a 3 = false) : sp_s τ a x = false := by
  unfold sp_s
  rw [e]
  rfl
theorem r_cmp_lt (x y : Int64) : lg_cmp x y < 0 ↔ x < y := by
  unfold lg_cmp
  by_cases h1 : x > y
  · rw [if_pos h1]
    exact ⟨fun e => absurd e (by decide), fun e => absurd (Int64.lt_trans e h1) Int64.lt_irrefl⟩
  · rw [if_neg h1]
    by_cases h2 : x = y
    · rw [if_pos h2, h2]
      exact ⟨fun e => absurd e (by decide), fun e => absurd e Int64.lt_irrefl⟩
    · rw [if_neg h2]
      refine ⟨fun _ => Int64.lt_iff_toInt_lt.mpr ?_, fun _ => by decide⟩
      have a := mt Int64.lt_iff_toInt_lt.mpr h1
      have b := mt Int64.toInt_inj.mp h2
      omega
theorem r_cmp_le (x y : Int64) : lg_cmp x y ≤ 0 ↔ ¬ y < x := by
  unfold lg_cmp
  by_cases h1 : x > y
  · rw [if_pos h1]
    exact ⟨fun e => absurd e (by decide), fun e => absurd h1 e⟩
  · rw [if_neg h1]
    refine ⟨fun _ => h1, fun _ => ?_⟩
    by_cases h2 : x = y
    · rw [if_pos h2]; decide
    · rw [if_neg h2]; decide
theorem r_num {τ : sp_T} {a D : Nat} (hD : D ≤ 9999) (ev : (τ a).2.1 = Int64.ofNat D) : (τ a).2.1 = (sp_v τ a).toInt64 := by
  unfold sp_v
  rw [ev, show (Int64.ofNat D).toInt32 = nI D from Int64.toInt32_ofNat', nI_l (by omega)]
  rfl
theorem r_lt64 (x y : Int32) : x.toInt64 < y.toInt64 ↔ x < y := by
  rw [Int64.lt_iff_toInt_lt, Int32.lt_iff_toInt_lt, Int32.toInt_toInt64, Int32.toInt_toInt64]
theorem r_cmpl {τ : sp_T} {a D : Nat} {lo : Int32} {b : Bool} (hD : D ≤ 9999) (ev : (τ a).2.1 = Int64.ofNat D) (hc : bif b then ¬ lg_cmp (τ a).2.1 lo.toInt64 < 0 else lg_cmp (τ a).2.1 lo.toInt64 < 0) : decide (lo ≤ sp_v τ a) = b := by
  rw [r_num hD ev] at hc
  cases b with
  | true =>
    have hc : ¬ lg_cmp (sp_v τ a).toInt64 lo.toInt64 < 0 := hc
    rw [r_cmp_lt, r_lt64] at hc
    exact decide_eq_true (Int32.not_lt.mp hc)
  | false =>
    have hc : lg_cmp (sp_v τ a).toInt64 lo.toInt64 < 0 := hc
    rw [r_cmp_lt, r_lt64] at hc
    exact decide_eq_false (Int32.not_le.mpr hc)
theorem r_cmph {τ : sp_T} {a D : Nat} {hi : Int32} {b : Bool} (hD : D ≤ 9999) (ev : (τ a).2.1 = Int64.ofNat D) (hc : bif b then lg_cmp (τ a).2.1 hi.toInt64 ≤ 0 else ¬ lg_cmp (τ a).2.1 hi.toInt64 ≤ 0) : decide (sp_v τ a ≤ hi) = b := by
  rw [r_num hD ev] at hc
  cases b with
  | true =>
    have hc : lg_cmp (sp_v τ a).toInt64 hi.toInt64 ≤ 0 := hc
    rw [r_cmp_le, r_lt64] at hc
    exact decide_eq_true (Int32.not_lt.mp hc)
  | false =>
    have hc : ¬ lg_cmp (sp_v τ a).toInt64 hi.toInt64 ≤ 0 := hc
    rw [r_cmp_le, r_lt64] at hc
    exact decide_eq_false (fun z => hc (fun y => absurd (Int32.not_lt.mpr z) (fun n => n y)))
variable {h h0 : am_H} {z N a c : Nat} {τ : sp_T} {C : sp_C} {s : sp_S} {F : Int32} {Q : am_Q}
theorem ex_154 {h : am_H} (hP : ex_P h) : am_sh h 154 = some (11, 0) := (ex_so hP (by decide +kernel)).2
theorem ex_156 {h : am_H} (hP : ex_P h) : am_sh h 156 = some (13, 1002) := (ex_so hP (by decide +kernel)).2
theorem ex_w156 {h : am_H} (hP : ex_P h) : am_so h 156 = some (13, 1002) := (ex_so hP (by decide +kernel)).1
theorem ex_157 {h : am_H} (hP : ex_P h) : am_sh h 157 = some (13, 1002) := (ex_so hP (by decide +kernel)).2
theorem ex_w157 {h : am_H} (hP : ex_P h) : am_so h 157 = some (13, 1002) := (ex_so hP (by decide +kernel)).1
theorem ex_158 {h : am_H} (hP : ex_P h) : am_sh h 158 = some (14, 1002) := (ex_so hP (by decide +kernel)).2
theorem ex_w158 {h : am_H} (hP : ex_P h) : am_so h 158 = some (14, 1002) := (ex_so hP (by decide +kernel)).1
theorem ex_159 {h : am_H} (hP : ex_P h) : am_sh h 159 = some (14, 21) := (ex_so hP (by decide +kernel)).2
theorem ex_w159 {h : am_H} (hP : ex_P h) : am_so h 159 = some (14, 21) := (ex_so hP (by decide +kernel)).1
theorem ex_161 {h : am_H} (hP : ex_P h) : am_sh h 161 = some (13, 2200) := (ex_so hP (by decide +kernel)).2
theorem ex_w161 {h : am_H} (hP : ex_P h) : am_so h 161 = some (13, 2200) := (ex_so hP (by decide +kernel)).1
theorem ex_162 {h : am_H} (hP : ex_P h) : am_sh h 162 = some (13, 2200) := (ex_so hP (by decide +kernel)).2
theorem ex_w162 {h : am_H} (hP : ex_P h) : am_so h 162 = some (13, 2200) := (ex_so hP (by decide +kernel)).1
theorem ex_r154_4 {h : am_H} (hP : ex_P h) : h.2.2.1 154 4 = some 156 := hP.2 154 4 156 (by decide +kernel)
theorem ex_r154_5 {h : am_H} (hP : ex_P h) : h.2.2.1 154 5 = some 157 := hP.2 154 5 157 (by decide +kernel)
theorem ex_r154_6 {h : am_H} (hP : ex_P h) : h.2.2.1 154 6 = some 158 := hP.2 154 6 158 (by decide +kernel)
theorem ex_r154_9 {h : am_H} (hP : ex_P h) : h.2.2.1 154 9 = some 159 := hP.2 154 9 159 (by decide +kernel)
theorem ex_r154_11 {h : am_H} (hP : ex_P h) : h.2.2.1 154 11 = some 161 := hP.2 154 11 161 (by decide +kernel)
theorem ex_r154_12 {h : am_H} (hP : ex_P h) : h.2.2.1 154 12 = some 162 := hP.2 154 12 162 (by decide +kernel)
theorem d_195 {y : Int32} (x : rx h0 F c h) (hQ : Q (some (.int (Int32.ofInt 0))) h) : am_call am_cod 1 195 [.ref 154, .int y] h Q := by
  have hP := x.1
  refine pz_call (n := 195) (nL := 2) (rt := (some .boolean)) (rows := am_r195) (d := 0) (by decide +kernel) (by decide +kernel) rfl (by funext pc; rfl) (ex_175 hP) (by exact Nat.le_of_ble_eq_true rfl) ?_
  refine am_goX 2 (show am_sh h 154 = some (11, 0) ∧ pz_S 2 (some .boolean) am_r195 0 Q 4 [(0, .ref 154), (1, .int y)] [.int (h.1 154 8)] h from ⟨ex_154 x.1, ?_⟩)
  rw [x.2.1.1]
  refine am_goX 1 (show (¬ (F) = 0 → pz_S 2 (some .boolean) am_r195 0 Q 43 [(0, .ref 154), (1, .int y)] [] h) ∧ (¬ ¬ (F) = 0 → pz_S 2 (some .boolean) am_r195 0 Q 7 [(0, .ref 154), (1, .int y)] [] h) from ⟨fun _ => ?_, fun hz => absurd (rx_ne x) hz⟩)
  exact am_goX 2 (show (∃ ty, (some .boolean) = some ty ∧ narrow ty (.int ((Int32.ofInt 0))) = .int ((Int32.ofInt 0))) ∧ h.2.2.2.2 = 175 ∧ _ from ⟨⟨.boolean, rfl, rfl⟩, ex_175 x.1, hQ⟩)
theorem r_195 {y : Int32} {w : Nat} {W : Int64} (hw : w < 21) (hy : y = nI w) (hW : rw_w w = W) (l : rr h0 z τ N s h) (hQ : Q (some (.int (pz_b (sp_w τ s.1 W)))) h) : am_call am_cod 1 195 [.ref 154, .int y] h Q := by
  have hP := r_P l
  refine pz_call (n := 195) (nL := 2) (rt := (some .boolean)) (rows := am_r195) (d := 0) (by decide +kernel) (by decide +kernel) rfl (by funext pc; rfl) (ex_175 hP) (by exact Nat.le_of_ble_eq_true rfl) ?_
  refine am_goX 2 (show am_sh h 154 = some (11, 0) ∧ pz_S 2 (some .boolean) am_r195 0 Q 4 [(0, .ref 154), (1, .int y)] [.int (h.1 154 8)] h from ⟨ex_154 (r_P l), ?_⟩)
  rw [r_f l]
  refine am_goX 1 (show (¬ 0 = 0 → pz_S 2 (some .boolean) am_r195 0 Q 43 [(0, .ref 154), (1, .int y)] [] h) ∧ (¬ ¬ 0 = 0 → pz_S 2 (some .boolean) am_r195 0 Q 7 [(0, .ref 154), (1, .int y)] [] h) from ⟨fun hz => absurd hz (by decide), fun _ => ?_⟩)
  refine am_goX 2 (show am_sh h 154 = some (11, 0) ∧ pz_S 2 (some .boolean) am_r195 0 Q 11 [(0, .ref 154), (1, .int y)] [am_rf (h.2.2.1 154 4)] h from ⟨ex_154 (r_P l), ?_⟩)
  rw [ex_r154_4 (h := h) (r_P l)]
  refine am_goX 3 (show am_sh h 154 = some (11, 0) ∧ ∃ jj nn : Nat, am_sh h 156 = some (13, nn) ∧ jj < nn ∧ (h.1 154 7) = nI jj ∧ pz_S 2 (some .boolean) am_r195 0 Q 16 [(0, .ref 154), (1, .int y)] [.int (h.1 156 jj)] h from ⟨ex_154 (r_P l), s.1, 1002, ex_156 (r_P l), (by have := r_N l; first | omega | (dsimp only at this; omega) | (dsimp only at this ⊢; omega)), r_a l, ?_⟩)
  rw [r_k l]
  refine am_goX 1 (show pz_S 2 (some .boolean) am_r195 0 Q 17 [(0, .ref 154), (1, .int y)] [.int (Int32.ofInt 1), .int (τ s.1).1] h from ?_)
  cases e1 : sp_k τ s.1 1 with
  | true =>
    refine am_goX 1 (show (¬ (τ s.1).1 = (Int32.ofInt 1) → pz_S 2 (some .boolean) am_r195 0 Q 43 [(0, .ref 154), (1, .int y)] [] h) ∧ (¬ ¬ (τ s.1).1 = (Int32.ofInt 1) → pz_S 2 (some .boolean) am_r195 0 Q 20 [(0, .ref 154), (1, .int y)] [] h) from ⟨fun hz => absurd hz (fun w => w (sp_kt e1)), fun _ => ?_⟩)
    refine am_goX 2 (show am_sh h 154 = some (11, 0) ∧ pz_S 2 (some .boolean) am_r195 0 Q 24 [(0, .ref 154), (1, .int y)] [am_rf (h.2.2.1 154 6)] h from ⟨ex_154 (r_P l), ?_⟩)
    rw [ex_r154_6 (h := h) (r_P l)]
    refine am_goX 3 (show am_sh h 154 = some (11, 0) ∧ ∃ jj nn : Nat, am_sh h 158 = some (14, nn) ∧ jj < nn ∧ (h.1 154 7) = nI jj ∧ pz_S 2 (some .boolean) am_r195 0 Q 29 [(0, .ref 154), (1, .int y)] [.long (h.2.1 158 jj)] h from ⟨ex_154 (r_P l), s.1, 1002, ex_158 (r_P l), (by have := r_N l; first | omega | (dsimp only at this; omega) | (dsimp only at this ⊢; omega)), r_a l, ?_⟩)
    rw [r_v l (sp_kn (by decide) e1)]
    refine am_goX 2 (show am_sh h 154 = some (11, 0) ∧ pz_S 2 (some .boolean) am_r195 0 Q 33 [(0, .ref 154), (1, .int y)] [am_rf (h.2.2.1 154 9), .long (τ s.1).2.1] h from ⟨ex_154 (r_P l), ?_⟩)
    rw [ex_r154_9 (h := h) (r_P l)]
    refine am_goX 2 (show ∃ jj nn : Nat, am_sh h 159 = some (14, nn) ∧ jj < nn ∧ y = nI jj ∧ pz_S 2 (some .boolean) am_r195 0 Q 35 [(0, .ref 154), (1, .int y)] [.long (h.2.1 159 jj), .long (τ s.1).2.1] h from ⟨w, 21, ex_159 (r_P l), hw, hy, ?_⟩)
    rw [r_w l hw, hW]
    refine am_goX 2 (show (¬ (lg_cmp ((τ s.1).2.1) (W)) = 0 → pz_S 2 (some .boolean) am_r195 0 Q 43 [(0, .ref 154), (1, .int y)] [] h) ∧ (¬ ¬ (lg_cmp ((τ s.1).2.1) (W)) = 0 → pz_S 2 (some .boolean) am_r195 0 Q 39 [(0, .ref 154), (1, .int y)] [] h) from ⟨fun hc => ?_, fun hc => ?_⟩)
    ·
      have e9 : decide ((τ s.1).2.1 = W) = false := decide_eq_false (fun e => hc ((pz_cmp _ _).mpr e))
      refine am_goX 1 (show pz_S 2 (some .boolean) am_r195 0 Q 44 [(0, .ref 154), (1, .int y)] [.int (Int32.ofInt 0)] h from ?_)
      rw [sp_w_e e1, e9] at hQ
      exact am_goX 1 (show (∃ ty, (some .boolean) = some ty ∧ narrow ty (.int ((Int32.ofInt 0))) = .int ((Int32.ofInt 0))) ∧ h.2.2.2.2 = 175 ∧ _ from ⟨⟨.boolean, rfl, rfl⟩, ex_175 (r_P l), hQ⟩)
    ·
      have e9 : decide ((τ s.1).2.1 = W) = true := decide_eq_true ((pz_cmp _ _).mp (Decidable.not_not.mp hc))
      refine am_goX 2 (show pz_S 2 (some .boolean) am_r195 0 Q 44 [(0, .ref 154), (1, .int y)] [.int (Int32.ofInt 1)] h from ?_)
      rw [sp_w_e e1, e9] at hQ
      exact am_goX 1 (show (∃ ty, (some .boolean) = some ty ∧ narrow ty (.int ((Int32.ofInt 1))) = .int ((Int32.ofInt 1))) ∧ h.2.2.2.2 = 175 ∧ _ from ⟨⟨.boolean, rfl, rfl⟩, ex_175 (r_P l), hQ⟩)
  | false =>
    refine am_goX 1 (show (¬ (τ s.1).1 = (Int32.ofInt 1) → pz_S 2 (some .boolean) am_r195 0 Q 43 [(0, .ref 154), (1, .int y)] [] h) ∧ (¬ ¬ (τ s.1).1 = (Int32.ofInt 1) → pz_S 2 (some .boolean) am_r195 0 Q 20 [(0, .ref 154), (1, .int y)] [] h) from ⟨fun _ => ?_, fun hz => absurd (of_decide_eq_false e1) hz⟩)
    refine am_goX 1 (show pz_S 2 (some .boolean) am_r195 0 Q 44 [(0, .ref 154), (1, .int y)] [.int (Int32.ofInt 0)] h from ?_)
    rw [sp_w_n e1] at hQ
    exact am_goX 1 (show (∃ ty, (some .boolean) = some ty ∧ narrow ty (.int ((Int32.ofInt 0))) = .int ((Int32.ofInt 0))) ∧ h.2.2.2.2 = 175 ∧ _ from ⟨⟨.boolean, rfl, rfl⟩, ex_175 (r_P l), hQ⟩)
theorem d_215 {y : Int32} (x : rx h0 F c h) (hQ : Q (some (.int (Int32.ofInt 0))) h) : am_call am_cod 1 215 [.ref 154, .int y] h Q := by
  have hP := x.1
  refine pz_call (n := 215) (nL := 2) (rt := (some .boolean)) (rows := am_r215) (d := 0) (by decide +kernel) (by decide +kernel) rfl (by funext pc; rfl) (ex_175 hP) (by exact Nat.le_of_ble_eq_true rfl) ?_
  refine am_goX 2 (show am_sh h 154 = some (11, 0) ∧ pz_S 2 (some .boolean) am_r215 0 Q 4 [(0, .ref 154), (1, .int y)] [.int (h.1 154 8)] h from ⟨ex_154 x.1, ?_⟩)
  rw [x.2.1.1]
  refine am_goX 1 (show (¬ (F) = 0 → pz_S 2 (some .boolean) am_r215 0 Q 39 [(0, .ref 154), (1, .int y)] [] h) ∧ (¬ ¬ (F) = 0 → pz_S 2 (some .boolean) am_r215 0 Q 7 [(0, .ref 154), (1, .int y)] [] h) from ⟨fun _ => ?_, fun hz => absurd (rx_ne x) hz⟩)
  exact am_goX 2 (show (∃ ty, (some .boolean) = some ty ∧ narrow ty (.int ((Int32.ofInt 0))) = .int ((Int32.ofInt 0))) ∧ h.2.2.2.2 = 175 ∧ _ from ⟨⟨.boolean, rfl, rfl⟩, ex_175 x.1, hQ⟩)
theorem r_215 {y : Int32} (l : rr h0 z τ N s h) (hQ : Q (some (.int (pz_b (sp_s τ s.1 y)))) h) : am_call am_cod 1 215 [.ref 154, .int y] h Q := by
  have hP := r_P l
  refine pz_call (n := 215) (nL := 2) (rt := (some .boolean)) (rows := am_r215) (d := 0) (by decide +kernel) (by decide +kernel) rfl (by funext pc; rfl) (ex_175 hP) (by exact Nat.le_of_ble_eq_true rfl) ?_
  refine am_goX 2 (show am_sh h 154 = some (11, 0) ∧ pz_S 2 (some .boolean) am_r215 0 Q 4 [(0, .ref 154), (1, .int y)] [.int (h.1 154 8)] h from ⟨ex_154 (r_P l), ?_⟩)
  rw [r_f l]
  refine am_goX 1 (show (¬ 0 = 0 → pz_S 2 (some .boolean) am_r215 0 Q 39 [(0, .ref 154), (1, .int y)] [] h) ∧ (¬ ¬ 0 = 0 → pz_S 2 (some .boolean) am_r215 0 Q 7 [(0, .ref 154), (1, .int y)] [] h) from ⟨fun hz => absurd hz (by decide), fun _ => ?_⟩)
  refine am_goX 2 (show am_sh h 154 = some (11, 0) ∧ pz_S 2 (some .boolean) am_r215 0 Q 11 [(0, .ref 154), (1, .int y)] [am_rf (h.2.2.1 154 4)] h from ⟨ex_154 (r_P l), ?_⟩)
  rw [ex_r154_4 (h := h) (r_P l)]
  refine am_goX 3 (show am_sh h 154 = some (11, 0) ∧ ∃ jj nn : Nat, am_sh h 156 = some (13, nn) ∧ jj < nn ∧ (h.1 154 7) = nI jj ∧ pz_S 2 (some .boolean) am_r215 0 Q 16 [(0, .ref 154), (1, .int y)] [.int (h.1 156 jj)] h from ⟨ex_154 (r_P l), s.1, 1002, ex_156 (r_P l), (by have := r_N l; first | omega | (dsimp only at this; omega) | (dsimp only at this ⊢; omega)), r_a l, ?_⟩)
  rw [r_k l]
  refine am_goX 1 (show pz_S 2 (some .boolean) am_r215 0 Q 17 [(0, .ref 154), (1, .int y)] [.int (Int32.ofInt 3), .int (τ s.1).1] h from ?_)
  cases e2 : sp_k τ s.1 3 with
  | true =>
    refine am_goX 1 (show (¬ (τ s.1).1 = (Int32.ofInt 3) → pz_S 2 (some .boolean) am_r215 0 Q 39 [(0, .ref 154), (1, .int y)] [] h) ∧ (¬ ¬ (τ s.1).1 = (Int32.ofInt 3) → pz_S 2 (some .boolean) am_r215 0 Q 20 [(0, .ref 154), (1, .int y)] [] h) from ⟨fun hz => absurd hz (fun w => w (sp_kt e2)), fun _ => ?_⟩)
    refine am_goX 2 (show am_sh h 154 = some (11, 0) ∧ pz_S 2 (some .boolean) am_r215 0 Q 24 [(0, .ref 154), (1, .int y)] [am_rf (h.2.2.1 154 6)] h from ⟨ex_154 (r_P l), ?_⟩)
    rw [ex_r154_6 (h := h) (r_P l)]
    refine am_goX 3 (show am_sh h 154 = some (11, 0) ∧ ∃ jj nn : Nat, am_sh h 158 = some (14, nn) ∧ jj < nn ∧ (h.1 154 7) = nI jj ∧ pz_S 2 (some .boolean) am_r215 0 Q 29 [(0, .ref 154), (1, .int y)] [.long (h.2.1 158 jj)] h from ⟨ex_154 (r_P l), s.1, 1002, ex_158 (r_P l), (by have := r_N l; first | omega | (dsimp only at this; omega) | (dsimp only at this ⊢; omega)), r_a l, ?_⟩)
    rw [r_v l (sp_kn (by decide) e2)]
    refine am_goX 4 (show (¬ (lg_cmp ((τ s.1).2.1) ((y).toInt64)) = 0 → pz_S 2 (some .boolean) am_r215 0 Q 39 [(0, .ref 154), (1, .int y)] [] h) ∧ (¬ ¬ (lg_cmp ((τ s.1).2.1) ((y).toInt64)) = 0 → pz_S 2 (some .boolean) am_r215 0 Q 35 [(0, .ref 154), (1, .int y)] [] h) from ⟨fun hc => ?_, fun hc => ?_⟩)
    ·
      have e9 : decide ((τ s.1).2.1 = y.toInt64) = false := decide_eq_false (fun e => hc ((pz_cmp _ _).mpr e))
      refine am_goX 1 (show pz_S 2 (some .boolean) am_r215 0 Q 40 [(0, .ref 154), (1, .int y)] [.int (Int32.ofInt 0)] h from ?_)
      rw [sp_s_e e2, e9] at hQ
      exact am_goX 1 (show (∃ ty, (some .boolean) = some ty ∧ narrow ty (.int ((Int32.ofInt 0))) = .int ((Int32.ofInt 0))) ∧ h.2.2.2.2 = 175 ∧ _ from ⟨⟨.boolean, rfl, rfl⟩, ex_175 (r_P l), hQ⟩)
    ·
      have e9 : decide ((τ s.1).2.1 = y.toInt64) = true := decide_eq_true ((pz_cmp _ _).mp (Decidable.not_not.mp hc))
      refine am_goX 2 (show pz_S 2 (some .boolean) am_r215 0 Q 40 [(0, .ref 154), (1, .int y)] [.int (Int32.ofInt 1)] h from ?_)
      rw [sp_s_e e2, e9] at hQ
      exact am_goX 1 (show (∃ ty, (some .boolean) = some ty ∧ narrow ty (.int ((Int32.ofInt 1))) = .int ((Int32.ofInt 1))) ∧ h.2.2.2.2 = 175 ∧ _ from ⟨⟨.boolean, rfl, rfl⟩, ex_175 (r_P l), hQ⟩)
  | false =>
    refine am_goX 1 (show (¬ (τ s.1).1 = (Int32.ofInt 3) → pz_S 2 (some .boolean) am_r215 0 Q 39 [(0, .ref 154), (1, .int y)] [] h) ∧ (¬ ¬ (τ s.1).1 = (Int32.ofInt 3) → pz_S 2 (some .boolean) am_r215 0 Q 20 [(0, .ref 154), (1, .int y)] [] h) from ⟨fun _ => ?_, fun hz => absurd (of_decide_eq_false e2) hz⟩)
    refine am_goX 1 (show pz_S 2 (some .boolean) am_r215 0 Q 40 [(0, .ref 154), (1, .int y)] [.int (Int32.ofInt 0)] h from ?_)
    rw [sp_s_n e2] at hQ
    exact am_goX 1 (show (∃ ty, (some .boolean) = some ty ∧ narrow ty (.int ((Int32.ofInt 0))) = .int ((Int32.ofInt 0))) ∧ h.2.2.2.2 = 175 ∧ _ from ⟨⟨.boolean, rfl, rfl⟩, ex_175 (r_P l), hQ⟩)
theorem d_197 {y : Int32} (x : rx h0 F c h) (hQ : Q none h) : am_call am_cod 1 197 [.ref 154, .int y] h Q := by
  have hP := x.1
  refine pz_call (n := 197) (nL := 2) (rt := none) (rows := am_r197) (d := 0) (by decide +kernel) (by decide +kernel) rfl (by funext pc; rfl) (ex_175 hP) (by exact Nat.le_of_ble_eq_true rfl) ?_
  refine am_goX 2 (show am_sh h 154 = some (11, 0) ∧ pz_S 2 none am_r197 0 Q 4 [(0, .ref 154), (1, .int y)] [.int (h.1 154 8)] h from ⟨ex_154 x.1, ?_⟩)
  rw [x.2.1.1]
  refine am_goX 1 (show (¬ (F) = 0 → pz_S 2 none am_r197 0 Q 25 [(0, .ref 154), (1, .int y)] [] h) ∧ (¬ ¬ (F) = 0 → pz_S 2 none am_r197 0 Q 7 [(0, .ref 154), (1, .int y)] [] h) from ⟨fun _ => ?_, fun hz => absurd (rx_ne x) hz⟩)
  exact am_goX 1 (show (none : Option FieldType) = none ∧ h.2.2.2.2 = 175 ∧ _ from ⟨rfl, ex_175 x.1, hQ⟩)
theorem r_197 {k : Int32} (l : rr h0 z τ N s h) (hQ : Q none (am_wI h 154 8 (sp_ft τ s.1 k))) : am_call am_cod 1 197 [.ref 154, .int k] h Q := by
  have hP := r_P l
  refine pz_call (n := 197) (nL := 2) (rt := none) (rows := am_r197) (d := 0) (by decide +kernel) (by decide +kernel) rfl (by funext pc; rfl) (ex_175 hP) (by exact Nat.le_of_ble_eq_true rfl) ?_
  refine am_goX 2 (show am_sh h 154 = some (11, 0) ∧ pz_S 2 none am_r197 0 Q 4 [(0, .ref 154), (1, .int k)] [.int (h.1 154 8)] h from ⟨ex_154 (r_P l), ?_⟩)
  rw [r_f l]
  refine am_goX 1 (show (¬ 0 = 0 → pz_S 2 none am_r197 0 Q 25 [(0, .ref 154), (1, .int k)] [] h) ∧ (¬ ¬ 0 = 0 → pz_S 2 none am_r197 0 Q 7 [(0, .ref 154), (1, .int k)] [] h) from ⟨fun hz => absurd hz (by decide), fun _ => ?_⟩)
  refine am_goX 5 (show am_sh h 154 = some (11, 0) ∧ pz_S 2 none am_r197 0 Q 15 [(0, .ref 154), (1, .int k)] [am_rf (h.2.2.1 154 5), .int (Int8.ofInt 16).toInt32, .int k, .ref 154] h from ⟨ex_154 (r_P l), ?_⟩)
  rw [ex_r154_5 (h := h) (r_P l)]
  refine am_goX 3 (show am_sh h 154 = some (11, 0) ∧ ∃ jj nn : Nat, am_sh h 157 = some (13, nn) ∧ jj < nn ∧ (h.1 154 7) = nI jj ∧ pz_S 2 none am_r197 0 Q 20 [(0, .ref 154), (1, .int k)] [.int (h.1 157 jj), .int (Int8.ofInt 16).toInt32, .int k, .ref 154] h from ⟨ex_154 (r_P l), s.1, 1002, ex_157 (r_P l), (by have := r_N l; first | omega | (dsimp only at this; omega) | (dsimp only at this ⊢; omega)), r_a l, ?_⟩)
  rw [r_p l]
  refine am_goX 3 (show am_sh h 154 = some (11, 0) ∧ narrow (am_fty 11 8) (.int ((k + ((Int8.ofInt 16).toInt32 * (nI (τ s.1).2.2))))) = .int ((k + ((Int8.ofInt 16).toInt32 * (nI (τ s.1).2.2)))) ∧ fits (am_fty 11 8) (.int ((k + ((Int8.ofInt 16).toInt32 * (nI (τ s.1).2.2))))) = true ∧ pz_S 2 none am_r197 0 Q 25 [(0, .ref 154), (1, .int k)] [] (am_wI h 154 8 ((k + ((Int8.ofInt 16).toInt32 * (nI (τ s.1).2.2))))) from ⟨ex_154 (r_P l), rfl, rfl, ?_⟩)
  exact am_goX 1 (show (none : Option FieldType) = none ∧ (am_wI h 154 8 (sp_ft τ s.1 k)).2.2.2.2 = 175 ∧ _ from ⟨rfl, ex_175 hP, hQ⟩)
theorem d_217 {y : Int32} (x : rx h0 F c h) (hQ : ∀ h1, rx h0 F c h1 → Q (some (.int (Int32.ofInt 0))) h1) : am_call am_cod 2 217 [.ref 154, .int y] h Q := by
  have hP := x.1
  refine pz_call (n := 217) (nL := 3) (rt := (some .boolean)) (rows := am_r217) (d := 1) (by decide +kernel) (by decide +kernel) rfl (by funext pc; rfl) (ex_175 hP) (by exact Nat.le_of_ble_eq_true rfl) ?_
  refine am_goX 3 (show am_rc h 154 11 ∧ 0 ≤ 8 ∧ h.2.2.2.2 + am_al 215 ≤ 175 ∧ am_call am_cod 1 215 [.ref 154, .int y] h (fun vv h' => pz_S 3 (some .boolean) am_r217 1 Q 5 [(0, .ref 154), (1, .int y)] (vv.toList ++ []) h') from ⟨Or.inl ⟨by decide, ex_154 x.1⟩, by decide, ex_lim x.1 rfl, d_215 x ?_⟩)
  refine am_goX 6 (show 2 < 3 ∧ (Value.ref 154).category = 1 ∧ am_sh h 154 = some (11, 0) ∧ ((Int32.ofInt 0) = 0 → pz_S 3 (some .boolean) am_r217 1 Q 19 [(2, .int (Int32.ofInt 0)), (0, .ref 154), (1, .int y)] [.int (h.1 154 7), .ref 154] h) ∧ (¬ ((Int32.ofInt 0) = 0) → pz_S 3 (some .boolean) am_r217 1 Q 15 [(2, .int (Int32.ofInt 0)), (0, .ref 154), (1, .int y)] [.int (h.1 154 7), .ref 154] h) from ⟨by decide, rfl, ex_154 x.1, fun _ => ?_, fun hz => absurd (by decide) hz⟩)
  refine am_goX 3 (show am_sh h 154 = some (11, 0) ∧ narrow (am_fty 11 7) (.int (((h.1 154 7) + (Int32.ofInt 0)))) = .int (((h.1 154 7) + (Int32.ofInt 0))) ∧ fits (am_fty 11 7) (.int (((h.1 154 7) + (Int32.ofInt 0)))) = true ∧ pz_S 3 (some .boolean) am_r217 1 Q 24 [(2, .int (Int32.ofInt 0)), (0, .ref 154), (1, .int y)] [] (am_wI h 154 7 (((h.1 154 7) + (Int32.ofInt 0)))) from ⟨ex_154 x.1, rfl, rfl, ?_⟩)
  have x3 : rx h0 (F) (c) (am_wI h 154 7 (((h.1 154 7) + (Int32.ofInt 0)))) := rx_at x
  exact am_goX 2 (show (∃ ty, (some .boolean) = some ty ∧ narrow ty (.int ((Int32.ofInt 0))) = .int ((Int32.ofInt 0))) ∧ (am_wI h 154 7 (((h.1 154 7) + (Int32.ofInt 0)))).2.2.2.2 = 175 ∧ _ from ⟨⟨.boolean, rfl, rfl⟩, ex_175 x3.1, hQ _ x3⟩)
theorem r_217 {y : Int32} (l : rr h0 z τ N s h) (hQ : ∀ h1, rr h0 z τ N (bif sp_s τ s.1 y then (s.1 + 1, s.2) else s) h1 → Q (some (.int (pz_b (sp_s τ s.1 y)))) h1) : am_call am_cod 2 217 [.ref 154, .int y] h Q := by
  have hP := r_P l
  refine pz_call (n := 217) (nL := 3) (rt := (some .boolean)) (rows := am_r217) (d := 1) (by decide +kernel) (by decide +kernel) rfl (by funext pc; rfl) (ex_175 hP) (by exact Nat.le_of_ble_eq_true rfl) ?_
  refine am_goX 3 (show am_rc h 154 11 ∧ 0 ≤ 8 ∧ h.2.2.2.2 + am_al 215 ≤ 175 ∧ am_call am_cod 1 215 [.ref 154, .int y] h (fun vv h' => pz_S 3 (some .boolean) am_r217 1 Q 5 [(0, .ref 154), (1, .int y)] (vv.toList ++ []) h') from ⟨Or.inl ⟨by decide, ex_154 (r_P l)⟩, by decide, ex_lim (r_P l) rfl, r_215 l ?_⟩)
  refine am_goX 5 (show 2 < 3 ∧ (Value.ref 154).category = 1 ∧ am_sh h 154 = some (11, 0) ∧ pz_S 3 (some .boolean) am_r217 1 Q 12 [(2, .int (pz_b (sp_s τ s.1 y))), (0, .ref 154), (1, .int y)] [.int (pz_b (sp_s τ s.1 y)), .int (h.1 154 7), .ref 154] h from ⟨by decide, rfl, ex_154 (r_P l), ?_⟩)
  cases e4 : sp_s τ s.1 y with
  | true =>
    refine am_goX 1 (show ((pz_b (true)) = 0 → pz_S 3 (some .boolean) am_r217 1 Q 19 [(2, .int (pz_b (true))), (0, .ref 154), (1, .int y)] [.int (h.1 154 7), .ref 154] h) ∧ (¬ ((pz_b (true)) = 0) → pz_S 3 (some .boolean) am_r217 1 Q 15 [(2, .int (pz_b (true))), (0, .ref 154), (1, .int y)] [.int (h.1 154 7), .ref 154] h) from ⟨fun hz => absurd hz (by decide), fun _ => ?_⟩)
    refine am_goX 4 (show am_sh h 154 = some (11, 0) ∧ narrow (am_fty 11 7) (.int (((h.1 154 7) + (Int32.ofInt 1)))) = .int (((h.1 154 7) + (Int32.ofInt 1))) ∧ fits (am_fty 11 7) (.int (((h.1 154 7) + (Int32.ofInt 1)))) = true ∧ pz_S 3 (some .boolean) am_r217 1 Q 24 [(2, .int (pz_b (true))), (0, .ref 154), (1, .int y)] [] (am_wI h 154 7 (((h.1 154 7) + (Int32.ofInt 1)))) from ⟨ex_154 (r_P l), rfl, rfl, ?_⟩)
    rw [r_a l, xw_i1]
    have l5 : rr h0 z τ N (s.1 + 1, s.2) (am_wI h 154 7 (nI (s.1 + 1))) := rr_nx (a := s.1) (C := s.2) l (sp_sn e4)
    refine am_goX 1 (show pz_S 3 (some .boolean) am_r217 1 Q 25 [(2, .int (pz_b (true))), (0, .ref 154), (1, .int y)] [.int (pz_b (true))] (am_wI h 154 7 (nI (s.1 + 1))) from ?_)
    rw [e4] at hQ
    exact am_goX 1 (show (∃ ty, (some .boolean) = some ty ∧ narrow ty (.int ((pz_b (true)))) = .int ((pz_b (true)))) ∧ (am_wI h 154 7 (nI (s.1 + 1))).2.2.2.2 = 175 ∧ _ from ⟨⟨.boolean, rfl, rfl⟩, ex_175 (r_P l5), hQ _ l5⟩)
  | false =>
    refine am_goX 1 (show ((pz_b (false)) = 0 → pz_S 3 (some .boolean) am_r217 1 Q 19 [(2, .int (pz_b (false))), (0, .ref 154), (1, .int y)] [.int (h.1 154 7), .ref 154] h) ∧ (¬ ((pz_b (false)) = 0) → pz_S 3 (some .boolean) am_r217 1 Q 15 [(2, .int (pz_b (false))), (0, .ref 154), (1, .int y)] [.int (h.1 154 7), .ref 154] h) from ⟨fun _ => ?_, fun hz => absurd (by decide) hz⟩)
    refine am_goX 3 (show am_sh h 154 = some (11, 0) ∧ narrow (am_fty 11 7) (.int (((h.1 154 7) + (Int32.ofInt 0)))) = .int (((h.1 154 7) + (Int32.ofInt 0))) ∧ fits (am_fty 11 7) (.int (((h.1 154 7) + (Int32.ofInt 0)))) = true ∧ pz_S 3 (some .boolean) am_r217 1 Q 24 [(2, .int (pz_b (false))), (0, .ref 154), (1, .int y)] [] (am_wI h 154 7 (((h.1 154 7) + (Int32.ofInt 0)))) from ⟨ex_154 (r_P l), rfl, rfl, ?_⟩)
    rw [r_a l, xw_i0]
    have l6 : rr h0 z τ N s (am_wI h 154 7 (nI s.1)) := rr_sm (s := s) l
    refine am_goX 1 (show pz_S 3 (some .boolean) am_r217 1 Q 25 [(2, .int (pz_b (false))), (0, .ref 154), (1, .int y)] [.int (pz_b (false))] (am_wI h 154 7 (nI s.1)) from ?_)
    rw [e4] at hQ
    exact am_goX 1 (show (∃ ty, (some .boolean) = some ty ∧ narrow ty (.int ((pz_b (false)))) = .int ((pz_b (false)))) ∧ (am_wI h 154 7 (nI s.1)).2.2.2.2 = 175 ∧ _ from ⟨⟨.boolean, rfl, rfl⟩, ex_175 (r_P l6), hQ _ l6⟩)
theorem d_204 {y : Int32} (x : rx h0 F c h) (hQ : ∀ h1, rx h0 F c h1 → Q (some (.int (Int32.ofInt 0))) h1) : am_call am_cod 2 204 [.ref 154, .int y] h Q := by
  have hP := x.1
  refine pz_call (n := 204) (nL := 3) (rt := (some .boolean)) (rows := am_r204) (d := 1) (by decide +kernel) (by decide +kernel) rfl (by funext pc; rfl) (ex_175 hP) (by exact Nat.le_of_ble_eq_true rfl) ?_
  refine am_goX 3 (show am_rc h 154 11 ∧ 0 ≤ 8 ∧ h.2.2.2.2 + am_al 195 ≤ 175 ∧ am_call am_cod 1 195 [.ref 154, .int y] h (fun vv h' => pz_S 3 (some .boolean) am_r204 1 Q 5 [(0, .ref 154), (1, .int y)] (vv.toList ++ []) h') from ⟨Or.inl ⟨by decide, ex_154 x.1⟩, by decide, ex_lim x.1 rfl, d_195 x ?_⟩)
  refine am_goX 6 (show 2 < 3 ∧ (Value.ref 154).category = 1 ∧ am_sh h 154 = some (11, 0) ∧ ((Int32.ofInt 0) = 0 → pz_S 3 (some .boolean) am_r204 1 Q 19 [(2, .int (Int32.ofInt 0)), (0, .ref 154), (1, .int y)] [.int (h.1 154 7), .ref 154] h) ∧ (¬ ((Int32.ofInt 0) = 0) → pz_S 3 (some .boolean) am_r204 1 Q 15 [(2, .int (Int32.ofInt 0)), (0, .ref 154), (1, .int y)] [.int (h.1 154 7), .ref 154] h) from ⟨by decide, rfl, ex_154 x.1, fun _ => ?_, fun hz => absurd (by decide) hz⟩)
  refine am_goX 3 (show am_sh h 154 = some (11, 0) ∧ narrow (am_fty 11 7) (.int (((h.1 154 7) + (Int32.ofInt 0)))) = .int (((h.1 154 7) + (Int32.ofInt 0))) ∧ fits (am_fty 11 7) (.int (((h.1 154 7) + (Int32.ofInt 0)))) = true ∧ pz_S 3 (some .boolean) am_r204 1 Q 24 [(2, .int (Int32.ofInt 0)), (0, .ref 154), (1, .int y)] [] (am_wI h 154 7 (((h.1 154 7) + (Int32.ofInt 0)))) from ⟨ex_154 x.1, rfl, rfl, ?_⟩)
  have x7 : rx h0 (F) (c) (am_wI h 154 7 (((h.1 154 7) + (Int32.ofInt 0)))) := rx_at x
  exact am_goX 2 (show (∃ ty, (some .boolean) = some ty ∧ narrow ty (.int ((Int32.ofInt 0))) = .int ((Int32.ofInt 0))) ∧ (am_wI h 154 7 (((h.1 154 7) + (Int32.ofInt 0)))).2.2.2.2 = 175 ∧ _ from ⟨⟨.boolean, rfl, rfl⟩, ex_175 x7.1, hQ _ x7⟩)
theorem r_204 {y : Int32} {w : Nat} {W : Int64} (hw : w < 21) (hy : y = nI w) (hW : rw_w w = W) (l : rr h0 z τ N s h) (hQ : ∀ h1, rr h0 z τ N (bif sp_w τ s.1 W then (s.1 + 1, s.2) else s) h1 → Q (some (.int (pz_b (sp_w τ s.1 W)))) h1) : am_call am_cod 2 204 [.ref 154, .int y] h Q := by
  have hP := r_P l
  refine pz_call (n := 204) (nL := 3) (rt := (some .boolean)) (rows := am_r204) (d := 1) (by decide +kernel) (by decide +kernel) rfl (by funext pc; rfl) (ex_175 hP) (by exact Nat.le_of_ble_eq_true rfl) ?_
  refine am_goX 3 (show am_rc h 154 11 ∧ 0 ≤ 8 ∧ h.2.2.2.2 + am_al 195 ≤ 175 ∧ am_call am_cod 1 195 [.ref 154, .int y] h (fun vv h' => pz_S 3 (some .boolean) am_r204 1 Q 5 [(0, .ref 154), (1, .int y)] (vv.toList ++ []) h') from ⟨Or.inl ⟨by decide, ex_154 (r_P l)⟩, by decide, ex_lim (r_P l) rfl, r_195 hw hy hW l ?_⟩)
  refine am_goX 5 (show 2 < 3 ∧ (Value.ref 154).category = 1 ∧ am_sh h 154 = some (11, 0) ∧ pz_S 3 (some .boolean) am_r204 1 Q 12 [(2, .int (pz_b (sp_w τ s.1 W))), (0, .ref 154), (1, .int y)] [.int (pz_b (sp_w τ s.1 W)), .int (h.1 154 7), .ref 154] h from ⟨by decide, rfl, ex_154 (r_P l), ?_⟩)
  cases e8 : sp_w τ s.1 W with
  | true =>
    refine am_goX 1 (show ((pz_b (true)) = 0 → pz_S 3 (some .boolean) am_r204 1 Q 19 [(2, .int (pz_b (true))), (0, .ref 154), (1, .int y)] [.int (h.1 154 7), .ref 154] h) ∧ (¬ ((pz_b (true)) = 0) → pz_S 3 (some .boolean) am_r204 1 Q 15 [(2, .int (pz_b (true))), (0, .ref 154), (1, .int y)] [.int (h.1 154 7), .ref 154] h) from ⟨fun hz => absurd hz (by decide), fun _ => ?_⟩)
    refine am_goX 4 (show am_sh h 154 = some (11, 0) ∧ narrow (am_fty 11 7) (.int (((h.1 154 7) + (Int32.ofInt 1)))) = .int (((h.1 154 7) + (Int32.ofInt 1))) ∧ fits (am_fty 11 7) (.int (((h.1 154 7) + (Int32.ofInt 1)))) = true ∧ pz_S 3 (some .boolean) am_r204 1 Q 24 [(2, .int (pz_b (true))), (0, .ref 154), (1, .int y)] [] (am_wI h 154 7 (((h.1 154 7) + (Int32.ofInt 1)))) from ⟨ex_154 (r_P l), rfl, rfl, ?_⟩)
    rw [r_a l, xw_i1]
    have l9 : rr h0 z τ N (s.1 + 1, s.2) (am_wI h 154 7 (nI (s.1 + 1))) := rr_nx (a := s.1) (C := s.2) l (sp_wn e8)
    refine am_goX 1 (show pz_S 3 (some .boolean) am_r204 1 Q 25 [(2, .int (pz_b (true))), (0, .ref 154), (1, .int y)] [.int (pz_b (true))] (am_wI h 154 7 (nI (s.1 + 1))) from ?_)
    rw [e8] at hQ
    exact am_goX 1 (show (∃ ty, (some .boolean) = some ty ∧ narrow ty (.int ((pz_b (true)))) = .int ((pz_b (true)))) ∧ (am_wI h 154 7 (nI (s.1 + 1))).2.2.2.2 = 175 ∧ _ from ⟨⟨.boolean, rfl, rfl⟩, ex_175 (r_P l9), hQ _ l9⟩)
  | false =>
    refine am_goX 1 (show ((pz_b (false)) = 0 → pz_S 3 (some .boolean) am_r204 1 Q 19 [(2, .int (pz_b (false))), (0, .ref 154), (1, .int y)] [.int (h.1 154 7), .ref 154] h) ∧ (¬ ((pz_b (false)) = 0) → pz_S 3 (some .boolean) am_r204 1 Q 15 [(2, .int (pz_b (false))), (0, .ref 154), (1, .int y)] [.int (h.1 154 7), .ref 154] h) from ⟨fun _ => ?_, fun hz => absurd (by decide) hz⟩)
    refine am_goX 3 (show am_sh h 154 = some (11, 0) ∧ narrow (am_fty 11 7) (.int (((h.1 154 7) + (Int32.ofInt 0)))) = .int (((h.1 154 7) + (Int32.ofInt 0))) ∧ fits (am_fty 11 7) (.int (((h.1 154 7) + (Int32.ofInt 0)))) = true ∧ pz_S 3 (some .boolean) am_r204 1 Q 24 [(2, .int (pz_b (false))), (0, .ref 154), (1, .int y)] [] (am_wI h 154 7 (((h.1 154 7) + (Int32.ofInt 0)))) from ⟨ex_154 (r_P l), rfl, rfl, ?_⟩)
    rw [r_a l, xw_i0]
    have l10 : rr h0 z τ N s (am_wI h 154 7 (nI s.1)) := rr_sm (s := s) l
    refine am_goX 1 (show pz_S 3 (some .boolean) am_r204 1 Q 25 [(2, .int (pz_b (false))), (0, .ref 154), (1, .int y)] [.int (pz_b (false))] (am_wI h 154 7 (nI s.1)) from ?_)
    rw [e8] at hQ
    exact am_goX 1 (show (∃ ty, (some .boolean) = some ty ∧ narrow ty (.int ((pz_b (false)))) = .int ((pz_b (false)))) ∧ (am_wI h 154 7 (nI s.1)).2.2.2.2 = 175 ∧ _ from ⟨⟨.boolean, rfl, rfl⟩, ex_175 (r_P l10), hQ _ l10⟩)
theorem d_218 {y : Int32} (x : rx h0 F c h) (hQ : Q none h) : am_call am_cod 2 218 [.ref 154, .int y] h Q := by
  have hP := x.1
  refine pz_call (n := 218) (nL := 2) (rt := none) (rows := am_r218) (d := 1) (by decide +kernel) (by decide +kernel) rfl (by funext pc; rfl) (ex_175 hP) (by exact Nat.le_of_ble_eq_true rfl) ?_
  refine am_goX 3 (show am_rc h 154 11 ∧ 0 ≤ 8 ∧ h.2.2.2.2 + am_al 215 ≤ 175 ∧ am_call am_cod 1 215 [.ref 154, .int y] h (fun vv h' => pz_S 2 none am_r218 1 Q 5 [(0, .ref 154), (1, .int y)] (vv.toList ++ []) h') from ⟨Or.inl ⟨by decide, ex_154 x.1⟩, by decide, ex_lim x.1 rfl, am_call.up (d_215 x ?_) (by omega)⟩)
  refine am_goX 1 (show (0 = 0 → pz_S 2 none am_r218 1 Q 21 [(0, .ref 154), (1, .int y)] [] h) ∧ (¬ (0 = 0) → pz_S 2 none am_r218 1 Q 8 [(0, .ref 154), (1, .int y)] [] h) from ⟨fun _ => ?_, fun hz => absurd (by decide) hz⟩)
  refine am_goX 3 (show am_rc h 154 11 ∧ 0 ≤ 8 ∧ h.2.2.2.2 + am_al 197 ≤ 175 ∧ am_call am_cod 1 197 [.ref 154, .int (Int32.ofInt 1)] h (fun vv h' => pz_S 2 none am_r218 1 Q 26 [(0, .ref 154), (1, .int y)] (vv.toList ++ []) h') from ⟨Or.inl ⟨by decide, ex_154 x.1⟩, by decide, ex_lim x.1 rfl, am_call.up (d_197 x ?_) (by omega)⟩)
  exact am_goX 1 (show (none : Option FieldType) = none ∧ h.2.2.2.2 = 175 ∧ _ from ⟨rfl, ex_175 x.1, hQ⟩)
theorem r_218 {y : Int32} (l : rr h0 z τ N s h) (hF : ∀ F h1, sp_tS τ y s = .inl F → rx h0 F (s.2.2.2.2.2.1 + z) h1 → Q none h1) (hS : ∀ h1, sp_tS τ y s = .inr (s.1 + 1, s.2) → rr h0 z τ N (s.1 + 1, s.2) h1 → Q none h1) : am_call am_cod 2 218 [.ref 154, .int y] h Q := by
  have hP := r_P l
  refine pz_call (n := 218) (nL := 2) (rt := none) (rows := am_r218) (d := 1) (by decide +kernel) (by decide +kernel) rfl (by funext pc; rfl) (ex_175 hP) (by exact Nat.le_of_ble_eq_true rfl) ?_
  refine am_goX 3 (show am_rc h 154 11 ∧ 0 ≤ 8 ∧ h.2.2.2.2 + am_al 215 ≤ 175 ∧ am_call am_cod 1 215 [.ref 154, .int y] h (fun vv h' => pz_S 2 none am_r218 1 Q 5 [(0, .ref 154), (1, .int y)] (vv.toList ++ []) h') from ⟨Or.inl ⟨by decide, ex_154 (r_P l)⟩, by decide, ex_lim (r_P l) rfl, am_call.up (r_215 l ?_) (by omega)⟩)
  cases e11 : sp_s τ s.1 y with
  | true =>
    refine am_goX 1 (show ((pz_b (true)) = 0 → pz_S 2 none am_r218 1 Q 21 [(0, .ref 154), (1, .int y)] [] h) ∧ (¬ ((pz_b (true)) = 0) → pz_S 2 none am_r218 1 Q 8 [(0, .ref 154), (1, .int y)] [] h) from ⟨fun hz => absurd hz (by decide), fun _ => ?_⟩)
    refine am_goX 6 (show (Value.ref 154).category = 1 ∧ am_sh h 154 = some (11, 0) ∧ am_sh h 154 = some (11, 0) ∧ narrow (am_fty 11 7) (.int (((h.1 154 7) + (Int32.ofInt 1)))) = .int (((h.1 154 7) + (Int32.ofInt 1))) ∧ fits (am_fty 11 7) (.int (((h.1 154 7) + (Int32.ofInt 1)))) = true ∧ pz_S 2 none am_r218 1 Q 18 [(0, .ref 154), (1, .int y)] [] (am_wI h 154 7 (((h.1 154 7) + (Int32.ofInt 1)))) from ⟨rfl, ex_154 (r_P l), ex_154 (r_P l), rfl, rfl, ?_⟩)
    rw [r_a l, xw_i1]
    have l12 : rr h0 z τ N (s.1 + 1, s.2) (am_wI h 154 7 (nI (s.1 + 1))) := rr_nx (a := s.1) (C := s.2) l (sp_sn e11)
    exact am_goX 2 (show (none : Option FieldType) = none ∧ (am_wI h 154 7 (nI (s.1 + 1))).2.2.2.2 = 175 ∧ _ from ⟨rfl, ex_175 (r_P l12), hS _ (by simp only [sp_tS, sp_b, sp_f, cond_true, cond_false, e11]) l12⟩)
  | false =>
    refine am_goX 1 (show ((pz_b (false)) = 0 → pz_S 2 none am_r218 1 Q 21 [(0, .ref 154), (1, .int y)] [] h) ∧ (¬ ((pz_b (false)) = 0) → pz_S 2 none am_r218 1 Q 8 [(0, .ref 154), (1, .int y)] [] h) from ⟨fun _ => ?_, fun hz => absurd (by decide) hz⟩)
    refine am_goX 3 (show am_rc h 154 11 ∧ 0 ≤ 8 ∧ h.2.2.2.2 + am_al 197 ≤ 175 ∧ am_call am_cod 1 197 [.ref 154, .int (Int32.ofInt 1)] h (fun vv h' => pz_S 2 none am_r218 1 Q 26 [(0, .ref 154), (1, .int y)] (vv.toList ++ []) h') from ⟨Or.inl ⟨by decide, ex_154 (r_P l)⟩, by decide, ex_lim (r_P l) rfl, am_call.up (r_197 l ?_) (by omega)⟩)
    have x13 : rx h0 (sp_ft τ s.1 (Int32.ofInt 1)) (s.2.2.2.2.2.1 + z) (am_wI h 154 8 (sp_ft τ s.1 (Int32.ofInt 1))) := rr_x (s := s) l (by decide)
    exact am_goX 1 (show (none : Option FieldType) = none ∧ (am_wI h 154 8 (sp_ft τ s.1 (Int32.ofInt 1))).2.2.2.2 = 175 ∧ _ from ⟨rfl, ex_175 x13.1, hF (sp_ft τ s.1 (Int32.ofInt 1)) _ (by simp only [sp_tS, sp_b, sp_f, cond_true, cond_false, e11]) x13⟩)
theorem d_203 {y : Int32} (x : rx h0 F c h) (hQ : ∀ h1, rx h0 F c h1 → Q none h1) : am_call am_cod 3 203 [.ref 154, .int y] h Q := by
  have hP := x.1
  refine pz_call (n := 203) (nL := 2) (rt := none) (rows := am_r203) (d := 2) (by decide +kernel) (by decide +kernel) rfl (by funext pc; rfl) (ex_175 hP) (by exact Nat.le_of_ble_eq_true rfl) ?_
  refine am_goX 3 (show am_rc h 154 11 ∧ 0 ≤ 8 ∧ h.2.2.2.2 + am_al 204 ≤ 175 ∧ am_call am_cod 2 204 [.ref 154, .int y] h (fun vv h' => pz_S 2 none am_r203 2 Q 5 [(0, .ref 154), (1, .int y)] (vv.toList ++ []) h') from ⟨Or.inl ⟨by decide, ex_154 x.1⟩, by decide, ex_lim x.1 rfl, d_204 x (fun h14 x15 => ?_)⟩)
  refine am_goX 1 (show (¬ (Int32.ofInt 0) = 0 → pz_S 2 none am_r203 2 Q 13 [(0, .ref 154), (1, .int y)] [] h14) ∧ (¬ ¬ (Int32.ofInt 0) = 0 → pz_S 2 none am_r203 2 Q 8 [(0, .ref 154), (1, .int y)] [] h14) from ⟨fun hz => absurd hz (by decide), fun _ => ?_⟩)
  refine am_goX 3 (show am_rc h14 154 11 ∧ 0 ≤ 8 ∧ h14.2.2.2.2 + am_al 197 ≤ 175 ∧ am_call am_cod 2 197 [.ref 154, .int (Int32.ofInt 1)] h14 (fun vv h' => pz_S 2 none am_r203 2 Q 13 [(0, .ref 154), (1, .int y)] (vv.toList ++ []) h') from ⟨Or.inl ⟨by decide, ex_154 x15.1⟩, by decide, ex_lim x15.1 rfl, am_call.up (d_197 x15 ?_) (by omega)⟩)
  exact am_goX 1 (show (none : Option FieldType) = none ∧ h14.2.2.2.2 = 175 ∧ _ from ⟨rfl, ex_175 x15.1, hQ _ x15⟩)
theorem r_203 {y : Int32} {w : Nat} {W : Int64} (hw : w < 21) (hy : y = nI w) (hW : rw_w w = W) (l : rr h0 z τ N s h) (hF : ∀ F h1, sp_tW τ W s = .inl F → rx h0 F (s.2.2.2.2.2.1 + z) h1 → Q none h1) (hS : ∀ h1, sp_tW τ W s = .inr (s.1 + 1, s.2) → rr h0 z τ N (s.1 + 1, s.2) h1 → Q none h1) : am_call am_cod 3 203 [.ref 154, .int y] h Q := by
  have hP := r_P l
  refine pz_call (n := 203) (nL := 2) (rt := none) (rows := am_r203) (d := 2) (by decide +kernel) (by decide +kernel) rfl (by funext pc; rfl) (ex_175 hP) (by exact Nat.le_of_ble_eq_true rfl) ?_
  refine am_goX 3 (show am_rc h 154 11 ∧ 0 ≤ 8 ∧ h.2.2.2.2 + am_al 204 ≤ 175 ∧ am_call am_cod 2 204 [.ref 154, .int y] h (fun vv h' => pz_S 2 none am_r203 2 Q 5 [(0, .ref 154), (1, .int y)] (vv.toList ++ []) h') from ⟨Or.inl ⟨by decide, ex_154 (r_P l)⟩, by decide, ex_lim (r_P l) rfl, r_204 hw hy hW l (fun h16 l17 => ?_)⟩)
  cases e18 : sp_w τ s.1 W with
  | true =>
    rw [e18] at l17
    replace l17 : rr h0 z τ N (s.1 + 1, s.2) h16 := l17
    refine am_goX 1 (show (¬ (pz_b (true)) = 0 → pz_S 2 none am_r203 2 Q 13 [(0, .ref 154), (1, .int y)] [] h16) ∧ (¬ ¬ (pz_b (true)) = 0 → pz_S 2 none am_r203 2 Q 8 [(0, .ref 154), (1, .int y)] [] h16) from ⟨fun _ => ?_, fun hz => absurd (by decide) hz⟩)
    exact am_goX 1 (show (none : Option FieldType) = none ∧ h16.2.2.2.2 = 175 ∧ _ from ⟨rfl, ex_175 (r_P l17), hS _ (by simp only [sp_tW, sp_b, sp_f, cond_true, cond_false, e18]) l17⟩)
  | false =>
    rw [e18] at l17
    replace l17 : rr h0 z τ N s h16 := l17
    refine am_goX 1 (show (¬ (pz_b (false)) = 0 → pz_S 2 none am_r203 2 Q 13 [(0, .ref 154), (1, .int y)] [] h16) ∧ (¬ ¬ (pz_b (false)) = 0 → pz_S 2 none am_r203 2 Q 8 [(0, .ref 154), (1, .int y)] [] h16) from ⟨fun hz => absurd hz (by decide), fun _ => ?_⟩)
    refine am_goX 3 (show am_rc h16 154 11 ∧ 0 ≤ 8 ∧ h16.2.2.2.2 + am_al 197 ≤ 175 ∧ am_call am_cod 2 197 [.ref 154, .int (Int32.ofInt 1)] h16 (fun vv h' => pz_S 2 none am_r203 2 Q 13 [(0, .ref 154), (1, .int y)] (vv.toList ++ []) h') from ⟨Or.inl ⟨by decide, ex_154 (r_P l17)⟩, by decide, ex_lim (r_P l17) rfl, am_call.up (r_197 l17 ?_) (by omega)⟩)
    have x19 : rx h0 (sp_ft τ s.1 (Int32.ofInt 1)) (s.2.2.2.2.2.1 + z) (am_wI h16 154 8 (sp_ft τ s.1 (Int32.ofInt 1))) := rr_x (s := s) l17 (by decide)
    exact am_goX 1 (show (none : Option FieldType) = none ∧ (am_wI h16 154 8 (sp_ft τ s.1 (Int32.ofInt 1))).2.2.2.2 = 175 ∧ _ from ⟨rfl, ex_175 x19.1, hF (sp_ft τ s.1 (Int32.ofInt 1)) _ (by simp only [sp_tW, sp_b, sp_f, cond_true, cond_false, e18]) x19⟩)
theorem d_205 {lo hi : Int32} (x : rx h0 F c h) (hQ : Q (some (.int (Int32.ofInt 0))) h) : am_call am_cod 2 205 [.ref 154, .int lo, .int hi] h Q := by
  have hP := x.1
  refine pz_call (n := 205) (nL := 3) (rt := (some .int)) (rows := am_r205) (d := 1) (by decide +kernel) (by decide +kernel) rfl (by funext pc; rfl) (ex_175 hP) (by exact Nat.le_of_ble_eq_true rfl) ?_
  refine am_goX 2 (show am_sh h 154 = some (11, 0) ∧ pz_S 3 (some .int) am_r205 1 Q 4 [(0, .ref 154), (1, .int lo), (2, .int hi)] [.int (h.1 154 8)] h from ⟨ex_154 x.1, ?_⟩)
  rw [x.2.1.1]
  refine am_goX 1 (show (¬ (F) = 0 → pz_S 3 (some .int) am_r205 1 Q 28 [(0, .ref 154), (1, .int lo), (2, .int hi)] [] h) ∧ (¬ ¬ (F) = 0 → pz_S 3 (some .int) am_r205 1 Q 7 [(0, .ref 154), (1, .int lo), (2, .int hi)] [] h) from ⟨fun _ => ?_, fun hz => absurd (rx_ne x) hz⟩)
  refine am_goX 2 (show am_sh h 154 = some (11, 0) ∧ pz_S 3 (some .int) am_r205 1 Q 32 [(0, .ref 154), (1, .int lo), (2, .int hi)] [.int (h.1 154 8)] h from ⟨ex_154 x.1, ?_⟩)
  rw [x.2.1.1]
  refine am_goX 1 (show (¬ (F) = 0 → pz_S 3 (some .int) am_r205 1 Q 70 [(0, .ref 154), (1, .int lo), (2, .int hi)] [] h) ∧ (¬ ¬ (F) = 0 → pz_S 3 (some .int) am_r205 1 Q 35 [(0, .ref 154), (1, .int lo), (2, .int hi)] [] h) from ⟨fun _ => ?_, fun hz => absurd (rx_ne x) hz⟩)
  refine am_goX 2 (show am_sh h 154 = some (11, 0) ∧ pz_S 3 (some .int) am_r205 1 Q 74 [(0, .ref 154), (1, .int lo), (2, .int hi)] [.int (h.1 154 8)] h from ⟨ex_154 x.1, ?_⟩)
  rw [x.2.1.1]
  refine am_goX 1 (show ((F) ≤ 0 → pz_S 3 (some .int) am_r205 1 Q 79 [(0, .ref 154), (1, .int lo), (2, .int hi)] [] h) ∧ (¬ ((F) ≤ 0) → pz_S 3 (some .int) am_r205 1 Q 77 [(0, .ref 154), (1, .int lo), (2, .int hi)] [] h) from ⟨fun hz => absurd hz (rx_le x), fun _ => ?_⟩)
  exact am_goX 2 (show (∃ ty, (some .int) = some ty ∧ narrow ty (.int ((Int32.ofInt 0))) = .int ((Int32.ofInt 0))) ∧ h.2.2.2.2 = 175 ∧ _ from ⟨⟨.int, rfl, rfl⟩, ex_175 x.1, hQ⟩)
theorem r_205 {lo hi : Int32} (l : rr h0 z τ N s h) (hF : ∀ F h1, sp_tN τ lo hi s = .inl F → rx h0 F (s.2.2.2.2.2.1 + z) h1 → Q (some (.int (Int32.ofInt 0))) h1) (hS : ∀ h1, sp_tN τ lo hi s = .inr s → rr h0 z τ N (s.1 + 1, s.2) h1 → Q (some (.int (sp_v τ s.1))) h1) : am_call am_cod 2 205 [.ref 154, .int lo, .int hi] h Q := by
  have hP := r_P l
  refine pz_call (n := 205) (nL := 3) (rt := (some .int)) (rows := am_r205) (d := 1) (by decide +kernel) (by decide +kernel) rfl (by funext pc; rfl) (ex_175 hP) (by exact Nat.le_of_ble_eq_true rfl) ?_
  refine am_goX 2 (show am_sh h 154 = some (11, 0) ∧ pz_S 3 (some .int) am_r205 1 Q 4 [(0, .ref 154), (1, .int lo), (2, .int hi)] [.int (h.1 154 8)] h from ⟨ex_154 (r_P l), ?_⟩)
  rw [r_f l]
  refine am_goX 1 (show (¬ 0 = 0 → pz_S 3 (some .int) am_r205 1 Q 28 [(0, .ref 154), (1, .int lo), (2, .int hi)] [] h) ∧ (¬ ¬ 0 = 0 → pz_S 3 (some .int) am_r205 1 Q 7 [(0, .ref 154), (1, .int lo), (2, .int hi)] [] h) from ⟨fun hz => absurd hz (by decide), fun _ => ?_⟩)
  refine am_goX 2 (show am_sh h 154 = some (11, 0) ∧ pz_S 3 (some .int) am_r205 1 Q 11 [(0, .ref 154), (1, .int lo), (2, .int hi)] [am_rf (h.2.2.1 154 4)] h from ⟨ex_154 (r_P l), ?_⟩)
  rw [ex_r154_4 (h := h) (r_P l)]
  refine am_goX 3 (show am_sh h 154 = some (11, 0) ∧ ∃ jj nn : Nat, am_sh h 156 = some (13, nn) ∧ jj < nn ∧ (h.1 154 7) = nI jj ∧ pz_S 3 (some .int) am_r205 1 Q 16 [(0, .ref 154), (1, .int lo), (2, .int hi)] [.int (h.1 156 jj)] h from ⟨ex_154 (r_P l), s.1, 1002, ex_156 (r_P l), (by have := r_N l; first | omega | (dsimp only at this; omega) | (dsimp only at this ⊢; omega)), r_a l, ?_⟩)
  rw [r_k l]
  refine am_goX 1 (show pz_S 3 (some .int) am_r205 1 Q 17 [(0, .ref 154), (1, .int lo), (2, .int hi)] [.int (Int32.ofInt 2), .int (τ s.1).1] h from ?_)
  cases e20 : sp_k τ s.1 2 with
  | true =>
    refine am_goX 1 (show ((τ s.1).1 = (Int32.ofInt 2) → pz_S 3 (some .int) am_r205 1 Q 28 [(0, .ref 154), (1, .int lo), (2, .int hi)] [] h) ∧ (¬ ((τ s.1).1 = (Int32.ofInt 2)) → pz_S 3 (some .int) am_r205 1 Q 20 [(0, .ref 154), (1, .int lo), (2, .int hi)] [] h) from ⟨fun _ => ?_, fun hz => absurd (sp_kt e20) hz⟩)
    refine am_goX 2 (show am_sh h 154 = some (11, 0) ∧ pz_S 3 (some .int) am_r205 1 Q 32 [(0, .ref 154), (1, .int lo), (2, .int hi)] [.int (h.1 154 8)] h from ⟨ex_154 (r_P l), ?_⟩)
    rw [r_f l]
    refine am_goX 1 (show (¬ 0 = 0 → pz_S 3 (some .int) am_r205 1 Q 70 [(0, .ref 154), (1, .int lo), (2, .int hi)] [] h) ∧ (¬ ¬ 0 = 0 → pz_S 3 (some .int) am_r205 1 Q 35 [(0, .ref 154), (1, .int lo), (2, .int hi)] [] h) from ⟨fun hz => absurd hz (by decide), fun _ => ?_⟩)
    refine am_goX 2 (show am_sh h 154 = some (11, 0) ∧ pz_S 3 (some .int) am_r205 1 Q 39 [(0, .ref 154), (1, .int lo), (2, .int hi)] [am_rf (h.2.2.1 154 6)] h from ⟨ex_154 (r_P l), ?_⟩)
    rw [ex_r154_6 (h := h) (r_P l)]
    refine am_goX 3 (show am_sh h 154 = some (11, 0) ∧ ∃ jj nn : Nat, am_sh h 158 = some (14, nn) ∧ jj < nn ∧ (h.1 154 7) = nI jj ∧ pz_S 3 (some .int) am_r205 1 Q 44 [(0, .ref 154), (1, .int lo), (2, .int hi)] [.long (h.2.1 158 jj)] h from ⟨ex_154 (r_P l), s.1, 1002, ex_158 (r_P l), (by have := r_N l; first | omega | (dsimp only at this; omega) | (dsimp only at this ⊢; omega)), r_a l, ?_⟩)
    rw [r_v l (sp_kn (by decide) e20)]
    refine am_goX 4 (show ((lg_cmp ((τ s.1).2.1) ((lo).toInt64)) < 0 → pz_S 3 (some .int) am_r205 1 Q 65 [(0, .ref 154), (1, .int lo), (2, .int hi)] [] h) ∧ (¬ ((lg_cmp ((τ s.1).2.1) ((lo).toInt64)) < 0) → pz_S 3 (some .int) am_r205 1 Q 50 [(0, .ref 154), (1, .int lo), (2, .int hi)] [] h) from ⟨fun hc => ?_, fun hc => ?_⟩)
    ·
      have e71 : decide (lo ≤ sp_v τ s.1) = false := by
        obtain ⟨D, hD, ev⟩ := l.1.1.2.2.2.2.2.2 s.1 (sp_kt e20)
        exact r_cmpl hD ev hc
      clear hc
      refine am_goX 3 (show am_rc h 154 11 ∧ 0 ≤ 8 ∧ h.2.2.2.2 + am_al 197 ≤ 175 ∧ am_call am_cod 1 197 [.ref 154, .int (Int32.ofInt 4)] h (fun vv h' => pz_S 3 (some .int) am_r205 1 Q 70 [(0, .ref 154), (1, .int lo), (2, .int hi)] (vv.toList ++ []) h') from ⟨Or.inl ⟨by decide, ex_154 (r_P l)⟩, by decide, ex_lim (r_P l) rfl, am_call.up (r_197 l ?_) (by omega)⟩)
      have x21 : rx h0 (sp_ft τ s.1 (Int32.ofInt 4)) (s.2.2.2.2.2.1 + z) (am_wI h 154 8 (sp_ft τ s.1 (Int32.ofInt 4))) := rr_x (s := s) l (by decide)
      refine am_goX 2 (show am_sh (am_wI h 154 8 (sp_ft τ s.1 (Int32.ofInt 4))) 154 = some (11, 0) ∧ pz_S 3 (some .int) am_r205 1 Q 74 [(0, .ref 154), (1, .int lo), (2, .int hi)] [.int ((am_wI h 154 8 (sp_ft τ s.1 (Int32.ofInt 4))).1 154 8)] (am_wI h 154 8 (sp_ft τ s.1 (Int32.ofInt 4))) from ⟨ex_154 x21.1, ?_⟩)
      rw [x21.2.1.1]
      refine am_goX 1 (show ((sp_ft τ s.1 (Int32.ofInt 4)) ≤ 0 → pz_S 3 (some .int) am_r205 1 Q 79 [(0, .ref 154), (1, .int lo), (2, .int hi)] [] (am_wI h 154 8 (sp_ft τ s.1 (Int32.ofInt 4)))) ∧ (¬ ((sp_ft τ s.1 (Int32.ofInt 4)) ≤ 0) → pz_S 3 (some .int) am_r205 1 Q 77 [(0, .ref 154), (1, .int lo), (2, .int hi)] [] (am_wI h 154 8 (sp_ft τ s.1 (Int32.ofInt 4)))) from ⟨fun hz => absurd hz (rx_le x21), fun _ => ?_⟩)
      exact am_goX 2 (show (∃ ty, (some .int) = some ty ∧ narrow ty (.int ((Int32.ofInt 0))) = .int ((Int32.ofInt 0))) ∧ (am_wI h 154 8 (sp_ft τ s.1 (Int32.ofInt 4))).2.2.2.2 = 175 ∧ _ from ⟨⟨.int, rfl, rfl⟩, ex_175 x21.1, hF (sp_ft τ s.1 (Int32.ofInt 4)) _ (by simp only [sp_tN, sp_b, sp_f, cond_true, cond_false, e20, e71, sp_in, Bool.and_true, Bool.and_false, Bool.true_and, Bool.false_and]) x21⟩)
    ·
      have e71 : decide (lo ≤ sp_v τ s.1) = true := by
        obtain ⟨D, hD, ev⟩ := l.1.1.2.2.2.2.2.2 s.1 (sp_kt e20)
        exact r_cmpl hD ev hc
      clear hc
      refine am_goX 2 (show am_sh h 154 = some (11, 0) ∧ pz_S 3 (some .int) am_r205 1 Q 54 [(0, .ref 154), (1, .int lo), (2, .int hi)] [am_rf (h.2.2.1 154 6)] h from ⟨ex_154 (r_P l), ?_⟩)
      rw [ex_r154_6 (h := h) (r_P l)]
      refine am_goX 3 (show am_sh h 154 = some (11, 0) ∧ ∃ jj nn : Nat, am_sh h 158 = some (14, nn) ∧ jj < nn ∧ (h.1 154 7) = nI jj ∧ pz_S 3 (some .int) am_r205 1 Q 59 [(0, .ref 154), (1, .int lo), (2, .int hi)] [.long (h.2.1 158 jj)] h from ⟨ex_154 (r_P l), s.1, 1002, ex_158 (r_P l), (by have := r_N l; first | omega | (dsimp only at this; omega) | (dsimp only at this ⊢; omega)), r_a l, ?_⟩)
      rw [r_v l (sp_kn (by decide) e20)]
      refine am_goX 4 (show ((lg_cmp ((τ s.1).2.1) ((hi).toInt64)) ≤ 0 → pz_S 3 (some .int) am_r205 1 Q 70 [(0, .ref 154), (1, .int lo), (2, .int hi)] [] h) ∧ (¬ ((lg_cmp ((τ s.1).2.1) ((hi).toInt64)) ≤ 0) → pz_S 3 (some .int) am_r205 1 Q 65 [(0, .ref 154), (1, .int lo), (2, .int hi)] [] h) from ⟨fun hc => ?_, fun hc => ?_⟩)
      ·
        have e72 : decide (sp_v τ s.1 ≤ hi) = true := by
          obtain ⟨D, hD, ev⟩ := l.1.1.2.2.2.2.2.2 s.1 (sp_kt e20)
          exact r_cmph hD ev hc
        clear hc
        refine am_goX 2 (show am_sh h 154 = some (11, 0) ∧ pz_S 3 (some .int) am_r205 1 Q 74 [(0, .ref 154), (1, .int lo), (2, .int hi)] [.int (h.1 154 8)] h from ⟨ex_154 (r_P l), ?_⟩)
        rw [r_f l]
        refine am_goX 1 (show (0 ≤ 0 → pz_S 3 (some .int) am_r205 1 Q 79 [(0, .ref 154), (1, .int lo), (2, .int hi)] [] h) ∧ (¬ (0 ≤ 0) → pz_S 3 (some .int) am_r205 1 Q 77 [(0, .ref 154), (1, .int lo), (2, .int hi)] [] h) from ⟨fun _ => ?_, fun hz => absurd (by decide) hz⟩)
        refine am_goX 6 (show (Value.ref 154).category = 1 ∧ am_sh h 154 = some (11, 0) ∧ am_sh h 154 = some (11, 0) ∧ narrow (am_fty 11 7) (.int (((h.1 154 7) + (Int32.ofInt 1)))) = .int (((h.1 154 7) + (Int32.ofInt 1))) ∧ fits (am_fty 11 7) (.int (((h.1 154 7) + (Int32.ofInt 1)))) = true ∧ pz_S 3 (some .int) am_r205 1 Q 89 [(0, .ref 154), (1, .int lo), (2, .int hi)] [] (am_wI h 154 7 (((h.1 154 7) + (Int32.ofInt 1)))) from ⟨rfl, ex_154 (r_P l), ex_154 (r_P l), rfl, rfl, ?_⟩)
        rw [r_a l, xw_i1]
        have l22 : rr h0 z τ N (s.1 + 1, s.2) (am_wI h 154 7 (nI (s.1 + 1))) := rr_nx (a := s.1) (C := s.2) l (sp_kn (by decide) e20)
        refine am_goX 2 (show am_sh (am_wI h 154 7 (nI (s.1 + 1))) 154 = some (11, 0) ∧ pz_S 3 (some .int) am_r205 1 Q 93 [(0, .ref 154), (1, .int lo), (2, .int hi)] [am_rf ((am_wI h 154 7 (nI (s.1 + 1))).2.2.1 154 6)] (am_wI h 154 7 (nI (s.1 + 1))) from ⟨ex_154 (r_P l22), ?_⟩)
        rw [ex_r154_6 (h := am_wI h 154 7 (nI (s.1 + 1))) (r_P l22)]
        refine am_goX 5 (show am_sh (am_wI h 154 7 (nI (s.1 + 1))) 154 = some (11, 0) ∧ ∃ jj nn : Nat, am_sh (am_wI h 154 7 (nI (s.1 + 1))) 158 = some (14, nn) ∧ jj < nn ∧ (((am_wI h 154 7 (nI (s.1 + 1))).1 154 7) - (Int32.ofInt 1)) = nI jj ∧ pz_S 3 (some .int) am_r205 1 Q 100 [(0, .ref 154), (1, .int lo), (2, .int hi)] [.long ((am_wI h 154 7 (nI (s.1 + 1))).2.1 158 jj)] (am_wI h 154 7 (nI (s.1 + 1))) from ⟨ex_154 (r_P l22), s.1, 1002, ex_158 (r_P l22), (by have := r_N l; omega), (by rw [r_a l22]; exact tk_sub (Nat.le_add_left 1 s.1)), ?_⟩)
        have e98 : h.2.1 158 s.1 = (τ s.1).2.1 := r_v l (sp_kn (by decide) e20)
        rw [show (am_wI h 154 7 (nI (s.1 + 1))).2.1 158 s.1 = (τ s.1).2.1 from e98]
        refine am_goX 1 (show pz_S 3 (some .int) am_r205 1 Q 101 [(0, .ref 154), (1, .int lo), (2, .int hi)] [.int ((τ s.1).2.1).toInt32] (am_wI h 154 7 (nI (s.1 + 1))) from ?_)
        have e99 : sp_tN τ lo hi s = .inr s := by simp only [sp_tN, sp_b, sp_f, cond_true, cond_false, e20, e71, e72, sp_in, Bool.and_true, Bool.and_false, Bool.true_and, Bool.false_and]
        exact am_goX 1 (show (∃ ty, (some .int) = some ty ∧ narrow ty (.int ((sp_v τ s.1))) = .int ((sp_v τ s.1))) ∧ (am_wI h 154 7 (nI (s.1 + 1))).2.2.2.2 = 175 ∧ _ from ⟨⟨.int, rfl, rfl⟩, ex_175 (r_P l22), hS _ e99 l22⟩)
      ·
        have e72 : decide (sp_v τ s.1 ≤ hi) = false := by
          obtain ⟨D, hD, ev⟩ := l.1.1.2.2.2.2.2.2 s.1 (sp_kt e20)
          exact r_cmph hD ev hc
        clear hc
        refine am_goX 3 (show am_rc h 154 11 ∧ 0 ≤ 8 ∧ h.2.2.2.2 + am_al 197 ≤ 175 ∧ am_call am_cod 1 197 [.ref 154, .int (Int32.ofInt 4)] h (fun vv h' => pz_S 3 (some .int) am_r205 1 Q 70 [(0, .ref 154), (1, .int lo), (2, .int hi)] (vv.toList ++ []) h') from ⟨Or.inl ⟨by decide, ex_154 (r_P l)⟩, by decide, ex_lim (r_P l) rfl, am_call.up (r_197 l ?_) (by omega)⟩)
        have x23 : rx h0 (sp_ft τ s.1 (Int32.ofInt 4)) (s.2.2.2.2.2.1 + z) (am_wI h 154 8 (sp_ft τ s.1 (Int32.ofInt 4))) := rr_x (s := s) l (by decide)
        refine am_goX 2 (show am_sh (am_wI h 154 8 (sp_ft τ s.1 (Int32.ofInt 4))) 154 = some (11, 0) ∧ pz_S 3 (some .int) am_r205 1 Q 74 [(0, .ref 154), (1, .int lo), (2, .int hi)] [.int ((am_wI h 154 8 (sp_ft τ s.1 (Int32.ofInt 4))).1 154 8)] (am_wI h 154 8 (sp_ft τ s.1 (Int32.ofInt 4))) from ⟨ex_154 x23.1, ?_⟩)
        rw [x23.2.1.1]
        refine am_goX 1 (show ((sp_ft τ s.1 (Int32.ofInt 4)) ≤ 0 → pz_S 3 (some .int) am_r205 1 Q 79 [(0, .ref 154), (1, .int lo), (2, .int hi)] [] (am_wI h 154 8 (sp_ft τ s.1 (Int32.ofInt 4)))) ∧ (¬ ((sp_ft τ s.1 (Int32.ofInt 4)) ≤ 0) → pz_S 3 (some .int) am_r205 1 Q 77 [(0, .ref 154), (1, .int lo), (2, .int hi)] [] (am_wI h 154 8 (sp_ft τ s.1 (Int32.ofInt 4)))) from ⟨fun hz => absurd hz (rx_le x23), fun _ => ?_⟩)
        exact am_goX 2 (show (∃ ty, (some .int) = some ty ∧ narrow ty (.int ((Int32.ofInt 0))) = .int ((Int32.ofInt 0))) ∧ (am_wI h 154 8 (sp_ft τ s.1 (Int32.ofInt 4))).2.2.2.2 = 175 ∧ _ from ⟨⟨.int, rfl, rfl⟩, ex_175 x23.1, hF (sp_ft τ s.1 (Int32.ofInt 4)) _ (by simp only [sp_tN, sp_b, sp_f, cond_true, cond_false, e20, e71, e72, sp_in, Bool.and_true, Bool.and_false, Bool.true_and, Bool.false_and]) x23⟩)
  | false =>
    refine am_goX 1 (show ((τ s.1).1 = (Int32.ofInt 2) → pz_S 3 (some .int) am_r205 1 Q 28 [(0, .ref 154), (1, .int lo), (2, .int hi)] [] h) ∧ (¬ ((τ s.1).1 = (Int32.ofInt 2)) → pz_S 3 (some .int) am_r205 1 Q 20 [(0, .ref 154), (1, .int lo), (2, .int hi)] [] h) from ⟨fun hz => absurd hz (of_decide_eq_false e20), fun _ => ?_⟩)
    refine am_goX 3 (show am_rc h 154 11 ∧ 0 ≤ 8 ∧ h.2.2.2.2 + am_al 197 ≤ 175 ∧ am_call am_cod 1 197 [.ref 154, .int (Int32.ofInt 1)] h (fun vv h' => pz_S 3 (some .int) am_r205 1 Q 25 [(0, .ref 154), (1, .int lo), (2, .int hi)] (vv.toList ++ []) h') from ⟨Or.inl ⟨by decide, ex_154 (r_P l)⟩, by decide, ex_lim (r_P l) rfl, am_call.up (r_197 l ?_) (by omega)⟩)
    have x24 : rx h0 (sp_ft τ s.1 (Int32.ofInt 1)) (s.2.2.2.2.2.1 + z) (am_wI h 154 8 (sp_ft τ s.1 (Int32.ofInt 1))) := rr_x (s := s) l (by decide)
    refine am_goX 3 (show am_sh (am_wI h 154 8 (sp_ft τ s.1 (Int32.ofInt 1))) 154 = some (11, 0) ∧ pz_S 3 (some .int) am_r205 1 Q 74 [(0, .ref 154), (1, .int lo), (2, .int hi)] [.int ((am_wI h 154 8 (sp_ft τ s.1 (Int32.ofInt 1))).1 154 8)] (am_wI h 154 8 (sp_ft τ s.1 (Int32.ofInt 1))) from ⟨ex_154 x24.1, ?_⟩)
    rw [x24.2.1.1]
    refine am_goX 1 (show ((sp_ft τ s.1 (Int32.ofInt 1)) ≤ 0 → pz_S 3 (some .int) am_r205 1 Q 79 [(0, .ref 154), (1, .int lo), (2, .int hi)] [] (am_wI h 154 8 (sp_ft τ s.1 (Int32.ofInt 1)))) ∧ (¬ ((sp_ft τ s.1 (Int32.ofInt 1)) ≤ 0) → pz_S 3 (some .int) am_r205 1 Q 77 [(0, .ref 154), (1, .int lo), (2, .int hi)] [] (am_wI h 154 8 (sp_ft τ s.1 (Int32.ofInt 1)))) from ⟨fun hz => absurd hz (rx_le x24), fun _ => ?_⟩)
    exact am_goX 2 (show (∃ ty, (some .int) = some ty ∧ narrow ty (.int ((Int32.ofInt 0))) = .int ((Int32.ofInt 0))) ∧ (am_wI h 154 8 (sp_ft τ s.1 (Int32.ofInt 1))).2.2.2.2 = 175 ∧ _ from ⟨⟨.int, rfl, rfl⟩, ex_175 x24.1, hF (sp_ft τ s.1 (Int32.ofInt 1)) _ (by simp only [sp_tN, sp_b, sp_f, cond_true, cond_false, e20, sp_in, Bool.and_true, Bool.and_false, Bool.true_and, Bool.false_and]) x24⟩)
theorem d_202 {y lo hi : Int32} (x : rx h0 F c h) (hQ : ∀ h1, rx h0 F c h1 → Q (some (.int (Int32.ofInt 0))) h1) : am_call am_cod 4 202 [.ref 154, .int y, .int lo, .int hi] h Q := by
  have hP := x.1
  refine pz_call (n := 202) (nL := 4) (rt := (some .int)) (rows := am_r202) (d := 3) (by decide +kernel) (by decide +kernel) rfl (by funext pc; rfl) (ex_175 hP) (by exact Nat.le_of_ble_eq_true rfl) ?_
  refine am_goX 3 (show am_rc h 154 11 ∧ 0 ≤ 8 ∧ h.2.2.2.2 + am_al 203 ≤ 175 ∧ am_call am_cod 3 203 [.ref 154, .int y] h (fun vv h' => pz_S 4 (some .int) am_r202 3 Q 5 [(0, .ref 154), (1, .int y), (2, .int lo), (3, .int hi)] (vv.toList ++ []) h') from ⟨Or.inl ⟨by decide, ex_154 x.1⟩, by decide, ex_lim x.1 rfl, am_call.up (d_203 x (fun h25 x26 => ?_)) (by omega)⟩)
  refine am_goX 4 (show am_rc h25 154 11 ∧ 0 ≤ 8 ∧ h25.2.2.2.2 + am_al 205 ≤ 175 ∧ am_call am_cod 3 205 [.ref 154, .int lo, .int hi] h25 (fun vv h' => pz_S 4 (some .int) am_r202 3 Q 11 [(0, .ref 154), (1, .int y), (2, .int lo), (3, .int hi)] (vv.toList ++ []) h') from ⟨Or.inl ⟨by decide, ex_154 x26.1⟩, by decide, ex_lim x26.1 rfl, am_call.up (d_205 x26 ?_) (by omega)⟩)
  exact am_goX 1 (show (∃ ty, (some .int) = some ty ∧ narrow ty (.int ((Int32.ofInt 0))) = .int ((Int32.ofInt 0))) ∧ h25.2.2.2.2 = 175 ∧ _ from ⟨⟨.int, rfl, rfl⟩, ex_175 x26.1, hQ _ x26⟩)
theorem r_202 {y lo hi : Int32} {w : Nat} {W : Int64} (hw : w < 21) (hy : y = nI w) (hW : rw_w w = W) (l : rr h0 z τ N s h) (hF : ∀ F h1, sp_b (sp_tW τ W s) (sp_tN τ lo hi) = .inl F → rx h0 F (s.2.2.2.2.2.1 + z) h1 → Q (some (.int (Int32.ofInt 0))) h1) (hS : ∀ h1, sp_tW τ W s = .inr (s.1 + 1, s.2) ∧ sp_tN τ lo hi (s.1 + 1, s.2) = .inr (s.1 + 1, s.2) → rr h0 z τ N (s.1 + 1 + 1, s.2) h1 → Q (some (.int (sp_v τ (s.1 + 1)))) h1) : am_call am_cod 4 202 [.ref 154, .int y, .int lo, .int hi] h Q := by
  have hP := r_P l
  refine pz_call (n := 202) (nL := 4) (rt := (some .int)) (rows := am_r202) (d := 3) (by decide +kernel) (by decide +kernel) rfl (by funext pc; rfl) (ex_175 hP) (by exact Nat.le_of_ble_eq_true rfl) ?_
  refine am_goX 3 (show am_rc h 154 11 ∧ 0 ≤ 8 ∧ h.2.2.2.2 + am_al 203 ≤ 175 ∧ am_call am_cod 3 203 [.ref 154, .int y] h (fun vv h' => pz_S 4 (some .int) am_r202 3 Q 5 [(0, .ref 154), (1, .int y), (2, .int lo), (3, .int hi)] (vv.toList ++ []) h') from ⟨Or.inl ⟨by decide, ex_154 (r_P l)⟩, by decide, ex_lim (r_P l) rfl, am_call.up (r_203 hw hy hW l (fun F27 h28 e29 x30 => ?_) (fun h31 e32 l33 => ?_)) (by omega)⟩)
  ·
    refine am_goX 4 (show am_rc h28 154 11 ∧ 0 ≤ 8 ∧ h28.2.2.2.2 + am_al 205 ≤ 175 ∧ am_call am_cod 3 205 [.ref 154, .int lo, .int hi] h28 (fun vv h' => pz_S 4 (some .int) am_r202 3 Q 11 [(0, .ref 154), (1, .int y), (2, .int lo), (3, .int hi)] (vv.toList ++ []) h') from ⟨Or.inl ⟨by decide, ex_154 x30.1⟩, by decide, ex_lim x30.1 rfl, am_call.up (d_205 x30 ?_) (by omega)⟩)
    exact am_goX 1 (show (∃ ty, (some .int) = some ty ∧ narrow ty (.int ((Int32.ofInt 0))) = .int ((Int32.ofInt 0))) ∧ h28.2.2.2.2 = 175 ∧ _ from ⟨⟨.int, rfl, rfl⟩, ex_175 x30.1, hF F27 _ (by simp only [sp_b, sp_f, cond_true, cond_false, e29]) x30⟩)
  ·
    refine am_goX 4 (show am_rc h31 154 11 ∧ 0 ≤ 8 ∧ h31.2.2.2.2 + am_al 205 ≤ 175 ∧ am_call am_cod 3 205 [.ref 154, .int lo, .int hi] h31 (fun vv h' => pz_S 4 (some .int) am_r202 3 Q 11 [(0, .ref 154), (1, .int y), (2, .int lo), (3, .int hi)] (vv.toList ++ []) h') from ⟨Or.inl ⟨by decide, ex_154 (r_P l33)⟩, by decide, ex_lim (r_P l33) rfl, am_call.up (r_205 (s := (s.1 + 1, s.2)) l33 (fun F34 h35 e36 x37 => ?_) (fun h38 e39 l40 => ?_)) (by omega)⟩)
    ·
      exact am_goX 1 (show (∃ ty, (some .int) = some ty ∧ narrow ty (.int ((Int32.ofInt 0))) = .int ((Int32.ofInt 0))) ∧ h35.2.2.2.2 = 175 ∧ _ from ⟨⟨.int, rfl, rfl⟩, ex_175 x37.1, hF F34 _ (by simp only [sp_b, sp_f, cond_true, cond_false, e32, e36]) x37⟩)
    ·
      exact am_goX 1 (show (∃ ty, (some .int) = some ty ∧ narrow ty (.int ((sp_v τ (s.1 + 1)))) = .int ((sp_v τ (s.1 + 1)))) ∧ h38.2.2.2.2 = 175 ∧ _ from ⟨⟨.int, rfl, rfl⟩, ex_175 (r_P l40), hS _ ⟨e32, e39⟩ l40⟩)
/-- the last of so many words that is at hand -/
def wq (τ : sp_T) (a f : Nat) : Nat → Int32
  | 0 => Int32.ofInt (-1)
  | m + 1 => bif sp_w τ a (rw_w (f + m)) then nI m else wq τ a f m
theorem r_199l {y : Int32} {f M : Nat} (hM : f + M ≤ 21) (hy : y = nI f) (l : rr h0 z τ N s h) (hQ : Q (some (.int (wq τ s.1 f M))) h) : ∀ (m i : Nat), i + m = M → pz_S 5 (some .int) am_r199 1 Q 5 [(4, .int (nI i)), (3, .int (wq τ s.1 f i)), (0, .ref 154), (1, .int y), (2, .int (nI M))] [] h := by
  have hP := r_P l
  intro m
  induction m with
  | zero =>
    intro i hi
    have ei : i = M := by omega
    subst ei
    refine am_goX 3 (show ((nI i) ≤ (nI i) → pz_S 5 (some .int) am_r199 1 Q 35 [(4, .int (nI i)), (3, .int (wq τ s.1 f i)), (0, .ref 154), (1, .int y), (2, .int (nI i))] [] h) ∧ (¬ ((nI i) ≤ (nI i)) → pz_S 5 (some .int) am_r199 1 Q 11 [(4, .int (nI i)), (3, .int (wq τ s.1 f i)), (0, .ref 154), (1, .int y), (2, .int (nI i))] [] h) from ⟨fun _ => ?_, fun hz => absurd (nI_le (Nat.le_refl i) (by omega)) hz⟩)
    exact am_goX 2 (show (∃ ty, (some .int) = some ty ∧ narrow ty (.int ((wq τ s.1 f i))) = .int ((wq τ s.1 f i))) ∧ h.2.2.2.2 = 175 ∧ _ from ⟨⟨.int, rfl, rfl⟩, ex_175 (r_P l), hQ⟩)
  | succ m ih =>
    intro i hi
    refine am_goX 3 (show ((nI M) ≤ (nI i) → pz_S 5 (some .int) am_r199 1 Q 35 [(4, .int (nI i)), (3, .int (wq τ s.1 f i)), (0, .ref 154), (1, .int y), (2, .int (nI M))] [] h) ∧ (¬ ((nI M) ≤ (nI i)) → pz_S 5 (some .int) am_r199 1 Q 11 [(4, .int (nI i)), (3, .int (wq τ s.1 f i)), (0, .ref 154), (1, .int y), (2, .int (nI M))] [] h) from ⟨fun hz => absurd hz (by rw [nI_leI (by omega) (by omega)]; omega), fun _ => ?_⟩)
    refine am_goX 5 (show am_rc h 154 11 ∧ 0 ≤ 8 ∧ h.2.2.2.2 + am_al 195 ≤ 175 ∧ am_call am_cod 1 195 [.ref 154, .int (y + (nI i))] h (fun vv h' => pz_S 5 (some .int) am_r199 1 Q 19 [(4, .int (nI i)), (3, .int (wq τ s.1 f i)), (0, .ref 154), (1, .int y), (2, .int (nI M))] (vv.toList ++ []) h') from ⟨Or.inl ⟨by decide, ex_154 (r_P l)⟩, by decide, ex_lim (r_P l) rfl, r_195 (w := f + i) (by omega) (by rw [hy]; exact nI_add f i) rfl l ?_⟩)
    cases e : sp_w τ s.1 (rw_w (f + i)) with
    | true =>
      refine am_goX 1 (show ((pz_b (true)) = 0 → pz_S 5 (some .int) am_r199 1 Q 27 [(4, .int (nI i)), (3, .int (wq τ s.1 f i)), (0, .ref 154), (1, .int y), (2, .int (nI M))] [] h) ∧ (¬ ((pz_b (true)) = 0) → pz_S 5 (some .int) am_r199 1 Q 22 [(4, .int (nI i)), (3, .int (wq τ s.1 f i)), (0, .ref 154), (1, .int y), (2, .int (nI M))] [] h) from ⟨fun hz => absurd hz (by decide), fun _ => ?_⟩)
      refine am_goX 5 (show 3 < 5 ∧ 4 < 5 ∧ pz_S 5 (some .int) am_r199 1 Q 5 [(4, .int ((nI i) + Int32.ofInt 1)), (3, .int (nI i)), (0, .ref 154), (1, .int y), (2, .int (nI M))] [] h from ⟨by decide, by decide, ?_⟩)
      have hx : wq τ s.1 f (i + 1) = nI i := by
        show (bif sp_w τ s.1 (rw_w (f + i)) then nI i else wq τ s.1 f i) = _
        rw [e]
        rfl
      have hg := ih (i + 1) (by omega)
      rw [hx] at hg
      rw [xw_i1]
      exact hg
    | false =>
      refine am_goX 1 (show ((pz_b (false)) = 0 → pz_S 5 (some .int) am_r199 1 Q 27 [(4, .int (nI i)), (3, .int (wq τ s.1 f i)), (0, .ref 154), (1, .int y), (2, .int (nI M))] [] h) ∧ (¬ ((pz_b (false)) = 0) → pz_S 5 (some .int) am_r199 1 Q 22 [(4, .int (nI i)), (3, .int (wq τ s.1 f i)), (0, .ref 154), (1, .int y), (2, .int (nI M))] [] h) from ⟨fun _ => ?_, fun hz => absurd (by decide) hz⟩)
      refine am_goX 4 (show 3 < 5 ∧ 4 < 5 ∧ pz_S 5 (some .int) am_r199 1 Q 5 [(4, .int ((nI i) + Int32.ofInt 1)), (3, .int (wq τ s.1 f i)), (0, .ref 154), (1, .int y), (2, .int (nI M))] [] h from ⟨by decide, by decide, ?_⟩)
      have hx : wq τ s.1 f (i + 1) = wq τ s.1 f i := by
        show (bif sp_w τ s.1 (rw_w (f + i)) then nI i else wq τ s.1 f i) = _
        rw [e]
        rfl
      have hg := ih (i + 1) (by omega)
      rw [hx] at hg
      rw [xw_i1]
      exact hg
theorem r_199 {y x : Int32} {f M : Nat} (hM : f + M ≤ 21) (hy : y = nI f) (hx : x = nI M) (l : rr h0 z τ N s h) (hQ : Q (some (.int (wq τ s.1 f M))) h) : am_call am_cod 2 199 [.ref 154, .int y, .int x] h Q := by
  have hP := r_P l
  rw [hx]
  refine pz_call (n := 199) (nL := 5) (rt := (some .int)) (rows := am_r199) (d := 1) (by decide +kernel) (by decide +kernel) rfl (by funext pc; rfl) (ex_175 hP) (by exact Nat.le_of_ble_eq_true rfl) ?_
  refine am_goX 4 (show 3 < 5 ∧ 4 < 5 ∧ pz_S 5 (some .int) am_r199 1 Q 5 [(4, .int (Int32.ofInt 0)), (3, .int (Int32.ofInt (-1))), (0, .ref 154), (1, .int y), (2, .int (nI M))] [] h from ⟨by decide, by decide, ?_⟩)
  exact r_199l hM hy l hQ M 0 (Nat.zero_add _)
theorem d_198 (x : rx h0 F c h) (hQ : Q (some (.int (Int32.ofInt 0))) h) : am_call am_cod 3 198 [.ref 154] h Q := by
  have hP := x.1
  refine pz_call (n := 198) (nL := 1) (rt := (some .boolean)) (rows := am_r198) (d := 2) (by decide +kernel) (by decide +kernel) rfl (by funext pc; rfl) (ex_175 hP) (by exact Nat.le_of_ble_eq_true rfl) ?_
  refine am_goX 2 (show am_sh h 154 = some (11, 0) ∧ pz_S 1 (some .boolean) am_r198 2 Q 4 [(0, .ref 154)] [.int (h.1 154 8)] h from ⟨ex_154 x.1, ?_⟩)
  rw [x.2.1.1]
  refine am_goX 1 (show (¬ (F) = 0 → pz_S 1 (some .boolean) am_r198 2 Q 34 [(0, .ref 154)] [] h) ∧ (¬ ¬ (F) = 0 → pz_S 1 (some .boolean) am_r198 2 Q 7 [(0, .ref 154)] [] h) from ⟨fun _ => ?_, fun hz => absurd (rx_ne x) hz⟩)
  exact am_goX 2 (show (∃ ty, (some .boolean) = some ty ∧ narrow ty (.int ((Int32.ofInt 0))) = .int ((Int32.ofInt 0))) ∧ h.2.2.2.2 = 175 ∧ _ from ⟨⟨.boolean, rfl, rfl⟩, ex_175 x.1, hQ⟩)
theorem wq_v (τ : sp_T) (a f : Nat) : ∀ m, m ≤ 21 → (wq τ a f m = Int32.ofInt (-1) ∧ (∀ j, j < m → sp_w τ a (rw_w (f + j)) = false)) ∨ (∃ j, j < m ∧ wq τ a f m = nI j ∧ sp_w τ a (rw_w (f + j)) = true)
  | 0, _ => Or.inl ⟨rfl, fun j hj => absurd hj (Nat.not_lt_zero j)⟩
  | m + 1, hm => by
    cases e : sp_w τ a (rw_w (f + m)) with
    | true =>
      refine Or.inr ⟨m, by omega, ?_, e⟩
      show (bif sp_w τ a (rw_w (f + m)) then nI m else wq τ a f m) = _
      rw [e]
      rfl
    | false =>
      have hx : wq τ a f (m + 1) = wq τ a f m := by
        show (bif sp_w τ a (rw_w (f + m)) then nI m else wq τ a f m) = _
        rw [e]
        rfl
      rw [hx]
      rcases wq_v τ a f m (by omega) with ⟨w1, w2⟩ | ⟨j, w1, w2, w3⟩
      · refine Or.inl ⟨w1, fun j hj => ?_⟩
        by_cases ej : j = m
        · rw [ej]; exact e
        · exact w2 j (by omega)
      · exact Or.inr ⟨j, by omega, w2, w3⟩
theorem nI_0le {j : Nat} (hj : j < 1000) : (0 : Int32) ≤ nI j := by
  show nI 0 ≤ nI j
  exact nI_le (Nat.zero_le _) (by omega)
theorem wq_n {τ : sp_T} {a : Nat} (e : sp_k τ a 1 = true) : sp_n τ a = decide (¬ 0 ≤ wq τ a 0 17) := by
  have h1 : ∀ w : Int64, sp_w τ a w = decide ((τ a).2.1 = w) := fun w => sp_w_e e
  have k1 : ∀ w, w ∈ sp_rs → ∃ j, j < 17 ∧ rw_w (0 + j) = w := by decide +kernel
  have k2 : ∀ j, j < 17 → rw_w (0 + j) ∈ sp_rs := by decide +kernel
  unfold sp_n
  rw [e, Bool.true_and]
  rcases wq_v τ a 0 17 (by decide) with ⟨w1, w2⟩ | ⟨j, w1, w2, w3⟩
  · rw [w1, decide_eq_true (show ¬ (0 : Int32) ≤ Int32.ofInt (-1) by decide), List.all_eq_true]
    intro w hw
    obtain ⟨j, j1, j2⟩ := k1 w hw
    have h2 := w2 j j1
    rw [j2, h1] at h2
    rw [h2]
    rfl
  · rw [w2, decide_eq_false (fun hz : ¬ (0 : Int32) ≤ nI j => hz (nI_0le (by omega))), List.all_eq_false]
    refine ⟨rw_w (0 + j), k2 j w1, ?_⟩
    rw [← h1, w3]
    decide
theorem r_198 (l : rr h0 z τ N s h) (hQ : Q (some (.int (pz_b (sp_n τ s.1)))) h) : am_call am_cod 3 198 [.ref 154] h Q := by
  have hP := r_P l
  refine pz_call (n := 198) (nL := 1) (rt := (some .boolean)) (rows := am_r198) (d := 2) (by decide +kernel) (by decide +kernel) rfl (by funext pc; rfl) (ex_175 hP) (by exact Nat.le_of_ble_eq_true rfl) ?_
  refine am_goX 2 (show am_sh h 154 = some (11, 0) ∧ pz_S 1 (some .boolean) am_r198 2 Q 4 [(0, .ref 154)] [.int (h.1 154 8)] h from ⟨ex_154 (r_P l), ?_⟩)
  rw [r_f l]
  refine am_goX 1 (show (¬ 0 = 0 → pz_S 1 (some .boolean) am_r198 2 Q 34 [(0, .ref 154)] [] h) ∧ (¬ ¬ 0 = 0 → pz_S 1 (some .boolean) am_r198 2 Q 7 [(0, .ref 154)] [] h) from ⟨fun hz => absurd hz (by decide), fun _ => ?_⟩)
  refine am_goX 2 (show am_sh h 154 = some (11, 0) ∧ pz_S 1 (some .boolean) am_r198 2 Q 11 [(0, .ref 154)] [am_rf (h.2.2.1 154 4)] h from ⟨ex_154 (r_P l), ?_⟩)
  rw [ex_r154_4 (h := h) (r_P l)]
  refine am_goX 3 (show am_sh h 154 = some (11, 0) ∧ ∃ jj nn : Nat, am_sh h 156 = some (13, nn) ∧ jj < nn ∧ (h.1 154 7) = nI jj ∧ pz_S 1 (some .boolean) am_r198 2 Q 16 [(0, .ref 154)] [.int (h.1 156 jj)] h from ⟨ex_154 (r_P l), s.1, 1002, ex_156 (r_P l), (by have := r_N l; first | omega | (dsimp only at this; omega) | (dsimp only at this ⊢; omega)), r_a l, ?_⟩)
  rw [r_k l]
  refine am_goX 1 (show pz_S 1 (some .boolean) am_r198 2 Q 17 [(0, .ref 154)] [.int (Int32.ofInt 1), .int (τ s.1).1] h from ?_)
  cases e41 : sp_k τ s.1 1 with
  | true =>
    refine am_goX 1 (show (¬ (τ s.1).1 = (Int32.ofInt 1) → pz_S 1 (some .boolean) am_r198 2 Q 34 [(0, .ref 154)] [] h) ∧ (¬ ¬ (τ s.1).1 = (Int32.ofInt 1) → pz_S 1 (some .boolean) am_r198 2 Q 20 [(0, .ref 154)] [] h) from ⟨fun hz => absurd hz (fun w => w (sp_kt e41)), fun _ => ?_⟩)
    refine am_goX 4 (show am_rc h 154 11 ∧ 0 ≤ 8 ∧ h.2.2.2.2 + am_al 199 ≤ 175 ∧ am_call am_cod 2 199 [.ref 154, .int (Int32.ofInt 0), .int (Int8.ofInt 17).toInt32] h (fun vv h' => pz_S 1 (some .boolean) am_r198 2 Q 27 [(0, .ref 154)] (vv.toList ++ []) h') from ⟨Or.inl ⟨by decide, ex_154 (r_P l)⟩, by decide, ex_lim (r_P l) rfl, r_199 (f := 0) (M := 17) (by decide) (by decide) (by decide) l ?_⟩)
    refine am_goX 1 (show (0 ≤ (wq τ s.1 0 17) → pz_S 1 (some .boolean) am_r198 2 Q 34 [(0, .ref 154)] [] h) ∧ (¬ (0 ≤ (wq τ s.1 0 17)) → pz_S 1 (some .boolean) am_r198 2 Q 30 [(0, .ref 154)] [] h) from ⟨fun hc => ?_, fun hc => ?_⟩)
    ·
      have e9 := (wq_n e41).trans (decide_eq_false (fun w => w hc))
      rw [e9] at hQ
      exact am_goX 2 (show (∃ ty, (some .boolean) = some ty ∧ narrow ty (.int ((Int32.ofInt 0))) = .int ((Int32.ofInt 0))) ∧ h.2.2.2.2 = 175 ∧ _ from ⟨⟨.boolean, rfl, rfl⟩, ex_175 (r_P l), hQ⟩)
    ·
      have e9 := (wq_n e41).trans (decide_eq_true hc)
      rw [e9] at hQ
      exact am_goX 3 (show (∃ ty, (some .boolean) = some ty ∧ narrow ty (.int ((Int32.ofInt 1))) = .int ((Int32.ofInt 1))) ∧ h.2.2.2.2 = 175 ∧ _ from ⟨⟨.boolean, rfl, rfl⟩, ex_175 (r_P l), hQ⟩)
  | false =>
    refine am_goX 1 (show (¬ (τ s.1).1 = (Int32.ofInt 1) → pz_S 1 (some .boolean) am_r198 2 Q 34 [(0, .ref 154)] [] h) ∧ (¬ ¬ (τ s.1).1 = (Int32.ofInt 1) → pz_S 1 (some .boolean) am_r198 2 Q 20 [(0, .ref 154)] [] h) from ⟨fun _ => ?_, fun hz => absurd (of_decide_eq_false e41) hz⟩)
    refine am_goX 1 (show pz_S 1 (some .boolean) am_r198 2 Q 35 [(0, .ref 154)] [.int (Int32.ofInt 0)] h from ?_)
    have e9 : sp_n τ s.1 = false := by unfold sp_n; rw [e41]; rfl
    rw [e9] at hQ
    exact am_goX 1 (show (∃ ty, (some .boolean) = some ty ∧ narrow ty (.int ((Int32.ofInt 0))) = .int ((Int32.ofInt 0))) ∧ h.2.2.2.2 = 175 ∧ _ from ⟨⟨.boolean, rfl, rfl⟩, ex_175 (r_P l), hQ⟩)
theorem d_216 {p q : Int32} (hc : c < 1100) (x : rx h0 F c h) (hQ : ∀ h1, rx h0 F (c + 1) h1 → Q none h1) : am_call am_cod 1 216 [.ref 154, .int p, .int q] h Q := by
  have hP := x.1
  have ec : h.1 154 13 = nI c := x.2.2.1
  refine pz_call (n := 216) (nL := 3) (rt := none) (rows := am_r216) (d := 0) (by decide +kernel) (by decide +kernel) rfl (by funext pc; rfl) (ex_175 hP) (by exact Nat.le_of_ble_eq_true rfl) ?_
  refine am_goX 2 (show am_sh h 154 = some (11, 0) ∧ pz_S 3 none am_r216 0 Q 4 [(0, .ref 154), (1, .int p), (2, .int q)] [am_rf (h.2.2.1 154 11)] h from ⟨ex_154 hP, ?_⟩)
  rw [ex_r154_11 (h := h) hP]
  refine am_goX 6 (show am_sh h 154 = some (11, 0) ∧ ∃ jj nn : Nat, am_so h 161 = some (13, nn) ∧ jj < nn ∧ ((Int16.ofInt 1100).toInt32 + (h.1 154 13)) = nI jj ∧ pz_S 3 none am_r216 0 Q 14 [(0, .ref 154), (1, .int p), (2, .int q)] [] (am_wI h 161 jj (p)) from ⟨ex_154 hP, (1100 + c), 2200, ex_w161 hP, (by omega), (by rw [ec]; exact nI_add 1100 _), ?_⟩)
  refine am_goX 2 (show am_sh (am_wI h 161 (1100 + c) (p)) 154 = some (11, 0) ∧ pz_S 3 none am_r216 0 Q 18 [(0, .ref 154), (1, .int p), (2, .int q)] [am_rf ((am_wI h 161 (1100 + c) (p)).2.2.1 154 12)] (am_wI h 161 (1100 + c) (p)) from ⟨ex_154 hP, ?_⟩)
  rw [ex_r154_12 (h := am_wI h 161 (1100 + c) (p)) hP]
  refine am_goX 6 (show am_sh (am_wI h 161 (1100 + c) (p)) 154 = some (11, 0) ∧ ∃ jj nn : Nat, am_so (am_wI h 161 (1100 + c) (p)) 162 = some (13, nn) ∧ jj < nn ∧ ((Int16.ofInt 1100).toInt32 + ((am_wI h 161 (1100 + c) (p)).1 154 13)) = nI jj ∧ pz_S 3 none am_r216 0 Q 28 [(0, .ref 154), (1, .int p), (2, .int q)] [] (am_wI (am_wI h 161 (1100 + c) (p)) 162 jj (q)) from ⟨ex_154 hP, (1100 + c), 2200, ex_w162 hP, (by omega), (by rw [em_wn _ _ (by omega), ec]; exact nI_add 1100 _), ?_⟩)
  refine am_goX 6 (show (Value.ref 154).category = 1 ∧ am_sh (am_wI (am_wI h 161 (1100 + c) (p)) 162 (1100 + c) (q)) 154 = some (11, 0) ∧ am_sh (am_wI (am_wI h 161 (1100 + c) (p)) 162 (1100 + c) (q)) 154 = some (11, 0) ∧ narrow (am_fty 11 13) (.int ((((am_wI (am_wI h 161 (1100 + c) (p)) 162 (1100 + c) (q)).1 154 13) + (Int32.ofInt 1)))) = .int ((((am_wI (am_wI h 161 (1100 + c) (p)) 162 (1100 + c) (q)).1 154 13) + (Int32.ofInt 1))) ∧ fits (am_fty 11 13) (.int ((((am_wI (am_wI h 161 (1100 + c) (p)) 162 (1100 + c) (q)).1 154 13) + (Int32.ofInt 1)))) = true ∧ pz_S 3 none am_r216 0 Q 38 [(0, .ref 154), (1, .int p), (2, .int q)] [] (am_wI (am_wI (am_wI h 161 (1100 + c) (p)) 162 (1100 + c) (q)) 154 13 ((((am_wI (am_wI h 161 (1100 + c) (p)) 162 (1100 + c) (q)).1 154 13) + (Int32.ofInt 1)))) from ⟨rfl, ex_154 hP, ex_154 hP, rfl, rfl, ?_⟩)
  rw [em_wn _ _ (by omega), em_wn _ _ (by omega), ec, xw_i1]
  exact am_goX 1 (show (none : Option FieldType) = none ∧ (am_wI (am_wI (am_wI h 161 (1100 + c) p) 162 (1100 + c) q) 154 13 (nI (c + 1))).2.2.2.2 = 175 ∧ _ from ⟨rfl, ex_175 hP, hQ _ (rx_em x)⟩)
theorem r_216 {p q w : Int32} (l : rr h0 0 τ N s h) (hn : s.2.2.2.2.2.1 < s.1) (e1 : p = rb_o w) (e2 : q = rb_a w) (ht : s.2.2.2.2.1 = true) (hQ : ∀ h1, rr h0 0 τ N (s.1, sp_em s.2 w) h1 → Q none h1) : am_call am_cod 1 216 [.ref 154, .int p, .int q] h Q := by
  have hP := r_P l
  have hc := r_N l
  have ec : h.1 154 13 = nI s.2.2.2.2.2.1 := l.2.1.2.2.2.2.2.1.1
  refine pz_call (n := 216) (nL := 3) (rt := none) (rows := am_r216) (d := 0) (by decide +kernel) (by decide +kernel) rfl (by funext pc; rfl) (ex_175 hP) (by exact Nat.le_of_ble_eq_true rfl) ?_
  refine am_goX 2 (show am_sh h 154 = some (11, 0) ∧ pz_S 3 none am_r216 0 Q 4 [(0, .ref 154), (1, .int p), (2, .int q)] [am_rf (h.2.2.1 154 11)] h from ⟨ex_154 hP, ?_⟩)
  rw [ex_r154_11 (h := h) hP]
  refine am_goX 6 (show am_sh h 154 = some (11, 0) ∧ ∃ jj nn : Nat, am_so h 161 = some (13, nn) ∧ jj < nn ∧ ((Int16.ofInt 1100).toInt32 + (h.1 154 13)) = nI jj ∧ pz_S 3 none am_r216 0 Q 14 [(0, .ref 154), (1, .int p), (2, .int q)] [] (am_wI h 161 jj (p)) from ⟨ex_154 hP, (1100 + s.2.2.2.2.2.1), 2200, ex_w161 hP, (by omega), (by rw [ec]; exact nI_add 1100 _), ?_⟩)
  refine am_goX 2 (show am_sh (am_wI h 161 (1100 + s.2.2.2.2.2.1) (p)) 154 = some (11, 0) ∧ pz_S 3 none am_r216 0 Q 18 [(0, .ref 154), (1, .int p), (2, .int q)] [am_rf ((am_wI h 161 (1100 + s.2.2.2.2.2.1) (p)).2.2.1 154 12)] (am_wI h 161 (1100 + s.2.2.2.2.2.1) (p)) from ⟨ex_154 hP, ?_⟩)
  rw [ex_r154_12 (h := am_wI h 161 (1100 + s.2.2.2.2.2.1) (p)) hP]
  refine am_goX 6 (show am_sh (am_wI h 161 (1100 + s.2.2.2.2.2.1) (p)) 154 = some (11, 0) ∧ ∃ jj nn : Nat, am_so (am_wI h 161 (1100 + s.2.2.2.2.2.1) (p)) 162 = some (13, nn) ∧ jj < nn ∧ ((Int16.ofInt 1100).toInt32 + ((am_wI h 161 (1100 + s.2.2.2.2.2.1) (p)).1 154 13)) = nI jj ∧ pz_S 3 none am_r216 0 Q 28 [(0, .ref 154), (1, .int p), (2, .int q)] [] (am_wI (am_wI h 161 (1100 + s.2.2.2.2.2.1) (p)) 162 jj (q)) from ⟨ex_154 hP, (1100 + s.2.2.2.2.2.1), 2200, ex_w162 hP, (by omega), (by rw [em_wn _ _ (by omega), ec]; exact nI_add 1100 _), ?_⟩)
  refine am_goX 6 (show (Value.ref 154).category = 1 ∧ am_sh (am_wI (am_wI h 161 (1100 + s.2.2.2.2.2.1) (p)) 162 (1100 + s.2.2.2.2.2.1) (q)) 154 = some (11, 0) ∧ am_sh (am_wI (am_wI h 161 (1100 + s.2.2.2.2.2.1) (p)) 162 (1100 + s.2.2.2.2.2.1) (q)) 154 = some (11, 0) ∧ narrow (am_fty 11 13) (.int ((((am_wI (am_wI h 161 (1100 + s.2.2.2.2.2.1) (p)) 162 (1100 + s.2.2.2.2.2.1) (q)).1 154 13) + (Int32.ofInt 1)))) = .int ((((am_wI (am_wI h 161 (1100 + s.2.2.2.2.2.1) (p)) 162 (1100 + s.2.2.2.2.2.1) (q)).1 154 13) + (Int32.ofInt 1))) ∧ fits (am_fty 11 13) (.int ((((am_wI (am_wI h 161 (1100 + s.2.2.2.2.2.1) (p)) 162 (1100 + s.2.2.2.2.2.1) (q)).1 154 13) + (Int32.ofInt 1)))) = true ∧ pz_S 3 none am_r216 0 Q 38 [(0, .ref 154), (1, .int p), (2, .int q)] [] (am_wI (am_wI (am_wI h 161 (1100 + s.2.2.2.2.2.1) (p)) 162 (1100 + s.2.2.2.2.2.1) (q)) 154 13 ((((am_wI (am_wI h 161 (1100 + s.2.2.2.2.2.1) (p)) 162 (1100 + s.2.2.2.2.2.1) (q)).1 154 13) + (Int32.ofInt 1)))) from ⟨rfl, ex_154 hP, ex_154 hP, rfl, rfl, ?_⟩)
  rw [em_wn _ _ (by omega), em_wn _ _ (by omega), ec, xw_i1]
  exact am_goX 1 (show (none : Option FieldType) = none ∧ (am_wI (am_wI (am_wI h 161 (1100 + s.2.2.2.2.2.1) p) 162 (1100 + s.2.2.2.2.2.1) q) 154 13 (nI (s.2.2.2.2.2.1 + 1))).2.2.2.2 = 175 ∧ _ from ⟨rfl, ex_175 hP, hQ _ (rr_em (a := s.1) (C := s.2) l hn e1 e2 ht)⟩)
theorem r_216n {p q w : Int32} (l : rr h0 0 τ N s h) (e1 : p = rb_o w) (e2 : q = rb_a w) (ht : s.2.2.2.2.1 = true) (hQ : ∀ h1, rr1 h0 τ N s.1 (sp_em s.2 w) h1 → Q none h1) : am_call am_cod 1 216 [.ref 154, .int p, .int q] h Q := by
  have hP := r_P l
  have hc := r_N l
  have ec : h.1 154 13 = nI s.2.2.2.2.2.1 := l.2.1.2.2.2.2.2.1.1
  refine pz_call (n := 216) (nL := 3) (rt := none) (rows := am_r216) (d := 0) (by decide +kernel) (by decide +kernel) rfl (by funext pc; rfl) (ex_175 hP) (by exact Nat.le_of_ble_eq_true rfl) ?_
  refine am_goX 2 (show am_sh h 154 = some (11, 0) ∧ pz_S 3 none am_r216 0 Q 4 [(0, .ref 154), (1, .int p), (2, .int q)] [am_rf (h.2.2.1 154 11)] h from ⟨ex_154 hP, ?_⟩)
  rw [ex_r154_11 (h := h) hP]
  refine am_goX 6 (show am_sh h 154 = some (11, 0) ∧ ∃ jj nn : Nat, am_so h 161 = some (13, nn) ∧ jj < nn ∧ ((Int16.ofInt 1100).toInt32 + (h.1 154 13)) = nI jj ∧ pz_S 3 none am_r216 0 Q 14 [(0, .ref 154), (1, .int p), (2, .int q)] [] (am_wI h 161 jj (p)) from ⟨ex_154 hP, (1100 + s.2.2.2.2.2.1), 2200, ex_w161 hP, (by omega), (by rw [ec]; exact nI_add 1100 _), ?_⟩)
  refine am_goX 2 (show am_sh (am_wI h 161 (1100 + s.2.2.2.2.2.1) (p)) 154 = some (11, 0) ∧ pz_S 3 none am_r216 0 Q 18 [(0, .ref 154), (1, .int p), (2, .int q)] [am_rf ((am_wI h 161 (1100 + s.2.2.2.2.2.1) (p)).2.2.1 154 12)] (am_wI h 161 (1100 + s.2.2.2.2.2.1) (p)) from ⟨ex_154 hP, ?_⟩)
  rw [ex_r154_12 (h := am_wI h 161 (1100 + s.2.2.2.2.2.1) (p)) hP]
  refine am_goX 6 (show am_sh (am_wI h 161 (1100 + s.2.2.2.2.2.1) (p)) 154 = some (11, 0) ∧ ∃ jj nn : Nat, am_so (am_wI h 161 (1100 + s.2.2.2.2.2.1) (p)) 162 = some (13, nn) ∧ jj < nn ∧ ((Int16.ofInt 1100).toInt32 + ((am_wI h 161 (1100 + s.2.2.2.2.2.1) (p)).1 154 13)) = nI jj ∧ pz_S 3 none am_r216 0 Q 28 [(0, .ref 154), (1, .int p), (2, .int q)] [] (am_wI (am_wI h 161 (1100 + s.2.2.2.2.2.1) (p)) 162 jj (q)) from ⟨ex_154 hP, (1100 + s.2.2.2.2.2.1), 2200, ex_w162 hP, (by omega), (by rw [em_wn _ _ (by omega), ec]; exact nI_add 1100 _), ?_⟩)
  refine am_goX 6 (show (Value.ref 154).category = 1 ∧ am_sh (am_wI (am_wI h 161 (1100 + s.2.2.2.2.2.1) (p)) 162 (1100 + s.2.2.2.2.2.1) (q)) 154 = some (11, 0) ∧ am_sh (am_wI (am_wI h 161 (1100 + s.2.2.2.2.2.1) (p)) 162 (1100 + s.2.2.2.2.2.1) (q)) 154 = some (11, 0) ∧ narrow (am_fty 11 13) (.int ((((am_wI (am_wI h 161 (1100 + s.2.2.2.2.2.1) (p)) 162 (1100 + s.2.2.2.2.2.1) (q)).1 154 13) + (Int32.ofInt 1)))) = .int ((((am_wI (am_wI h 161 (1100 + s.2.2.2.2.2.1) (p)) 162 (1100 + s.2.2.2.2.2.1) (q)).1 154 13) + (Int32.ofInt 1))) ∧ fits (am_fty 11 13) (.int ((((am_wI (am_wI h 161 (1100 + s.2.2.2.2.2.1) (p)) 162 (1100 + s.2.2.2.2.2.1) (q)).1 154 13) + (Int32.ofInt 1)))) = true ∧ pz_S 3 none am_r216 0 Q 38 [(0, .ref 154), (1, .int p), (2, .int q)] [] (am_wI (am_wI (am_wI h 161 (1100 + s.2.2.2.2.2.1) (p)) 162 (1100 + s.2.2.2.2.2.1) (q)) 154 13 ((((am_wI (am_wI h 161 (1100 + s.2.2.2.2.2.1) (p)) 162 (1100 + s.2.2.2.2.2.1) (q)).1 154 13) + (Int32.ofInt 1)))) from ⟨rfl, ex_154 hP, ex_154 hP, rfl, rfl, ?_⟩)
  rw [em_wn _ _ (by omega), em_wn _ _ (by omega), ec, xw_i1]
  exact am_goX 1 (show (none : Option FieldType) = none ∧ (am_wI (am_wI (am_wI h 161 (1100 + s.2.2.2.2.2.1) p) 162 (1100 + s.2.2.2.2.2.1) q) 154 13 (nI (s.2.2.2.2.2.1 + 1))).2.2.2.2 = 175 ∧ _ from ⟨rfl, ex_175 hP, hQ _ (rr1_em (a := s.1) (C := s.2) l e1 e2 ht)⟩)
theorem r_216e {q : Int32} (l : rr h0 0 τ N s h) (ht : s.2.2.2.2.1 = true) (hQ : ∀ h1, rr h0 1 τ N s h1 → Q none h1) : am_call am_cod 1 216 [.ref 154, .int (Int32.ofInt 0), .int q] h Q := by
  have hP := r_P l
  have hc := r_N l
  have ec : h.1 154 13 = nI s.2.2.2.2.2.1 := l.2.1.2.2.2.2.2.1.1
  refine pz_call (n := 216) (nL := 3) (rt := none) (rows := am_r216) (d := 0) (by decide +kernel) (by decide +kernel) rfl (by funext pc; rfl) (ex_175 hP) (by exact Nat.le_of_ble_eq_true rfl) ?_
  refine am_goX 2 (show am_sh h 154 = some (11, 0) ∧ pz_S 3 none am_r216 0 Q 4 [(0, .ref 154), (1, .int (Int32.ofInt 0)), (2, .int q)] [am_rf (h.2.2.1 154 11)] h from ⟨ex_154 hP, ?_⟩)
  rw [ex_r154_11 (h := h) hP]
  refine am_goX 6 (show am_sh h 154 = some (11, 0) ∧ ∃ jj nn : Nat, am_so h 161 = some (13, nn) ∧ jj < nn ∧ ((Int16.ofInt 1100).toInt32 + (h.1 154 13)) = nI jj ∧ pz_S 3 none am_r216 0 Q 14 [(0, .ref 154), (1, .int (Int32.ofInt 0)), (2, .int q)] [] (am_wI h 161 jj ((Int32.ofInt 0))) from ⟨ex_154 hP, (1100 + s.2.2.2.2.2.1), 2200, ex_w161 hP, (by omega), (by rw [ec]; exact nI_add 1100 _), ?_⟩)
  refine am_goX 2 (show am_sh (am_wI h 161 (1100 + s.2.2.2.2.2.1) ((Int32.ofInt 0))) 154 = some (11, 0) ∧ pz_S 3 none am_r216 0 Q 18 [(0, .ref 154), (1, .int (Int32.ofInt 0)), (2, .int q)] [am_rf ((am_wI h 161 (1100 + s.2.2.2.2.2.1) ((Int32.ofInt 0))).2.2.1 154 12)] (am_wI h 161 (1100 + s.2.2.2.2.2.1) ((Int32.ofInt 0))) from ⟨ex_154 hP, ?_⟩)
  rw [ex_r154_12 (h := am_wI h 161 (1100 + s.2.2.2.2.2.1) ((Int32.ofInt 0))) hP]
  refine am_goX 6 (show am_sh (am_wI h 161 (1100 + s.2.2.2.2.2.1) ((Int32.ofInt 0))) 154 = some (11, 0) ∧ ∃ jj nn : Nat, am_so (am_wI h 161 (1100 + s.2.2.2.2.2.1) ((Int32.ofInt 0))) 162 = some (13, nn) ∧ jj < nn ∧ ((Int16.ofInt 1100).toInt32 + ((am_wI h 161 (1100 + s.2.2.2.2.2.1) ((Int32.ofInt 0))).1 154 13)) = nI jj ∧ pz_S 3 none am_r216 0 Q 28 [(0, .ref 154), (1, .int (Int32.ofInt 0)), (2, .int q)] [] (am_wI (am_wI h 161 (1100 + s.2.2.2.2.2.1) ((Int32.ofInt 0))) 162 jj (q)) from ⟨ex_154 hP, (1100 + s.2.2.2.2.2.1), 2200, ex_w162 hP, (by omega), (by rw [em_wn _ _ (by omega), ec]; exact nI_add 1100 _), ?_⟩)
  refine am_goX 6 (show (Value.ref 154).category = 1 ∧ am_sh (am_wI (am_wI h 161 (1100 + s.2.2.2.2.2.1) ((Int32.ofInt 0))) 162 (1100 + s.2.2.2.2.2.1) (q)) 154 = some (11, 0) ∧ am_sh (am_wI (am_wI h 161 (1100 + s.2.2.2.2.2.1) ((Int32.ofInt 0))) 162 (1100 + s.2.2.2.2.2.1) (q)) 154 = some (11, 0) ∧ narrow (am_fty 11 13) (.int ((((am_wI (am_wI h 161 (1100 + s.2.2.2.2.2.1) ((Int32.ofInt 0))) 162 (1100 + s.2.2.2.2.2.1) (q)).1 154 13) + (Int32.ofInt 1)))) = .int ((((am_wI (am_wI h 161 (1100 + s.2.2.2.2.2.1) ((Int32.ofInt 0))) 162 (1100 + s.2.2.2.2.2.1) (q)).1 154 13) + (Int32.ofInt 1))) ∧ fits (am_fty 11 13) (.int ((((am_wI (am_wI h 161 (1100 + s.2.2.2.2.2.1) ((Int32.ofInt 0))) 162 (1100 + s.2.2.2.2.2.1) (q)).1 154 13) + (Int32.ofInt 1)))) = true ∧ pz_S 3 none am_r216 0 Q 38 [(0, .ref 154), (1, .int (Int32.ofInt 0)), (2, .int q)] [] (am_wI (am_wI (am_wI h 161 (1100 + s.2.2.2.2.2.1) ((Int32.ofInt 0))) 162 (1100 + s.2.2.2.2.2.1) (q)) 154 13 ((((am_wI (am_wI h 161 (1100 + s.2.2.2.2.2.1) ((Int32.ofInt 0))) 162 (1100 + s.2.2.2.2.2.1) (q)).1 154 13) + (Int32.ofInt 1)))) from ⟨rfl, ex_154 hP, ex_154 hP, rfl, rfl, ?_⟩)
  rw [em_wn _ _ (by omega), em_wn _ _ (by omega), ec, xw_i1]
  exact am_goX 1 (show (none : Option FieldType) = none ∧ (am_wI (am_wI (am_wI h 161 (1100 + s.2.2.2.2.2.1) (Int32.ofInt 0)) 162 (1100 + s.2.2.2.2.2.1) q) 154 13 (nI (s.2.2.2.2.2.1 + 1))).2.2.2.2 = 175 ∧ _ from ⟨rfl, ex_175 hP, hQ _ (rr_end (a := s.1) (C := s.2) l ht)⟩)
theorem d_201 {y w : Int32} (x : rx h0 F c h) (hQ : ∀ h1, rx h0 F c h1 → Q (some (.int (Int32.ofInt 0))) h1) : am_call am_cod 3 201 [.ref 154, .int y, .int w] h Q := by
  have hP := x.1
  refine pz_call (n := 201) (nL := 4) (rt := (some .int)) (rows := am_r201) (d := 2) (by decide +kernel) (by decide +kernel) rfl (by funext pc; rfl) (ex_175 hP) (by exact Nat.le_of_ble_eq_true rfl) ?_
  refine am_goX 2 (show am_sh h 154 = some (11, 0) ∧ pz_S 4 (some .int) am_r201 2 Q 4 [(0, .ref 154), (1, .int y), (2, .int w)] [.int (h.1 154 8)] h from ⟨ex_154 x.1, ?_⟩)
  rw [x.2.1.1]
  refine am_goX 1 (show ((F) ≤ 0 → pz_S 4 (some .int) am_r201 2 Q 11 [(0, .ref 154), (1, .int y), (2, .int w)] [] h) ∧ (¬ ((F) ≤ 0) → pz_S 4 (some .int) am_r201 2 Q 7 [(0, .ref 154), (1, .int y), (2, .int w)] [] h) from ⟨fun hz => absurd hz (rx_le x), fun _ => ?_⟩)
  refine am_goX 5 (show 3 < 4 ∧ am_sh h 154 = some (11, 0) ∧ pz_S 4 (some .int) am_r201 2 Q 22 [(3, .int (Int32.ofInt (-1))), (0, .ref 154), (1, .int y), (2, .int w)] [.int (h.1 154 8)] h from ⟨by decide, ex_154 x.1, ?_⟩)
  rw [x.2.1.1]
  refine am_goX 1 (show (¬ (F) = 0 → pz_S 4 (some .int) am_r201 2 Q 34 [(3, .int (Int32.ofInt (-1))), (0, .ref 154), (1, .int y), (2, .int w)] [] h) ∧ (¬ ¬ (F) = 0 → pz_S 4 (some .int) am_r201 2 Q 25 [(3, .int (Int32.ofInt (-1))), (0, .ref 154), (1, .int y), (2, .int w)] [] h) from ⟨fun _ => ?_, fun hz => absurd (rx_ne x) hz⟩)
  refine am_goX 5 (show (Value.ref 154).category = 1 ∧ am_sh h 154 = some (11, 0) ∧ am_sh h 154 = some (11, 0) ∧ pz_S 4 (some .int) am_r201 2 Q 43 [(3, .int (Int32.ofInt (-1))), (0, .ref 154), (1, .int y), (2, .int w)] [.int (h.1 154 8), .int (h.1 154 7), .ref 154] h from ⟨rfl, ex_154 x.1, ex_154 x.1, ?_⟩)
  rw [x.2.1.1]
  refine am_goX 1 (show ((F) ≤ 0 → pz_S 4 (some .int) am_r201 2 Q 50 [(3, .int (Int32.ofInt (-1))), (0, .ref 154), (1, .int y), (2, .int w)] [.int (h.1 154 7), .ref 154] h) ∧ (¬ ((F) ≤ 0) → pz_S 4 (some .int) am_r201 2 Q 46 [(3, .int (Int32.ofInt (-1))), (0, .ref 154), (1, .int y), (2, .int w)] [.int (h.1 154 7), .ref 154] h) from ⟨fun hz => absurd hz (rx_le x), fun _ => ?_⟩)
  refine am_goX 4 (show am_sh h 154 = some (11, 0) ∧ narrow (am_fty 11 7) (.int (((h.1 154 7) + (Int32.ofInt 0)))) = .int (((h.1 154 7) + (Int32.ofInt 0))) ∧ fits (am_fty 11 7) (.int (((h.1 154 7) + (Int32.ofInt 0)))) = true ∧ pz_S 4 (some .int) am_r201 2 Q 55 [(3, .int (Int32.ofInt (-1))), (0, .ref 154), (1, .int y), (2, .int w)] [] (am_wI h 154 7 (((h.1 154 7) + (Int32.ofInt 0)))) from ⟨ex_154 x.1, rfl, rfl, ?_⟩)
  have x42 : rx h0 (F) (c) (am_wI h 154 7 (((h.1 154 7) + (Int32.ofInt 0)))) := rx_at x
  refine am_goX 2 (show am_sh (am_wI h 154 7 (((h.1 154 7) + (Int32.ofInt 0)))) 154 = some (11, 0) ∧ pz_S 4 (some .int) am_r201 2 Q 59 [(3, .int (Int32.ofInt (-1))), (0, .ref 154), (1, .int y), (2, .int w)] [.int ((am_wI h 154 7 (((h.1 154 7) + (Int32.ofInt 0)))).1 154 8)] (am_wI h 154 7 (((h.1 154 7) + (Int32.ofInt 0)))) from ⟨ex_154 x42.1, ?_⟩)
  rw [x42.2.1.1]
  refine am_goX 1 (show ((F) ≤ 0 → pz_S 4 (some .int) am_r201 2 Q 66 [(3, .int (Int32.ofInt (-1))), (0, .ref 154), (1, .int y), (2, .int w)] [] (am_wI h 154 7 (((h.1 154 7) + (Int32.ofInt 0))))) ∧ (¬ ((F) ≤ 0) → pz_S 4 (some .int) am_r201 2 Q 62 [(3, .int (Int32.ofInt (-1))), (0, .ref 154), (1, .int y), (2, .int w)] [] (am_wI h 154 7 (((h.1 154 7) + (Int32.ofInt 0))))) from ⟨fun hz => absurd hz (rx_le x42), fun _ => ?_⟩)
  exact am_goX 3 (show (∃ ty, (some .int) = some ty ∧ narrow ty (.int ((Int32.ofInt 0))) = .int ((Int32.ofInt 0))) ∧ (am_wI h 154 7 (((h.1 154 7) + (Int32.ofInt 0)))).2.2.2.2 = 175 ∧ _ from ⟨⟨.int, rfl, rfl⟩, ex_175 x42.1, hQ _ x42⟩)
theorem wq_k {τ : sp_T} {a : Nat} : wq τ a 10 4 = sp_ko (sp_kd τ a) := by
  have d : ∀ (i j : Nat), i < 4 → j < 4 → ¬ i = j → sp_w τ a (rw_w (10 + i)) = true → sp_w τ a (rw_w (10 + j)) = false := by
    intro i j hi hj hij e
    have k : sp_k τ a 1 = true := (Bool.and_eq_true _ _ ▸ e : _ ∧ _).1
    rw [sp_w_e k] at e ⊢
    have e := of_decide_eq_true e
    rw [e]
    have : ∀ i, i < 4 → ∀ j, j < 4 → ¬ i = j → ¬ rw_w (10 + i) = rw_w (10 + j) := by decide +kernel
    exact decide_eq_false (this i hi j hj hij)
  have r0 : rw_w (10 + 0) = 30596128 := by decide
  have r1 : rw_w (10 + 1) = 43567634 := by decide
  have r2 : rw_w (10 + 2) = 37900956 := by decide
  have r3 : rw_w (10 + 3) = 488058286 := by decide
  show (bif sp_w τ a (rw_w (10 + 3)) then nI 3 else bif sp_w τ a (rw_w (10 + 2)) then nI 2 else bif sp_w τ a (rw_w (10 + 1)) then nI 1 else bif sp_w τ a (rw_w (10 + 0)) then nI 0 else Int32.ofInt (-1)) = _
  unfold sp_kd
  rw [← r0, ← r1, ← r2, ← r3]
  cases e3 : sp_w τ a (rw_w (10 + 3)) with
  | true => rw [d 3 0 (by decide) (by decide) (by decide) e3, d 3 1 (by decide) (by decide) (by decide) e3, d 3 2 (by decide) (by decide) (by decide) e3]; rfl
  | false =>
    cases e2 : sp_w τ a (rw_w (10 + 2)) with
    | true => rw [d 2 0 (by decide) (by decide) (by decide) e2, d 2 1 (by decide) (by decide) (by decide) e2]; rfl
    | false =>
      cases e1 : sp_w τ a (rw_w (10 + 1)) with
      | true => rw [d 1 0 (by decide) (by decide) (by decide) e1]; rfl
      | false =>
        cases e0 : sp_w τ a (rw_w (10 + 0)) with
        | true => rfl
        | false => rfl
theorem sp_kd_0 {τ : sp_T} {a : Nat} {k : Int32} (e : sp_kd τ a = some k) : 0 ≤ k := by
  unfold sp_kd at e
  cases h1 : sp_w τ a 30596128 with
  | true => simp only [h1, cond_true] at e; cases e; decide
  | false =>
    simp only [h1, cond_false] at e
    cases h2 : sp_w τ a 43567634 with
    | true => simp only [h2, cond_true] at e; cases e; decide
    | false =>
      simp only [h2, cond_false] at e
      cases h3 : sp_w τ a 37900956 with
      | true => simp only [h3, cond_true] at e; cases e; decide
      | false =>
        simp only [h3, cond_false] at e
        cases h4 : sp_w τ a 488058286 with
        | true => simp only [h4, cond_true] at e; cases e; decide
        | false => simp only [h4, cond_false] at e; cases e
theorem r_201 (l : rr h0 z τ N s h) (hF : sp_kd τ s.1 = none → ∀ h1, rx h0 (sp_ft τ s.1 (Int32.ofInt 1)) (s.2.2.2.2.2.1 + z) h1 → Q (some (.int (Int32.ofInt 0))) h1) (hS : ∀ k h1, sp_kd τ s.1 = some k → rr h0 z τ N (s.1 + 1, s.2) h1 → Q (some (.int k)) h1) : am_call am_cod 3 201 [.ref 154, .int (Int8.ofInt 10).toInt32, .int (Int32.ofInt 4)] h Q := by
  have hP := r_P l
  refine pz_call (n := 201) (nL := 4) (rt := (some .int)) (rows := am_r201) (d := 2) (by decide +kernel) (by decide +kernel) rfl (by funext pc; rfl) (ex_175 hP) (by exact Nat.le_of_ble_eq_true rfl) ?_
  refine am_goX 2 (show am_sh h 154 = some (11, 0) ∧ pz_S 4 (some .int) am_r201 2 Q 4 [(0, .ref 154), (1, .int (Int8.ofInt 10).toInt32), (2, .int (Int32.ofInt 4))] [.int (h.1 154 8)] h from ⟨ex_154 (r_P l), ?_⟩)
  rw [r_f l]
  refine am_goX 1 (show (0 ≤ 0 → pz_S 4 (some .int) am_r201 2 Q 11 [(0, .ref 154), (1, .int (Int8.ofInt 10).toInt32), (2, .int (Int32.ofInt 4))] [] h) ∧ (¬ (0 ≤ 0) → pz_S 4 (some .int) am_r201 2 Q 7 [(0, .ref 154), (1, .int (Int8.ofInt 10).toInt32), (2, .int (Int32.ofInt 4))] [] h) from ⟨fun _ => ?_, fun hz => absurd (by decide) hz⟩)
  refine am_goX 4 (show am_rc h 154 11 ∧ 0 ≤ 8 ∧ h.2.2.2.2 + am_al 199 ≤ 175 ∧ am_call am_cod 2 199 [.ref 154, .int (Int8.ofInt 10).toInt32, .int (Int32.ofInt 4)] h (fun vv h' => pz_S 4 (some .int) am_r201 2 Q 17 [(0, .ref 154), (1, .int (Int8.ofInt 10).toInt32), (2, .int (Int32.ofInt 4))] (vv.toList ++ []) h') from ⟨Or.inl ⟨by decide, ex_154 (r_P l)⟩, by decide, ex_lim (r_P l) rfl, r_199 (f := 10) (M := 4) (by decide) (by decide) (by decide) l ?_⟩)
  rw [wq_k]
  cases e1 : sp_kd τ s.1 with
  | none =>
    refine am_goX 3 (show 3 < 4 ∧ am_sh h 154 = some (11, 0) ∧ pz_S 4 (some .int) am_r201 2 Q 22 [(3, .int (Int32.ofInt (-1))), (0, .ref 154), (1, .int (Int8.ofInt 10).toInt32), (2, .int (Int32.ofInt 4))] [.int (h.1 154 8)] h from ⟨by decide, ex_154 (r_P l), ?_⟩)
    rw [r_f l]
    refine am_goX 1 (show (¬ 0 = 0 → pz_S 4 (some .int) am_r201 2 Q 34 [(3, .int (Int32.ofInt (-1))), (0, .ref 154), (1, .int (Int8.ofInt 10).toInt32), (2, .int (Int32.ofInt 4))] [] h) ∧ (¬ ¬ 0 = 0 → pz_S 4 (some .int) am_r201 2 Q 25 [(3, .int (Int32.ofInt (-1))), (0, .ref 154), (1, .int (Int8.ofInt 10).toInt32), (2, .int (Int32.ofInt 4))] [] h) from ⟨fun hz => absurd hz (by decide), fun _ => ?_⟩)
    refine am_goX 2 (show (0 ≤ (Int32.ofInt (-1)) → pz_S 4 (some .int) am_r201 2 Q 34 [(3, .int (Int32.ofInt (-1))), (0, .ref 154), (1, .int (Int8.ofInt 10).toInt32), (2, .int (Int32.ofInt 4))] [] h) ∧ (¬ (0 ≤ (Int32.ofInt (-1))) → pz_S 4 (some .int) am_r201 2 Q 29 [(3, .int (Int32.ofInt (-1))), (0, .ref 154), (1, .int (Int8.ofInt 10).toInt32), (2, .int (Int32.ofInt 4))] [] h) from ⟨fun hz => absurd hz (by decide), fun _ => ?_⟩)
    refine am_goX 3 (show am_rc h 154 11 ∧ 0 ≤ 8 ∧ h.2.2.2.2 + am_al 197 ≤ 175 ∧ am_call am_cod 2 197 [.ref 154, .int (Int32.ofInt 1)] h (fun vv h' => pz_S 4 (some .int) am_r201 2 Q 34 [(3, .int (Int32.ofInt (-1))), (0, .ref 154), (1, .int (Int8.ofInt 10).toInt32), (2, .int (Int32.ofInt 4))] (vv.toList ++ []) h') from ⟨Or.inl ⟨by decide, ex_154 (r_P l)⟩, by decide, ex_lim (r_P l) rfl, am_call.up (r_197 l ?_) (by omega)⟩)
    have x43 : rx h0 (sp_ft τ s.1 (Int32.ofInt 1)) (s.2.2.2.2.2.1 + z) (am_wI h 154 8 (sp_ft τ s.1 (Int32.ofInt 1))) := rr_x (s := s) l (by decide)
    refine am_goX 5 (show (Value.ref 154).category = 1 ∧ am_sh (am_wI h 154 8 (sp_ft τ s.1 (Int32.ofInt 1))) 154 = some (11, 0) ∧ am_sh (am_wI h 154 8 (sp_ft τ s.1 (Int32.ofInt 1))) 154 = some (11, 0) ∧ pz_S 4 (some .int) am_r201 2 Q 43 [(3, .int (Int32.ofInt (-1))), (0, .ref 154), (1, .int (Int8.ofInt 10).toInt32), (2, .int (Int32.ofInt 4))] [.int ((am_wI h 154 8 (sp_ft τ s.1 (Int32.ofInt 1))).1 154 8), .int ((am_wI h 154 8 (sp_ft τ s.1 (Int32.ofInt 1))).1 154 7), .ref 154] (am_wI h 154 8 (sp_ft τ s.1 (Int32.ofInt 1))) from ⟨rfl, ex_154 x43.1, ex_154 x43.1, ?_⟩)
    rw [x43.2.1.1]
    refine am_goX 1 (show ((sp_ft τ s.1 (Int32.ofInt 1)) ≤ 0 → pz_S 4 (some .int) am_r201 2 Q 50 [(3, .int (Int32.ofInt (-1))), (0, .ref 154), (1, .int (Int8.ofInt 10).toInt32), (2, .int (Int32.ofInt 4))] [.int ((am_wI h 154 8 (sp_ft τ s.1 (Int32.ofInt 1))).1 154 7), .ref 154] (am_wI h 154 8 (sp_ft τ s.1 (Int32.ofInt 1)))) ∧ (¬ ((sp_ft τ s.1 (Int32.ofInt 1)) ≤ 0) → pz_S 4 (some .int) am_r201 2 Q 46 [(3, .int (Int32.ofInt (-1))), (0, .ref 154), (1, .int (Int8.ofInt 10).toInt32), (2, .int (Int32.ofInt 4))] [.int ((am_wI h 154 8 (sp_ft τ s.1 (Int32.ofInt 1))).1 154 7), .ref 154] (am_wI h 154 8 (sp_ft τ s.1 (Int32.ofInt 1)))) from ⟨fun hz => absurd hz (rx_le x43), fun _ => ?_⟩)
    refine am_goX 4 (show am_sh (am_wI h 154 8 (sp_ft τ s.1 (Int32.ofInt 1))) 154 = some (11, 0) ∧ narrow (am_fty 11 7) (.int ((((am_wI h 154 8 (sp_ft τ s.1 (Int32.ofInt 1))).1 154 7) + (Int32.ofInt 0)))) = .int ((((am_wI h 154 8 (sp_ft τ s.1 (Int32.ofInt 1))).1 154 7) + (Int32.ofInt 0))) ∧ fits (am_fty 11 7) (.int ((((am_wI h 154 8 (sp_ft τ s.1 (Int32.ofInt 1))).1 154 7) + (Int32.ofInt 0)))) = true ∧ pz_S 4 (some .int) am_r201 2 Q 55 [(3, .int (Int32.ofInt (-1))), (0, .ref 154), (1, .int (Int8.ofInt 10).toInt32), (2, .int (Int32.ofInt 4))] [] (am_wI (am_wI h 154 8 (sp_ft τ s.1 (Int32.ofInt 1))) 154 7 ((((am_wI h 154 8 (sp_ft τ s.1 (Int32.ofInt 1))).1 154 7) + (Int32.ofInt 0)))) from ⟨ex_154 x43.1, rfl, rfl, ?_⟩)
    have x44 : rx h0 (sp_ft τ s.1 (Int32.ofInt 1)) (s.2.2.2.2.2.1 + z) (am_wI (am_wI h 154 8 (sp_ft τ s.1 (Int32.ofInt 1))) 154 7 ((((am_wI h 154 8 (sp_ft τ s.1 (Int32.ofInt 1))).1 154 7) + (Int32.ofInt 0)))) := rx_at x43
    refine am_goX 2 (show am_sh (am_wI (am_wI h 154 8 (sp_ft τ s.1 (Int32.ofInt 1))) 154 7 ((((am_wI h 154 8 (sp_ft τ s.1 (Int32.ofInt 1))).1 154 7) + (Int32.ofInt 0)))) 154 = some (11, 0) ∧ pz_S 4 (some .int) am_r201 2 Q 59 [(3, .int (Int32.ofInt (-1))), (0, .ref 154), (1, .int (Int8.ofInt 10).toInt32), (2, .int (Int32.ofInt 4))] [.int ((am_wI (am_wI h 154 8 (sp_ft τ s.1 (Int32.ofInt 1))) 154 7 ((((am_wI h 154 8 (sp_ft τ s.1 (Int32.ofInt 1))).1 154 7) + (Int32.ofInt 0)))).1 154 8)] (am_wI (am_wI h 154 8 (sp_ft τ s.1 (Int32.ofInt 1))) 154 7 ((((am_wI h 154 8 (sp_ft τ s.1 (Int32.ofInt 1))).1 154 7) + (Int32.ofInt 0)))) from ⟨ex_154 x44.1, ?_⟩)
    rw [x44.2.1.1]
    refine am_goX 1 (show ((sp_ft τ s.1 (Int32.ofInt 1)) ≤ 0 → pz_S 4 (some .int) am_r201 2 Q 66 [(3, .int (Int32.ofInt (-1))), (0, .ref 154), (1, .int (Int8.ofInt 10).toInt32), (2, .int (Int32.ofInt 4))] [] (am_wI (am_wI h 154 8 (sp_ft τ s.1 (Int32.ofInt 1))) 154 7 ((((am_wI h 154 8 (sp_ft τ s.1 (Int32.ofInt 1))).1 154 7) + (Int32.ofInt 0))))) ∧ (¬ ((sp_ft τ s.1 (Int32.ofInt 1)) ≤ 0) → pz_S 4 (some .int) am_r201 2 Q 62 [(3, .int (Int32.ofInt (-1))), (0, .ref 154), (1, .int (Int8.ofInt 10).toInt32), (2, .int (Int32.ofInt 4))] [] (am_wI (am_wI h 154 8 (sp_ft τ s.1 (Int32.ofInt 1))) 154 7 ((((am_wI h 154 8 (sp_ft τ s.1 (Int32.ofInt 1))).1 154 7) + (Int32.ofInt 0))))) from ⟨fun hz => absurd hz (rx_le x44), fun _ => ?_⟩)
    exact am_goX 3 (show (∃ ty, (some .int) = some ty ∧ narrow ty (.int ((Int32.ofInt 0))) = .int ((Int32.ofInt 0))) ∧ (am_wI (am_wI h 154 8 (sp_ft τ s.1 (Int32.ofInt 1))) 154 7 ((((am_wI h 154 8 (sp_ft τ s.1 (Int32.ofInt 1))).1 154 7) + (Int32.ofInt 0)))).2.2.2.2 = 175 ∧ _ from ⟨⟨.int, rfl, rfl⟩, ex_175 x44.1, hF e1 _ x44⟩)
  | some k =>
    refine am_goX 3 (show 3 < 4 ∧ am_sh h 154 = some (11, 0) ∧ pz_S 4 (some .int) am_r201 2 Q 22 [(3, .int k), (0, .ref 154), (1, .int (Int8.ofInt 10).toInt32), (2, .int (Int32.ofInt 4))] [.int (h.1 154 8)] h from ⟨by decide, ex_154 (r_P l), ?_⟩)
    rw [r_f l]
    refine am_goX 1 (show (¬ 0 = 0 → pz_S 4 (some .int) am_r201 2 Q 34 [(3, .int k), (0, .ref 154), (1, .int (Int8.ofInt 10).toInt32), (2, .int (Int32.ofInt 4))] [] h) ∧ (¬ ¬ 0 = 0 → pz_S 4 (some .int) am_r201 2 Q 25 [(3, .int k), (0, .ref 154), (1, .int (Int8.ofInt 10).toInt32), (2, .int (Int32.ofInt 4))] [] h) from ⟨fun hz => absurd hz (by decide), fun _ => ?_⟩)
    refine am_goX 2 (show (0 ≤ k → pz_S 4 (some .int) am_r201 2 Q 34 [(3, .int k), (0, .ref 154), (1, .int (Int8.ofInt 10).toInt32), (2, .int (Int32.ofInt 4))] [] h) ∧ (¬ (0 ≤ k) → pz_S 4 (some .int) am_r201 2 Q 29 [(3, .int k), (0, .ref 154), (1, .int (Int8.ofInt 10).toInt32), (2, .int (Int32.ofInt 4))] [] h) from ⟨fun _ => ?_, fun hz => absurd (sp_kd_0 e1) hz⟩)
    refine am_goX 5 (show (Value.ref 154).category = 1 ∧ am_sh h 154 = some (11, 0) ∧ am_sh h 154 = some (11, 0) ∧ pz_S 4 (some .int) am_r201 2 Q 43 [(3, .int k), (0, .ref 154), (1, .int (Int8.ofInt 10).toInt32), (2, .int (Int32.ofInt 4))] [.int (h.1 154 8), .int (h.1 154 7), .ref 154] h from ⟨rfl, ex_154 (r_P l), ex_154 (r_P l), ?_⟩)
    rw [r_f l]
    refine am_goX 1 (show (0 ≤ 0 → pz_S 4 (some .int) am_r201 2 Q 50 [(3, .int k), (0, .ref 154), (1, .int (Int8.ofInt 10).toInt32), (2, .int (Int32.ofInt 4))] [.int (h.1 154 7), .ref 154] h) ∧ (¬ (0 ≤ 0) → pz_S 4 (some .int) am_r201 2 Q 46 [(3, .int k), (0, .ref 154), (1, .int (Int8.ofInt 10).toInt32), (2, .int (Int32.ofInt 4))] [.int (h.1 154 7), .ref 154] h) from ⟨fun _ => ?_, fun hz => absurd (by decide) hz⟩)
    refine am_goX 3 (show am_sh h 154 = some (11, 0) ∧ narrow (am_fty 11 7) (.int (((h.1 154 7) + (Int32.ofInt 1)))) = .int (((h.1 154 7) + (Int32.ofInt 1))) ∧ fits (am_fty 11 7) (.int (((h.1 154 7) + (Int32.ofInt 1)))) = true ∧ pz_S 4 (some .int) am_r201 2 Q 55 [(3, .int k), (0, .ref 154), (1, .int (Int8.ofInt 10).toInt32), (2, .int (Int32.ofInt 4))] [] (am_wI h 154 7 (((h.1 154 7) + (Int32.ofInt 1)))) from ⟨ex_154 (r_P l), rfl, rfl, ?_⟩)
    rw [r_a l, xw_i1]
    have l45 : rr h0 z τ N (s.1 + 1, s.2) (am_wI h 154 7 (nI (s.1 + 1))) := rr_nx (a := s.1) (C := s.2) l ((sp_kd_v e1).2)
    refine am_goX 2 (show am_sh (am_wI h 154 7 (nI (s.1 + 1))) 154 = some (11, 0) ∧ pz_S 4 (some .int) am_r201 2 Q 59 [(3, .int k), (0, .ref 154), (1, .int (Int8.ofInt 10).toInt32), (2, .int (Int32.ofInt 4))] [.int ((am_wI h 154 7 (nI (s.1 + 1))).1 154 8)] (am_wI h 154 7 (nI (s.1 + 1))) from ⟨ex_154 (r_P l45), ?_⟩)
    rw [r_f l45]
    refine am_goX 1 (show (0 ≤ 0 → pz_S 4 (some .int) am_r201 2 Q 66 [(3, .int k), (0, .ref 154), (1, .int (Int8.ofInt 10).toInt32), (2, .int (Int32.ofInt 4))] [] (am_wI h 154 7 (nI (s.1 + 1)))) ∧ (¬ (0 ≤ 0) → pz_S 4 (some .int) am_r201 2 Q 62 [(3, .int k), (0, .ref 154), (1, .int (Int8.ofInt 10).toInt32), (2, .int (Int32.ofInt 4))] [] (am_wI h 154 7 (nI (s.1 + 1)))) from ⟨fun _ => ?_, fun hz => absurd (by decide) hz⟩)
    exact am_goX 2 (show (∃ ty, (some .int) = some ty ∧ narrow ty (.int (k)) = .int (k)) ∧ (am_wI h 154 7 (nI (s.1 + 1))).2.2.2.2 = 175 ∧ _ from ⟨⟨.int, rfl, rfl⟩, ex_175 (r_P l45), hS k _ e1 l45⟩)
