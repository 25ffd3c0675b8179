/-! THE REFERENCE'S READERS, AND ITS WEEK -/
/-- the names of the canton told -/
def rkN (C : sp_C) (h : am_H) : Prop := h.1 154 18 = nI (C.1.1 + C.2.1.1) ∧
  (∀ k, k < C.1.1 + C.2.1.1 → (∃ i, i < C.1.1 ∧ h.1 165 k = nI i ∧ h.2.1 163 k = C.1.2.1 i) ∨ (∃ i, i < C.2.1.1 ∧ h.1 165 k = nI (20 + i) ∧ h.2.1 163 k = C.2.1.2.1 i)) ∧
  (∀ i, i < C.1.1 → ∃ k, k < C.1.1 + C.2.1.1 ∧ h.1 165 k = nI i ∧ h.2.1 163 k = C.1.2.1 i) ∧
  (∀ i, i < C.2.1.1 → ∃ k, k < C.1.1 + C.2.1.1 ∧ h.1 165 k = nI (20 + i) ∧ h.2.1 163 k = C.2.1.2.1 i) ∧
  (∀ k k', k < C.1.1 + C.2.1.1 → k' < C.1.1 + C.2.1.1 → h.2.1 163 k = h.2.1 163 k' → k = k')
def rkq (h0 h : am_H) : Prop := h.2.2 = h0.2.2 ∧ ∀ o k, ¬ (o = 154 ∧ (k = 7 ∨ k = 8)) → h.1 o k = h0.1 o k ∧ h.2.1 o k = h0.2.1 o k
def rk (h0 : am_H) (z : Nat) (τ : sp_T) (N : Nat) (s : sp_S) (h : am_H) : Prop := (rt τ N h ∧ (h.1 154 7 = nI s.1 ∧ s.1 ≤ N) ∧ h.1 154 8 = 0) ∧ (s.2.1.1 ≤ 6 ∧ s.2.2.1.1 ≤ 5 ∧ rkN s.2 h) ∧ rkq h0 h ∧ s.2.2.2.2.2.1 ≤ s.1
def rkx (h0 : am_H) (F : Int32) (c : Nat) (h : am_H) : Prop := ex_P h ∧ (h.1 154 8 = F ∧ 0 < F.toInt) ∧ rkq h0 h
variable {h h0 : am_H} {z N a c o k : Nat} {τ : sp_T} {C : sp_C} {s : sp_S} {F v : Int32} {Q : am_Q}
theorem rkN_w (hn : ¬ (o = 154 ∧ k = 18) ∧ ¬ o = 165) (l : rkN C h) : rkN C (am_wI h o k v) := by
  have e : ∀ i, (am_wI h o k v).1 165 i = h.1 165 i := fun i => em_wn _ _ (by omega)
  obtain ⟨l1, l2, l3, l4, l5⟩ := l
  refine ⟨?_, fun i hi => ?_, fun i hi => ?_, fun i hi => ?_, l5⟩
  · rw [em_wn _ _ (by omega)]; exact l1
  · rw [e]; exact l2 i hi
  · obtain ⟨j, h1, h2, h3⟩ := l3 i hi
    exact ⟨j, h1, by rw [e]; exact h2, h3⟩
  · obtain ⟨j, h1, h2, h3⟩ := l4 i hi
    exact ⟨j, h1, by rw [e]; exact h2, h3⟩
theorem kq_w (hn : o = 154 ∧ (k = 7 ∨ k = 8)) (l : rkq h0 h) : rkq h0 (am_wI h o k v) := ⟨l.1, fun o' k' ho => ⟨by
  rw [em_wn _ _ (fun e => ho (by omega))]
  exact (l.2 o' k' ho).1, (l.2 o' k' ho).2⟩⟩
theorem k_P (l : rk h0 z τ N s h) : ex_P h := l.1.1.1
theorem k_f (l : rk h0 z τ N s h) : h.1 154 8 = 0 := l.1.2.2
theorem k_a (l : rk h0 z τ N s h) : h.1 154 7 = nI s.1 := l.1.2.1.1
theorem k_N (l : rk h0 z τ N s h) : s.1 ≤ N ∧ N ≤ 1000 ∧ s.2.2.2.2.2.1 ≤ s.1 := ⟨l.1.2.1.2, l.1.1.2.1, l.2.2.2⟩
theorem k_k (l : rk h0 z τ N s h) : h.1 156 s.1 = (τ s.1).1 := (l.1.1.2.2.1 s.1 l.1.2.1.2).1
theorem k_p (l : rk h0 z τ N s h) : h.1 157 s.1 = nI (τ s.1).2.2 := (l.1.1.2.2.1 s.1 l.1.2.1.2).2.1
theorem k_lt (l : rk h0 z τ N s h) (hn : ¬ (τ s.1).1 = 0) : s.1 < N := by
  have h1 := l.1.2.1.2
  rcases Nat.lt_or_eq_of_le h1 with w | w
  · exact w
  · exact absurd (by rw [w]; exact l.1.1.2.2.2.2.1) hn
theorem k_v (l : rk h0 z τ N s h) (hn : ¬ (τ s.1).1 = 0) : h.2.1 158 s.1 = (τ s.1).2.1 := l.1.1.2.2.2.1 s.1 (k_lt l hn)
theorem k_w (l : rk h0 z τ N s h) {w : Nat} (hw : w < 21) : h.2.1 159 w = rw_w w := l.1.1.2.2.2.2.2.1 w hw
theorem rkx_ne (x : rkx h0 F c h) : ¬ F = 0 := by
  intro e
  have := x.2.1.2
  rw [e] at this
  exact absurd this (by decide)
theorem rkx_le (x : rkx h0 F c h) : ¬ F ≤ 0 := by
  intro e
  have h1 := x.2.1.2
  have h2 := Int32.le_iff_toInt_le.mp e
  have h3 : (0 : Int32).toInt = 0 := by decide
  omega
theorem rk_at {a' : Nat} (l : rk h0 z τ N s h) (h1 : a' ≤ N) (h2 : s.2.2.2.2.2.1 ≤ a') : rk h0 z τ N (a', s.2) (am_wI h 154 7 (nI a')) := by
  obtain ⟨⟨l1, l2, l3⟩, ⟨c1, c2, c3⟩, l5, l6⟩ := l
  refine ⟨⟨rt_w (by omega) l1, ⟨em_we _ _ _ _, h1⟩, ?_⟩, ⟨c1, c2, rkN_w (by omega) c3⟩, kq_w (by omega) l5, h2⟩
  rw [em_wn _ _ (by omega)]
  exact l3
theorem rk_nx (l : rk h0 z τ N (a, C) h) (hn : ¬ (τ a).1 = 0) : rk h0 z τ N (a + 1, C) (am_wI h 154 7 (nI (a + 1))) := by
  have h1 := k_lt l hn
  have h2 := (k_N l).2.2
  exact rk_at l h1 (Nat.le_succ_of_le h2)
theorem rk_sm (l : rk h0 z τ N s h) : rk h0 z τ N s (am_wI h 154 7 (nI s.1)) := rk_at l (k_N l).1 (k_N l).2.2
theorem rkx_at (x : rkx h0 F c h) : rkx h0 F c (am_wI h 154 7 v) := by
  obtain ⟨x1, ⟨x2, x3⟩, x5⟩ := x
  refine ⟨x1, ⟨?_, x3⟩, kq_w (by omega) x5⟩
  rw [em_wn _ _ (by omega)]; exact x2
theorem kp_ft (l : rk h0 z τ N s h) {k : Int32} (hk : 1 ≤ k.toInt ∧ k.toInt ≤ 5) : 0 < (sp_ft τ s.1 k).toInt := by
  have hp := (l.1.1.2.2.1 s.1 l.1.2.1.2).2.2
  show 0 < (k + (Int8.ofInt 16).toInt32 * nI (τ s.1).2.2).toInt
  rw [Int32.toInt_add, Int32.toInt_mul, nI_toInt (by omega), show ((Int8.ofInt 16).toInt32).toInt = 16 from rfl, Int.bmod_eq_of_le (n := 16 * ↑(τ s.1).2.2) (by omega) (by omega), Int.bmod_eq_of_le (by omega) (by omega)]
  omega
theorem rk_x {k : Int32} (l : rk h0 z τ N s h) (hk : 1 ≤ k.toInt ∧ k.toInt ≤ 5) : rkx h0 (sp_ft τ s.1 k) (s.2.2.2.2.2.1 + z) (am_wI h 154 8 (sp_ft τ s.1 k)) :=
  ⟨l.1.1.1, ⟨em_we _ _ _ _, kp_ft l hk⟩, kq_w (by omega) l.2.2.1⟩
theorem e_215 {y : Int32} (x : rkx h0 F c h) (hQ : Q (some (.int (Int32.ofInt 0))) h) : am_call am_cod 1 215 [.ref 154, .int y] h Q := by
  have hP := x.1
  refine pz_call (n := 215) (nL := 2) (rt := (some .boolean)) (rows := am_r215) (d := 0) (by decide +kernel) (by decide +kernel) rfl (by funext pc; rfl) (ex_175 hP) (by exact Nat.le_of_ble_eq_true rfl) ?_
  refine am_goX 2 (show am_sh h 154 = some (11, 0) ∧ pz_S 2 (some .boolean) am_r215 0 Q 4 [(0, .ref 154), (1, .int y)] [.int (h.1 154 8)] h from ⟨ex_154 x.1, ?_⟩)
  rw [x.2.1.1]
  refine am_goX 1 (show (¬ (F) = 0 → pz_S 2 (some .boolean) am_r215 0 Q 39 [(0, .ref 154), (1, .int y)] [] h) ∧ (¬ ¬ (F) = 0 → pz_S 2 (some .boolean) am_r215 0 Q 7 [(0, .ref 154), (1, .int y)] [] h) from ⟨fun _ => ?_, fun hz => absurd (rkx_ne x) hz⟩)
  exact am_goX 2 (show (∃ ty, (some .boolean) = some ty ∧ narrow ty (.int ((Int32.ofInt 0))) = .int ((Int32.ofInt 0))) ∧ h.2.2.2.2 = 175 ∧ _ from ⟨⟨.boolean, rfl, rfl⟩, ex_175 x.1, hQ⟩)
theorem e_197 {y : Int32} (x : rkx h0 F c h) (hQ : Q none h) : am_call am_cod 1 197 [.ref 154, .int y] h Q := by
  have hP := x.1
  refine pz_call (n := 197) (nL := 2) (rt := none) (rows := am_r197) (d := 0) (by decide +kernel) (by decide +kernel) rfl (by funext pc; rfl) (ex_175 hP) (by exact Nat.le_of_ble_eq_true rfl) ?_
  refine am_goX 2 (show am_sh h 154 = some (11, 0) ∧ pz_S 2 none am_r197 0 Q 4 [(0, .ref 154), (1, .int y)] [.int (h.1 154 8)] h from ⟨ex_154 x.1, ?_⟩)
  rw [x.2.1.1]
  refine am_goX 1 (show (¬ (F) = 0 → pz_S 2 none am_r197 0 Q 25 [(0, .ref 154), (1, .int y)] [] h) ∧ (¬ ¬ (F) = 0 → pz_S 2 none am_r197 0 Q 7 [(0, .ref 154), (1, .int y)] [] h) from ⟨fun _ => ?_, fun hz => absurd (rkx_ne x) hz⟩)
  exact am_goX 1 (show (none : Option FieldType) = none ∧ h.2.2.2.2 = 175 ∧ _ from ⟨rfl, ex_175 x.1, hQ⟩)
theorem e_218 {y : Int32} (x : rkx h0 F c h) (hQ : Q none h) : am_call am_cod 2 218 [.ref 154, .int y] h Q := by
  have hP := x.1
  refine pz_call (n := 218) (nL := 2) (rt := none) (rows := am_r218) (d := 1) (by decide +kernel) (by decide +kernel) rfl (by funext pc; rfl) (ex_175 hP) (by exact Nat.le_of_ble_eq_true rfl) ?_
  refine am_goX 3 (show am_rc h 154 11 ∧ 0 ≤ 8 ∧ h.2.2.2.2 + am_al 215 ≤ 175 ∧ am_call am_cod 1 215 [.ref 154, .int y] h (fun vv h' => pz_S 2 none am_r218 1 Q 5 [(0, .ref 154), (1, .int y)] (vv.toList ++ []) h') from ⟨Or.inl ⟨by decide, ex_154 x.1⟩, by decide, ex_lim x.1 rfl, am_call.up (e_215 x ?_) (by omega)⟩)
  refine am_goX 1 (show (0 = 0 → pz_S 2 none am_r218 1 Q 21 [(0, .ref 154), (1, .int y)] [] h) ∧ (¬ (0 = 0) → pz_S 2 none am_r218 1 Q 8 [(0, .ref 154), (1, .int y)] [] h) from ⟨fun _ => ?_, fun hz => absurd (by decide) hz⟩)
  refine am_goX 3 (show am_rc h 154 11 ∧ 0 ≤ 8 ∧ h.2.2.2.2 + am_al 197 ≤ 175 ∧ am_call am_cod 1 197 [.ref 154, .int (Int32.ofInt 1)] h (fun vv h' => pz_S 2 none am_r218 1 Q 26 [(0, .ref 154), (1, .int y)] (vv.toList ++ []) h') from ⟨Or.inl ⟨by decide, ex_154 x.1⟩, by decide, ex_lim x.1 rfl, am_call.up (e_197 x ?_) (by omega)⟩)
  exact am_goX 1 (show (none : Option FieldType) = none ∧ h.2.2.2.2 = 175 ∧ _ from ⟨rfl, ex_175 x.1, hQ⟩)
theorem e_205 {lo hi : Int32} (x : rkx h0 F c h) (hQ : Q (some (.int (Int32.ofInt 0))) h) : am_call am_cod 2 205 [.ref 154, .int lo, .int hi] h Q := by
  have hP := x.1
  refine pz_call (n := 205) (nL := 3) (rt := (some .int)) (rows := am_r205) (d := 1) (by decide +kernel) (by decide +kernel) rfl (by funext pc; rfl) (ex_175 hP) (by exact Nat.le_of_ble_eq_true rfl) ?_
  refine am_goX 2 (show am_sh h 154 = some (11, 0) ∧ pz_S 3 (some .int) am_r205 1 Q 4 [(0, .ref 154), (1, .int lo), (2, .int hi)] [.int (h.1 154 8)] h from ⟨ex_154 x.1, ?_⟩)
  rw [x.2.1.1]
  refine am_goX 1 (show (¬ (F) = 0 → pz_S 3 (some .int) am_r205 1 Q 28 [(0, .ref 154), (1, .int lo), (2, .int hi)] [] h) ∧ (¬ ¬ (F) = 0 → pz_S 3 (some .int) am_r205 1 Q 7 [(0, .ref 154), (1, .int lo), (2, .int hi)] [] h) from ⟨fun _ => ?_, fun hz => absurd (rkx_ne x) hz⟩)
  refine am_goX 2 (show am_sh h 154 = some (11, 0) ∧ pz_S 3 (some .int) am_r205 1 Q 32 [(0, .ref 154), (1, .int lo), (2, .int hi)] [.int (h.1 154 8)] h from ⟨ex_154 x.1, ?_⟩)
  rw [x.2.1.1]
  refine am_goX 1 (show (¬ (F) = 0 → pz_S 3 (some .int) am_r205 1 Q 70 [(0, .ref 154), (1, .int lo), (2, .int hi)] [] h) ∧ (¬ ¬ (F) = 0 → pz_S 3 (some .int) am_r205 1 Q 35 [(0, .ref 154), (1, .int lo), (2, .int hi)] [] h) from ⟨fun _ => ?_, fun hz => absurd (rkx_ne x) hz⟩)
  refine am_goX 2 (show am_sh h 154 = some (11, 0) ∧ pz_S 3 (some .int) am_r205 1 Q 74 [(0, .ref 154), (1, .int lo), (2, .int hi)] [.int (h.1 154 8)] h from ⟨ex_154 x.1, ?_⟩)
  rw [x.2.1.1]
  refine am_goX 1 (show ((F) ≤ 0 → pz_S 3 (some .int) am_r205 1 Q 79 [(0, .ref 154), (1, .int lo), (2, .int hi)] [] h) ∧ (¬ ((F) ≤ 0) → pz_S 3 (some .int) am_r205 1 Q 77 [(0, .ref 154), (1, .int lo), (2, .int hi)] [] h) from ⟨fun hz => absurd hz (rkx_le x), fun _ => ?_⟩)
  exact am_goX 2 (show (∃ ty, (some .int) = some ty ∧ narrow ty (.int ((Int32.ofInt 0))) = .int ((Int32.ofInt 0))) ∧ h.2.2.2.2 = 175 ∧ _ from ⟨⟨.int, rfl, rfl⟩, ex_175 x.1, hQ⟩)
theorem k_195 {y : Int32} {w : Nat} {W : Int64} (hw : w < 21) (hy : y = nI w) (hW : rw_w w = W) (l : rk h0 z τ N s h) (hQ : Q (some (.int (pz_b (sp_w τ s.1 W)))) h) : am_call am_cod 1 195 [.ref 154, .int y] h Q := by
  have hP := k_P l
  refine pz_call (n := 195) (nL := 2) (rt := (some .boolean)) (rows := am_r195) (d := 0) (by decide +kernel) (by decide +kernel) rfl (by funext pc; rfl) (ex_175 hP) (by exact Nat.le_of_ble_eq_true rfl) ?_
  refine am_goX 2 (show am_sh h 154 = some (11, 0) ∧ pz_S 2 (some .boolean) am_r195 0 Q 4 [(0, .ref 154), (1, .int y)] [.int (h.1 154 8)] h from ⟨ex_154 (k_P l), ?_⟩)
  rw [k_f l]
  refine am_goX 1 (show (¬ 0 = 0 → pz_S 2 (some .boolean) am_r195 0 Q 43 [(0, .ref 154), (1, .int y)] [] h) ∧ (¬ ¬ 0 = 0 → pz_S 2 (some .boolean) am_r195 0 Q 7 [(0, .ref 154), (1, .int y)] [] h) from ⟨fun hz => absurd hz (by decide), fun _ => ?_⟩)
  refine am_goX 2 (show am_sh h 154 = some (11, 0) ∧ pz_S 2 (some .boolean) am_r195 0 Q 11 [(0, .ref 154), (1, .int y)] [am_rf (h.2.2.1 154 4)] h from ⟨ex_154 (k_P l), ?_⟩)
  rw [ex_r154_4 (h := h) (k_P l)]
  refine am_goX 3 (show am_sh h 154 = some (11, 0) ∧ ∃ jj nn : Nat, am_sh h 156 = some (13, nn) ∧ jj < nn ∧ (h.1 154 7) = nI jj ∧ pz_S 2 (some .boolean) am_r195 0 Q 16 [(0, .ref 154), (1, .int y)] [.int (h.1 156 jj)] h from ⟨ex_154 (k_P l), s.1, 1002, ex_156 (k_P l), (by have := k_N l; first | omega | (dsimp only at this; omega) | (dsimp only at this ⊢; omega)), k_a l, ?_⟩)
  rw [k_k l]
  refine am_goX 1 (show pz_S 2 (some .boolean) am_r195 0 Q 17 [(0, .ref 154), (1, .int y)] [.int (Int32.ofInt 1), .int (τ s.1).1] h from ?_)
  cases e1 : sp_k τ s.1 1 with
  | true =>
    refine am_goX 1 (show (¬ (τ s.1).1 = (Int32.ofInt 1) → pz_S 2 (some .boolean) am_r195 0 Q 43 [(0, .ref 154), (1, .int y)] [] h) ∧ (¬ ¬ (τ s.1).1 = (Int32.ofInt 1) → pz_S 2 (some .boolean) am_r195 0 Q 20 [(0, .ref 154), (1, .int y)] [] h) from ⟨fun hz => absurd hz (fun w => w (sp_kt e1)), fun _ => ?_⟩)
    refine am_goX 2 (show am_sh h 154 = some (11, 0) ∧ pz_S 2 (some .boolean) am_r195 0 Q 24 [(0, .ref 154), (1, .int y)] [am_rf (h.2.2.1 154 6)] h from ⟨ex_154 (k_P l), ?_⟩)
    rw [ex_r154_6 (h := h) (k_P l)]
    refine am_goX 3 (show am_sh h 154 = some (11, 0) ∧ ∃ jj nn : Nat, am_sh h 158 = some (14, nn) ∧ jj < nn ∧ (h.1 154 7) = nI jj ∧ pz_S 2 (some .boolean) am_r195 0 Q 29 [(0, .ref 154), (1, .int y)] [.long (h.2.1 158 jj)] h from ⟨ex_154 (k_P l), s.1, 1002, ex_158 (k_P l), (by have := k_N l; first | omega | (dsimp only at this; omega) | (dsimp only at this ⊢; omega)), k_a l, ?_⟩)
    rw [k_v l (sp_kn (by decide) e1)]
    refine am_goX 2 (show am_sh h 154 = some (11, 0) ∧ pz_S 2 (some .boolean) am_r195 0 Q 33 [(0, .ref 154), (1, .int y)] [am_rf (h.2.2.1 154 9), .long (τ s.1).2.1] h from ⟨ex_154 (k_P l), ?_⟩)
    rw [ex_r154_9 (h := h) (k_P l)]
    refine am_goX 2 (show ∃ jj nn : Nat, am_sh h 159 = some (14, nn) ∧ jj < nn ∧ y = nI jj ∧ pz_S 2 (some .boolean) am_r195 0 Q 35 [(0, .ref 154), (1, .int y)] [.long (h.2.1 159 jj), .long (τ s.1).2.1] h from ⟨w, 21, ex_159 (k_P l), hw, hy, ?_⟩)
    rw [k_w l hw, hW]
    refine am_goX 2 (show (¬ (lg_cmp ((τ s.1).2.1) (W)) = 0 → pz_S 2 (some .boolean) am_r195 0 Q 43 [(0, .ref 154), (1, .int y)] [] h) ∧ (¬ ¬ (lg_cmp ((τ s.1).2.1) (W)) = 0 → pz_S 2 (some .boolean) am_r195 0 Q 39 [(0, .ref 154), (1, .int y)] [] h) from ⟨fun hc => ?_, fun hc => ?_⟩)
    ·
      have e9 : decide ((τ s.1).2.1 = W) = false := decide_eq_false (fun e => hc ((pz_cmp _ _).mpr e))
      refine am_goX 1 (show pz_S 2 (some .boolean) am_r195 0 Q 44 [(0, .ref 154), (1, .int y)] [.int (Int32.ofInt 0)] h from ?_)
      rw [sp_w_e e1, e9] at hQ
      exact am_goX 1 (show (∃ ty, (some .boolean) = some ty ∧ narrow ty (.int ((Int32.ofInt 0))) = .int ((Int32.ofInt 0))) ∧ h.2.2.2.2 = 175 ∧ _ from ⟨⟨.boolean, rfl, rfl⟩, ex_175 (k_P l), hQ⟩)
    ·
      have e9 : decide ((τ s.1).2.1 = W) = true := decide_eq_true ((pz_cmp _ _).mp (Decidable.not_not.mp hc))
      refine am_goX 2 (show pz_S 2 (some .boolean) am_r195 0 Q 44 [(0, .ref 154), (1, .int y)] [.int (Int32.ofInt 1)] h from ?_)
      rw [sp_w_e e1, e9] at hQ
      exact am_goX 1 (show (∃ ty, (some .boolean) = some ty ∧ narrow ty (.int ((Int32.ofInt 1))) = .int ((Int32.ofInt 1))) ∧ h.2.2.2.2 = 175 ∧ _ from ⟨⟨.boolean, rfl, rfl⟩, ex_175 (k_P l), hQ⟩)
  | false =>
    refine am_goX 1 (show (¬ (τ s.1).1 = (Int32.ofInt 1) → pz_S 2 (some .boolean) am_r195 0 Q 43 [(0, .ref 154), (1, .int y)] [] h) ∧ (¬ ¬ (τ s.1).1 = (Int32.ofInt 1) → pz_S 2 (some .boolean) am_r195 0 Q 20 [(0, .ref 154), (1, .int y)] [] h) from ⟨fun _ => ?_, fun hz => absurd (of_decide_eq_false e1) hz⟩)
    refine am_goX 1 (show pz_S 2 (some .boolean) am_r195 0 Q 44 [(0, .ref 154), (1, .int y)] [.int (Int32.ofInt 0)] h from ?_)
    rw [sp_w_n e1] at hQ
    exact am_goX 1 (show (∃ ty, (some .boolean) = some ty ∧ narrow ty (.int ((Int32.ofInt 0))) = .int ((Int32.ofInt 0))) ∧ h.2.2.2.2 = 175 ∧ _ from ⟨⟨.boolean, rfl, rfl⟩, ex_175 (k_P l), hQ⟩)
theorem k_215 {y : Int32} (l : rk h0 z τ N s h) (hQ : Q (some (.int (pz_b (sp_s τ s.1 y)))) h) : am_call am_cod 1 215 [.ref 154, .int y] h Q := by
  have hP := k_P l
  refine pz_call (n := 215) (nL := 2) (rt := (some .boolean)) (rows := am_r215) (d := 0) (by decide +kernel) (by decide +kernel) rfl (by funext pc; rfl) (ex_175 hP) (by exact Nat.le_of_ble_eq_true rfl) ?_
  refine am_goX 2 (show am_sh h 154 = some (11, 0) ∧ pz_S 2 (some .boolean) am_r215 0 Q 4 [(0, .ref 154), (1, .int y)] [.int (h.1 154 8)] h from ⟨ex_154 (k_P l), ?_⟩)
  rw [k_f l]
  refine am_goX 1 (show (¬ 0 = 0 → pz_S 2 (some .boolean) am_r215 0 Q 39 [(0, .ref 154), (1, .int y)] [] h) ∧ (¬ ¬ 0 = 0 → pz_S 2 (some .boolean) am_r215 0 Q 7 [(0, .ref 154), (1, .int y)] [] h) from ⟨fun hz => absurd hz (by decide), fun _ => ?_⟩)
  refine am_goX 2 (show am_sh h 154 = some (11, 0) ∧ pz_S 2 (some .boolean) am_r215 0 Q 11 [(0, .ref 154), (1, .int y)] [am_rf (h.2.2.1 154 4)] h from ⟨ex_154 (k_P l), ?_⟩)
  rw [ex_r154_4 (h := h) (k_P l)]
  refine am_goX 3 (show am_sh h 154 = some (11, 0) ∧ ∃ jj nn : Nat, am_sh h 156 = some (13, nn) ∧ jj < nn ∧ (h.1 154 7) = nI jj ∧ pz_S 2 (some .boolean) am_r215 0 Q 16 [(0, .ref 154), (1, .int y)] [.int (h.1 156 jj)] h from ⟨ex_154 (k_P l), s.1, 1002, ex_156 (k_P l), (by have := k_N l; first | omega | (dsimp only at this; omega) | (dsimp only at this ⊢; omega)), k_a l, ?_⟩)
  rw [k_k l]
  refine am_goX 1 (show pz_S 2 (some .boolean) am_r215 0 Q 17 [(0, .ref 154), (1, .int y)] [.int (Int32.ofInt 3), .int (τ s.1).1] h from ?_)
  cases e2 : sp_k τ s.1 3 with
  | true =>
    refine am_goX 1 (show (¬ (τ s.1).1 = (Int32.ofInt 3) → pz_S 2 (some .boolean) am_r215 0 Q 39 [(0, .ref 154), (1, .int y)] [] h) ∧ (¬ ¬ (τ s.1).1 = (Int32.ofInt 3) → pz_S 2 (some .boolean) am_r215 0 Q 20 [(0, .ref 154), (1, .int y)] [] h) from ⟨fun hz => absurd hz (fun w => w (sp_kt e2)), fun _ => ?_⟩)
    refine am_goX 2 (show am_sh h 154 = some (11, 0) ∧ pz_S 2 (some .boolean) am_r215 0 Q 24 [(0, .ref 154), (1, .int y)] [am_rf (h.2.2.1 154 6)] h from ⟨ex_154 (k_P l), ?_⟩)
    rw [ex_r154_6 (h := h) (k_P l)]
    refine am_goX 3 (show am_sh h 154 = some (11, 0) ∧ ∃ jj nn : Nat, am_sh h 158 = some (14, nn) ∧ jj < nn ∧ (h.1 154 7) = nI jj ∧ pz_S 2 (some .boolean) am_r215 0 Q 29 [(0, .ref 154), (1, .int y)] [.long (h.2.1 158 jj)] h from ⟨ex_154 (k_P l), s.1, 1002, ex_158 (k_P l), (by have := k_N l; first | omega | (dsimp only at this; omega) | (dsimp only at this ⊢; omega)), k_a l, ?_⟩)
    rw [k_v l (sp_kn (by decide) e2)]
    refine am_goX 4 (show (¬ (lg_cmp ((τ s.1).2.1) ((y).toInt64)) = 0 → pz_S 2 (some .boolean) am_r215 0 Q 39 [(0, .ref 154), (1, .int y)] [] h) ∧ (¬ ¬ (lg_cmp ((τ s.1).2.1) ((y).toInt64)) = 0 → pz_S 2 (some .boolean) am_r215 0 Q 35 [(0, .ref 154), (1, .int y)] [] h) from ⟨fun hc => ?_, fun hc => ?_⟩)
    ·
      have e9 : decide ((τ s.1).2.1 = y.toInt64) = false := decide_eq_false (fun e => hc ((pz_cmp _ _).mpr e))
      refine am_goX 1 (show pz_S 2 (some .boolean) am_r215 0 Q 40 [(0, .ref 154), (1, .int y)] [.int (Int32.ofInt 0)] h from ?_)
      rw [sp_s_e e2, e9] at hQ
      exact am_goX 1 (show (∃ ty, (some .boolean) = some ty ∧ narrow ty (.int ((Int32.ofInt 0))) = .int ((Int32.ofInt 0))) ∧ h.2.2.2.2 = 175 ∧ _ from ⟨⟨.boolean, rfl, rfl⟩, ex_175 (k_P l), hQ⟩)
    ·
      have e9 : decide ((τ s.1).2.1 = y.toInt64) = true := decide_eq_true ((pz_cmp _ _).mp (Decidable.not_not.mp hc))
      refine am_goX 2 (show pz_S 2 (some .boolean) am_r215 0 Q 40 [(0, .ref 154), (1, .int y)] [.int (Int32.ofInt 1)] h from ?_)
      rw [sp_s_e e2, e9] at hQ
      exact am_goX 1 (show (∃ ty, (some .boolean) = some ty ∧ narrow ty (.int ((Int32.ofInt 1))) = .int ((Int32.ofInt 1))) ∧ h.2.2.2.2 = 175 ∧ _ from ⟨⟨.boolean, rfl, rfl⟩, ex_175 (k_P l), hQ⟩)
  | false =>
    refine am_goX 1 (show (¬ (τ s.1).1 = (Int32.ofInt 3) → pz_S 2 (some .boolean) am_r215 0 Q 39 [(0, .ref 154), (1, .int y)] [] h) ∧ (¬ ¬ (τ s.1).1 = (Int32.ofInt 3) → pz_S 2 (some .boolean) am_r215 0 Q 20 [(0, .ref 154), (1, .int y)] [] h) from ⟨fun _ => ?_, fun hz => absurd (of_decide_eq_false e2) hz⟩)
    refine am_goX 1 (show pz_S 2 (some .boolean) am_r215 0 Q 40 [(0, .ref 154), (1, .int y)] [.int (Int32.ofInt 0)] h from ?_)
    rw [sp_s_n e2] at hQ
    exact am_goX 1 (show (∃ ty, (some .boolean) = some ty ∧ narrow ty (.int ((Int32.ofInt 0))) = .int ((Int32.ofInt 0))) ∧ h.2.2.2.2 = 175 ∧ _ from ⟨⟨.boolean, rfl, rfl⟩, ex_175 (k_P l), hQ⟩)
theorem k_197 {k : Int32} (l : rk h0 z τ N s h) (hQ : Q none (am_wI h 154 8 (sp_ft τ s.1 k))) : am_call am_cod 1 197 [.ref 154, .int k] h Q := by
  have hP := k_P l
  refine pz_call (n := 197) (nL := 2) (rt := none) (rows := am_r197) (d := 0) (by decide +kernel) (by decide +kernel) rfl (by funext pc; rfl) (ex_175 hP) (by exact Nat.le_of_ble_eq_true rfl) ?_
  refine am_goX 2 (show am_sh h 154 = some (11, 0) ∧ pz_S 2 none am_r197 0 Q 4 [(0, .ref 154), (1, .int k)] [.int (h.1 154 8)] h from ⟨ex_154 (k_P l), ?_⟩)
  rw [k_f l]
  refine am_goX 1 (show (¬ 0 = 0 → pz_S 2 none am_r197 0 Q 25 [(0, .ref 154), (1, .int k)] [] h) ∧ (¬ ¬ 0 = 0 → pz_S 2 none am_r197 0 Q 7 [(0, .ref 154), (1, .int k)] [] h) from ⟨fun hz => absurd hz (by decide), fun _ => ?_⟩)
  refine am_goX 5 (show am_sh h 154 = some (11, 0) ∧ pz_S 2 none am_r197 0 Q 15 [(0, .ref 154), (1, .int k)] [am_rf (h.2.2.1 154 5), .int (Int8.ofInt 16).toInt32, .int k, .ref 154] h from ⟨ex_154 (k_P l), ?_⟩)
  rw [ex_r154_5 (h := h) (k_P l)]
  refine am_goX 3 (show am_sh h 154 = some (11, 0) ∧ ∃ jj nn : Nat, am_sh h 157 = some (13, nn) ∧ jj < nn ∧ (h.1 154 7) = nI jj ∧ pz_S 2 none am_r197 0 Q 20 [(0, .ref 154), (1, .int k)] [.int (h.1 157 jj), .int (Int8.ofInt 16).toInt32, .int k, .ref 154] h from ⟨ex_154 (k_P l), s.1, 1002, ex_157 (k_P l), (by have := k_N l; first | omega | (dsimp only at this; omega) | (dsimp only at this ⊢; omega)), k_a l, ?_⟩)
  rw [k_p l]
  refine am_goX 3 (show am_sh h 154 = some (11, 0) ∧ narrow (am_fty 11 8) (.int ((k + ((Int8.ofInt 16).toInt32 * (nI (τ s.1).2.2))))) = .int ((k + ((Int8.ofInt 16).toInt32 * (nI (τ s.1).2.2)))) ∧ fits (am_fty 11 8) (.int ((k + ((Int8.ofInt 16).toInt32 * (nI (τ s.1).2.2))))) = true ∧ pz_S 2 none am_r197 0 Q 25 [(0, .ref 154), (1, .int k)] [] (am_wI h 154 8 ((k + ((Int8.ofInt 16).toInt32 * (nI (τ s.1).2.2))))) from ⟨ex_154 (k_P l), rfl, rfl, ?_⟩)
  exact am_goX 1 (show (none : Option FieldType) = none ∧ (am_wI h 154 8 (sp_ft τ s.1 k)).2.2.2.2 = 175 ∧ _ from ⟨rfl, ex_175 hP, hQ⟩)
theorem k_218 {y : Int32} (l : rk h0 z τ N s h) (hF : ∀ F h1, sp_tS τ y s = .inl F → rkx h0 F (s.2.2.2.2.2.1 + z) h1 → Q none h1) (hS : ∀ h1, sp_tS τ y s = .inr (s.1 + 1, s.2) → rk h0 z τ N (s.1 + 1, s.2) h1 → Q none h1) : am_call am_cod 2 218 [.ref 154, .int y] h Q := by
  have hP := k_P l
  refine pz_call (n := 218) (nL := 2) (rt := none) (rows := am_r218) (d := 1) (by decide +kernel) (by decide +kernel) rfl (by funext pc; rfl) (ex_175 hP) (by exact Nat.le_of_ble_eq_true rfl) ?_
  refine am_goX 3 (show am_rc h 154 11 ∧ 0 ≤ 8 ∧ h.2.2.2.2 + am_al 215 ≤ 175 ∧ am_call am_cod 1 215 [.ref 154, .int y] h (fun vv h' => pz_S 2 none am_r218 1 Q 5 [(0, .ref 154), (1, .int y)] (vv.toList ++ []) h') from ⟨Or.inl ⟨by decide, ex_154 (k_P l)⟩, by decide, ex_lim (k_P l) rfl, am_call.up (k_215 l ?_) (by omega)⟩)
  cases e11 : sp_s τ s.1 y with
  | true =>
    refine am_goX 1 (show ((pz_b (true)) = 0 → pz_S 2 none am_r218 1 Q 21 [(0, .ref 154), (1, .int y)] [] h) ∧ (¬ ((pz_b (true)) = 0) → pz_S 2 none am_r218 1 Q 8 [(0, .ref 154), (1, .int y)] [] h) from ⟨fun hz => absurd hz (by decide), fun _ => ?_⟩)
    refine am_goX 6 (show (Value.ref 154).category = 1 ∧ am_sh h 154 = some (11, 0) ∧ am_sh h 154 = some (11, 0) ∧ narrow (am_fty 11 7) (.int (((h.1 154 7) + (Int32.ofInt 1)))) = .int (((h.1 154 7) + (Int32.ofInt 1))) ∧ fits (am_fty 11 7) (.int (((h.1 154 7) + (Int32.ofInt 1)))) = true ∧ pz_S 2 none am_r218 1 Q 18 [(0, .ref 154), (1, .int y)] [] (am_wI h 154 7 (((h.1 154 7) + (Int32.ofInt 1)))) from ⟨rfl, ex_154 (k_P l), ex_154 (k_P l), rfl, rfl, ?_⟩)
    rw [k_a l, xw_i1]
    have l12 : rk h0 z τ N (s.1 + 1, s.2) (am_wI h 154 7 (nI (s.1 + 1))) := rk_nx (a := s.1) (C := s.2) l (sp_sn e11)
    exact am_goX 2 (show (none : Option FieldType) = none ∧ (am_wI h 154 7 (nI (s.1 + 1))).2.2.2.2 = 175 ∧ _ from ⟨rfl, ex_175 (k_P l12), hS _ (by simp only [sp_tS, sp_b, sp_f, cond_true, cond_false, e11]) l12⟩)
  | false =>
    refine am_goX 1 (show ((pz_b (false)) = 0 → pz_S 2 none am_r218 1 Q 21 [(0, .ref 154), (1, .int y)] [] h) ∧ (¬ ((pz_b (false)) = 0) → pz_S 2 none am_r218 1 Q 8 [(0, .ref 154), (1, .int y)] [] h) from ⟨fun _ => ?_, fun hz => absurd (by decide) hz⟩)
    refine am_goX 3 (show am_rc h 154 11 ∧ 0 ≤ 8 ∧ h.2.2.2.2 + am_al 197 ≤ 175 ∧ am_call am_cod 1 197 [.ref 154, .int (Int32.ofInt 1)] h (fun vv h' => pz_S 2 none am_r218 1 Q 26 [(0, .ref 154), (1, .int y)] (vv.toList ++ []) h') from ⟨Or.inl ⟨by decide, ex_154 (k_P l)⟩, by decide, ex_lim (k_P l) rfl, am_call.up (k_197 l ?_) (by omega)⟩)
    have x13 : rkx h0 (sp_ft τ s.1 (Int32.ofInt 1)) (s.2.2.2.2.2.1 + z) (am_wI h 154 8 (sp_ft τ s.1 (Int32.ofInt 1))) := rk_x (s := s) l (by decide)
    exact am_goX 1 (show (none : Option FieldType) = none ∧ (am_wI h 154 8 (sp_ft τ s.1 (Int32.ofInt 1))).2.2.2.2 = 175 ∧ _ from ⟨rfl, ex_175 x13.1, hF (sp_ft τ s.1 (Int32.ofInt 1)) _ (by simp only [sp_tS, sp_b, sp_f, cond_true, cond_false, e11]) x13⟩)
theorem k_205 {lo hi : Int32} (l : rk h0 z τ N s h) (hF : ∀ F h1, sp_tN τ lo hi s = .inl F → rkx h0 F (s.2.2.2.2.2.1 + z) h1 → Q (some (.int (Int32.ofInt 0))) h1) (hS : ∀ h1, sp_tN τ lo hi s = .inr s → rk h0 z τ N (s.1 + 1, s.2) h1 → Q (some (.int (sp_v τ s.1))) h1) : am_call am_cod 2 205 [.ref 154, .int lo, .int hi] h Q := by
  have hP := k_P l
  refine pz_call (n := 205) (nL := 3) (rt := (some .int)) (rows := am_r205) (d := 1) (by decide +kernel) (by decide +kernel) rfl (by funext pc; rfl) (ex_175 hP) (by exact Nat.le_of_ble_eq_true rfl) ?_
  refine am_goX 2 (show am_sh h 154 = some (11, 0) ∧ pz_S 3 (some .int) am_r205 1 Q 4 [(0, .ref 154), (1, .int lo), (2, .int hi)] [.int (h.1 154 8)] h from ⟨ex_154 (k_P l), ?_⟩)
  rw [k_f l]
  refine am_goX 1 (show (¬ 0 = 0 → pz_S 3 (some .int) am_r205 1 Q 28 [(0, .ref 154), (1, .int lo), (2, .int hi)] [] h) ∧ (¬ ¬ 0 = 0 → pz_S 3 (some .int) am_r205 1 Q 7 [(0, .ref 154), (1, .int lo), (2, .int hi)] [] h) from ⟨fun hz => absurd hz (by decide), fun _ => ?_⟩)
  refine am_goX 2 (show am_sh h 154 = some (11, 0) ∧ pz_S 3 (some .int) am_r205 1 Q 11 [(0, .ref 154), (1, .int lo), (2, .int hi)] [am_rf (h.2.2.1 154 4)] h from ⟨ex_154 (k_P l), ?_⟩)
  rw [ex_r154_4 (h := h) (k_P l)]
  refine am_goX 3 (show am_sh h 154 = some (11, 0) ∧ ∃ jj nn : Nat, am_sh h 156 = some (13, nn) ∧ jj < nn ∧ (h.1 154 7) = nI jj ∧ pz_S 3 (some .int) am_r205 1 Q 16 [(0, .ref 154), (1, .int lo), (2, .int hi)] [.int (h.1 156 jj)] h from ⟨ex_154 (k_P l), s.1, 1002, ex_156 (k_P l), (by have := k_N l; first | omega | (dsimp only at this; omega) | (dsimp only at this ⊢; omega)), k_a l, ?_⟩)
  rw [k_k l]
  refine am_goX 1 (show pz_S 3 (some .int) am_r205 1 Q 17 [(0, .ref 154), (1, .int lo), (2, .int hi)] [.int (Int32.ofInt 2), .int (τ s.1).1] h from ?_)
  cases e20 : sp_k τ s.1 2 with
  | true =>
    refine am_goX 1 (show ((τ s.1).1 = (Int32.ofInt 2) → pz_S 3 (some .int) am_r205 1 Q 28 [(0, .ref 154), (1, .int lo), (2, .int hi)] [] h) ∧ (¬ ((τ s.1).1 = (Int32.ofInt 2)) → pz_S 3 (some .int) am_r205 1 Q 20 [(0, .ref 154), (1, .int lo), (2, .int hi)] [] h) from ⟨fun _ => ?_, fun hz => absurd (sp_kt e20) hz⟩)
    refine am_goX 2 (show am_sh h 154 = some (11, 0) ∧ pz_S 3 (some .int) am_r205 1 Q 32 [(0, .ref 154), (1, .int lo), (2, .int hi)] [.int (h.1 154 8)] h from ⟨ex_154 (k_P l), ?_⟩)
    rw [k_f l]
    refine am_goX 1 (show (¬ 0 = 0 → pz_S 3 (some .int) am_r205 1 Q 70 [(0, .ref 154), (1, .int lo), (2, .int hi)] [] h) ∧ (¬ ¬ 0 = 0 → pz_S 3 (some .int) am_r205 1 Q 35 [(0, .ref 154), (1, .int lo), (2, .int hi)] [] h) from ⟨fun hz => absurd hz (by decide), fun _ => ?_⟩)
    refine am_goX 2 (show am_sh h 154 = some (11, 0) ∧ pz_S 3 (some .int) am_r205 1 Q 39 [(0, .ref 154), (1, .int lo), (2, .int hi)] [am_rf (h.2.2.1 154 6)] h from ⟨ex_154 (k_P l), ?_⟩)
    rw [ex_r154_6 (h := h) (k_P l)]
    refine am_goX 3 (show am_sh h 154 = some (11, 0) ∧ ∃ jj nn : Nat, am_sh h 158 = some (14, nn) ∧ jj < nn ∧ (h.1 154 7) = nI jj ∧ pz_S 3 (some .int) am_r205 1 Q 44 [(0, .ref 154), (1, .int lo), (2, .int hi)] [.long (h.2.1 158 jj)] h from ⟨ex_154 (k_P l), s.1, 1002, ex_158 (k_P l), (by have := k_N l; first | omega | (dsimp only at this; omega) | (dsimp only at this ⊢; omega)), k_a l, ?_⟩)
    rw [k_v l (sp_kn (by decide) e20)]
    refine am_goX 4 (show ((lg_cmp ((τ s.1).2.1) ((lo).toInt64)) < 0 → pz_S 3 (some .int) am_r205 1 Q 65 [(0, .ref 154), (1, .int lo), (2, .int hi)] [] h) ∧ (¬ ((lg_cmp ((τ s.1).2.1) ((lo).toInt64)) < 0) → pz_S 3 (some .int) am_r205 1 Q 50 [(0, .ref 154), (1, .int lo), (2, .int hi)] [] h) from ⟨fun hc => ?_, fun hc => ?_⟩)
    ·
      have e71 : decide (lo ≤ sp_v τ s.1) = false := by
        obtain ⟨D, hD, ev⟩ := l.1.1.2.2.2.2.2.2 s.1 (sp_kt e20)
        exact r_cmpl hD ev hc
      clear hc
      refine am_goX 3 (show am_rc h 154 11 ∧ 0 ≤ 8 ∧ h.2.2.2.2 + am_al 197 ≤ 175 ∧ am_call am_cod 1 197 [.ref 154, .int (Int32.ofInt 4)] h (fun vv h' => pz_S 3 (some .int) am_r205 1 Q 70 [(0, .ref 154), (1, .int lo), (2, .int hi)] (vv.toList ++ []) h') from ⟨Or.inl ⟨by decide, ex_154 (k_P l)⟩, by decide, ex_lim (k_P l) rfl, am_call.up (k_197 l ?_) (by omega)⟩)
      have x21 : rkx h0 (sp_ft τ s.1 (Int32.ofInt 4)) (s.2.2.2.2.2.1 + z) (am_wI h 154 8 (sp_ft τ s.1 (Int32.ofInt 4))) := rk_x (s := s) l (by decide)
      refine am_goX 2 (show am_sh (am_wI h 154 8 (sp_ft τ s.1 (Int32.ofInt 4))) 154 = some (11, 0) ∧ pz_S 3 (some .int) am_r205 1 Q 74 [(0, .ref 154), (1, .int lo), (2, .int hi)] [.int ((am_wI h 154 8 (sp_ft τ s.1 (Int32.ofInt 4))).1 154 8)] (am_wI h 154 8 (sp_ft τ s.1 (Int32.ofInt 4))) from ⟨ex_154 x21.1, ?_⟩)
      rw [x21.2.1.1]
      refine am_goX 1 (show ((sp_ft τ s.1 (Int32.ofInt 4)) ≤ 0 → pz_S 3 (some .int) am_r205 1 Q 79 [(0, .ref 154), (1, .int lo), (2, .int hi)] [] (am_wI h 154 8 (sp_ft τ s.1 (Int32.ofInt 4)))) ∧ (¬ ((sp_ft τ s.1 (Int32.ofInt 4)) ≤ 0) → pz_S 3 (some .int) am_r205 1 Q 77 [(0, .ref 154), (1, .int lo), (2, .int hi)] [] (am_wI h 154 8 (sp_ft τ s.1 (Int32.ofInt 4)))) from ⟨fun hz => absurd hz (rkx_le x21), fun _ => ?_⟩)
      exact am_goX 2 (show (∃ ty, (some .int) = some ty ∧ narrow ty (.int ((Int32.ofInt 0))) = .int ((Int32.ofInt 0))) ∧ (am_wI h 154 8 (sp_ft τ s.1 (Int32.ofInt 4))).2.2.2.2 = 175 ∧ _ from ⟨⟨.int, rfl, rfl⟩, ex_175 x21.1, hF (sp_ft τ s.1 (Int32.ofInt 4)) _ (by simp only [sp_tN, sp_b, sp_f, cond_true, cond_false, e20, e71, sp_in, Bool.and_true, Bool.and_false, Bool.true_and, Bool.false_and]) x21⟩)
    ·
      have e71 : decide (lo ≤ sp_v τ s.1) = true := by
        obtain ⟨D, hD, ev⟩ := l.1.1.2.2.2.2.2.2 s.1 (sp_kt e20)
        exact r_cmpl hD ev hc
      clear hc
      refine am_goX 2 (show am_sh h 154 = some (11, 0) ∧ pz_S 3 (some .int) am_r205 1 Q 54 [(0, .ref 154), (1, .int lo), (2, .int hi)] [am_rf (h.2.2.1 154 6)] h from ⟨ex_154 (k_P l), ?_⟩)
      rw [ex_r154_6 (h := h) (k_P l)]
      refine am_goX 3 (show am_sh h 154 = some (11, 0) ∧ ∃ jj nn : Nat, am_sh h 158 = some (14, nn) ∧ jj < nn ∧ (h.1 154 7) = nI jj ∧ pz_S 3 (some .int) am_r205 1 Q 59 [(0, .ref 154), (1, .int lo), (2, .int hi)] [.long (h.2.1 158 jj)] h from ⟨ex_154 (k_P l), s.1, 1002, ex_158 (k_P l), (by have := k_N l; first | omega | (dsimp only at this; omega) | (dsimp only at this ⊢; omega)), k_a l, ?_⟩)
      rw [k_v l (sp_kn (by decide) e20)]
      refine am_goX 4 (show ((lg_cmp ((τ s.1).2.1) ((hi).toInt64)) ≤ 0 → pz_S 3 (some .int) am_r205 1 Q 70 [(0, .ref 154), (1, .int lo), (2, .int hi)] [] h) ∧ (¬ ((lg_cmp ((τ s.1).2.1) ((hi).toInt64)) ≤ 0) → pz_S 3 (some .int) am_r205 1 Q 65 [(0, .ref 154), (1, .int lo), (2, .int hi)] [] h) from ⟨fun hc => ?_, fun hc => ?_⟩)
      ·
        have e72 : decide (sp_v τ s.1 ≤ hi) = true := by
          obtain ⟨D, hD, ev⟩ := l.1.1.2.2.2.2.2.2 s.1 (sp_kt e20)
          exact r_cmph hD ev hc
        clear hc
        refine am_goX 2 (show am_sh h 154 = some (11, 0) ∧ pz_S 3 (some .int) am_r205 1 Q 74 [(0, .ref 154), (1, .int lo), (2, .int hi)] [.int (h.1 154 8)] h from ⟨ex_154 (k_P l), ?_⟩)
        rw [k_f l]
        refine am_goX 1 (show (0 ≤ 0 → pz_S 3 (some .int) am_r205 1 Q 79 [(0, .ref 154), (1, .int lo), (2, .int hi)] [] h) ∧ (¬ (0 ≤ 0) → pz_S 3 (some .int) am_r205 1 Q 77 [(0, .ref 154), (1, .int lo), (2, .int hi)] [] h) from ⟨fun _ => ?_, fun hz => absurd (by decide) hz⟩)
        refine am_goX 6 (show (Value.ref 154).category = 1 ∧ am_sh h 154 = some (11, 0) ∧ am_sh h 154 = some (11, 0) ∧ narrow (am_fty 11 7) (.int (((h.1 154 7) + (Int32.ofInt 1)))) = .int (((h.1 154 7) + (Int32.ofInt 1))) ∧ fits (am_fty 11 7) (.int (((h.1 154 7) + (Int32.ofInt 1)))) = true ∧ pz_S 3 (some .int) am_r205 1 Q 89 [(0, .ref 154), (1, .int lo), (2, .int hi)] [] (am_wI h 154 7 (((h.1 154 7) + (Int32.ofInt 1)))) from ⟨rfl, ex_154 (k_P l), ex_154 (k_P l), rfl, rfl, ?_⟩)
        rw [k_a l, xw_i1]
        have l22 : rk h0 z τ N (s.1 + 1, s.2) (am_wI h 154 7 (nI (s.1 + 1))) := rk_nx (a := s.1) (C := s.2) l (sp_kn (by decide) e20)
        refine am_goX 2 (show am_sh (am_wI h 154 7 (nI (s.1 + 1))) 154 = some (11, 0) ∧ pz_S 3 (some .int) am_r205 1 Q 93 [(0, .ref 154), (1, .int lo), (2, .int hi)] [am_rf ((am_wI h 154 7 (nI (s.1 + 1))).2.2.1 154 6)] (am_wI h 154 7 (nI (s.1 + 1))) from ⟨ex_154 (k_P l22), ?_⟩)
        rw [ex_r154_6 (h := am_wI h 154 7 (nI (s.1 + 1))) (k_P l22)]
        refine am_goX 5 (show am_sh (am_wI h 154 7 (nI (s.1 + 1))) 154 = some (11, 0) ∧ ∃ jj nn : Nat, am_sh (am_wI h 154 7 (nI (s.1 + 1))) 158 = some (14, nn) ∧ jj < nn ∧ (((am_wI h 154 7 (nI (s.1 + 1))).1 154 7) - (Int32.ofInt 1)) = nI jj ∧ pz_S 3 (some .int) am_r205 1 Q 100 [(0, .ref 154), (1, .int lo), (2, .int hi)] [.long ((am_wI h 154 7 (nI (s.1 + 1))).2.1 158 jj)] (am_wI h 154 7 (nI (s.1 + 1))) from ⟨ex_154 (k_P l22), s.1, 1002, ex_158 (k_P l22), (by have := k_N l; omega), (by rw [k_a l22]; exact tk_sub (Nat.le_add_left 1 s.1)), ?_⟩)
        have e98 : h.2.1 158 s.1 = (τ s.1).2.1 := k_v l (sp_kn (by decide) e20)
        rw [show (am_wI h 154 7 (nI (s.1 + 1))).2.1 158 s.1 = (τ s.1).2.1 from e98]
        refine am_goX 1 (show pz_S 3 (some .int) am_r205 1 Q 101 [(0, .ref 154), (1, .int lo), (2, .int hi)] [.int ((τ s.1).2.1).toInt32] (am_wI h 154 7 (nI (s.1 + 1))) from ?_)
        have e99 : sp_tN τ lo hi s = .inr s := by simp only [sp_tN, sp_b, sp_f, cond_true, cond_false, e20, e71, e72, sp_in, Bool.and_true, Bool.and_false, Bool.true_and, Bool.false_and]
        exact am_goX 1 (show (∃ ty, (some .int) = some ty ∧ narrow ty (.int ((sp_v τ s.1))) = .int ((sp_v τ s.1))) ∧ (am_wI h 154 7 (nI (s.1 + 1))).2.2.2.2 = 175 ∧ _ from ⟨⟨.int, rfl, rfl⟩, ex_175 (k_P l22), hS _ e99 l22⟩)
      ·
        have e72 : decide (sp_v τ s.1 ≤ hi) = false := by
          obtain ⟨D, hD, ev⟩ := l.1.1.2.2.2.2.2.2 s.1 (sp_kt e20)
          exact r_cmph hD ev hc
        clear hc
        refine am_goX 3 (show am_rc h 154 11 ∧ 0 ≤ 8 ∧ h.2.2.2.2 + am_al 197 ≤ 175 ∧ am_call am_cod 1 197 [.ref 154, .int (Int32.ofInt 4)] h (fun vv h' => pz_S 3 (some .int) am_r205 1 Q 70 [(0, .ref 154), (1, .int lo), (2, .int hi)] (vv.toList ++ []) h') from ⟨Or.inl ⟨by decide, ex_154 (k_P l)⟩, by decide, ex_lim (k_P l) rfl, am_call.up (k_197 l ?_) (by omega)⟩)
        have x23 : rkx h0 (sp_ft τ s.1 (Int32.ofInt 4)) (s.2.2.2.2.2.1 + z) (am_wI h 154 8 (sp_ft τ s.1 (Int32.ofInt 4))) := rk_x (s := s) l (by decide)
        refine am_goX 2 (show am_sh (am_wI h 154 8 (sp_ft τ s.1 (Int32.ofInt 4))) 154 = some (11, 0) ∧ pz_S 3 (some .int) am_r205 1 Q 74 [(0, .ref 154), (1, .int lo), (2, .int hi)] [.int ((am_wI h 154 8 (sp_ft τ s.1 (Int32.ofInt 4))).1 154 8)] (am_wI h 154 8 (sp_ft τ s.1 (Int32.ofInt 4))) from ⟨ex_154 x23.1, ?_⟩)
        rw [x23.2.1.1]
        refine am_goX 1 (show ((sp_ft τ s.1 (Int32.ofInt 4)) ≤ 0 → pz_S 3 (some .int) am_r205 1 Q 79 [(0, .ref 154), (1, .int lo), (2, .int hi)] [] (am_wI h 154 8 (sp_ft τ s.1 (Int32.ofInt 4)))) ∧ (¬ ((sp_ft τ s.1 (Int32.ofInt 4)) ≤ 0) → pz_S 3 (some .int) am_r205 1 Q 77 [(0, .ref 154), (1, .int lo), (2, .int hi)] [] (am_wI h 154 8 (sp_ft τ s.1 (Int32.ofInt 4)))) from ⟨fun hz => absurd hz (rkx_le x23), fun _ => ?_⟩)
        exact am_goX 2 (show (∃ ty, (some .int) = some ty ∧ narrow ty (.int ((Int32.ofInt 0))) = .int ((Int32.ofInt 0))) ∧ (am_wI h 154 8 (sp_ft τ s.1 (Int32.ofInt 4))).2.2.2.2 = 175 ∧ _ from ⟨⟨.int, rfl, rfl⟩, ex_175 x23.1, hF (sp_ft τ s.1 (Int32.ofInt 4)) _ (by simp only [sp_tN, sp_b, sp_f, cond_true, cond_false, e20, e71, e72, sp_in, Bool.and_true, Bool.and_false, Bool.true_and, Bool.false_and]) x23⟩)
  | false =>
    refine am_goX 1 (show ((τ s.1).1 = (Int32.ofInt 2) → pz_S 3 (some .int) am_r205 1 Q 28 [(0, .ref 154), (1, .int lo), (2, .int hi)] [] h) ∧ (¬ ((τ s.1).1 = (Int32.ofInt 2)) → pz_S 3 (some .int) am_r205 1 Q 20 [(0, .ref 154), (1, .int lo), (2, .int hi)] [] h) from ⟨fun hz => absurd hz (of_decide_eq_false e20), fun _ => ?_⟩)
    refine am_goX 3 (show am_rc h 154 11 ∧ 0 ≤ 8 ∧ h.2.2.2.2 + am_al 197 ≤ 175 ∧ am_call am_cod 1 197 [.ref 154, .int (Int32.ofInt 1)] h (fun vv h' => pz_S 3 (some .int) am_r205 1 Q 25 [(0, .ref 154), (1, .int lo), (2, .int hi)] (vv.toList ++ []) h') from ⟨Or.inl ⟨by decide, ex_154 (k_P l)⟩, by decide, ex_lim (k_P l) rfl, am_call.up (k_197 l ?_) (by omega)⟩)
    have x24 : rkx h0 (sp_ft τ s.1 (Int32.ofInt 1)) (s.2.2.2.2.2.1 + z) (am_wI h 154 8 (sp_ft τ s.1 (Int32.ofInt 1))) := rk_x (s := s) l (by decide)
    refine am_goX 3 (show am_sh (am_wI h 154 8 (sp_ft τ s.1 (Int32.ofInt 1))) 154 = some (11, 0) ∧ pz_S 3 (some .int) am_r205 1 Q 74 [(0, .ref 154), (1, .int lo), (2, .int hi)] [.int ((am_wI h 154 8 (sp_ft τ s.1 (Int32.ofInt 1))).1 154 8)] (am_wI h 154 8 (sp_ft τ s.1 (Int32.ofInt 1))) from ⟨ex_154 x24.1, ?_⟩)
    rw [x24.2.1.1]
    refine am_goX 1 (show ((sp_ft τ s.1 (Int32.ofInt 1)) ≤ 0 → pz_S 3 (some .int) am_r205 1 Q 79 [(0, .ref 154), (1, .int lo), (2, .int hi)] [] (am_wI h 154 8 (sp_ft τ s.1 (Int32.ofInt 1)))) ∧ (¬ ((sp_ft τ s.1 (Int32.ofInt 1)) ≤ 0) → pz_S 3 (some .int) am_r205 1 Q 77 [(0, .ref 154), (1, .int lo), (2, .int hi)] [] (am_wI h 154 8 (sp_ft τ s.1 (Int32.ofInt 1)))) from ⟨fun hz => absurd hz (rkx_le x24), fun _ => ?_⟩)
    exact am_goX 2 (show (∃ ty, (some .int) = some ty ∧ narrow ty (.int ((Int32.ofInt 0))) = .int ((Int32.ofInt 0))) ∧ (am_wI h 154 8 (sp_ft τ s.1 (Int32.ofInt 1))).2.2.2.2 = 175 ∧ _ from ⟨⟨.int, rfl, rfl⟩, ex_175 x24.1, hF (sp_ft τ s.1 (Int32.ofInt 1)) _ (by simp only [sp_tN, sp_b, sp_f, cond_true, cond_false, e20, sp_in, Bool.and_true, Bool.and_false, Bool.true_and, Bool.false_and]) x24⟩)
theorem k_199l {y : Int32} {f M : Nat} (hM : f + M ≤ 21) (hy : y = nI f) (l : rk h0 z τ N s h) (hQ : Q (some (.int (wq τ s.1 f M))) h) : ∀ (m i : Nat), i + m = M → pz_S 5 (some .int) am_r199 1 Q 5 [(4, .int (nI i)), (3, .int (wq τ s.1 f i)), (0, .ref 154), (1, .int y), (2, .int (nI M))] [] h := by
  have hP := k_P l
  intro m
  induction m with
  | zero =>
    intro i hi
    have ei : i = M := by omega
    subst ei
    refine am_goX 3 (show ((nI i) ≤ (nI i) → pz_S 5 (some .int) am_r199 1 Q 35 [(4, .int (nI i)), (3, .int (wq τ s.1 f i)), (0, .ref 154), (1, .int y), (2, .int (nI i))] [] h) ∧ (¬ ((nI i) ≤ (nI i)) → pz_S 5 (some .int) am_r199 1 Q 11 [(4, .int (nI i)), (3, .int (wq τ s.1 f i)), (0, .ref 154), (1, .int y), (2, .int (nI i))] [] h) from ⟨fun _ => ?_, fun hz => absurd (nI_le (Nat.le_refl i) (by omega)) hz⟩)
    exact am_goX 2 (show (∃ ty, (some .int) = some ty ∧ narrow ty (.int ((wq τ s.1 f i))) = .int ((wq τ s.1 f i))) ∧ h.2.2.2.2 = 175 ∧ _ from ⟨⟨.int, rfl, rfl⟩, ex_175 (k_P l), hQ⟩)
  | succ m ih =>
    intro i hi
    refine am_goX 3 (show ((nI M) ≤ (nI i) → pz_S 5 (some .int) am_r199 1 Q 35 [(4, .int (nI i)), (3, .int (wq τ s.1 f i)), (0, .ref 154), (1, .int y), (2, .int (nI M))] [] h) ∧ (¬ ((nI M) ≤ (nI i)) → pz_S 5 (some .int) am_r199 1 Q 11 [(4, .int (nI i)), (3, .int (wq τ s.1 f i)), (0, .ref 154), (1, .int y), (2, .int (nI M))] [] h) from ⟨fun hz => absurd hz (by rw [nI_leI (by omega) (by omega)]; omega), fun _ => ?_⟩)
    refine am_goX 5 (show am_rc h 154 11 ∧ 0 ≤ 8 ∧ h.2.2.2.2 + am_al 195 ≤ 175 ∧ am_call am_cod 1 195 [.ref 154, .int (y + (nI i))] h (fun vv h' => pz_S 5 (some .int) am_r199 1 Q 19 [(4, .int (nI i)), (3, .int (wq τ s.1 f i)), (0, .ref 154), (1, .int y), (2, .int (nI M))] (vv.toList ++ []) h') from ⟨Or.inl ⟨by decide, ex_154 (k_P l)⟩, by decide, ex_lim (k_P l) rfl, k_195 (w := f + i) (by omega) (by rw [hy]; exact nI_add f i) rfl l ?_⟩)
    cases e : sp_w τ s.1 (rw_w (f + i)) with
    | true =>
      refine am_goX 1 (show ((pz_b (true)) = 0 → pz_S 5 (some .int) am_r199 1 Q 27 [(4, .int (nI i)), (3, .int (wq τ s.1 f i)), (0, .ref 154), (1, .int y), (2, .int (nI M))] [] h) ∧ (¬ ((pz_b (true)) = 0) → pz_S 5 (some .int) am_r199 1 Q 22 [(4, .int (nI i)), (3, .int (wq τ s.1 f i)), (0, .ref 154), (1, .int y), (2, .int (nI M))] [] h) from ⟨fun hz => absurd hz (by decide), fun _ => ?_⟩)
      refine am_goX 5 (show 3 < 5 ∧ 4 < 5 ∧ pz_S 5 (some .int) am_r199 1 Q 5 [(4, .int ((nI i) + Int32.ofInt 1)), (3, .int (nI i)), (0, .ref 154), (1, .int y), (2, .int (nI M))] [] h from ⟨by decide, by decide, ?_⟩)
      have hx : wq τ s.1 f (i + 1) = nI i := by
        show (bif sp_w τ s.1 (rw_w (f + i)) then nI i else wq τ s.1 f i) = _
        rw [e]
        rfl
      have hg := ih (i + 1) (by omega)
      rw [hx] at hg
      rw [xw_i1]
      exact hg
    | false =>
      refine am_goX 1 (show ((pz_b (false)) = 0 → pz_S 5 (some .int) am_r199 1 Q 27 [(4, .int (nI i)), (3, .int (wq τ s.1 f i)), (0, .ref 154), (1, .int y), (2, .int (nI M))] [] h) ∧ (¬ ((pz_b (false)) = 0) → pz_S 5 (some .int) am_r199 1 Q 22 [(4, .int (nI i)), (3, .int (wq τ s.1 f i)), (0, .ref 154), (1, .int y), (2, .int (nI M))] [] h) from ⟨fun _ => ?_, fun hz => absurd (by decide) hz⟩)
      refine am_goX 4 (show 3 < 5 ∧ 4 < 5 ∧ pz_S 5 (some .int) am_r199 1 Q 5 [(4, .int ((nI i) + Int32.ofInt 1)), (3, .int (wq τ s.1 f i)), (0, .ref 154), (1, .int y), (2, .int (nI M))] [] h from ⟨by decide, by decide, ?_⟩)
      have hx : wq τ s.1 f (i + 1) = wq τ s.1 f i := by
        show (bif sp_w τ s.1 (rw_w (f + i)) then nI i else wq τ s.1 f i) = _
        rw [e]
        rfl
      have hg := ih (i + 1) (by omega)
      rw [hx] at hg
      rw [xw_i1]
      exact hg
theorem k_199 {y x : Int32} {f M : Nat} (hM : f + M ≤ 21) (hy : y = nI f) (hx : x = nI M) (l : rk h0 z τ N s h) (hQ : Q (some (.int (wq τ s.1 f M))) h) : am_call am_cod 2 199 [.ref 154, .int y, .int x] h Q := by
  have hP := k_P l
  rw [hx]
  refine pz_call (n := 199) (nL := 5) (rt := (some .int)) (rows := am_r199) (d := 1) (by decide +kernel) (by decide +kernel) rfl (by funext pc; rfl) (ex_175 hP) (by exact Nat.le_of_ble_eq_true rfl) ?_
  refine am_goX 4 (show 3 < 5 ∧ 4 < 5 ∧ pz_S 5 (some .int) am_r199 1 Q 5 [(4, .int (Int32.ofInt 0)), (3, .int (Int32.ofInt (-1))), (0, .ref 154), (1, .int y), (2, .int (nI M))] [] h from ⟨by decide, by decide, ?_⟩)
  exact k_199l hM hy l hQ M 0 (Nat.zero_add _)
theorem k_198 (l : rk h0 z τ N s h) (hQ : Q (some (.int (pz_b (sp_n τ s.1)))) h) : am_call am_cod 3 198 [.ref 154] h Q := by
  have hP := k_P l
  refine pz_call (n := 198) (nL := 1) (rt := (some .boolean)) (rows := am_r198) (d := 2) (by decide +kernel) (by decide +kernel) rfl (by funext pc; rfl) (ex_175 hP) (by exact Nat.le_of_ble_eq_true rfl) ?_
  refine am_goX 2 (show am_sh h 154 = some (11, 0) ∧ pz_S 1 (some .boolean) am_r198 2 Q 4 [(0, .ref 154)] [.int (h.1 154 8)] h from ⟨ex_154 (k_P l), ?_⟩)
  rw [k_f l]
  refine am_goX 1 (show (¬ 0 = 0 → pz_S 1 (some .boolean) am_r198 2 Q 34 [(0, .ref 154)] [] h) ∧ (¬ ¬ 0 = 0 → pz_S 1 (some .boolean) am_r198 2 Q 7 [(0, .ref 154)] [] h) from ⟨fun hz => absurd hz (by decide), fun _ => ?_⟩)
  refine am_goX 2 (show am_sh h 154 = some (11, 0) ∧ pz_S 1 (some .boolean) am_r198 2 Q 11 [(0, .ref 154)] [am_rf (h.2.2.1 154 4)] h from ⟨ex_154 (k_P l), ?_⟩)
  rw [ex_r154_4 (h := h) (k_P l)]
  refine am_goX 3 (show am_sh h 154 = some (11, 0) ∧ ∃ jj nn : Nat, am_sh h 156 = some (13, nn) ∧ jj < nn ∧ (h.1 154 7) = nI jj ∧ pz_S 1 (some .boolean) am_r198 2 Q 16 [(0, .ref 154)] [.int (h.1 156 jj)] h from ⟨ex_154 (k_P l), s.1, 1002, ex_156 (k_P l), (by have := k_N l; first | omega | (dsimp only at this; omega) | (dsimp only at this ⊢; omega)), k_a l, ?_⟩)
  rw [k_k l]
  refine am_goX 1 (show pz_S 1 (some .boolean) am_r198 2 Q 17 [(0, .ref 154)] [.int (Int32.ofInt 1), .int (τ s.1).1] h from ?_)
  cases e41 : sp_k τ s.1 1 with
  | true =>
    refine am_goX 1 (show (¬ (τ s.1).1 = (Int32.ofInt 1) → pz_S 1 (some .boolean) am_r198 2 Q 34 [(0, .ref 154)] [] h) ∧ (¬ ¬ (τ s.1).1 = (Int32.ofInt 1) → pz_S 1 (some .boolean) am_r198 2 Q 20 [(0, .ref 154)] [] h) from ⟨fun hz => absurd hz (fun w => w (sp_kt e41)), fun _ => ?_⟩)
    refine am_goX 4 (show am_rc h 154 11 ∧ 0 ≤ 8 ∧ h.2.2.2.2 + am_al 199 ≤ 175 ∧ am_call am_cod 2 199 [.ref 154, .int (Int32.ofInt 0), .int (Int8.ofInt 17).toInt32] h (fun vv h' => pz_S 1 (some .boolean) am_r198 2 Q 27 [(0, .ref 154)] (vv.toList ++ []) h') from ⟨Or.inl ⟨by decide, ex_154 (k_P l)⟩, by decide, ex_lim (k_P l) rfl, k_199 (f := 0) (M := 17) (by decide) (by decide) (by decide) l ?_⟩)
    refine am_goX 1 (show (0 ≤ (wq τ s.1 0 17) → pz_S 1 (some .boolean) am_r198 2 Q 34 [(0, .ref 154)] [] h) ∧ (¬ (0 ≤ (wq τ s.1 0 17)) → pz_S 1 (some .boolean) am_r198 2 Q 30 [(0, .ref 154)] [] h) from ⟨fun hc => ?_, fun hc => ?_⟩)
    ·
      have e9 := (wq_n e41).trans (decide_eq_false (fun w => w hc))
      rw [e9] at hQ
      exact am_goX 2 (show (∃ ty, (some .boolean) = some ty ∧ narrow ty (.int ((Int32.ofInt 0))) = .int ((Int32.ofInt 0))) ∧ h.2.2.2.2 = 175 ∧ _ from ⟨⟨.boolean, rfl, rfl⟩, ex_175 (k_P l), hQ⟩)
    ·
      have e9 := (wq_n e41).trans (decide_eq_true hc)
      rw [e9] at hQ
      exact am_goX 3 (show (∃ ty, (some .boolean) = some ty ∧ narrow ty (.int ((Int32.ofInt 1))) = .int ((Int32.ofInt 1))) ∧ h.2.2.2.2 = 175 ∧ _ from ⟨⟨.boolean, rfl, rfl⟩, ex_175 (k_P l), hQ⟩)
  | false =>
    refine am_goX 1 (show (¬ (τ s.1).1 = (Int32.ofInt 1) → pz_S 1 (some .boolean) am_r198 2 Q 34 [(0, .ref 154)] [] h) ∧ (¬ ¬ (τ s.1).1 = (Int32.ofInt 1) → pz_S 1 (some .boolean) am_r198 2 Q 20 [(0, .ref 154)] [] h) from ⟨fun _ => ?_, fun hz => absurd (of_decide_eq_false e41) hz⟩)
    refine am_goX 1 (show pz_S 1 (some .boolean) am_r198 2 Q 35 [(0, .ref 154)] [.int (Int32.ofInt 0)] h from ?_)
    have e9 : sp_n τ s.1 = false := by unfold sp_n; rw [e41]; rfl
    rw [e9] at hQ
    exact am_goX 1 (show (∃ ty, (some .boolean) = some ty ∧ narrow ty (.int ((Int32.ofInt 0))) = .int ((Int32.ofInt 0))) ∧ h.2.2.2.2 = 175 ∧ _ from ⟨⟨.boolean, rfl, rfl⟩, ex_175 (k_P l), hQ⟩)
theorem kN_hit {C : sp_C} {h : am_H} {v : Int64} {k : Nat} (l : rkN C h) (hk : k < C.1.1 + C.2.1.1) (e : h.2.1 163 k = v) : h.1 165 k = sp_na C v := by
  obtain ⟨l1, l2, l3, l4, l5⟩ := l
  unfold sp_na
  cases hp : sp_pf C v with
  | some p =>
    have w := sp_fd_lt hp
    obtain ⟨q, q1, q2, q3⟩ := l3 p (by omega)
    have := l5 q k q1 hk (by rw [q3, e]; exact w.2.2)
    rw [← this]
    exact q2
  | none =>
    cases he : sp_ef C v with
    | some i =>
      have w := sp_fd_lt he
      obtain ⟨q, q1, q2, q3⟩ := l4 i (by omega)
      have := l5 q k q1 hk (by rw [q3, e]; exact w.2.2)
      rw [← this]
      exact q2
    | none =>
      rcases l2 k hk with ⟨i, i1, i2, i3⟩ | ⟨i, i1, i2, i3⟩
      · exact absurd (i3.symm.trans e) (sp_fd_none hp i (Nat.zero_le _) (by omega))
      · exact absurd (i3.symm.trans e) (sp_fd_none he i (Nat.zero_le _) (by omega))
theorem kN_none {C : sp_C} {h : am_H} {v : Int64} (l : rkN C h) (hk : ∀ k, k < C.1.1 + C.2.1.1 → ¬ h.2.1 163 k = v) : sp_na C v = Int32.ofInt (-1) := by
  obtain ⟨l1, l2, l3, l4, l5⟩ := l
  unfold sp_na
  cases hp : sp_pf C v with
  | some p =>
    have w := sp_fd_lt hp
    obtain ⟨q, q1, q2, q3⟩ := l3 p (by omega)
    exact absurd (q3.trans w.2.2) (hk q q1)
  | none =>
    cases he : sp_ef C v with
    | some i =>
      have w := sp_fd_lt he
      obtain ⟨q, q1, q2, q3⟩ := l4 i (by omega)
      exact absurd (q3.trans w.2.2) (hk q q1)
    | none => rfl
theorem ex_163 {h : am_H} (hP : ex_P h) : am_sh h 163 = some (14, 11) := (ex_so hP (by decide +kernel)).2
theorem ex_w163 {h : am_H} (hP : ex_P h) : am_so h 163 = some (14, 11) := (ex_so hP (by decide +kernel)).1
theorem ex_165 {h : am_H} (hP : ex_P h) : am_sh h 165 = some (13, 11) := (ex_so hP (by decide +kernel)).2
theorem ex_w165 {h : am_H} (hP : ex_P h) : am_so h 165 = some (13, 11) := (ex_so hP (by decide +kernel)).1
theorem ex_r154_14 {h : am_H} (hP : ex_P h) : h.2.2.1 154 14 = some 163 := hP.2 154 14 163 (by decide +kernel)
theorem ex_r154_16 {h : am_H} (hP : ex_P h) : h.2.2.1 154 16 = some 165 := hP.2 154 16 165 (by decide +kernel)
theorem k_200l (hn : ¬ (τ s.1).1 = 0) (l : rk h0 z τ N s h) (hQ : Q (some (.int (sp_na s.2 (τ s.1).2.1))) h) : ∀ (m k : Nat), k + m = (s.2.1.1 + s.2.2.1.1) → (∀ j, j < k → ¬ h.2.1 163 j = (τ s.1).2.1) → pz_S 3 (some .int) am_r200 0 Q 2 [(2, .int (nI k)), (0, .ref 154), (1, .int (Int32.ofInt 0))] [] h := by
  have hP := k_P l
  have eN : h.1 154 18 = nI (s.2.1.1 + s.2.2.1.1) := l.2.1.2.2.1
  have hM : (s.2.1.1 + s.2.2.1.1) ≤ 11 := by
    have h1 : s.2.1.1 ≤ 6 := l.2.1.1
    have h2 : s.2.2.1.1 ≤ 5 := l.2.1.2.1
    omega
  have gl := k_N l
  intro m
  induction m with
  | zero =>
    intro k hk hj
    have ek : k = (s.2.1.1 + s.2.2.1.1) := by omega
    refine am_goX 3 (show ((Int32.ofInt 0) = 0 → pz_S 3 (some .int) am_r200 0 Q 14 [(2, .int (nI k)), (0, .ref 154), (1, .int (Int32.ofInt 0))] [.int (nI k)] h) ∧ (¬ ((Int32.ofInt 0) = 0) → pz_S 3 (some .int) am_r200 0 Q 7 [(2, .int (nI k)), (0, .ref 154), (1, .int (Int32.ofInt 0))] [.int (nI k)] h) from ⟨fun _ => ?_, fun hz => absurd (by decide) hz⟩)
    refine am_goX 2 (show am_sh h 154 = some (11, 0) ∧ pz_S 3 (some .int) am_r200 0 Q 18 [(2, .int (nI k)), (0, .ref 154), (1, .int (Int32.ofInt 0))] [.int (h.1 154 18), .int (nI k)] h from ⟨ex_154 (k_P l), ?_⟩)
    rw [eN]
    refine am_goX 1 (show ((nI (s.2.1.1 + s.2.2.1.1)) ≤ (nI k) → pz_S 3 (some .int) am_r200 0 Q 79 [(2, .int (nI k)), (0, .ref 154), (1, .int (Int32.ofInt 0))] [] h) ∧ (¬ ((nI (s.2.1.1 + s.2.2.1.1)) ≤ (nI k)) → pz_S 3 (some .int) am_r200 0 Q 21 [(2, .int (nI k)), (0, .ref 154), (1, .int (Int32.ofInt 0))] [] h) from ⟨fun _ => ?_, fun hz => absurd (nI_le (by omega) (by omega)) hz⟩)
    rw [kN_none l.2.1.2.2 (fun j hj1 => hj j (by omega))] at hQ
    exact am_goX 2 (show (∃ ty, (some .int) = some ty ∧ narrow ty (.int ((Int32.ofInt (-1)))) = .int ((Int32.ofInt (-1)))) ∧ h.2.2.2.2 = 175 ∧ _ from ⟨⟨.int, rfl, rfl⟩, ex_175 (k_P l), hQ⟩)
  | succ m ih =>
    intro k hk hj
    refine am_goX 3 (show ((Int32.ofInt 0) = 0 → pz_S 3 (some .int) am_r200 0 Q 14 [(2, .int (nI k)), (0, .ref 154), (1, .int (Int32.ofInt 0))] [.int (nI k)] h) ∧ (¬ ((Int32.ofInt 0) = 0) → pz_S 3 (some .int) am_r200 0 Q 7 [(2, .int (nI k)), (0, .ref 154), (1, .int (Int32.ofInt 0))] [.int (nI k)] h) from ⟨fun _ => ?_, fun hz => absurd (by decide) hz⟩)
    refine am_goX 2 (show am_sh h 154 = some (11, 0) ∧ pz_S 3 (some .int) am_r200 0 Q 18 [(2, .int (nI k)), (0, .ref 154), (1, .int (Int32.ofInt 0))] [.int (h.1 154 18), .int (nI k)] h from ⟨ex_154 (k_P l), ?_⟩)
    rw [eN]
    refine am_goX 1 (show ((nI (s.2.1.1 + s.2.2.1.1)) ≤ (nI k) → pz_S 3 (some .int) am_r200 0 Q 79 [(2, .int (nI k)), (0, .ref 154), (1, .int (Int32.ofInt 0))] [] h) ∧ (¬ ((nI (s.2.1.1 + s.2.2.1.1)) ≤ (nI k)) → pz_S 3 (some .int) am_r200 0 Q 21 [(2, .int (nI k)), (0, .ref 154), (1, .int (Int32.ofInt 0))] [] h) from ⟨fun hz => absurd hz (by rw [nI_leI (by omega) (by omega)]; omega), fun _ => ?_⟩)
    refine am_goX 2 (show ((Int32.ofInt 0) = 0 → pz_S 3 (some .int) am_r200 0 Q 34 [(2, .int (nI k)), (0, .ref 154), (1, .int (Int32.ofInt 0))] [] h) ∧ (¬ ((Int32.ofInt 0) = 0) → pz_S 3 (some .int) am_r200 0 Q 25 [(2, .int (nI k)), (0, .ref 154), (1, .int (Int32.ofInt 0))] [] h) from ⟨fun _ => ?_, fun hz => absurd (by decide) hz⟩)
    refine am_goX 2 (show am_sh h 154 = some (11, 0) ∧ pz_S 3 (some .int) am_r200 0 Q 38 [(2, .int (nI k)), (0, .ref 154), (1, .int (Int32.ofInt 0))] [am_rf (h.2.2.1 154 14)] h from ⟨ex_154 (k_P l), ?_⟩)
    rw [ex_r154_14 (h := h) (k_P l)]
    refine am_goX 2 (show ∃ jj nn : Nat, am_sh h 163 = some (14, nn) ∧ jj < nn ∧ (nI k) = nI jj ∧ pz_S 3 (some .int) am_r200 0 Q 40 [(2, .int (nI k)), (0, .ref 154), (1, .int (Int32.ofInt 0))] [.long (h.2.1 163 jj)] h from ⟨k, 11, ex_163 (k_P l), (by omega), rfl, ?_⟩)
    refine am_goX 2 (show am_sh h 154 = some (11, 0) ∧ pz_S 3 (some .int) am_r200 0 Q 44 [(2, .int (nI k)), (0, .ref 154), (1, .int (Int32.ofInt 0))] [am_rf (h.2.2.1 154 6), .long (h.2.1 163 k)] h from ⟨ex_154 (k_P l), ?_⟩)
    rw [ex_r154_6 (h := h) (k_P l)]
    refine am_goX 3 (show am_sh h 154 = some (11, 0) ∧ ∃ jj nn : Nat, am_sh h 158 = some (14, nn) ∧ jj < nn ∧ (h.1 154 7) = nI jj ∧ pz_S 3 (some .int) am_r200 0 Q 49 [(2, .int (nI k)), (0, .ref 154), (1, .int (Int32.ofInt 0))] [.long (h.2.1 158 jj), .long (h.2.1 163 k)] h from ⟨ex_154 (k_P l), s.1, 1002, ex_158 (k_P l), (by omega), k_a l, ?_⟩)
    rw [k_v l hn]
    refine am_goX 2 (show (¬ (lg_cmp ((h.2.1 163 k)) ((τ s.1).2.1)) = 0 → pz_S 3 (some .int) am_r200 0 Q 73 [(2, .int (nI k)), (0, .ref 154), (1, .int (Int32.ofInt 0))] [] h) ∧ (¬ ¬ (lg_cmp ((h.2.1 163 k)) ((τ s.1).2.1)) = 0 → pz_S 3 (some .int) am_r200 0 Q 53 [(2, .int (nI k)), (0, .ref 154), (1, .int (Int32.ofInt 0))] [] h) from ⟨fun hc => ?_, fun hc => ?_⟩)
    ·
      refine am_goX 2 (show 2 < 3 ∧ pz_S 3 (some .int) am_r200 0 Q 2 [(2, .int ((nI k) + Int32.ofInt 1)), (0, .ref 154), (1, .int (Int32.ofInt 0))] [] h from ⟨by decide, ?_⟩)
      rw [xw_i1]
      refine ih (k + 1) (by omega) (fun j hj1 => ?_)
      by_cases ej : j = k
      · rw [ej]; exact fun e => hc ((pz_cmp _ _).mpr e)
      · exact hj j (by omega)
    ·
      have e := (pz_cmp _ _).mp (Decidable.not_not.mp hc)
      refine am_goX 2 (show ((Int32.ofInt 0) = 0 → pz_S 3 (some .int) am_r200 0 Q 66 [(2, .int (nI k)), (0, .ref 154), (1, .int (Int32.ofInt 0))] [] h) ∧ (¬ ((Int32.ofInt 0) = 0) → pz_S 3 (some .int) am_r200 0 Q 57 [(2, .int (nI k)), (0, .ref 154), (1, .int (Int32.ofInt 0))] [] h) from ⟨fun _ => ?_, fun hz => absurd (by decide) hz⟩)
      refine am_goX 2 (show am_sh h 154 = some (11, 0) ∧ pz_S 3 (some .int) am_r200 0 Q 70 [(2, .int (nI k)), (0, .ref 154), (1, .int (Int32.ofInt 0))] [am_rf (h.2.2.1 154 16)] h from ⟨ex_154 (k_P l), ?_⟩)
      rw [ex_r154_16 (h := h) (k_P l)]
      refine am_goX 2 (show ∃ jj nn : Nat, am_sh h 165 = some (13, nn) ∧ jj < nn ∧ (nI k) = nI jj ∧ pz_S 3 (some .int) am_r200 0 Q 72 [(2, .int (nI k)), (0, .ref 154), (1, .int (Int32.ofInt 0))] [.int (h.1 165 jj)] h from ⟨k, 11, ex_165 (k_P l), (by omega), rfl, ?_⟩)
      rw [kN_hit l.2.1.2.2 (show k < (s.2.1.1 + s.2.2.1.1) by omega) e]
      exact am_goX 1 (show (∃ ty, (some .int) = some ty ∧ narrow ty (.int ((sp_na s.2 (τ s.1).2.1))) = .int ((sp_na s.2 (τ s.1).2.1))) ∧ h.2.2.2.2 = 175 ∧ _ from ⟨⟨.int, rfl, rfl⟩, ex_175 (k_P l), hQ⟩)
theorem k_200 (hn : ¬ (τ s.1).1 = 0) (l : rk h0 z τ N s h) (hQ : Q (some (.int (sp_na s.2 (τ s.1).2.1))) h) : am_call am_cod 1 200 [.ref 154, .int (Int32.ofInt 0)] h Q := by
  have hP := k_P l
  refine pz_call (n := 200) (nL := 3) (rt := (some .int)) (rows := am_r200) (d := 0) (by decide +kernel) (by decide +kernel) rfl (by funext pc; rfl) (ex_175 hP) (by exact Nat.le_of_ble_eq_true rfl) ?_
  refine am_goX 2 (show 2 < 3 ∧ pz_S 3 (some .int) am_r200 0 Q 2 [(2, .int (Int32.ofInt 0)), (0, .ref 154), (1, .int (Int32.ofInt 0))] [] h from ⟨by decide, ?_⟩)
  exact k_200l hn l hQ (s.2.1.1 + s.2.2.1.1) 0 (Nat.zero_add _) (fun j hj => absurd hj (Nat.not_lt_zero j))
theorem k_206p (l : rk h0 z τ N s h) (hF : ∀ F h1, tq_p τ s = .inl F → rkx h0 F (s.2.2.2.2.2.1 + z) h1 → Q (some (.int (Int32.ofInt 0))) h1) (hS : ∀ p h1, sp_n τ s.1 = true → sp_pf s.2 (τ s.1).2.1 = some p → rk h0 z τ N (s.1 + 1, s.2) h1 → Q (some (.int (nI p))) h1) : am_call am_cod 4 206 [.ref 154, .int (Int32.ofInt 0), .int (Int32.ofInt 0), .int (Int32.ofInt 0)] h Q := by
  have hP := k_P l
  have hp6 : s.2.1.1 ≤ 6 := l.2.1.1
  have he5 : s.2.2.1.1 ≤ 5 := l.2.1.2.1
  refine pz_call (n := 206) (nL := 5) (rt := (some .int)) (rows := am_r206) (d := 3) (by decide +kernel) (by decide +kernel) rfl (by funext pc; rfl) (ex_175 hP) (by exact Nat.le_of_ble_eq_true rfl) ?_
  refine am_goX 2 (show am_sh h 154 = some (11, 0) ∧ pz_S 5 (some .int) am_r206 3 Q 4 [(0, .ref 154), (1, .int (Int32.ofInt 0)), (2, .int (Int32.ofInt 0)), (3, .int (Int32.ofInt 0))] [.int (h.1 154 8)] h from ⟨ex_154 (k_P l), ?_⟩)
  rw [k_f l]
  refine am_goX 1 (show (¬ 0 = 0 → pz_S 5 (some .int) am_r206 3 Q 19 [(0, .ref 154), (1, .int (Int32.ofInt 0)), (2, .int (Int32.ofInt 0)), (3, .int (Int32.ofInt 0))] [] h) ∧ (¬ ¬ 0 = 0 → pz_S 5 (some .int) am_r206 3 Q 7 [(0, .ref 154), (1, .int (Int32.ofInt 0)), (2, .int (Int32.ofInt 0)), (3, .int (Int32.ofInt 0))] [] h) from ⟨fun hz => absurd hz (by decide), fun _ => ?_⟩)
  refine am_goX 2 (show am_rc h 154 11 ∧ 0 ≤ 8 ∧ h.2.2.2.2 + am_al 198 ≤ 175 ∧ am_call am_cod 3 198 [.ref 154] h (fun vv h' => pz_S 5 (some .int) am_r206 3 Q 11 [(0, .ref 154), (1, .int (Int32.ofInt 0)), (2, .int (Int32.ofInt 0)), (3, .int (Int32.ofInt 0))] (vv.toList ++ []) h') from ⟨Or.inl ⟨by decide, ex_154 (k_P l)⟩, by decide, ex_lim (k_P l) rfl, am_call.up (k_198 l ?_) (by omega)⟩)
  cases e101 : sp_n τ s.1 with
  | true =>
    refine am_goX 1 (show (¬ (pz_b (true)) = 0 → pz_S 5 (some .int) am_r206 3 Q 19 [(0, .ref 154), (1, .int (Int32.ofInt 0)), (2, .int (Int32.ofInt 0)), (3, .int (Int32.ofInt 0))] [] h) ∧ (¬ ¬ (pz_b (true)) = 0 → pz_S 5 (some .int) am_r206 3 Q 14 [(0, .ref 154), (1, .int (Int32.ofInt 0)), (2, .int (Int32.ofInt 0)), (3, .int (Int32.ofInt 0))] [] h) from ⟨fun _ => ?_, fun hz => absurd (by decide) hz⟩)
    refine am_goX 2 (show am_sh h 154 = some (11, 0) ∧ pz_S 5 (some .int) am_r206 3 Q 23 [(0, .ref 154), (1, .int (Int32.ofInt 0)), (2, .int (Int32.ofInt 0)), (3, .int (Int32.ofInt 0))] [.int (h.1 154 8)] h from ⟨ex_154 (k_P l), ?_⟩)
    rw [k_f l]
    refine am_goX 1 (show (0 ≤ 0 → pz_S 5 (some .int) am_r206 3 Q 30 [(0, .ref 154), (1, .int (Int32.ofInt 0)), (2, .int (Int32.ofInt 0)), (3, .int (Int32.ofInt 0))] [] h) ∧ (¬ (0 ≤ 0) → pz_S 5 (some .int) am_r206 3 Q 26 [(0, .ref 154), (1, .int (Int32.ofInt 0)), (2, .int (Int32.ofInt 0)), (3, .int (Int32.ofInt 0))] [] h) from ⟨fun _ => ?_, fun hz => absurd (by decide) hz⟩)
    refine am_goX 3 (show am_rc h 154 11 ∧ 0 ≤ 8 ∧ h.2.2.2.2 + am_al 200 ≤ 175 ∧ am_call am_cod 3 200 [.ref 154, .int (Int32.ofInt 0)] h (fun vv h' => pz_S 5 (some .int) am_r206 3 Q 35 [(0, .ref 154), (1, .int (Int32.ofInt 0)), (2, .int (Int32.ofInt 0)), (3, .int (Int32.ofInt 0))] (vv.toList ++ []) h') from ⟨Or.inl ⟨by decide, ex_154 (k_P l)⟩, by decide, ex_lim (k_P l) rfl, am_call.up (k_200 (sp_nn e101) l ?_) (by omega)⟩)
    cases e1 : sp_pf s.2 (τ s.1).2.1 with
    | none =>
      have hw := na_p0 (v := (τ s.1).2.1) he5 e1
      refine am_goX 5 (show 4 < 5 ∧ am_sh h 154 = some (11, 0) ∧ pz_S 5 (some .int) am_r206 3 Q 43 [(4, .int ((sp_na s.2 (τ s.1).2.1) - (Int32.ofInt 0))), (0, .ref 154), (1, .int (Int32.ofInt 0)), (2, .int (Int32.ofInt 0)), (3, .int (Int32.ofInt 0))] [.int (h.1 154 8)] h from ⟨by decide, ex_154 (k_P l), ?_⟩)
      rw [k_f l]
      refine am_goX 1 (show (¬ 0 = 0 → pz_S 5 (some .int) am_r206 3 Q 64 [(4, .int ((sp_na s.2 (τ s.1).2.1) - (Int32.ofInt 0))), (0, .ref 154), (1, .int (Int32.ofInt 0)), (2, .int (Int32.ofInt 0)), (3, .int (Int32.ofInt 0))] [] h) ∧ (¬ ¬ 0 = 0 → pz_S 5 (some .int) am_r206 3 Q 46 [(4, .int ((sp_na s.2 (τ s.1).2.1) - (Int32.ofInt 0))), (0, .ref 154), (1, .int (Int32.ofInt 0)), (2, .int (Int32.ofInt 0)), (3, .int (Int32.ofInt 0))] [] h) from ⟨fun hz => absurd hz (by decide), fun _ => ?_⟩)
      refine am_goX 3 (show pz_S 5 (some .int) am_r206 3 Q 50 [(4, .int ((sp_na s.2 (τ s.1).2.1) - (Int32.ofInt 0))), (0, .ref 154), (1, .int (Int32.ofInt 0)), (2, .int (Int32.ofInt 0)), (3, .int (Int32.ofInt 0))] [.int (Int32.ofInt 5), .int (Int32.ofInt 0), .int ((sp_na s.2 (τ s.1).2.1) - (Int32.ofInt 0))] h from ?_)
      refine am_goX 1 (show 0 ≤ 8 ∧ h.2.2.2.2 + am_al 207 ≤ 175 ∧ am_call am_cod 3 207 [.int ((sp_na s.2 (τ s.1).2.1) - (Int32.ofInt 0)), .int (Int32.ofInt 0), .int (Int32.ofInt 5)] h (fun vv h' => pz_S 5 (some .int) am_r206 3 Q 53 [(4, .int ((sp_na s.2 (τ s.1).2.1) - (Int32.ofInt 0))), (0, .ref 154), (1, .int (Int32.ofInt 0)), (2, .int (Int32.ofInt 0)), (3, .int (Int32.ofInt 0))] (vv.toList ++ []) h') from ⟨by decide, ex_lim (k_P l) rfl, am_call.up (r_207 (k_P l) ?_) (by omega)⟩)
      rw [hw]
      refine am_goX 1 (show (¬ (pz_b (false)) = 0 → pz_S 5 (some .int) am_r206 3 Q 64 [(4, .int ((sp_na s.2 (τ s.1).2.1) - (Int32.ofInt 0))), (0, .ref 154), (1, .int (Int32.ofInt 0)), (2, .int (Int32.ofInt 0)), (3, .int (Int32.ofInt 0))] [] h) ∧ (¬ ¬ (pz_b (false)) = 0 → pz_S 5 (some .int) am_r206 3 Q 56 [(4, .int ((sp_na s.2 (τ s.1).2.1) - (Int32.ofInt 0))), (0, .ref 154), (1, .int (Int32.ofInt 0)), (2, .int (Int32.ofInt 0)), (3, .int (Int32.ofInt 0))] [] h) from ⟨fun hz => absurd hz (by decide), fun _ => ?_⟩)
      refine am_goX 3 (show am_rc h 154 11 ∧ 0 ≤ 8 ∧ h.2.2.2.2 + am_al 197 ≤ 175 ∧ am_call am_cod 3 197 [.ref 154, .int (Int32.ofInt 2)] h (fun vv h' => pz_S 5 (some .int) am_r206 3 Q 61 [(4, .int ((sp_na s.2 (τ s.1).2.1) - (Int32.ofInt 0))), (0, .ref 154), (1, .int (Int32.ofInt 0)), (2, .int (Int32.ofInt 0)), (3, .int (Int32.ofInt 0))] (vv.toList ++ []) h') from ⟨Or.inl ⟨by decide, ex_154 (k_P l)⟩, by decide, ex_lim (k_P l) rfl, am_call.up (k_197 l ?_) (by omega)⟩)
      have x102 : rkx h0 (sp_ft τ s.1 (Int32.ofInt 2)) (s.2.2.2.2.2.1 + z) (am_wI h 154 8 (sp_ft τ s.1 (Int32.ofInt 2))) := rk_x (s := s) l (by decide)
      refine am_goX 6 (show (Value.ref 154).category = 1 ∧ am_sh (am_wI h 154 8 (sp_ft τ s.1 (Int32.ofInt 2))) 154 = some (11, 0) ∧ am_sh (am_wI h 154 8 (sp_ft τ s.1 (Int32.ofInt 2))) 154 = some (11, 0) ∧ pz_S 5 (some .int) am_r206 3 Q 95 [(4, .int ((sp_na s.2 (τ s.1).2.1) - (Int32.ofInt 0))), (0, .ref 154), (1, .int (Int32.ofInt 0)), (2, .int (Int32.ofInt 0)), (3, .int (Int32.ofInt 0))] [.int ((am_wI h 154 8 (sp_ft τ s.1 (Int32.ofInt 2))).1 154 8), .int ((am_wI h 154 8 (sp_ft τ s.1 (Int32.ofInt 2))).1 154 7), .ref 154] (am_wI h 154 8 (sp_ft τ s.1 (Int32.ofInt 2))) from ⟨rfl, ex_154 x102.1, ex_154 x102.1, ?_⟩)
      rw [x102.2.1.1]
      refine am_goX 1 (show ((sp_ft τ s.1 (Int32.ofInt 2)) ≤ 0 → pz_S 5 (some .int) am_r206 3 Q 102 [(4, .int ((sp_na s.2 (τ s.1).2.1) - (Int32.ofInt 0))), (0, .ref 154), (1, .int (Int32.ofInt 0)), (2, .int (Int32.ofInt 0)), (3, .int (Int32.ofInt 0))] [.int ((am_wI h 154 8 (sp_ft τ s.1 (Int32.ofInt 2))).1 154 7), .ref 154] (am_wI h 154 8 (sp_ft τ s.1 (Int32.ofInt 2)))) ∧ (¬ ((sp_ft τ s.1 (Int32.ofInt 2)) ≤ 0) → pz_S 5 (some .int) am_r206 3 Q 98 [(4, .int ((sp_na s.2 (τ s.1).2.1) - (Int32.ofInt 0))), (0, .ref 154), (1, .int (Int32.ofInt 0)), (2, .int (Int32.ofInt 0)), (3, .int (Int32.ofInt 0))] [.int ((am_wI h 154 8 (sp_ft τ s.1 (Int32.ofInt 2))).1 154 7), .ref 154] (am_wI h 154 8 (sp_ft τ s.1 (Int32.ofInt 2)))) from ⟨fun hz => absurd hz (rkx_le x102), fun _ => ?_⟩)
      refine am_goX 4 (show am_sh (am_wI h 154 8 (sp_ft τ s.1 (Int32.ofInt 2))) 154 = some (11, 0) ∧ narrow (am_fty 11 7) (.int ((((am_wI h 154 8 (sp_ft τ s.1 (Int32.ofInt 2))).1 154 7) + (Int32.ofInt 0)))) = .int ((((am_wI h 154 8 (sp_ft τ s.1 (Int32.ofInt 2))).1 154 7) + (Int32.ofInt 0))) ∧ fits (am_fty 11 7) (.int ((((am_wI h 154 8 (sp_ft τ s.1 (Int32.ofInt 2))).1 154 7) + (Int32.ofInt 0)))) = true ∧ pz_S 5 (some .int) am_r206 3 Q 107 [(4, .int ((sp_na s.2 (τ s.1).2.1) - (Int32.ofInt 0))), (0, .ref 154), (1, .int (Int32.ofInt 0)), (2, .int (Int32.ofInt 0)), (3, .int (Int32.ofInt 0))] [] (am_wI (am_wI h 154 8 (sp_ft τ s.1 (Int32.ofInt 2))) 154 7 ((((am_wI h 154 8 (sp_ft τ s.1 (Int32.ofInt 2))).1 154 7) + (Int32.ofInt 0)))) from ⟨ex_154 x102.1, rfl, rfl, ?_⟩)
      have x103 : rkx h0 (sp_ft τ s.1 (Int32.ofInt 2)) (s.2.2.2.2.2.1 + z) (am_wI (am_wI h 154 8 (sp_ft τ s.1 (Int32.ofInt 2))) 154 7 ((((am_wI h 154 8 (sp_ft τ s.1 (Int32.ofInt 2))).1 154 7) + (Int32.ofInt 0)))) := rkx_at x102
      refine am_goX 2 (show am_sh (am_wI (am_wI h 154 8 (sp_ft τ s.1 (Int32.ofInt 2))) 154 7 ((((am_wI h 154 8 (sp_ft τ s.1 (Int32.ofInt 2))).1 154 7) + (Int32.ofInt 0)))) 154 = some (11, 0) ∧ pz_S 5 (some .int) am_r206 3 Q 111 [(4, .int ((sp_na s.2 (τ s.1).2.1) - (Int32.ofInt 0))), (0, .ref 154), (1, .int (Int32.ofInt 0)), (2, .int (Int32.ofInt 0)), (3, .int (Int32.ofInt 0))] [.int ((am_wI (am_wI h 154 8 (sp_ft τ s.1 (Int32.ofInt 2))) 154 7 ((((am_wI h 154 8 (sp_ft τ s.1 (Int32.ofInt 2))).1 154 7) + (Int32.ofInt 0)))).1 154 8)] (am_wI (am_wI h 154 8 (sp_ft τ s.1 (Int32.ofInt 2))) 154 7 ((((am_wI h 154 8 (sp_ft τ s.1 (Int32.ofInt 2))).1 154 7) + (Int32.ofInt 0)))) from ⟨ex_154 x103.1, ?_⟩)
      rw [x103.2.1.1]
      refine am_goX 1 (show ((sp_ft τ s.1 (Int32.ofInt 2)) ≤ 0 → pz_S 5 (some .int) am_r206 3 Q 118 [(4, .int ((sp_na s.2 (τ s.1).2.1) - (Int32.ofInt 0))), (0, .ref 154), (1, .int (Int32.ofInt 0)), (2, .int (Int32.ofInt 0)), (3, .int (Int32.ofInt 0))] [] (am_wI (am_wI h 154 8 (sp_ft τ s.1 (Int32.ofInt 2))) 154 7 ((((am_wI h 154 8 (sp_ft τ s.1 (Int32.ofInt 2))).1 154 7) + (Int32.ofInt 0))))) ∧ (¬ ((sp_ft τ s.1 (Int32.ofInt 2)) ≤ 0) → pz_S 5 (some .int) am_r206 3 Q 114 [(4, .int ((sp_na s.2 (τ s.1).2.1) - (Int32.ofInt 0))), (0, .ref 154), (1, .int (Int32.ofInt 0)), (2, .int (Int32.ofInt 0)), (3, .int (Int32.ofInt 0))] [] (am_wI (am_wI h 154 8 (sp_ft τ s.1 (Int32.ofInt 2))) 154 7 ((((am_wI h 154 8 (sp_ft τ s.1 (Int32.ofInt 2))).1 154 7) + (Int32.ofInt 0))))) from ⟨fun hz => absurd hz (rkx_le x103), fun _ => ?_⟩)
      exact am_goX 3 (show (∃ ty, (some .int) = some ty ∧ narrow ty (.int ((Int32.ofInt 0))) = .int ((Int32.ofInt 0))) ∧ (am_wI (am_wI h 154 8 (sp_ft τ s.1 (Int32.ofInt 2))) 154 7 ((((am_wI h 154 8 (sp_ft τ s.1 (Int32.ofInt 2))).1 154 7) + (Int32.ofInt 0)))).2.2.2.2 = 175 ∧ _ from ⟨⟨.int, rfl, rfl⟩, ex_175 x103.1, hF (sp_ft τ s.1 (Int32.ofInt 2)) _ (by simp only [tq_p, sp_b, sp_f, cond_true, cond_false, e101, e1]) x103⟩)
    | some p =>
      have hp := (sp_fd_lt e1).2.1
      rw [show sp_na s.2 (τ s.1).2.1 = nI p by unfold sp_na; rw [e1]]
      obtain ⟨hs, hw, hb⟩ := na_p1 (show p < 6 by omega)
      refine am_goX 5 (show 4 < 5 ∧ am_sh h 154 = some (11, 0) ∧ pz_S 5 (some .int) am_r206 3 Q 43 [(4, .int ((nI p) - (Int32.ofInt 0))), (0, .ref 154), (1, .int (Int32.ofInt 0)), (2, .int (Int32.ofInt 0)), (3, .int (Int32.ofInt 0))] [.int (h.1 154 8)] h from ⟨by decide, ex_154 (k_P l), ?_⟩)
      rw [k_f l]
      refine am_goX 1 (show (¬ 0 = 0 → pz_S 5 (some .int) am_r206 3 Q 64 [(4, .int ((nI p) - (Int32.ofInt 0))), (0, .ref 154), (1, .int (Int32.ofInt 0)), (2, .int (Int32.ofInt 0)), (3, .int (Int32.ofInt 0))] [] h) ∧ (¬ ¬ 0 = 0 → pz_S 5 (some .int) am_r206 3 Q 46 [(4, .int ((nI p) - (Int32.ofInt 0))), (0, .ref 154), (1, .int (Int32.ofInt 0)), (2, .int (Int32.ofInt 0)), (3, .int (Int32.ofInt 0))] [] h) from ⟨fun hz => absurd hz (by decide), fun _ => ?_⟩)
      refine am_goX 3 (show pz_S 5 (some .int) am_r206 3 Q 50 [(4, .int ((nI p) - (Int32.ofInt 0))), (0, .ref 154), (1, .int (Int32.ofInt 0)), (2, .int (Int32.ofInt 0)), (3, .int (Int32.ofInt 0))] [.int (Int32.ofInt 5), .int (Int32.ofInt 0), .int ((nI p) - (Int32.ofInt 0))] h from ?_)
      rw [hs]
      refine am_goX 1 (show 0 ≤ 8 ∧ h.2.2.2.2 + am_al 207 ≤ 175 ∧ am_call am_cod 3 207 [.int (nI p), .int (Int32.ofInt 0), .int (Int32.ofInt 5)] h (fun vv h' => pz_S 5 (some .int) am_r206 3 Q 53 [(4, .int (nI p)), (0, .ref 154), (1, .int (Int32.ofInt 0)), (2, .int (Int32.ofInt 0)), (3, .int (Int32.ofInt 0))] (vv.toList ++ []) h') from ⟨by decide, ex_lim (k_P l) rfl, am_call.up (r_207 (k_P l) ?_) (by omega)⟩)
      rw [hw]
      refine am_goX 1 (show (¬ (pz_b (true)) = 0 → pz_S 5 (some .int) am_r206 3 Q 64 [(4, .int (nI p)), (0, .ref 154), (1, .int (Int32.ofInt 0)), (2, .int (Int32.ofInt 0)), (3, .int (Int32.ofInt 0))] [] h) ∧ (¬ ¬ (pz_b (true)) = 0 → pz_S 5 (some .int) am_r206 3 Q 56 [(4, .int (nI p)), (0, .ref 154), (1, .int (Int32.ofInt 0)), (2, .int (Int32.ofInt 0)), (3, .int (Int32.ofInt 0))] [] h) from ⟨fun _ => ?_, fun hz => absurd (by decide) hz⟩)
      refine am_goX 2 (show am_sh h 154 = some (11, 0) ∧ pz_S 5 (some .int) am_r206 3 Q 68 [(4, .int (nI p)), (0, .ref 154), (1, .int (Int32.ofInt 0)), (2, .int (Int32.ofInt 0)), (3, .int (Int32.ofInt 0))] [.int (h.1 154 8)] h from ⟨ex_154 (k_P l), ?_⟩)
      rw [k_f l]
      refine am_goX 1 (show (¬ 0 = 0 → pz_S 5 (some .int) am_r206 3 Q 86 [(4, .int (nI p)), (0, .ref 154), (1, .int (Int32.ofInt 0)), (2, .int (Int32.ofInt 0)), (3, .int (Int32.ofInt 0))] [] h) ∧ (¬ ¬ 0 = 0 → pz_S 5 (some .int) am_r206 3 Q 71 [(4, .int (nI p)), (0, .ref 154), (1, .int (Int32.ofInt 0)), (2, .int (Int32.ofInt 0)), (3, .int (Int32.ofInt 0))] [] h) from ⟨fun hz => absurd hz (by decide), fun _ => ?_⟩)
      refine am_goX 7 (show (¬ (((Int32.ofInt 0) >>> ((nI p) &&& 31)) &&& (Int32.ofInt 1)) = (Int32.ofInt 1) → pz_S 5 (some .int) am_r206 3 Q 86 [(4, .int (nI p)), (0, .ref 154), (1, .int (Int32.ofInt 0)), (2, .int (Int32.ofInt 0)), (3, .int (Int32.ofInt 0))] [] h) ∧ (¬ ¬ (((Int32.ofInt 0) >>> ((nI p) &&& 31)) &&& (Int32.ofInt 1)) = (Int32.ofInt 1) → pz_S 5 (some .int) am_r206 3 Q 81 [(4, .int (nI p)), (0, .ref 154), (1, .int (Int32.ofInt 0)), (2, .int (Int32.ofInt 0)), (3, .int (Int32.ofInt 0))] [] h) from ⟨fun _ => ?_, fun hz => absurd (bit_f hb) hz⟩)
      refine am_goX 5 (show (Value.ref 154).category = 1 ∧ am_sh h 154 = some (11, 0) ∧ am_sh h 154 = some (11, 0) ∧ pz_S 5 (some .int) am_r206 3 Q 95 [(4, .int (nI p)), (0, .ref 154), (1, .int (Int32.ofInt 0)), (2, .int (Int32.ofInt 0)), (3, .int (Int32.ofInt 0))] [.int (h.1 154 8), .int (h.1 154 7), .ref 154] h from ⟨rfl, ex_154 (k_P l), ex_154 (k_P l), ?_⟩)
      rw [k_f l]
      refine am_goX 1 (show (0 ≤ 0 → pz_S 5 (some .int) am_r206 3 Q 102 [(4, .int (nI p)), (0, .ref 154), (1, .int (Int32.ofInt 0)), (2, .int (Int32.ofInt 0)), (3, .int (Int32.ofInt 0))] [.int (h.1 154 7), .ref 154] h) ∧ (¬ (0 ≤ 0) → pz_S 5 (some .int) am_r206 3 Q 98 [(4, .int (nI p)), (0, .ref 154), (1, .int (Int32.ofInt 0)), (2, .int (Int32.ofInt 0)), (3, .int (Int32.ofInt 0))] [.int (h.1 154 7), .ref 154] h) from ⟨fun _ => ?_, fun hz => absurd (by decide) hz⟩)
      refine am_goX 3 (show am_sh h 154 = some (11, 0) ∧ narrow (am_fty 11 7) (.int (((h.1 154 7) + (Int32.ofInt 1)))) = .int (((h.1 154 7) + (Int32.ofInt 1))) ∧ fits (am_fty 11 7) (.int (((h.1 154 7) + (Int32.ofInt 1)))) = true ∧ pz_S 5 (some .int) am_r206 3 Q 107 [(4, .int (nI p)), (0, .ref 154), (1, .int (Int32.ofInt 0)), (2, .int (Int32.ofInt 0)), (3, .int (Int32.ofInt 0))] [] (am_wI h 154 7 (((h.1 154 7) + (Int32.ofInt 1)))) from ⟨ex_154 (k_P l), rfl, rfl, ?_⟩)
      rw [k_a l, xw_i1]
      have l104 : rk h0 z τ N (s.1 + 1, s.2) (am_wI h 154 7 (nI (s.1 + 1))) := rk_nx (a := s.1) (C := s.2) l (sp_nn e101)
      refine am_goX 2 (show am_sh (am_wI h 154 7 (nI (s.1 + 1))) 154 = some (11, 0) ∧ pz_S 5 (some .int) am_r206 3 Q 111 [(4, .int (nI p)), (0, .ref 154), (1, .int (Int32.ofInt 0)), (2, .int (Int32.ofInt 0)), (3, .int (Int32.ofInt 0))] [.int ((am_wI h 154 7 (nI (s.1 + 1))).1 154 8)] (am_wI h 154 7 (nI (s.1 + 1))) from ⟨ex_154 (k_P l104), ?_⟩)
      rw [k_f l104]
      refine am_goX 1 (show (0 ≤ 0 → pz_S 5 (some .int) am_r206 3 Q 118 [(4, .int (nI p)), (0, .ref 154), (1, .int (Int32.ofInt 0)), (2, .int (Int32.ofInt 0)), (3, .int (Int32.ofInt 0))] [] (am_wI h 154 7 (nI (s.1 + 1)))) ∧ (¬ (0 ≤ 0) → pz_S 5 (some .int) am_r206 3 Q 114 [(4, .int (nI p)), (0, .ref 154), (1, .int (Int32.ofInt 0)), (2, .int (Int32.ofInt 0)), (3, .int (Int32.ofInt 0))] [] (am_wI h 154 7 (nI (s.1 + 1)))) from ⟨fun _ => ?_, fun hz => absurd (by decide) hz⟩)
      exact am_goX 2 (show (∃ ty, (some .int) = some ty ∧ narrow ty (.int ((nI p))) = .int ((nI p))) ∧ (am_wI h 154 7 (nI (s.1 + 1))).2.2.2.2 = 175 ∧ _ from ⟨⟨.int, rfl, rfl⟩, ex_175 (k_P l104), hS p _ e101 e1 l104⟩)
  | false =>
    refine am_goX 1 (show (¬ (pz_b (false)) = 0 → pz_S 5 (some .int) am_r206 3 Q 19 [(0, .ref 154), (1, .int (Int32.ofInt 0)), (2, .int (Int32.ofInt 0)), (3, .int (Int32.ofInt 0))] [] h) ∧ (¬ ¬ (pz_b (false)) = 0 → pz_S 5 (some .int) am_r206 3 Q 14 [(0, .ref 154), (1, .int (Int32.ofInt 0)), (2, .int (Int32.ofInt 0)), (3, .int (Int32.ofInt 0))] [] h) from ⟨fun hz => absurd hz (by decide), fun _ => ?_⟩)
    refine am_goX 3 (show am_rc h 154 11 ∧ 0 ≤ 8 ∧ h.2.2.2.2 + am_al 197 ≤ 175 ∧ am_call am_cod 3 197 [.ref 154, .int (Int32.ofInt 1)] h (fun vv h' => pz_S 5 (some .int) am_r206 3 Q 19 [(0, .ref 154), (1, .int (Int32.ofInt 0)), (2, .int (Int32.ofInt 0)), (3, .int (Int32.ofInt 0))] (vv.toList ++ []) h') from ⟨Or.inl ⟨by decide, ex_154 (k_P l)⟩, by decide, ex_lim (k_P l) rfl, am_call.up (k_197 l ?_) (by omega)⟩)
    have x105 : rkx h0 (sp_ft τ s.1 (Int32.ofInt 1)) (s.2.2.2.2.2.1 + z) (am_wI h 154 8 (sp_ft τ s.1 (Int32.ofInt 1))) := rk_x (s := s) l (by decide)
    refine am_goX 2 (show am_sh (am_wI h 154 8 (sp_ft τ s.1 (Int32.ofInt 1))) 154 = some (11, 0) ∧ pz_S 5 (some .int) am_r206 3 Q 23 [(0, .ref 154), (1, .int (Int32.ofInt 0)), (2, .int (Int32.ofInt 0)), (3, .int (Int32.ofInt 0))] [.int ((am_wI h 154 8 (sp_ft τ s.1 (Int32.ofInt 1))).1 154 8)] (am_wI h 154 8 (sp_ft τ s.1 (Int32.ofInt 1))) from ⟨ex_154 x105.1, ?_⟩)
    rw [x105.2.1.1]
    refine am_goX 1 (show ((sp_ft τ s.1 (Int32.ofInt 1)) ≤ 0 → pz_S 5 (some .int) am_r206 3 Q 30 [(0, .ref 154), (1, .int (Int32.ofInt 0)), (2, .int (Int32.ofInt 0)), (3, .int (Int32.ofInt 0))] [] (am_wI h 154 8 (sp_ft τ s.1 (Int32.ofInt 1)))) ∧ (¬ ((sp_ft τ s.1 (Int32.ofInt 1)) ≤ 0) → pz_S 5 (some .int) am_r206 3 Q 26 [(0, .ref 154), (1, .int (Int32.ofInt 0)), (2, .int (Int32.ofInt 0)), (3, .int (Int32.ofInt 0))] [] (am_wI h 154 8 (sp_ft τ s.1 (Int32.ofInt 1)))) from ⟨fun hz => absurd hz (rkx_le x105), fun _ => ?_⟩)
    refine am_goX 5 (show 4 < 5 ∧ am_sh (am_wI h 154 8 (sp_ft τ s.1 (Int32.ofInt 1))) 154 = some (11, 0) ∧ pz_S 5 (some .int) am_r206 3 Q 43 [(4, .int (Int32.ofInt (-1))), (0, .ref 154), (1, .int (Int32.ofInt 0)), (2, .int (Int32.ofInt 0)), (3, .int (Int32.ofInt 0))] [.int ((am_wI h 154 8 (sp_ft τ s.1 (Int32.ofInt 1))).1 154 8)] (am_wI h 154 8 (sp_ft τ s.1 (Int32.ofInt 1))) from ⟨by decide, ex_154 x105.1, ?_⟩)
    rw [x105.2.1.1]
    refine am_goX 1 (show (¬ (sp_ft τ s.1 (Int32.ofInt 1)) = 0 → pz_S 5 (some .int) am_r206 3 Q 64 [(4, .int (Int32.ofInt (-1))), (0, .ref 154), (1, .int (Int32.ofInt 0)), (2, .int (Int32.ofInt 0)), (3, .int (Int32.ofInt 0))] [] (am_wI h 154 8 (sp_ft τ s.1 (Int32.ofInt 1)))) ∧ (¬ ¬ (sp_ft τ s.1 (Int32.ofInt 1)) = 0 → pz_S 5 (some .int) am_r206 3 Q 46 [(4, .int (Int32.ofInt (-1))), (0, .ref 154), (1, .int (Int32.ofInt 0)), (2, .int (Int32.ofInt 0)), (3, .int (Int32.ofInt 0))] [] (am_wI h 154 8 (sp_ft τ s.1 (Int32.ofInt 1)))) from ⟨fun _ => ?_, fun hz => absurd (rkx_ne x105) hz⟩)
    refine am_goX 2 (show am_sh (am_wI h 154 8 (sp_ft τ s.1 (Int32.ofInt 1))) 154 = some (11, 0) ∧ pz_S 5 (some .int) am_r206 3 Q 68 [(4, .int (Int32.ofInt (-1))), (0, .ref 154), (1, .int (Int32.ofInt 0)), (2, .int (Int32.ofInt 0)), (3, .int (Int32.ofInt 0))] [.int ((am_wI h 154 8 (sp_ft τ s.1 (Int32.ofInt 1))).1 154 8)] (am_wI h 154 8 (sp_ft τ s.1 (Int32.ofInt 1))) from ⟨ex_154 x105.1, ?_⟩)
    rw [x105.2.1.1]
    refine am_goX 1 (show (¬ (sp_ft τ s.1 (Int32.ofInt 1)) = 0 → pz_S 5 (some .int) am_r206 3 Q 86 [(4, .int (Int32.ofInt (-1))), (0, .ref 154), (1, .int (Int32.ofInt 0)), (2, .int (Int32.ofInt 0)), (3, .int (Int32.ofInt 0))] [] (am_wI h 154 8 (sp_ft τ s.1 (Int32.ofInt 1)))) ∧ (¬ ¬ (sp_ft τ s.1 (Int32.ofInt 1)) = 0 → pz_S 5 (some .int) am_r206 3 Q 71 [(4, .int (Int32.ofInt (-1))), (0, .ref 154), (1, .int (Int32.ofInt 0)), (2, .int (Int32.ofInt 0)), (3, .int (Int32.ofInt 0))] [] (am_wI h 154 8 (sp_ft τ s.1 (Int32.ofInt 1)))) from ⟨fun _ => ?_, fun hz => absurd (rkx_ne x105) hz⟩)
    refine am_goX 5 (show (Value.ref 154).category = 1 ∧ am_sh (am_wI h 154 8 (sp_ft τ s.1 (Int32.ofInt 1))) 154 = some (11, 0) ∧ am_sh (am_wI h 154 8 (sp_ft τ s.1 (Int32.ofInt 1))) 154 = some (11, 0) ∧ pz_S 5 (some .int) am_r206 3 Q 95 [(4, .int (Int32.ofInt (-1))), (0, .ref 154), (1, .int (Int32.ofInt 0)), (2, .int (Int32.ofInt 0)), (3, .int (Int32.ofInt 0))] [.int ((am_wI h 154 8 (sp_ft τ s.1 (Int32.ofInt 1))).1 154 8), .int ((am_wI h 154 8 (sp_ft τ s.1 (Int32.ofInt 1))).1 154 7), .ref 154] (am_wI h 154 8 (sp_ft τ s.1 (Int32.ofInt 1))) from ⟨rfl, ex_154 x105.1, ex_154 x105.1, ?_⟩)
    rw [x105.2.1.1]
    refine am_goX 1 (show ((sp_ft τ s.1 (Int32.ofInt 1)) ≤ 0 → pz_S 5 (some .int) am_r206 3 Q 102 [(4, .int (Int32.ofInt (-1))), (0, .ref 154), (1, .int (Int32.ofInt 0)), (2, .int (Int32.ofInt 0)), (3, .int (Int32.ofInt 0))] [.int ((am_wI h 154 8 (sp_ft τ s.1 (Int32.ofInt 1))).1 154 7), .ref 154] (am_wI h 154 8 (sp_ft τ s.1 (Int32.ofInt 1)))) ∧ (¬ ((sp_ft τ s.1 (Int32.ofInt 1)) ≤ 0) → pz_S 5 (some .int) am_r206 3 Q 98 [(4, .int (Int32.ofInt (-1))), (0, .ref 154), (1, .int (Int32.ofInt 0)), (2, .int (Int32.ofInt 0)), (3, .int (Int32.ofInt 0))] [.int ((am_wI h 154 8 (sp_ft τ s.1 (Int32.ofInt 1))).1 154 7), .ref 154] (am_wI h 154 8 (sp_ft τ s.1 (Int32.ofInt 1)))) from ⟨fun hz => absurd hz (rkx_le x105), fun _ => ?_⟩)
    refine am_goX 4 (show am_sh (am_wI h 154 8 (sp_ft τ s.1 (Int32.ofInt 1))) 154 = some (11, 0) ∧ narrow (am_fty 11 7) (.int ((((am_wI h 154 8 (sp_ft τ s.1 (Int32.ofInt 1))).1 154 7) + (Int32.ofInt 0)))) = .int ((((am_wI h 154 8 (sp_ft τ s.1 (Int32.ofInt 1))).1 154 7) + (Int32.ofInt 0))) ∧ fits (am_fty 11 7) (.int ((((am_wI h 154 8 (sp_ft τ s.1 (Int32.ofInt 1))).1 154 7) + (Int32.ofInt 0)))) = true ∧ pz_S 5 (some .int) am_r206 3 Q 107 [(4, .int (Int32.ofInt (-1))), (0, .ref 154), (1, .int (Int32.ofInt 0)), (2, .int (Int32.ofInt 0)), (3, .int (Int32.ofInt 0))] [] (am_wI (am_wI h 154 8 (sp_ft τ s.1 (Int32.ofInt 1))) 154 7 ((((am_wI h 154 8 (sp_ft τ s.1 (Int32.ofInt 1))).1 154 7) + (Int32.ofInt 0)))) from ⟨ex_154 x105.1, rfl, rfl, ?_⟩)
    have x106 : rkx h0 (sp_ft τ s.1 (Int32.ofInt 1)) (s.2.2.2.2.2.1 + z) (am_wI (am_wI h 154 8 (sp_ft τ s.1 (Int32.ofInt 1))) 154 7 ((((am_wI h 154 8 (sp_ft τ s.1 (Int32.ofInt 1))).1 154 7) + (Int32.ofInt 0)))) := rkx_at x105
    refine am_goX 2 (show am_sh (am_wI (am_wI h 154 8 (sp_ft τ s.1 (Int32.ofInt 1))) 154 7 ((((am_wI h 154 8 (sp_ft τ s.1 (Int32.ofInt 1))).1 154 7) + (Int32.ofInt 0)))) 154 = some (11, 0) ∧ pz_S 5 (some .int) am_r206 3 Q 111 [(4, .int (Int32.ofInt (-1))), (0, .ref 154), (1, .int (Int32.ofInt 0)), (2, .int (Int32.ofInt 0)), (3, .int (Int32.ofInt 0))] [.int ((am_wI (am_wI h 154 8 (sp_ft τ s.1 (Int32.ofInt 1))) 154 7 ((((am_wI h 154 8 (sp_ft τ s.1 (Int32.ofInt 1))).1 154 7) + (Int32.ofInt 0)))).1 154 8)] (am_wI (am_wI h 154 8 (sp_ft τ s.1 (Int32.ofInt 1))) 154 7 ((((am_wI h 154 8 (sp_ft τ s.1 (Int32.ofInt 1))).1 154 7) + (Int32.ofInt 0)))) from ⟨ex_154 x106.1, ?_⟩)
    rw [x106.2.1.1]
    refine am_goX 1 (show ((sp_ft τ s.1 (Int32.ofInt 1)) ≤ 0 → pz_S 5 (some .int) am_r206 3 Q 118 [(4, .int (Int32.ofInt (-1))), (0, .ref 154), (1, .int (Int32.ofInt 0)), (2, .int (Int32.ofInt 0)), (3, .int (Int32.ofInt 0))] [] (am_wI (am_wI h 154 8 (sp_ft τ s.1 (Int32.ofInt 1))) 154 7 ((((am_wI h 154 8 (sp_ft τ s.1 (Int32.ofInt 1))).1 154 7) + (Int32.ofInt 0))))) ∧ (¬ ((sp_ft τ s.1 (Int32.ofInt 1)) ≤ 0) → pz_S 5 (some .int) am_r206 3 Q 114 [(4, .int (Int32.ofInt (-1))), (0, .ref 154), (1, .int (Int32.ofInt 0)), (2, .int (Int32.ofInt 0)), (3, .int (Int32.ofInt 0))] [] (am_wI (am_wI h 154 8 (sp_ft τ s.1 (Int32.ofInt 1))) 154 7 ((((am_wI h 154 8 (sp_ft τ s.1 (Int32.ofInt 1))).1 154 7) + (Int32.ofInt 0))))) from ⟨fun hz => absurd hz (rkx_le x106), fun _ => ?_⟩)
    exact am_goX 3 (show (∃ ty, (some .int) = some ty ∧ narrow ty (.int ((Int32.ofInt 0))) = .int ((Int32.ofInt 0))) ∧ (am_wI (am_wI h 154 8 (sp_ft τ s.1 (Int32.ofInt 1))) 154 7 ((((am_wI h 154 8 (sp_ft τ s.1 (Int32.ofInt 1))).1 154 7) + (Int32.ofInt 0)))).2.2.2.2 = 175 ∧ _ from ⟨⟨.int, rfl, rfl⟩, ex_175 x106.1, hF (sp_ft τ s.1 (Int32.ofInt 1)) _ (by simp only [tq_p, sp_b, sp_f, cond_true, cond_false, e101]) x106⟩)
