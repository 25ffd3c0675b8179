/-! THE REFERENCE'S CANTON BEING READ -/
def rw_l : List Int64 := [1119812451, 17003, 10492554, 569, 26498531, 6400279, 982151, 375310, 5538, 2083, 30596128, 43567634, 37900956, 488058286, 19741, 1891, 573, 20763, 1172060, 18002, 43523993]
def rw_w (w : Nat) : Int64 := rw_l.getD w 0
def rt (τ : sp_T) (N : Nat) (h : am_H) : Prop := ex_P h ∧ N ≤ 1000 ∧ (∀ i, i ≤ N → h.1 156 i = (τ i).1 ∧ h.1 157 i = nI (τ i).2.2 ∧ (τ i).2.2 ≤ 1000) ∧ (∀ i, i < N → h.2.1 158 i = (τ i).2.1) ∧ (τ N).1 = 0 ∧ (∀ w, w < 21 → h.2.1 159 w = rw_w w) ∧ (∀ i, (τ i).1 = 2 → ∃ D : Nat, D ≤ 9999 ∧ (τ i).2.1 = Int64.ofNat D)
def rb2 (x y : Bool) : Int32 := (bif x then 1 else 0) ||| (bif y then 2 else 0)
/-- the reference's code of a code of the class -/
def rb_o (x : Int32) : Int32 := bif decide (0 ≤ x) then 1 else bif decide ((-4 : Int32) ≤ x) then 2 else bif decide (x = -5) then 3 else bif decide (x = -6) then 9 else bif decide (x = -7) then 10 else bif decide (x = -8) then 7 else bif decide (x = -9) then 8 else bif decide (x = -10) then 4 else bif decide (x = -11) then 5 else 6
def rb_a (x : Int32) : Int32 := bif decide (0 ≤ x) then x else bif decide ((-4 : Int32) ≤ x) then -1 - x else 0
def rcP (C : sp_C) (h : am_H) : Prop := h.1 160 40 = nI C.1.1 ∧ C.1.1 ≤ 6 ∧ ∀ i, i < C.1.1 → h.1 160 (44 + 3 * i) = C.1.2.2.1 i ∧ h.1 160 (45 + 3 * i) = C.1.2.2.2 i
def rcE (C : sp_C) (h : am_H) : Prop := h.1 160 41 = nI C.2.1.1 ∧ C.2.1.1 ≤ 5 ∧ ∀ i, i < C.2.1.1 → h.1 160 (62 + 2 * i) = C.2.1.2.2.1 i ∧ h.1 160 (63 + 2 * i) = C.2.1.2.2.2.1 i
def rcB (C : sp_C) (h : am_H) : Prop := ∀ p e, p < 6 → e < 5 → sp_bit (h.1 160 (46 + 3 * p)) (nI e) = (decide (e < C.2.1.1) && sp_bit (C.2.1.2.2.2.2 e) (nI p)) ∧ bN (h.1 160 (46 + 3 * p)) < 32
def rcS (C : sp_C) (h : am_H) : Prop := h.1 160 42 = C.2.2.1.2 ∧ sp_sK C.2.2.1
def rcO (C : sp_C) (h : am_H) : Prop := h.1 154 20 = rb2 C.2.2.1.1 C.2.2.2.1
def rcL (z : Nat) (C : sp_C) (h : am_H) : Prop := h.1 154 13 = nI (C.2.2.2.2.1 + z) ∧ (∀ j, j < C.2.2.2.2.1 → h.1 161 (1100 + j) = rb_o (C.2.2.2.2.2 j) ∧ h.1 162 (1100 + j) = rb_a (C.2.2.2.2.2 j)) ∧ (z = 1 → h.1 161 (1100 + C.2.2.2.2.1) = 0) ∧ (C.2.2.2.1 = false → C.2.2.2.2.1 = 0) ∧ h.1 160 43 = (bif C.2.2.2.1 then nI 0 else Int32.ofInt (-1))
def rcN (C : sp_C) (h : am_H) : Prop := h.1 154 19 = nI (C.1.1 + C.2.1.1) ∧
  (∀ k, k < C.1.1 + C.2.1.1 → (∃ i, i < C.1.1 ∧ h.1 166 k = nI i ∧ h.2.1 164 k = C.1.2.1 i) ∨ (∃ i, i < C.2.1.1 ∧ h.1 166 k = nI (20 + i) ∧ h.2.1 164 k = C.2.1.2.1 i)) ∧
  (∀ i, i < C.1.1 → ∃ k, k < C.1.1 + C.2.1.1 ∧ h.1 166 k = nI i ∧ h.2.1 164 k = C.1.2.1 i) ∧
  (∀ i, i < C.2.1.1 → ∃ k, k < C.1.1 + C.2.1.1 ∧ h.1 166 k = nI (20 + i) ∧ h.2.1 164 k = C.2.1.2.1 i) ∧
  (∀ k k', k < C.1.1 + C.2.1.1 → k' < C.1.1 + C.2.1.1 → h.2.1 164 k = h.2.1 164 k' → k = k')
def rc (z : Nat) (C : sp_C) (h : am_H) : Prop := rcP C h ∧ rcE C h ∧ rcB C h ∧ rcS C h ∧ rcO C h ∧ rcL z C h ∧ rcN C h
def r_in (o k : Nat) : Prop := (o = 154 ∧ (k = 7 ∨ k = 8 ∨ k = 13 ∨ k = 19 ∨ k = 20)) ∨ (o = 160 ∧ 40 ≤ k) ∨ ((o = 161 ∨ o = 162) ∧ 1100 ≤ k) ∨ o = 164 ∨ o = 166
def r_q (h0 h : am_H) : Prop := h.2.2 = h0.2.2 ∧ ∀ o k, ¬ r_in o k → h.1 o k = h0.1 o k ∧ h.2.1 o k = h0.2.1 o k
def rr (h0 : am_H) (z : Nat) (τ : sp_T) (N : Nat) (s : sp_S) (h : am_H) : Prop := (rt τ N h ∧ (h.1 154 7 = nI s.1 ∧ s.1 ≤ N) ∧ h.1 154 8 = 0) ∧ rc z s.2 h ∧ r_q h0 h ∧ s.2.2.2.2.2.1 ≤ s.1
/-- a fault was told; so many codes -/
def rx (h0 : am_H) (F : Int32) (c : Nat) (h : am_H) : Prop := ex_P h ∧ (h.1 154 8 = F ∧ 0 < F.toInt) ∧ h.1 154 13 = nI c ∧ r_q h0 h
variable {h h0 : am_H} {z N a c o k : Nat} {τ : sp_T} {C : sp_C} {s : sp_S} {F v : Int32}
theorem rt_w (hn : ¬ o = 156 ∧ ¬ o = 157) (l : rt τ N h) : rt τ N (am_wI h o k v) := by
  obtain ⟨l1, l2, l3, l4, l5, l6, l7⟩ := l
  refine ⟨l1, l2, fun i hi => ⟨?_, ?_, (l3 i hi).2.2⟩, l4, l5, l6, l7⟩
  · rw [em_wn _ _ (by omega)]; exact (l3 i hi).1
  · rw [em_wn _ _ (by omega)]; exact (l3 i hi).2.1
theorem rt_wL {v : Int64} (hn : ¬ o = 158 ∧ ¬ o = 159) (l : rt τ N h) : rt τ N (am_wL h o k v) := by
  obtain ⟨l1, l2, l3, l4, l5, l6, l7⟩ := l
  refine ⟨l1, l2, l3, fun i hi => ?_, l5, fun w hw => ?_, l7⟩
  · rw [ex_ln (by omega)]; exact l4 i hi
  · rw [ex_ln (by omega)]; exact l6 w hw
theorem rcP_w (hn : ¬ (o = 160 ∧ (k = 40 ∨ (44 ≤ k ∧ k < 62 ∧ ¬ (k - 44) % 3 = 2)))) (l : rcP C h) : rcP C (am_wI h o k v) := by
  obtain ⟨l1, l2, l3⟩ := l
  refine ⟨?_, l2, fun i hi => ⟨?_, ?_⟩⟩
  · rw [em_wn _ _ (by omega)]; exact l1
  · rw [em_wn _ _ (by omega)]; exact (l3 i hi).1
  · rw [em_wn _ _ (by omega)]; exact (l3 i hi).2
theorem rcE_w (hn : ¬ (o = 160 ∧ (k = 41 ∨ 62 ≤ k))) (l : rcE C h) : rcE C (am_wI h o k v) := by
  obtain ⟨l1, l2, l3⟩ := l
  refine ⟨?_, l2, fun i hi => ⟨?_, ?_⟩⟩
  · rw [em_wn _ _ (by omega)]; exact l1
  · rw [em_wn _ _ (by omega)]; exact (l3 i hi).1
  · rw [em_wn _ _ (by omega)]; exact (l3 i hi).2
theorem rcB_w (hn : ¬ (o = 160 ∧ 44 ≤ k ∧ k < 62 ∧ (k - 44) % 3 = 2)) (l : rcB C h) : rcB C (am_wI h o k v) := by
  intro p e hp he
  rw [em_wn _ _ (by omega)]
  exact l p e hp he
theorem rcS_w (hn : ¬ (o = 160 ∧ k = 42)) (l : rcS C h) : rcS C (am_wI h o k v) := by
  refine ⟨?_, l.2⟩
  rw [em_wn _ _ (by omega)]
  exact l.1
theorem rcO_w (hn : ¬ (o = 154 ∧ k = 20)) (l : rcO C h) : rcO C (am_wI h o k v) := by
  show (am_wI h o k v).1 154 20 = _
  rw [em_wn _ _ (by omega)]
  exact l
theorem rcL_w (hn : ¬ (o = 154 ∧ k = 13) ∧ ¬ (o = 161 ∧ 1100 ≤ k) ∧ ¬ (o = 162 ∧ 1100 ≤ k) ∧ ¬ (o = 160 ∧ k = 43)) (l : rcL z C h) : rcL z C (am_wI h o k v) := by
  obtain ⟨l1, l2, l3, l4, l5⟩ := l
  refine ⟨?_, fun j hj => ⟨?_, ?_⟩, fun hz => ?_, l4, ?_⟩
  · rw [em_wn _ _ (by omega)]; exact l1
  · rw [em_wn _ _ (by omega)]; exact (l2 j hj).1
  · rw [em_wn _ _ (by omega)]; exact (l2 j hj).2
  · rw [em_wn _ _ (by omega)]; exact l3 hz
  · rw [em_wn _ _ (by omega)]; exact l5
theorem rcN_w (hn : ¬ (o = 154 ∧ k = 19) ∧ ¬ o = 166) (l : rcN C h) : rcN C (am_wI h o k v) := by
  have e : ∀ q, (am_wI h o k v).1 166 q = h.1 166 q := fun q => em_wn _ _ (by omega)
  obtain ⟨l1, l2, l3, l4, l5⟩ := l
  refine ⟨?_, fun q hq => ?_, fun i hi => ?_, fun i hi => ?_, l5⟩
  · rw [em_wn _ _ (by omega)]; exact l1
  · rw [e]; exact l2 q hq
  · obtain ⟨q, q1, q2, q3⟩ := l3 i hi
    exact ⟨q, q1, (e q).trans q2, q3⟩
  · obtain ⟨q, q1, q2, q3⟩ := l4 i hi
    exact ⟨q, q1, (e q).trans q2, q3⟩
theorem rq_w (hn : r_in o k) (l : r_q h0 h) : r_q h0 (am_wI h o k v) := ⟨l.1, fun o' k' ho => ⟨by
  rw [em_wn _ _ (fun e => ho (by rw [e.1, e.2]; exact hn))]
  exact (l.2 o' k' ho).1, (l.2 o' k' ho).2⟩⟩
theorem rq_wL {v : Int64} (hn : r_in o k) (l : r_q h0 h) : r_q h0 (am_wL h o k v) := ⟨l.1, fun o' k' ho => ⟨(l.2 o' k' ho).1, by
  rw [ex_ln (fun e => ho (by rw [e.1, e.2]; exact hn))]
  exact (l.2 o' k' ho).2⟩⟩
theorem r_P (l : rr h0 z τ N s h) : ex_P h := l.1.1.1
theorem r_f (l : rr h0 z τ N s h) : h.1 154 8 = 0 := l.1.2.2
theorem r_a (l : rr h0 z τ N s h) : h.1 154 7 = nI s.1 := l.1.2.1.1
theorem r_N (l : rr h0 z τ N s h) : s.1 ≤ N ∧ N ≤ 1000 ∧ s.2.2.2.2.2.1 ≤ s.1 := ⟨l.1.2.1.2, l.1.1.2.1, l.2.2.2⟩
theorem r_k (l : rr h0 z τ N s h) : h.1 156 s.1 = (τ s.1).1 := (l.1.1.2.2.1 s.1 l.1.2.1.2).1
theorem r_p (l : rr h0 z τ N s h) : h.1 157 s.1 = nI (τ s.1).2.2 := (l.1.1.2.2.1 s.1 l.1.2.1.2).2.1
theorem r_lt (l : rr h0 z τ N s h) (hn : ¬ (τ s.1).1 = 0) : s.1 < N := by
  have h1 := l.1.2.1.2
  rcases Nat.lt_or_eq_of_le h1 with w | w
  · exact w
  · exact absurd (by rw [w]; exact l.1.1.2.2.2.2.1) hn
theorem r_v (l : rr h0 z τ N s h) (hn : ¬ (τ s.1).1 = 0) : h.2.1 158 s.1 = (τ s.1).2.1 := l.1.1.2.2.2.1 s.1 (r_lt l hn)
theorem r_w (l : rr h0 z τ N s h) {w : Nat} (hw : w < 21) : h.2.1 159 w = rw_w w := l.1.1.2.2.2.2.2.1 w hw
theorem rx_ne (x : rx h0 F c h) : ¬ F = 0 := by
  intro e
  have := x.2.1.2
  rw [e] at this
  exact absurd this (by decide)
theorem rx_le (x : rx h0 F c h) : ¬ F ≤ 0 := by
  intro e
  have h1 := x.2.1.2
  have h2 := Int32.le_iff_toInt_le.mp e
  have h3 : (0 : Int32).toInt = 0 := by decide
  omega
/-- on to a token -/
theorem rr_at {a' : Nat} (l : rr h0 z τ N s h) (h1 : a' ≤ N) (h2 : s.2.2.2.2.2.1 ≤ a') : rr h0 z τ N (a', s.2) (am_wI h 154 7 (nI a')) := by
  obtain ⟨⟨l1, l2, l3⟩, ⟨c1, c2, c3, c4, c5, c6, c7⟩, l5, l6⟩ := l
  refine ⟨⟨rt_w (by omega) l1, ⟨em_we _ _ _ _, h1⟩, ?_⟩, ⟨rcP_w (by omega) c1, rcE_w (by omega) c2, rcB_w (by omega) c3, rcS_w (by omega) c4, rcO_w (by omega) c5, rcL_w (by omega) c6, rcN_w (by omega) c7⟩, rq_w (by unfold r_in; omega) l5, h2⟩
  rw [em_wn _ _ (by omega)]
  exact l3
theorem rr_nx (l : rr h0 z τ N (a, C) h) (hn : ¬ (τ a).1 = 0) : rr h0 z τ N (a + 1, C) (am_wI h 154 7 (nI (a + 1))) := by
  have h1 := r_lt l hn
  have h2 := (r_N l).2.2
  exact rr_at l h1 (Nat.le_succ_of_le h2)
theorem rr_sm (l : rr h0 z τ N s h) : rr h0 z τ N s (am_wI h 154 7 (nI s.1)) := rr_at l (r_N l).1 (r_N l).2.2
theorem rx_at (x : rx h0 F c h) : rx h0 F c (am_wI h 154 7 v) := by
  obtain ⟨x1, ⟨x2, x3⟩, x4, x5⟩ := x
  refine ⟨x1, ⟨?_, x3⟩, ?_, rq_w (by unfold r_in; omega) x5⟩
  · rw [em_wn _ _ (by omega)]; exact x2
  · rw [em_wn _ _ (by omega)]; exact x4
theorem rp_ft (l : rr h0 z τ N s h) {k : Int32} (hk : 1 ≤ k.toInt ∧ k.toInt ≤ 5) : 0 < (sp_ft τ s.1 k).toInt := by
  have hp := (l.1.1.2.2.1 s.1 l.1.2.1.2).2.2
  show 0 < (k + (Int8.ofInt 16).toInt32 * nI (τ s.1).2.2).toInt
  rw [Int32.toInt_add, Int32.toInt_mul, nI_toInt (by omega), show ((Int8.ofInt 16).toInt32).toInt = 16 from rfl, Int.bmod_eq_of_le (n := 16 * ↑(τ s.1).2.2) (by omega) (by omega), Int.bmod_eq_of_le (by omega) (by omega)]
  omega
theorem rr_x {k : Int32} (l : rr h0 z τ N s h) (hk : 1 ≤ k.toInt ∧ k.toInt ≤ 5) : rx h0 (sp_ft τ s.1 k) (s.2.2.2.2.2.1 + z) (am_wI h 154 8 (sp_ft τ s.1 k)) := by
  refine ⟨l.1.1.1, ⟨em_we _ _ _ _, rp_ft l hk⟩, ?_, rq_w (by unfold r_in; omega) l.2.2.1⟩
  rw [em_wn _ _ (by omega)]
  exact l.2.1.2.2.2.2.2.1.1
/-- one more code -/
theorem rr_em {x y w : Int32} (l : rr h0 0 τ N (a, C) h) (hn : C.2.2.2.2.1 < a) (e1 : x = rb_o w) (e2 : y = rb_a w) (ht : C.2.2.2.1 = true) : rr h0 0 τ N (a, sp_em C w) (am_wI (am_wI (am_wI h 161 (1100 + C.2.2.2.2.1) x) 162 (1100 + C.2.2.2.2.1) y) 154 13 (nI (C.2.2.2.2.1 + 1))) := by
  obtain ⟨⟨l1, l2, l3⟩, ⟨c1, c2, c3, c4, c5, ⟨d1, d2, d3, d4, d5⟩, c7⟩, l5, l6⟩ := l
  refine ⟨⟨rt_w (by omega) (rt_w (by omega) (rt_w (by omega) l1)), ⟨?_, l2.2⟩, ?_⟩, ⟨rcP_w (by omega) (rcP_w (by omega) (rcP_w (by omega) c1)), rcE_w (by omega) (rcE_w (by omega) (rcE_w (by omega) c2)), rcB_w (by omega) (rcB_w (by omega) (rcB_w (by omega) c3)), rcS_w (by omega) (rcS_w (by omega) (rcS_w (by omega) c4)), rcO_w (by omega) (rcO_w (by omega) (rcO_w (by omega) c5)), ⟨em_we _ _ _ _, fun j hj => ?_, fun hz => absurd hz (by decide), fun hf => ?_, ?_⟩, rcN_w (by omega) (rcN_w (by omega) (rcN_w (by omega) c7))⟩, rq_w (by unfold r_in; omega) (rq_w (by unfold r_in; omega) (rq_w (by unfold r_in; omega) l5)), ?_⟩
  · rw [em_wn _ _ (by omega), em_wn _ _ (by omega), em_wn _ _ (by omega)]; exact l2.1
  · rw [em_wn _ _ (by omega), em_wn _ _ (by omega), em_wn _ _ (by omega)]; exact l3
  · have hj : j < C.2.2.2.2.1 + 1 := hj
    show _ = rb_o (if j = C.2.2.2.2.1 then w else C.2.2.2.2.2 j) ∧ _ = rb_a (if j = C.2.2.2.2.1 then w else C.2.2.2.2.2 j)
    by_cases ej : j = C.2.2.2.2.1
    · rw [if_pos ej, ej, em_wn _ _ (by omega), em_wn _ _ (by omega), em_we, em_wn _ _ (by omega), em_we]
      exact ⟨e1, e2⟩
    · rw [if_neg ej, em_wn _ _ (by omega), em_wn _ _ (by omega), em_wn _ _ (by omega), em_wn _ _ (by omega), em_wn _ _ (by omega), em_wn _ _ (by omega)]
      exact d2 j (show j < C.2.2.2.2.1 by omega)
  · have hf : C.2.2.2.1 = false := hf
    rw [ht] at hf
    cases hf
  · rw [em_wn _ _ (by omega), em_wn _ _ (by omega), em_wn _ _ (by omega)]; exact d5
  · show C.2.2.2.2.1 + 1 ≤ a
    omega
/-- ahead of the step -/
def rr1 (h0 : am_H) (τ : sp_T) (N a : Nat) (C : sp_C) (h : am_H) : Prop := (rt τ N h ∧ (h.1 154 7 = nI a ∧ a ≤ N) ∧ h.1 154 8 = 0) ∧ rc 0 C h ∧ r_q h0 h ∧ C.2.2.2.2.1 ≤ a + 1
theorem rr1_em {x y w : Int32} (l : rr h0 0 τ N (a, C) h) (e1 : x = rb_o w) (e2 : y = rb_a w) (ht : C.2.2.2.1 = true) : rr1 h0 τ N a (sp_em C w) (am_wI (am_wI (am_wI h 161 (1100 + C.2.2.2.2.1) x) 162 (1100 + C.2.2.2.2.1) y) 154 13 (nI (C.2.2.2.2.1 + 1))) := by
  obtain ⟨⟨l1, l2, l3⟩, ⟨c1, c2, c3, c4, c5, ⟨d1, d2, d3, d4, d5⟩, c7⟩, l5, l6⟩ := l
  refine ⟨⟨rt_w (by omega) (rt_w (by omega) (rt_w (by omega) l1)), ⟨?_, l2.2⟩, ?_⟩, ⟨rcP_w (by omega) (rcP_w (by omega) (rcP_w (by omega) c1)), rcE_w (by omega) (rcE_w (by omega) (rcE_w (by omega) c2)), rcB_w (by omega) (rcB_w (by omega) (rcB_w (by omega) c3)), rcS_w (by omega) (rcS_w (by omega) (rcS_w (by omega) c4)), rcO_w (by omega) (rcO_w (by omega) (rcO_w (by omega) c5)), ⟨em_we _ _ _ _, fun j hj => ?_, fun hz => absurd hz (by decide), fun hf => ?_, ?_⟩, rcN_w (by omega) (rcN_w (by omega) (rcN_w (by omega) c7))⟩, rq_w (by unfold r_in; omega) (rq_w (by unfold r_in; omega) (rq_w (by unfold r_in; omega) l5)), ?_⟩
  · rw [em_wn _ _ (by omega), em_wn _ _ (by omega), em_wn _ _ (by omega)]; exact l2.1
  · rw [em_wn _ _ (by omega), em_wn _ _ (by omega), em_wn _ _ (by omega)]; exact l3
  · have hj : j < C.2.2.2.2.1 + 1 := hj
    show _ = rb_o (if j = C.2.2.2.2.1 then w else C.2.2.2.2.2 j) ∧ _ = rb_a (if j = C.2.2.2.2.1 then w else C.2.2.2.2.2 j)
    by_cases ej : j = C.2.2.2.2.1
    · rw [if_pos ej, ej, em_wn _ _ (by omega), em_wn _ _ (by omega), em_we, em_wn _ _ (by omega), em_we]
      exact ⟨e1, e2⟩
    · rw [if_neg ej, em_wn _ _ (by omega), em_wn _ _ (by omega), em_wn _ _ (by omega), em_wn _ _ (by omega), em_wn _ _ (by omega), em_wn _ _ (by omega)]
      exact d2 j (show j < C.2.2.2.2.1 by omega)
  · have hf : C.2.2.2.1 = false := hf
    rw [ht] at hf
    cases hf
  · rw [em_wn _ _ (by omega), em_wn _ _ (by omega), em_wn _ _ (by omega)]; exact d5
  · show C.2.2.2.2.1 + 1 ≤ a + 1
    exact Nat.succ_le_succ l6
theorem rr1_nx (l : rr1 h0 τ N a C h) (h1 : a < N) : rr h0 0 τ N (a + 1, C) (am_wI h 154 7 (nI (a + 1))) := by
  obtain ⟨⟨l1, l2, l3⟩, ⟨c1, c2, c3, c4, c5, c6, c7⟩, l5, l6⟩ := l
  refine ⟨⟨rt_w (by omega) l1, ⟨em_we _ _ _ _, h1⟩, ?_⟩, ⟨rcP_w (by omega) c1, rcE_w (by omega) c2, rcB_w (by omega) c3, rcS_w (by omega) c4, rcO_w (by omega) c5, rcL_w (by omega) c6, rcN_w (by omega) c7⟩, rq_w (by unfold r_in; omega) l5, l6⟩
  rw [em_wn _ _ (by omega)]
  exact l3
/-- the end of the law -/
theorem rr_end {y : Int32} (l : rr h0 0 τ N (a, C) h) (ht : C.2.2.2.1 = true) : rr h0 1 τ N (a, C) (am_wI (am_wI (am_wI h 161 (1100 + C.2.2.2.2.1) (Int32.ofInt 0)) 162 (1100 + C.2.2.2.2.1) y) 154 13 (nI (C.2.2.2.2.1 + 1))) := by
  obtain ⟨⟨l1, l2, l3⟩, ⟨c1, c2, c3, c4, c5, ⟨d1, d2, d3, d4, d5⟩, c7⟩, l5, l6⟩ := l
  refine ⟨⟨rt_w (by omega) (rt_w (by omega) (rt_w (by omega) l1)), ⟨?_, l2.2⟩, ?_⟩, ⟨rcP_w (by omega) (rcP_w (by omega) (rcP_w (by omega) c1)), rcE_w (by omega) (rcE_w (by omega) (rcE_w (by omega) c2)), rcB_w (by omega) (rcB_w (by omega) (rcB_w (by omega) c3)), rcS_w (by omega) (rcS_w (by omega) (rcS_w (by omega) c4)), rcO_w (by omega) (rcO_w (by omega) (rcO_w (by omega) c5)), ⟨em_we _ _ _ _, fun j hj => ?_, fun _ => ?_, d4, ?_⟩, rcN_w (by omega) (rcN_w (by omega) (rcN_w (by omega) c7))⟩, rq_w (by unfold r_in; omega) (rq_w (by unfold r_in; omega) (rq_w (by unfold r_in; omega) l5)), l6⟩
  · rw [em_wn _ _ (by omega), em_wn _ _ (by omega), em_wn _ _ (by omega)]; exact l2.1
  · rw [em_wn _ _ (by omega), em_wn _ _ (by omega), em_wn _ _ (by omega)]; exact l3
  · have hj : j < C.2.2.2.2.1 := hj
    rw [em_wn _ _ (by omega), em_wn _ _ (by omega), em_wn _ _ (by omega), em_wn _ _ (by omega), em_wn _ _ (by omega), em_wn _ _ (by omega)]
    exact d2 j hj
  · show (am_wI (am_wI (am_wI h 161 (1100 + C.2.2.2.2.1) _) 162 (1100 + C.2.2.2.2.1) y) 154 13 _).1 161 (1100 + C.2.2.2.2.1) = 0
    rw [em_wn _ _ (by omega), em_wn _ _ (by omega), em_we]
    rfl
  · rw [em_wn _ _ (by omega), em_wn _ _ (by omega), em_wn _ _ (by omega)]; exact d5
theorem rx_em {x y : Int32} (l : rx h0 F c h) : rx h0 F (c + 1) (am_wI (am_wI (am_wI h 161 (1100 + c) x) 162 (1100 + c) y) 154 13 (nI (c + 1))) := by
  obtain ⟨x1, ⟨x2, x3⟩, x4, x5⟩ := l
  refine ⟨x1, ⟨?_, x3⟩, em_we _ _ _ _, rq_w (by unfold r_in; omega) (rq_w (by unfold r_in; omega) (rq_w (by unfold r_in; omega) x5))⟩
  rw [em_wn _ _ (by omega), em_wn _ _ (by omega), em_wn _ _ (by omega)]
  exact x2
