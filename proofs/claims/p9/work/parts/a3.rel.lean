/-! WRITES TO THE CANTON BEING READ -/
variable {h h0 : am_H} {c sz a o k : Nat} {T : Nat → Int32} {C : sp_C} {s : sp_S}
theorem cr_wf {v : Int32} (hc : 2 < c) (l : cr h0 c T sz s h) (hf : ((o = c + 2 ∨ o = c + 3) ∧ s.2.1.1 ≤ k) ∨ ((o = c + 5 ∨ o = c + 6 ∨ o = c + 7) ∧ s.2.2.1.1 ≤ k)) : cr h0 c T sz s (am_wI h o k v) := by
  obtain ⟨l1, ⟨⟨a1, a2, a3⟩, ⟨b1, b2, b3⟩, ⟨d1, d2, d3⟩, ⟨e1, e2, e3, e4⟩⟩, l3, l4⟩ := l
  refine ⟨ct_wI l1 (by omega), ⟨⟨?_, a2, fun i hi => ⟨(a3 i hi).1, ?_, ?_⟩⟩, ⟨?_, b2, fun i hi => ⟨(b3 i hi).1, ?_, ?_, ?_⟩⟩, ⟨?_, ?_, d3⟩, ⟨?_, ?_, e3, fun i hi => ?_⟩⟩, cq_wI l3 (by omega), l4⟩
  · rw [em_wn _ _ (by omega)]; exact a1
  · rw [em_wn _ _ (by omega)]; exact (a3 i hi).2.1
  · rw [em_wn _ _ (by omega)]; exact (a3 i hi).2.2
  · rw [em_wn _ _ (by omega)]; exact b1
  · rw [em_wn _ _ (by omega)]; exact (b3 i hi).2.1
  · rw [em_wn _ _ (by omega)]; exact (b3 i hi).2.2.1
  · rw [em_wn _ _ (by omega)]; exact (b3 i hi).2.2.2
  · rw [em_wn _ _ (by omega)]; exact d1
  · rw [em_wn _ _ (by omega)]; exact d2
  · rw [em_wn _ _ (by omega)]; exact e1
  · rw [em_wn _ _ (by omega)]; exact e2
  · rw [em_wn _ _ (by omega)]; exact e4 i hi
theorem cr_wg {v : Int64} (hc : 2 < c) (l : cr h0 c T sz s h) (hf : (o = c + 1 ∧ s.2.1.1 ≤ k) ∨ (o = c + 4 ∧ s.2.2.1.1 ≤ k)) : cr h0 c T sz s (am_wL h o k v) := by
  obtain ⟨l1, ⟨⟨a1, a2, a3⟩, ⟨b1, b2, b3⟩, ⟨d1, d2, d3⟩, ⟨e1, e2, e3, e4⟩⟩, l3, l4⟩ := l
  refine ⟨ct_wL l1 (by omega), ⟨⟨a1, a2, fun i hi => ⟨?_, (a3 i hi).2⟩⟩, ⟨b1, b2, fun i hi => ⟨?_, (b3 i hi).2⟩⟩, ⟨d1, d2, d3⟩, ⟨e1, e2, e3, e4⟩⟩, cq_wL l3 (by omega), l4⟩
  · rw [ex_ln (by omega)]; exact (a3 i hi).1
  · rw [ex_ln (by omega)]; exact (b3 i hi).1
/-- one more person -/
theorem cr_P {v : Int64} {kd lt : Int32} (hc : 2 < c) (l : cr h0 c T sz (a, C) h) (hn : C.1.1 < 6) (x1 : cwk v (h.2.1 (c + 1) C.1.1)) (x2 : h.1 (c + 2) C.1.1 = kd) (x3 : h.1 (c + 3) C.1.1 = lt) : cr h0 c T sz (a, sp_cP C v kd lt) (am_wI h c 0 (nI (C.1.1 + 1))) := by
  obtain ⟨l1, ⟨⟨a1, a2, a3⟩, ⟨b1, b2, b3⟩, ⟨d1, d2, d3⟩, ⟨e1, e2, e3, e4⟩⟩, l3, l4⟩ := l
  refine ⟨ct_wI l1 (by omega), ⟨⟨em_we _ _ _ _, (show C.1.1 + 1 ≤ 6 by omega), fun i hi => ?_⟩, ⟨?_, b2, fun i hi => ⟨(b3 i hi).1, ?_, ?_, ?_⟩⟩, ⟨?_, ?_, d3⟩, ⟨?_, ?_, e3, fun i hi => ?_⟩⟩, cq_wI l3 (by omega), l4⟩
  · have hi : i < C.1.1 + 1 := hi
    show cwk (if i = C.1.1 then v else C.1.2.1 i) (h.2.1 (c + 1) i) ∧ _ = (if i = C.1.1 then kd else C.1.2.2.1 i) ∧ _ = (if i = C.1.1 then lt else C.1.2.2.2 i)
    rw [em_wn _ _ (by omega), em_wn _ _ (by omega)]
    by_cases ei : i = C.1.1
    · rw [if_pos ei, if_pos ei, if_pos ei, ei]
      exact ⟨x1, x2, x3⟩
    · rw [if_neg ei, if_neg ei, if_neg ei]
      exact a3 i (show i < C.1.1 by omega)
  · rw [em_wn _ _ (by omega)]; exact b1
  · rw [em_wn _ _ (by omega)]; exact (b3 i hi).2.1
  · rw [em_wn _ _ (by omega)]; exact (b3 i hi).2.2.1
  · rw [em_wn _ _ (by omega)]; exact (b3 i hi).2.2.2
  · rw [em_wn _ _ (by omega)]; exact d1
  · rw [em_wn _ _ (by omega)]; exact d2
  · rw [em_wn _ _ (by omega)]; exact e1
  · rw [em_wn _ _ (by omega)]; exact e2
  · rw [em_wn _ _ (by omega)]; exact e4 i hi
/-- one more event -/
theorem cr_E {v : Int64} {on nd : Int32} (hc : 2 < c) (l : cr h0 c T sz (a, C) h) (hn : C.2.1.1 < 5) (x1 : cwk v (h.2.1 (c + 4) C.2.1.1)) (x2 : h.1 (c + 5) C.2.1.1 = on) (x3 : h.1 (c + 6) C.2.1.1 = nd) (x4 : h.1 (c + 7) C.2.1.1 = 0) : cr h0 c T sz (a, sp_cE C v on nd) (am_wI h c 4 (nI (C.2.1.1 + 1))) := by
  obtain ⟨l1, ⟨⟨a1, a2, a3⟩, ⟨b1, b2, b3⟩, ⟨d1, d2, d3⟩, ⟨e1, e2, e3, e4⟩⟩, l3, l4⟩ := l
  refine ⟨ct_wI l1 (by omega), ⟨⟨?_, a2, fun i hi => ⟨(a3 i hi).1, ?_, ?_⟩⟩, ⟨em_we _ _ _ _, (show C.2.1.1 + 1 ≤ 5 by omega), fun i hi => ?_⟩, ⟨?_, ?_, d3⟩, ⟨?_, ?_, e3, fun i hi => ?_⟩⟩, cq_wI l3 (by omega), l4⟩
  · rw [em_wn _ _ (by omega)]; exact a1
  · rw [em_wn _ _ (by omega)]; exact (a3 i hi).2.1
  · rw [em_wn _ _ (by omega)]; exact (a3 i hi).2.2
  · have hi : i < C.2.1.1 + 1 := hi
    show cwk (if i = C.2.1.1 then v else C.2.1.2.1 i) (h.2.1 (c + 4) i) ∧ _ = (if i = C.2.1.1 then on else C.2.1.2.2.1 i) ∧ _ = (if i = C.2.1.1 then nd else C.2.1.2.2.2.1 i) ∧ _ = (if i = C.2.1.1 then 0 else C.2.1.2.2.2.2 i)
    rw [em_wn _ _ (by omega), em_wn _ _ (by omega), em_wn _ _ (by omega)]
    by_cases ei : i = C.2.1.1
    · rw [if_pos ei, if_pos ei, if_pos ei, if_pos ei, ei]
      exact ⟨x1, x2, x3, x4⟩
    · rw [if_neg ei, if_neg ei, if_neg ei, if_neg ei]
      exact b3 i (show i < C.2.1.1 by omega)
  · rw [em_wn _ _ (by omega)]; exact d1
  · rw [em_wn _ _ (by omega)]; exact d2
  · rw [em_wn _ _ (by omega)]; exact e1
  · rw [em_wn _ _ (by omega)]; exact e2
  · rw [em_wn _ _ (by omega)]; exact e4 i hi
/-- a person is to come -/
theorem cr_G {e p : Nat} (hc : 2 < c) (l : cr h0 c T sz (a, C) h) (he : e < C.2.1.1) : cr h0 c T sz (a, sp_cG C e p) (am_wI h (c + 7) e (C.2.1.2.2.2.2 e ||| ((Int32.ofInt 1) <<< (nI p &&& 31)))) := by
  obtain ⟨l1, ⟨⟨a1, a2, a3⟩, ⟨b1, b2, b3⟩, ⟨d1, d2, d3⟩, ⟨e1, e2, e3, e4⟩⟩, l3, l4⟩ := l
  refine ⟨ct_wI l1 (by omega), ⟨⟨?_, a2, fun i hi => ⟨(a3 i hi).1, ?_, ?_⟩⟩, ⟨?_, b2, fun i hi => ⟨(b3 i hi).1, ?_, ?_, ?_⟩⟩, ⟨?_, ?_, d3⟩, ⟨?_, ?_, e3, fun i hi => ?_⟩⟩, cq_wI l3 (by omega), l4⟩
  · rw [em_wn _ _ (by omega)]; exact a1
  · rw [em_wn _ _ (by omega)]; exact (a3 i hi).2.1
  · rw [em_wn _ _ (by omega)]; exact (a3 i hi).2.2
  · rw [em_wn _ _ (by omega)]; exact b1
  · rw [em_wn _ _ (by omega)]; exact (b3 i hi).2.1
  · rw [em_wn _ _ (by omega)]; exact (b3 i hi).2.2.1
  · show _ = (if i = e then _ else C.2.1.2.2.2.2 i)
    by_cases ei : i = e
    · rw [if_pos ei, ei]
      exact em_we _ _ _ _
    · rw [if_neg ei, em_wn _ _ (by omega)]
      exact (b3 i hi).2.2.2
  · rw [em_wn _ _ (by omega)]; exact d1
  · rw [em_wn _ _ (by omega)]; exact d2
  · rw [em_wn _ _ (by omega)]; exact e1
  · rw [em_wn _ _ (by omega)]; exact e2
  · rw [em_wn _ _ (by omega)]; exact e4 i hi
/-- snow -/
theorem cr_S9 (hc : 2 < c) (l : cr h0 c T sz (a, C) h) : cr h0 c T sz (a, sp_cS C true C.2.2.1.2) (am_wI h c 9 1) := by
  obtain ⟨l1, ⟨⟨a1, a2, a3⟩, ⟨b1, b2, b3⟩, ⟨d1, d2, d3⟩, ⟨e1, e2, e3, e4⟩⟩, l3, l4⟩ := l
  refine ⟨ct_wI l1 (by omega), ⟨⟨?_, a2, fun i hi => ⟨(a3 i hi).1, ?_, ?_⟩⟩, ⟨?_, b2, fun i hi => ⟨(b3 i hi).1, ?_, ?_, ?_⟩⟩, ⟨em_we _ _ _ _, ?_, ⟨fun z => (by cases z), d3.2⟩⟩, ⟨?_, ?_, e3, fun i hi => ?_⟩⟩, cq_wI l3 (by omega), l4⟩
  · rw [em_wn _ _ (by omega)]; exact a1
  · rw [em_wn _ _ (by omega)]; exact (a3 i hi).2.1
  · rw [em_wn _ _ (by omega)]; exact (a3 i hi).2.2
  · rw [em_wn _ _ (by omega)]; exact b1
  · rw [em_wn _ _ (by omega)]; exact (b3 i hi).2.1
  · rw [em_wn _ _ (by omega)]; exact (b3 i hi).2.2.1
  · rw [em_wn _ _ (by omega)]; exact (b3 i hi).2.2.2
  · rw [em_wn _ _ (by omega)]; exact d2
  · rw [em_wn _ _ (by omega)]; exact e1
  · rw [em_wn _ _ (by omega)]; exact e2
  · rw [em_wn _ _ (by omega)]; exact e4 i hi
theorem cr_S10 {v : Int32} (hc : 2 < c) (hv : sp_sK (C.2.2.1.1, v)) (l : cr h0 c T sz (a, C) h) : cr h0 c T sz (a, sp_cS C C.2.2.1.1 v) (am_wI h c 10 v) := by
  obtain ⟨l1, ⟨⟨a1, a2, a3⟩, ⟨b1, b2, b3⟩, ⟨d1, d2, d3⟩, ⟨e1, e2, e3, e4⟩⟩, l3, l4⟩ := l
  refine ⟨ct_wI l1 (by omega), ⟨⟨?_, a2, fun i hi => ⟨(a3 i hi).1, ?_, ?_⟩⟩, ⟨?_, b2, fun i hi => ⟨(b3 i hi).1, ?_, ?_, ?_⟩⟩, ⟨?_, em_we _ _ _ _, hv⟩, ⟨?_, ?_, e3, fun i hi => ?_⟩⟩, cq_wI l3 (by omega), l4⟩
  · rw [em_wn _ _ (by omega)]; exact a1
  · rw [em_wn _ _ (by omega)]; exact (a3 i hi).2.1
  · rw [em_wn _ _ (by omega)]; exact (a3 i hi).2.2
  · rw [em_wn _ _ (by omega)]; exact b1
  · rw [em_wn _ _ (by omega)]; exact (b3 i hi).2.1
  · rw [em_wn _ _ (by omega)]; exact (b3 i hi).2.2.1
  · rw [em_wn _ _ (by omega)]; exact (b3 i hi).2.2.2
  · rw [em_wn _ _ (by omega)]; exact d1
  · rw [em_wn _ _ (by omega)]; exact e1
  · rw [em_wn _ _ (by omega)]; exact e2
  · rw [em_wn _ _ (by omega)]; exact e4 i hi
theorem cr_L (hc : 2 < c) (l : cr h0 c T sz (a, C) h) : cr h0 c T sz (a, sp_cL C) (am_wI h c 11 1) := by
  obtain ⟨l1, ⟨⟨a1, a2, a3⟩, ⟨b1, b2, b3⟩, ⟨d1, d2, d3⟩, ⟨e1, e2, e3, e4⟩⟩, l3, l4⟩ := l
  refine ⟨ct_wI l1 (by omega), ⟨⟨?_, a2, fun i hi => ⟨(a3 i hi).1, ?_, ?_⟩⟩, ⟨?_, b2, fun i hi => ⟨(b3 i hi).1, ?_, ?_, ?_⟩⟩, ⟨?_, ?_, d3⟩, ⟨em_we _ _ _ _, ?_, e3, fun i hi => ?_⟩⟩, cq_wI l3 (by omega), l4⟩
  · rw [em_wn _ _ (by omega)]; exact a1
  · rw [em_wn _ _ (by omega)]; exact (a3 i hi).2.1
  · rw [em_wn _ _ (by omega)]; exact (a3 i hi).2.2
  · rw [em_wn _ _ (by omega)]; exact b1
  · rw [em_wn _ _ (by omega)]; exact (b3 i hi).2.1
  · rw [em_wn _ _ (by omega)]; exact (b3 i hi).2.2.1
  · rw [em_wn _ _ (by omega)]; exact (b3 i hi).2.2.2
  · rw [em_wn _ _ (by omega)]; exact d1
  · rw [em_wn _ _ (by omega)]; exact d2
  · rw [em_wn _ _ (by omega)]; exact e2
  · rw [em_wn _ _ (by omega)]; exact e4 i hi
theorem sp_fd_lt {f : Nat → Int64} {v : Int64} : ∀ {m i p : Nat}, sp_fd f v m i = some p → i ≤ p ∧ p < i + m ∧ f p = v
  | 0, _, _, e => by cases e
  | m + 1, i, p, e => by
    unfold sp_fd at e
    cases hb : decide (f i = v) with
    | true =>
      rw [hb] at e
      cases e
      exact ⟨Nat.le_refl _, by omega, of_decide_eq_true hb⟩
    | false =>
      rw [hb] at e
      have := sp_fd_lt e
      exact ⟨by omega, by omega, this.2.2⟩
/-- a number, or -1 -/
def sp_o (r : Option Nat) : Int32 := match r with
  | some p => nI p
  | none => Int32.ofInt (-1)
theorem nI_m1 {p : Nat} (hp : p < 100) : ¬ nI p = Int32.ofInt (-1) := by
  intro e
  have e1 := congrArg Int32.toInt e
  rw [nI_toInt (by omega)] at e1
  have e2 : ((Int32.ofInt (-1)).toInt) = -1 := by decide
  omega
theorem fr1_I {h1 : am_H} {v : Int32} (f : fr1 h h1) (ho : ¬ o = 1) (x : h.1 o k = v) : h1.1 o k = v := (f.2 o k ho).1.trans x
theorem fr1_W {h1 : am_H} {v : Int64} (f : fr1 h h1) (ho : ¬ o = 1) (x : cwk v (h.2.1 o k)) : cwk v (h1.2.1 o k) := by
  rw [(f.2 o k ho).2]
  exact x
theorem sp_bit28 {n : Nat} (hn : n < 28) : nI n - nI n / (Int8.ofInt 28).toInt32 * (Int8.ofInt 28).toInt32 = nI n := by
  have key : ∀ n, n < 28 → nI n - nI n / (Int8.ofInt 28).toInt32 * (Int8.ofInt 28).toInt32 = nI n := by decide +kernel
  exact key n hn
