/-! THE REFERENCE'S LINES, EXACTLY -/
theorem sp_bit_tg {x : Int32} {m : Nat} (hm : m < 28) : sp_bit x (nI m) = (bN x).testBit m := by
  have k0 : ∀ m, m < 28 → ((nI m &&& 31).toBitVec.smod 32).toNat = m := by decide +kernel
  have e : sp_bit x (nI m) = (bN (x >>> (nI m &&& 31))).testBit 0 := by
    have e1 : bN ((x >>> (nI m &&& 31)) &&& Int32.ofInt 1) = bN (x >>> (nI m &&& 31)) % 2 := by
      rw [bN_and, show bN (Int32.ofInt 1) = 1 from rfl, Nat.and_one_is_mod]
    unfold sp_bit
    rw [Nat.testBit_zero]
    rcases and1 (x >>> (nI m &&& 31)) with w | w
    · rw [w] at e1 ⊢
      have e2 : bN (x >>> (nI m &&& 31)) % 2 = 0 := e1.symm
      rw [e2]
      rfl
    · rw [w] at e1 ⊢
      have e2 : bN (x >>> (nI m &&& 31)) % 2 = 1 := e1.symm
      rw [e2]
      rfl
  rw [e]
  show (x >>> (nI m &&& 31)).toBitVec.getLsbD 0 = x.toBitVec.getLsbD m
  rw [Int32.toBitVec_shiftRight]
  show (x.toBitVec.sshiftRight ((nI m &&& 31).toBitVec.smod 32).toNat).getLsbD 0 = _
  rw [k0 m hm, BitVec.getLsbD_sshiftRight, if_pos (by omega)]
  rfl
theorem bN_1s {i : Nat} (hi : i < 28) : bN ((Int32.ofInt 1) <<< (nI i &&& 31)) = 2 ^ i := by
  have key : ∀ i, i < 28 → bN ((Int32.ofInt 1) <<< (nI i &&& 31)) = 2 ^ i := by decide +kernel
  exact key i hi
theorem bit_or {x : Int32} {i j : Nat} (hi : i < 28) (hj : j < 28) : sp_bit (x ||| ((Int32.ofInt 1) <<< (nI i &&& 31))) (nI j) = (sp_bit x (nI j) || decide (i = j)) := by
  rw [sp_bit_tg hj, sp_bit_tg hj, bN_or, Nat.testBit_or, bN_1s hi, Nat.testBit_two_pow]
theorem tbN_or {n D : Nat} (e : n.testBit D = false) : ∀ m, tbN (n ||| 2 ^ D) m = tbN n m + (if D < m then 1 else 0)
  | 0 => rfl
  | m + 1 => by
    show tbN (n ||| 2 ^ D) m + ((n ||| 2 ^ D).testBit m).toNat = tbN n m + (n.testBit m).toNat + _
    rw [tbN_or e m, Nat.testBit_or, Nat.testBit_two_pow]
    by_cases h1 : D = m
    · rw [decide_eq_true h1, ← h1, e, if_neg (Nat.lt_irrefl D), if_pos (Nat.lt_succ_self D)]
      rfl
    · rw [decide_eq_false h1, Bool.or_false]
      by_cases h2 : D < m
      · rw [if_pos h2, if_pos (by omega)]
        omega
      · rw [if_neg h2, if_neg (by omega)]
        omega
theorem pc_or {x : Int32} {D : Nat} (hx : sp_28 x) (hD : D < 28) (e : sp_bit x (nI D) = false) : sp_pc (x ||| ((Int32.ofInt 1) <<< (nI D &&& 31))) 28 = sp_pc x 28 + 1 := by
  rw [sp_pc_tb hx 28 (Nat.le_refl _), sp_pc_tb (sp_28_or hx hD) 28 (Nat.le_refl _), bN_or, bN_1s hD, tbN_or (by rw [← sp_bit_tg hD]; exact e), if_pos hD]
theorem rb2_0 (x y : Bool) : (((rb2 x y) >>> ((nI 0) &&& 31)) &&& Int32.ofInt 1 = Int32.ofInt 1) = (x = true) := by
  cases x <;> cases y <;> decide
theorem rb2_1 (x y : Bool) : (((rb2 x y) >>> ((nI 1) &&& 31)) &&& Int32.ofInt 1 = Int32.ofInt 1) = (y = true) := by
  cases x <;> cases y <;> decide
theorem rb2_s (x y : Bool) : (rb2 x y) ||| ((Int32.ofInt 1) <<< ((nI 0) &&& 31)) = rb2 true y := by
  cases x <;> cases y <;> decide
theorem rb2_g (x y : Bool) : (rb2 x y) ||| ((Int32.ofInt 1) <<< ((nI 1) &&& 31)) = rb2 x true := by
  cases x <;> cases y <;> decide
def rz (C : sp_C) : Nat := bif C.2.2.2.1 then 1 else 0
section
variable {h h0 : am_H} {z N a : Nat} {τ : sp_T} {C : sp_C} {v : Int64} {x y k : Int32}
theorem rr_P1 (l : rr h0 z τ N (a, sp_cP C v x y) h) : rr h0 z τ N (a, sp_cP C v k y) (am_wI h 160 (44 + 3 * C.1.1) k) := by
  obtain ⟨⟨l1, l2, l3⟩, ⟨⟨p1, p2, p3⟩, c2, c3, c4, c5, c6, c7⟩, l5, l6⟩ := l
  have p2 : C.1.1 + 1 ≤ 6 := p2
  refine ⟨⟨rt_w (by omega) l1, ⟨?_, l2.2⟩, ?_⟩, ⟨⟨?_, p2, fun i hi => ?_⟩, rcE_w (by omega) c2, rcB_w (by omega) c3, rcS_w (by omega) c4, rcO_w (by omega) c5, rcL_w (by omega) c6, rcN_w (by omega) c7⟩, rq_w (by unfold r_in; omega) l5, l6⟩
  · rw [em_wn _ _ (by omega)]; exact l2.1
  · rw [em_wn _ _ (by omega)]; exact l3
  · rw [em_wn _ _ (by omega)]; exact p1
  · have hi : i < C.1.1 + 1 := hi
    have hh := p3 i hi
    have h1 : h.1 160 (44 + 3 * i) = (if i = C.1.1 then x else C.1.2.2.1 i) := hh.1
    have h2 : h.1 160 (45 + 3 * i) = (if i = C.1.1 then y else C.1.2.2.2 i) := hh.2
    show _ = (if i = C.1.1 then k else C.1.2.2.1 i) ∧ _ = (if i = C.1.1 then y else C.1.2.2.2 i)
    rw [em_wn (o' := 160) (k' := 45 + 3 * i) _ _ (by omega), h2]
    by_cases ei : i = C.1.1
    · rw [if_pos ei, ei, em_we]
      exact ⟨rfl, rfl⟩
    · rw [if_neg ei, em_wn _ _ (by omega), h1, if_neg ei]
      exact ⟨rfl, rfl⟩
theorem rr_P2 (l : rr h0 z τ N (a, sp_cP C v x y) h) : rr h0 z τ N (a, sp_cP C v x k) (am_wI h 160 (45 + 3 * C.1.1) k) := by
  obtain ⟨⟨l1, l2, l3⟩, ⟨⟨p1, p2, p3⟩, c2, c3, c4, c5, c6, c7⟩, l5, l6⟩ := l
  have p2 : C.1.1 + 1 ≤ 6 := p2
  refine ⟨⟨rt_w (by omega) l1, ⟨?_, l2.2⟩, ?_⟩, ⟨⟨?_, p2, fun i hi => ?_⟩, rcE_w (by omega) c2, rcB_w (by omega) c3, rcS_w (by omega) c4, rcO_w (by omega) c5, rcL_w (by omega) c6, rcN_w (by omega) c7⟩, rq_w (by unfold r_in; omega) l5, l6⟩
  · rw [em_wn _ _ (by omega)]; exact l2.1
  · rw [em_wn _ _ (by omega)]; exact l3
  · rw [em_wn _ _ (by omega)]; exact p1
  · have hi : i < C.1.1 + 1 := hi
    have hh := p3 i hi
    have h1 : h.1 160 (44 + 3 * i) = (if i = C.1.1 then x else C.1.2.2.1 i) := hh.1
    have h2 : h.1 160 (45 + 3 * i) = (if i = C.1.1 then y else C.1.2.2.2 i) := hh.2
    show _ = (if i = C.1.1 then x else C.1.2.2.1 i) ∧ _ = (if i = C.1.1 then k else C.1.2.2.2 i)
    rw [em_wn (o' := 160) (k' := 44 + 3 * i) _ _ (by omega), h1]
    by_cases ei : i = C.1.1
    · rw [if_pos ei, if_pos ei, ei, em_we]
      exact ⟨rfl, rfl⟩
    · rw [if_neg ei, if_neg ei, em_wn _ _ (by omega), h2, if_neg ei]
      exact ⟨rfl, rfl⟩
theorem rr_E1 (l : rr h0 z τ N (a, sp_cE C v x y) h) : rr h0 z τ N (a, sp_cE C v k y) (am_wI h 160 (62 + 2 * C.2.1.1) k) := by
  obtain ⟨⟨l1, l2, l3⟩, ⟨c1, ⟨p1, p2, p3⟩, c3, c4, c5, c6, c7⟩, l5, l6⟩ := l
  have p2 : C.2.1.1 + 1 ≤ 5 := p2
  refine ⟨⟨rt_w (by omega) l1, ⟨?_, l2.2⟩, ?_⟩, ⟨rcP_w (by omega) c1, ⟨?_, p2, fun i hi => ?_⟩, rcB_w (C := sp_cE C v k y) (by omega) c3, rcS_w (by omega) c4, rcO_w (by omega) c5, rcL_w (by omega) c6, rcN_w (by omega) c7⟩, rq_w (by unfold r_in; omega) l5, l6⟩
  · rw [em_wn _ _ (by omega)]; exact l2.1
  · rw [em_wn _ _ (by omega)]; exact l3
  · rw [em_wn _ _ (by omega)]; exact p1
  · have hi : i < C.2.1.1 + 1 := hi
    have hh := p3 i hi
    have h1 : h.1 160 (62 + 2 * i) = (if i = C.2.1.1 then x else C.2.1.2.2.1 i) := hh.1
    have h2 : h.1 160 (63 + 2 * i) = (if i = C.2.1.1 then y else C.2.1.2.2.2.1 i) := hh.2
    show _ = (if i = C.2.1.1 then k else C.2.1.2.2.1 i) ∧ _ = (if i = C.2.1.1 then y else C.2.1.2.2.2.1 i)
    rw [em_wn (o' := 160) (k' := 63 + 2 * i) _ _ (by omega), h2]
    by_cases ei : i = C.2.1.1
    · rw [if_pos ei, ei, em_we]
      exact ⟨rfl, rfl⟩
    · rw [if_neg ei, em_wn _ _ (by omega), h1, if_neg ei]
      exact ⟨rfl, rfl⟩
theorem rr_E2 (l : rr h0 z τ N (a, sp_cE C v x y) h) : rr h0 z τ N (a, sp_cE C v x k) (am_wI h 160 (63 + 2 * C.2.1.1) k) := by
  obtain ⟨⟨l1, l2, l3⟩, ⟨c1, ⟨p1, p2, p3⟩, c3, c4, c5, c6, c7⟩, l5, l6⟩ := l
  have p2 : C.2.1.1 + 1 ≤ 5 := p2
  refine ⟨⟨rt_w (by omega) l1, ⟨?_, l2.2⟩, ?_⟩, ⟨rcP_w (by omega) c1, ⟨?_, p2, fun i hi => ?_⟩, rcB_w (C := sp_cE C v x k) (by omega) c3, rcS_w (by omega) c4, rcO_w (by omega) c5, rcL_w (by omega) c6, rcN_w (by omega) c7⟩, rq_w (by unfold r_in; omega) l5, l6⟩
  · rw [em_wn _ _ (by omega)]; exact l2.1
  · rw [em_wn _ _ (by omega)]; exact l3
  · rw [em_wn _ _ (by omega)]; exact p1
  · have hi : i < C.2.1.1 + 1 := hi
    have hh := p3 i hi
    have h1 : h.1 160 (62 + 2 * i) = (if i = C.2.1.1 then x else C.2.1.2.2.1 i) := hh.1
    have h2 : h.1 160 (63 + 2 * i) = (if i = C.2.1.1 then y else C.2.1.2.2.2.1 i) := hh.2
    show _ = (if i = C.2.1.1 then x else C.2.1.2.2.1 i) ∧ _ = (if i = C.2.1.1 then k else C.2.1.2.2.2.1 i)
    rw [em_wn (o' := 160) (k' := 62 + 2 * i) _ _ (by omega), h1]
    by_cases ei : i = C.2.1.1
    · rw [if_pos ei, if_pos ei, ei, em_we]
      exact ⟨rfl, rfl⟩
    · rw [if_neg ei, if_neg ei, em_wn _ _ (by omega), h2, if_neg ei]
      exact ⟨rfl, rfl⟩
theorem rr_G {e p : Nat} (l : rr h0 z τ N (a, C) h) (he : e < C.2.1.1) (hp : p < C.1.1) : rr h0 z τ N (a, sp_cG C e p) (am_wI h 160 (46 + 3 * p) (h.1 160 (46 + 3 * p) ||| ((Int32.ofInt 1) <<< (nI e &&& 31)))) := by
  obtain ⟨⟨l1, l2, l3⟩, ⟨c1, c2, c3, c4, c5, c6, c7⟩, l5, l6⟩ := l
  have p6 : C.1.1 ≤ 6 := c1.2.1
  have e5 : C.2.1.1 ≤ 5 := c2.2.1
  refine ⟨⟨rt_w (by omega) l1, ⟨?_, l2.2⟩, ?_⟩, ⟨rcP_w (by omega) c1, rcE_w (C := sp_cG C e p) (by omega) c2, fun p' e' hp' he' => ?_, rcS_w (by omega) c4, rcO_w (by omega) c5, rcL_w (by omega) c6, rcN_w (by omega) c7⟩, rq_w (by unfold r_in; omega) l5, l6⟩
  · rw [em_wn _ _ (by omega)]; exact l2.1
  · rw [em_wn _ _ (by omega)]; exact l3
  · have wb : bN ((am_wI h 160 (46 + 3 * p) (h.1 160 (46 + 3 * p) ||| ((Int32.ofInt 1) <<< (nI e &&& 31)))).1 160 (46 + 3 * p')) < 32 := by
      by_cases ep : p' = p
      · rw [ep, em_we, bN_or, bN_1s (by omega)]
        exact Nat.or_lt_two_pow (n := 5) (c3 p e (by omega) (by omega)).2 (Nat.pow_lt_pow_right (by decide) (by omega))
      · rw [em_wn _ _ (by omega)]
        exact (c3 p' e' hp' he').2
    refine ⟨?_, wb⟩
    show _ = (decide (e' < C.2.1.1) && sp_bit (if e' = e then C.2.1.2.2.2.2 e ||| ((Int32.ofInt 1) <<< (nI p &&& 31)) else C.2.1.2.2.2.2 e') (nI p'))
    have w : sp_bit (h.1 160 (46 + 3 * p')) (nI e') = (decide (e' < C.2.1.1) && sp_bit (C.2.1.2.2.2.2 e') (nI p')) := (c3 p' e' hp' he').1
    by_cases ep : p' = p
    · rw [ep, em_we, bit_or (by omega) (by omega)]
      rw [ep] at w
      rw [w]
      by_cases ee : e' = e
      · rw [if_pos ee, ee, bit_or (by omega) (by omega), decide_eq_true (rfl : e = e), decide_eq_true (rfl : p = p), decide_eq_true he]
        simp only [Bool.or_true, Bool.true_and]
      · rw [if_neg ee, decide_eq_false (fun q : e = e' => ee q.symm), Bool.or_false]
    · rw [em_wn _ _ (by omega), w]
      by_cases ee : e' = e
      · rw [if_pos ee, ee, bit_or (by omega) (by omega), decide_eq_false (fun q : p = p' => ep q.symm), Bool.or_false]
      · rw [if_neg ee]
theorem rr_S (hv : sp_sK (C.2.2.1.1, k)) (l : rr h0 z τ N (a, C) h) : rr h0 z τ N (a, sp_cS C C.2.2.1.1 k) (am_wI h 160 42 k) := by
  obtain ⟨⟨l1, l2, l3⟩, ⟨c1, c2, c3, c4, c5, c6, c7⟩, l5, l6⟩ := l
  refine ⟨⟨rt_w (by omega) l1, ⟨?_, l2.2⟩, ?_⟩, ⟨rcP_w (by omega) c1, rcE_w (by omega) c2, rcB_w (by omega) c3, ⟨em_we _ _ _ _, hv⟩, rcO_w (C := sp_cS C C.2.2.1.1 k) (by omega) c5, rcL_w (by omega) c6, rcN_w (by omega) c7⟩, rq_w (by unfold r_in; omega) l5, l6⟩
  · rw [em_wn _ _ (by omega)]; exact l2.1
  · rw [em_wn _ _ (by omega)]; exact l3
theorem rr_sn1 (l : rr h0 z τ N (a, C) h) (hn : ¬ (τ a).1 = 0) : rr h0 z τ N (a + 1, sp_cS C true C.2.2.1.2) (am_wI (am_wI h 154 20 (rb2 true C.2.2.2.1)) 154 7 (nI (a + 1))) := by
  have h1 := r_lt l hn
  obtain ⟨⟨l1, l2, l3⟩, ⟨c1, c2, c3, c4, c5, c6, c7⟩, l5, l6⟩ := l
  refine ⟨⟨rt_w (by omega) (rt_w (by omega) l1), ⟨em_we _ _ _ _, h1⟩, ?_⟩, ⟨rcP_w (by omega) (rcP_w (by omega) c1), rcE_w (by omega) (rcE_w (by omega) c2), rcB_w (by omega) (rcB_w (by omega) c3), rcS_w (by omega) (rcS_w (by omega) (show rcS (sp_cS C true C.2.2.1.2) h from ⟨c4.1, fun q => (by cases q), c4.2.2⟩)), ?_, rcL_w (by omega) (rcL_w (by omega) c6), rcN_w (by omega) (rcN_w (by omega) c7)⟩, rq_w (by unfold r_in; omega) (rq_w (by unfold r_in; omega) l5), Nat.le_succ_of_le l6⟩
  · rw [em_wn _ _ (by omega), em_wn _ _ (by omega)]; exact l3
  · show (am_wI (am_wI h 154 20 (rb2 true C.2.2.2.1)) 154 7 (nI (a + 1))).1 154 20 = rb2 true C.2.2.2.1
    rw [em_wn _ _ (by omega), em_we]
theorem rr_go1 (l : rr h0 0 τ N (a, C) h) (hn : ¬ (τ a).1 = 0) (ht : C.2.2.2.1 = false) : rr h0 0 τ N (a + 1, sp_cL C) (am_wI (am_wI (am_wI h 154 20 (rb2 C.2.2.1.1 true)) 154 7 (nI (a + 1))) 160 43 (nI 0)) := by
  have h1 := r_lt l hn
  obtain ⟨⟨l1, l2, l3⟩, ⟨c1, c2, c3, c4, c5, ⟨d1, d2, d3, d4, d5⟩, c7⟩, l5, l6⟩ := l
  refine ⟨⟨rt_w (by omega) (rt_w (by omega) (rt_w (by omega) l1)), ⟨?_, h1⟩, ?_⟩, ⟨rcP_w (by omega) (rcP_w (by omega) (rcP_w (by omega) c1)), rcE_w (by omega) (rcE_w (by omega) (rcE_w (by omega) c2)), rcB_w (by omega) (rcB_w (by omega) (rcB_w (by omega) c3)), rcS_w (by omega) (rcS_w (by omega) (rcS_w (by omega) c4)), ?_, ⟨?_, fun j hj => ?_, fun q => absurd q (by decide), fun q => (by cases q), em_we _ _ _ _⟩, rcN_w (by omega) (rcN_w (by omega) (rcN_w (by omega) c7))⟩, rq_w (by unfold r_in; omega) (rq_w (by unfold r_in; omega) (rq_w (by unfold r_in; omega) l5)), Nat.le_succ_of_le l6⟩
  · rw [em_wn _ _ (by omega), em_we]
  · rw [em_wn _ _ (by omega), em_wn _ _ (by omega), em_wn _ _ (by omega)]; exact l3
  · show (am_wI (am_wI (am_wI h 154 20 (rb2 C.2.2.1.1 true)) 154 7 (nI (a + 1))) 160 43 (nI 0)).1 154 20 = rb2 C.2.2.1.1 true
    rw [em_wn _ _ (by omega), em_wn _ _ (by omega), em_we]
  · rw [em_wn _ _ (by omega), em_wn _ _ (by omega), em_wn _ _ (by omega)]; exact d1
  · rw [em_wn _ _ (by omega), em_wn _ _ (by omega), em_wn _ _ (by omega), em_wn _ _ (by omega), em_wn _ _ (by omega), em_wn _ _ (by omega)]; exact d2 j hj
end
/-! lines without their sign -/
def sq_person (τ : sp_T) (s : sp_S) : sp_R := bif Nat.ble 6 s.2.1.1 then sp_f τ s.1 (Int32.ofInt 5) else
  sp_b (sp_fn τ (s.1 + 1, s.2)) fun s1 => match sp_kd τ (s1.1 + 1) with
    | none => sp_f τ (s1.1 + 1) (Int32.ofInt 1)
    | some k => sp_b (sp_tW τ 17003 (s1.1 + 1 + 1, s1.2)) fun s2 => sp_b (sp_tN τ (Int32.ofInt 0) (Int32.ofInt 4) s2) fun s3 => .inr (s3.1 + 1, sp_cP s3.2 (τ s1.1).2.1 k (sp_v τ s3.1))
def sq_event (τ : sp_T) (s : sp_S) : sp_R := bif Nat.ble 5 s.2.2.1.1 then sp_f τ s.1 (Int32.ofInt 5) else
  sp_b (sp_fn τ (s.1 + 1, s.2)) fun s1 => sp_b (sp_tW τ 569 (s1.1 + 1, s1.2)) fun s2 => sp_b (sp_tN τ (Int32.ofInt 0) (Int8.ofInt 6).toInt32 s2) fun s3 => sp_b (sp_tW τ 26498531 (s3.1 + 1, s3.2)) fun s4 => sp_b (sp_tN τ (Int32.ofInt 1) (Int8.ofInt 6).toInt32 s4) fun s5 => .inr (s5.1 + 1, sp_cE s5.2 (τ s1.1).2.1 (sp_v τ s3.1) (sp_v τ s5.1))
def sq_comes (τ : sp_T) (s : sp_S) : sp_R := bif sp_n τ (s.1 + 1) then (match sp_pf s.2 (τ (s.1 + 1)).2.1 with
    | none => sp_f τ (s.1 + 1) (Int32.ofInt 2)
    | some p => bif sp_n τ (s.1 + 1 + 1) then (match sp_ef s.2 (τ (s.1 + 1 + 1)).2.1 with
        | none => sp_f τ (s.1 + 1 + 1) (Int32.ofInt 2)
        | some e => bif sp_bit (s.2.2.1.2.2.2.2 e) (nI p) then sp_f τ (s.1 + 1 + 1) (Int32.ofInt 3) else .inr (s.1 + 1 + 1 + 1, sp_cG s.2 e p)) else sp_f τ (s.1 + 1 + 1) (Int32.ofInt 1)) else sp_f τ (s.1 + 1) (Int32.ofInt 1)
def sq_snow (τ : sp_T) (s : sp_S) : sp_R := bif s.2.2.2.1.1 then sp_f τ s.1 (Int32.ofInt 3) else sp_b (sp_sd τ (s.1 + 1, sp_cS s.2 true s.2.2.2.1.2)) fun s1 => sp_sl τ 1001 s1
def sq_goes (τ : sp_T) (s : sp_S) : sp_R := bif s.2.2.2.2.1 then sp_f τ s.1 (Int32.ofInt 3) else sp_wh τ (sp_pt τ 5) (s.1 + 1, sp_cL s.2)
def sq_once (τ : sp_T) (s : sp_S) : sp_R := bif sp_w τ s.1 982151 then sq_snow τ s else bif sp_w τ s.1 375310 then sq_goes τ s else sp_f τ s.1 (Int32.ofInt 1)
def sq_line (τ : sp_T) (s : sp_S) : sp_R := bif sp_w τ s.1 1119812451 then sq_person τ s else bif sp_w τ s.1 10492554 then sq_event τ s else bif sp_w τ s.1 6400279 then sq_comes τ s else sq_once τ s
theorem sp_b_as (r : sp_R) (f g : sp_S → sp_R) : sp_b (sp_b r f) g = sp_b r (fun s => sp_b (f s) g) := by
  cases r with
  | inl F => rfl
  | inr s => rfl
theorem sq_ok (τ : sp_T) (s : sp_S) : sp_line τ s = sp_b (sq_line τ s) (sp_tS τ (Int8.ofInt 59).toInt32) := by
  unfold sp_line sq_line
  cases sp_w τ s.1 1119812451 with
  | true =>
    show sp_person τ s = sp_b (sq_person τ s) _
    unfold sp_person sq_person
    cases Nat.ble 6 s.2.1.1 with
    | true => rfl
    | false =>
      show sp_b _ _ = sp_b (sp_b _ _) _
      rw [sp_b_as]
      cases sp_fn τ (s.1 + 1, s.2) with
      | inl F => rfl
      | inr s1 =>
        show (match sp_kd τ (s1.1 + 1) with
          | none => sp_f τ (s1.1 + 1) (Int32.ofInt 1)
          | some k => sp_b (sp_tW τ 17003 (s1.1 + 1 + 1, s1.2)) fun s2 => sp_b (sp_tN τ (Int32.ofInt 0) (Int32.ofInt 4) s2) fun s3 => sp_tS τ (Int8.ofInt 59).toInt32 (s3.1 + 1, sp_cP s3.2 (τ s1.1).2.1 k (sp_v τ s3.1))) = sp_b (match sp_kd τ (s1.1 + 1) with
          | none => sp_f τ (s1.1 + 1) (Int32.ofInt 1)
          | some k => sp_b (sp_tW τ 17003 (s1.1 + 1 + 1, s1.2)) fun s2 => sp_b (sp_tN τ (Int32.ofInt 0) (Int32.ofInt 4) s2) fun s3 => .inr (s3.1 + 1, sp_cP s3.2 (τ s1.1).2.1 k (sp_v τ s3.1))) _
        cases sp_kd τ (s1.1 + 1) with
        | none => rfl
        | some k =>
          show sp_b _ _ = sp_b (sp_b _ _) _
          rw [sp_b_as]
          cases sp_tW τ 17003 (s1.1 + 1 + 1, s1.2) with
          | inl F => rfl
          | inr s2 =>
            show sp_b _ _ = sp_b (sp_b _ _) _
            rw [sp_b_as]
            rfl
  | false =>
    cases sp_w τ s.1 10492554 with
    | true =>
      show sp_event τ s = sp_b (sq_event τ s) _
      unfold sp_event sq_event
      cases Nat.ble 5 s.2.2.1.1 with
      | true => rfl
      | false =>
        show sp_b _ _ = sp_b (sp_b _ _) _
        simp only [sp_b_as]
        rfl
    | false =>
      cases sp_w τ s.1 6400279 with
      | true =>
        show sp_comes τ s = sp_b (sq_comes τ s) _
        unfold sp_comes sq_comes
        cases sp_n τ (s.1 + 1) with
        | false => rfl
        | true =>
          cases sp_pf s.2 (τ (s.1 + 1)).2.1 with
          | none => rfl
          | some p =>
            cases sp_n τ (s.1 + 1 + 1) with
            | false => rfl
            | true =>
              cases sp_ef s.2 (τ (s.1 + 1 + 1)).2.1 with
              | none => rfl
              | some e =>
                show (bif sp_bit (s.2.2.1.2.2.2.2 e) (nI p) then _ else _) = sp_b (bif sp_bit (s.2.2.1.2.2.2.2 e) (nI p) then _ else _) _
                cases sp_bit (s.2.2.1.2.2.2.2 e) (nI p) with
                | true => rfl
                | false => rfl
      | false =>
        show _ = sp_b (sq_once τ s) _
        unfold sq_once
        cases sp_w τ s.1 982151 with
        | true =>
          show sp_snow τ s = sp_b (sq_snow τ s) _
          unfold sp_snow sq_snow
          cases s.2.2.2.1.1 with
          | true => rfl
          | false =>
            show sp_b _ _ = sp_b (sp_b _ _) _
            rw [sp_b_as]
        | false =>
          cases sp_w τ s.1 375310 with
          | true =>
            show sp_goes τ s = sp_b (sq_goes τ s) _
            unfold sp_goes sq_goes
            cases s.2.2.2.2.1 with
            | true => rfl
            | false => rfl
          | false => rfl
theorem sp_sd_told {τ : sp_T} {s t : sp_S} (e : sp_sd τ s = .inr t) : t.2.2.2.2 = s.2.2.2.2 := by
  unfold sp_sd at e
  cases h1 : sp_k τ s.1 2 with
  | false => simp only [h1, cond_false, sp_f] at e; cases e
  | true =>
    simp only [h1, cond_true] at e
    cases h2 : sp_in τ s.1 (Int32.ofInt 0) (Int8.ofInt 27).toInt32 with
    | false => simp only [h2, cond_false, sp_f] at e; cases e
    | true =>
      simp only [h2, cond_true] at e
      cases h3 : sp_bit s.2.2.2.1.2 (sp_v τ s.1) with
      | true => simp only [h3, cond_true, sp_f] at e; cases e
      | false =>
        simp only [h3, cond_false] at e
        cases h4 : Nat.ble 8 (sp_pc s.2.2.2.1.2 28) with
        | true => simp only [h4, cond_true, sp_f] at e; cases e
        | false => simp only [h4, cond_false] at e; cases e; rfl
theorem sd_inl {τ : sp_T} {s : sp_S} {F : Int32} (e : sp_tN τ (Int32.ofInt 0) (Int8.ofInt 27).toInt32 s = .inl F) : sp_sd τ s = .inl F := by
  unfold sp_tN at e
  unfold sp_sd
  cases h1 : sp_k τ s.1 2 with
  | false => simp only [h1, cond_false] at e ⊢; exact e
  | true =>
    simp only [h1, cond_true] at e ⊢
    cases h2 : sp_in τ s.1 (Int32.ofInt 0) (Int8.ofInt 27).toInt32 with
    | false => simp only [h2, cond_false] at e ⊢; exact e
    | true => simp only [h2, cond_true] at e; cases e
theorem sp_sl_told {τ : sp_T} : ∀ {m : Nat} {s t : sp_S}, sp_sl τ m s = .inr t → t.2.2.2.2 = s.2.2.2.2
  | 0, s, t, e => by cases e; rfl
  | m + 1, s, t, e => by
    unfold sp_sl at e
    cases h1 : sp_k τ s.1 2 with
    | false => simp only [h1, cond_false] at e; cases e; rfl
    | true =>
      simp only [h1, cond_true] at e
      obtain ⟨u, e1, e2⟩ := sp_b_inr e
      exact (sp_sl_told e2).trans (sp_sd_told e1)
theorem r_cg_W {τ : sp_T} {w : Int64} {a : Nat} {C D : sp_C} (e : sp_tW τ w (a, C) = .inr (a + 1, C)) : sp_tW τ w (a, D) = .inr (a + 1, D) := by
  unfold sp_tW at e ⊢
  cases h1 : sp_w τ a w with
  | true => simp only [h1, cond_true]
  | false => simp only [h1, cond_false, sp_f] at e; cases e
theorem r_cg_N {τ : sp_T} {lo hi : Int32} {a : Nat} {C D : sp_C} (e : sp_tN τ lo hi (a, C) = .inr (a, C)) : sp_tN τ lo hi (a, D) = .inr (a, D) := by
  unfold sp_tN at e ⊢
  cases h1 : sp_k τ a 2 with
  | false => simp only [h1, cond_false, sp_f] at e; cases e
  | true =>
    simp only [h1, cond_true] at e ⊢
    cases h2 : sp_in τ a lo hi with
    | false => simp only [h2, cond_false, sp_f] at e; cases e
    | true => simp only [h2, cond_true]
theorem r_cg_B {τ : sp_T} {w : Int64} {lo hi F : Int32} {a : Nat} {C D : sp_C} (e : sp_b (sp_tW τ w (a, C)) (sp_tN τ lo hi) = .inl F) (f : sp_S → sp_R) : sp_b (sp_tW τ w (a, D)) (fun s => sp_b (sp_tN τ lo hi s) f) = .inl F := by
  unfold sp_tW at e ⊢
  cases h1 : sp_w τ a w with
  | false => simp only [h1, cond_false, sp_f, sp_b] at e ⊢; exact e
  | true =>
    simp only [h1, cond_true, sp_b] at e ⊢
    unfold sp_tN at e ⊢
    cases h2 : sp_k τ (a + 1) 2 with
    | false => simp only [h2, cond_false, sp_f] at e ⊢; exact e
    | true =>
      simp only [h2, cond_true] at e ⊢
      cases h3 : sp_in τ (a + 1) lo hi with
      | false => simp only [h3, cond_false, sp_f] at e ⊢; exact e
      | true => simp only [h3, cond_true] at e; cases e
theorem pn_B {τ : sp_T} {s : sp_S} {F k : Int32} {C : sp_C} (e0 : Nat.ble 6 s.2.1.1 = false) (e1 : sp_fn τ (s.1 + 1, s.2) = .inr (s.1 + 1, s.2)) (ek : sp_kd τ (s.1 + 1 + 1) = some k) (eB : sp_b (sp_tW τ 17003 (s.1 + 1 + 1 + 1, C)) (sp_tN τ (Int32.ofInt 0) (Int32.ofInt 4)) = .inl F) : sq_person τ s = .inl F := by
  unfold sq_person
  rw [e0]
  show sp_b (sp_fn τ (s.1 + 1, s.2)) _ = _
  rw [e1]
  show (match sp_kd τ (s.1 + 1 + 1) with
    | none => _
    | some k => _) = _
  rw [ek]
  exact r_cg_B eB _
theorem ev_B1 {τ : sp_T} {s : sp_S} {F : Int32} {C : sp_C} (e0 : Nat.ble 5 s.2.2.1.1 = false) (e1 : sp_fn τ (s.1 + 1, s.2) = .inr (s.1 + 1, s.2)) (eB : sp_b (sp_tW τ 569 (s.1 + 1 + 1, C)) (sp_tN τ (Int32.ofInt 0) (Int8.ofInt 6).toInt32) = .inl F) : sq_event τ s = .inl F := by
  unfold sq_event
  rw [e0]
  show sp_b (sp_fn τ (s.1 + 1, s.2)) _ = _
  rw [e1]
  exact r_cg_B eB _
theorem ev_B2 {τ : sp_T} {s : sp_S} {F : Int32} {C D E : sp_C} (e0 : Nat.ble 5 s.2.2.1.1 = false) (e1 : sp_fn τ (s.1 + 1, s.2) = .inr (s.1 + 1, s.2)) (e2 : sp_tW τ 569 (s.1 + 1 + 1, D) = .inr (s.1 + 1 + 1 + 1, D)) (e3 : sp_tN τ (Int32.ofInt 0) (Int8.ofInt 6).toInt32 (s.1 + 1 + 1 + 1, E) = .inr (s.1 + 1 + 1 + 1, E)) (eB : sp_b (sp_tW τ 26498531 (s.1 + 1 + 1 + 1 + 1, C)) (sp_tN τ (Int32.ofInt 1) (Int8.ofInt 6).toInt32) = .inl F) : sq_event τ s = .inl F := by
  unfold sq_event
  rw [e0]
  show sp_b (sp_fn τ (s.1 + 1, s.2)) _ = _
  rw [e1]
  show sp_b (sp_tW τ 569 (s.1 + 1 + 1, s.2)) _ = _
  rw [r_cg_W e2]
  show sp_b (sp_tN τ (Int32.ofInt 0) (Int8.ofInt 6).toInt32 (s.1 + 1 + 1 + 1, s.2)) _ = _
  rw [r_cg_N e3]
  exact r_cg_B eB _
theorem nI_mul (a b : Nat) : nI a * nI b = nI (a * b) := by
  have e : ∀ n, bN (nI n) = n % 4294967296 := fun n => by
    show (BitVec.ofNat 32 n).toNat = _
    rw [BitVec.toNat_ofNat]
  apply bN_inj
  have e1 : bN (nI a * nI b) = (bN (nI a) * bN (nI b)) % 4294967296 := by
    unfold bN
    rw [Int32.toBitVec_mul, BitVec.toNat_mul]
  rw [e1, e, e, e]
  exact (Nat.mul_mod a b _).symm
theorem cm_i (p : Nat) : (Int8.ofInt 44).toInt32 + Int32.ofInt 3 * nI p + Int32.ofInt 2 = nI (46 + 3 * p) := by
  rw [show Int32.ofInt 3 * nI p = nI (3 * p) from nI_mul 3 _, show (Int8.ofInt 44).toInt32 + nI (3 * p) = nI (44 + 3 * p) from nI_add 44 _, show nI (44 + 3 * p) + Int32.ofInt 2 = nI (44 + 3 * p + 2) from nI_add _ 2]
  congr 1
  omega
theorem rx_160 {h h0 : am_H} {F v : Int32} {c k : Nat} (hk : 40 ≤ k) (x : rx h0 F c h) : rx h0 F c (am_wI h 160 k v) := by
  obtain ⟨x1, ⟨x2, x3⟩, x4, x5⟩ := x
  refine ⟨x1, ⟨?_, x3⟩, ?_, rq_w (by unfold r_in; omega) x5⟩
  · rw [em_wn _ _ (by omega)]; exact x2
  · rw [em_wn _ _ (by omega)]; exact x4
theorem cm_p {τ : sp_T} {s : sp_S} {F : Int32} (e : tq_p τ (s.1 + 1, s.2) = .inl F) : sq_comes τ s = .inl F := by
  unfold tq_p at e
  unfold sq_comes
  cases h1 : sp_n τ (s.1 + 1) with
  | false => simp only [h1, cond_false] at e ⊢; exact e
  | true =>
    simp only [h1, cond_true] at e ⊢
    cases h2 : sp_pf s.2 (τ (s.1 + 1)).2.1 with
    | none => simp only [h2] at e ⊢; exact e
    | some p => simp only [h2] at e; cases e
theorem cm_e {τ : sp_T} {s : sp_S} {F b : Int32} {p : Nat} (e1 : sp_n τ (s.1 + 1) = true) (e2 : sp_pf s.2 (τ (s.1 + 1)).2.1 = some p) (eb : ∀ e, e < s.2.2.1.1 → sp_bit b (nI e) = sp_bit (s.2.2.1.2.2.2.2 e) (nI p)) (e : tq_e τ (s.1 + 1 + 1, s.2) b = .inl F) : sq_comes τ s = .inl F := by
  unfold tq_e at e
  unfold sq_comes
  simp only [e1, cond_true, e2]
  cases h1 : sp_n τ (s.1 + 1 + 1) with
  | false => simp only [h1, cond_false] at e ⊢; exact e
  | true =>
    simp only [h1, cond_true] at e ⊢
    cases h2 : sp_ef s.2 (τ (s.1 + 1 + 1)).2.1 with
    | none => simp only [h2] at e ⊢; exact e
    | some q =>
      simp only [h2] at e ⊢
      have hq := (sp_fd_lt h2).2.1
      rw [eb q (by omega)] at e
      cases h3 : sp_bit (s.2.2.1.2.2.2.2 q) (nI p) with
      | true => simp only [h3, cond_true] at e ⊢; exact e
      | false => simp only [h3, cond_false] at e; cases e
variable {h h0 : am_H} {z N a c n : Nat} {τ : sp_T} {C : sp_C} {s : sp_S} {F : Int32} {Q : am_Q}

theorem r_209b (hn : n ≤ 8) (ht : s.2.2.2.1.1 = true) (en : sp_pc s.2.2.2.1.2 28 = n) (l : rr h0 z τ N s h) (hF : ∀ F h1, sp_sd τ s = .inl F → rx h0 F (s.2.2.2.2.2.1 + z) h1 → Q none h1) (hK : ∀ h1 t, sp_sd τ s = .inr t → sp_pc t.2.2.2.1.2 28 = n + 1 → n + 1 ≤ 8 → rr h0 z τ N t h1 → pz_S 3 none am_r209 2 Q 2 [(1, .int (nI (n + 1))), (2, .int (sp_v τ s.1)), (0, .ref 154)] [] h1) : pz_S 3 none am_r209 2 Q 26 [(1, .int (nI n)), (0, .ref 154)] [] h := by
  have hP := r_P l
  have gl := r_N l
  have hn8 := sp_pc_le s.2.2.2.1.2 28
  have hsK : sp_sK s.2.2.2.1 := l.2.1.2.2.2.1.2
  refine am_goX 4 (show am_rc h 154 11 ∧ 0 ≤ 8 ∧ h.2.2.2.2 + am_al 205 ≤ 175 ∧ am_call am_cod 2 205 [.ref 154, .int (Int32.ofInt 0), .int (Int8.ofInt 27).toInt32] h (fun vv h' => pz_S 3 none am_r209 2 Q 33 [(1, .int (nI n)), (0, .ref 154)] (vv.toList ++ []) h') from ⟨Or.inl ⟨by decide, ex_154 (r_P l)⟩, by decide, ex_lim (r_P l) rfl, am_call.up (r_205 (s := s) l (fun F1 h2 e3 x4 => ?_) (fun h5 e6 l7 => ?_)) (by omega)⟩)
  ·
    have e9 := sd_inl e3
    refine am_goX 6 (show 2 < 3 ∧ (Value.ref 154).category = 1 ∧ am_sh h2 154 = some (11, 0) ∧ am_sh h2 154 = some (11, 0) ∧ pz_S 3 none am_r209 2 Q 43 [(2, .int (Int32.ofInt 0)), (1, .int (nI n)), (0, .ref 154)] [.int (h2.1 154 8), .int (h2.1 154 7), .ref 154] h2 from ⟨by decide, rfl, ex_154 x4.1, ex_154 x4.1, ?_⟩)
    rw [x4.2.1.1]
    refine am_goX 1 (show ((F1) ≤ 0 → pz_S 3 none am_r209 2 Q 50 [(2, .int (Int32.ofInt 0)), (1, .int (nI n)), (0, .ref 154)] [.int (h2.1 154 7), .ref 154] h2) ∧ (¬ ((F1) ≤ 0) → pz_S 3 none am_r209 2 Q 46 [(2, .int (Int32.ofInt 0)), (1, .int (nI n)), (0, .ref 154)] [.int (h2.1 154 7), .ref 154] h2) from ⟨fun hz => absurd hz (rx_le x4), fun _ => ?_⟩)
    refine am_goX 4 (show am_sh h2 154 = some (11, 0) ∧ narrow (am_fty 11 7) (.int (((h2.1 154 7) - (Int32.ofInt 0)))) = .int (((h2.1 154 7) - (Int32.ofInt 0))) ∧ fits (am_fty 11 7) (.int (((h2.1 154 7) - (Int32.ofInt 0)))) = true ∧ pz_S 3 none am_r209 2 Q 55 [(2, .int (Int32.ofInt 0)), (1, .int (nI n)), (0, .ref 154)] [] (am_wI h2 154 7 (((h2.1 154 7) - (Int32.ofInt 0)))) from ⟨ex_154 x4.1, rfl, rfl, ?_⟩)
    have x10 : rx h0 (F1) (s.2.2.2.2.2.1 + z) (am_wI h2 154 7 (((h2.1 154 7) - (Int32.ofInt 0)))) := rx_at x4
    refine am_goX 2 (show am_sh (am_wI h2 154 7 (((h2.1 154 7) - (Int32.ofInt 0)))) 154 = some (11, 0) ∧ pz_S 3 none am_r209 2 Q 59 [(2, .int (Int32.ofInt 0)), (1, .int (nI n)), (0, .ref 154)] [am_rf ((am_wI h2 154 7 (((h2.1 154 7) - (Int32.ofInt 0)))).2.2.1 154 10)] (am_wI h2 154 7 (((h2.1 154 7) - (Int32.ofInt 0)))) from ⟨ex_154 x10.1, ?_⟩)
    rw [ex_r154_10 (h := am_wI h2 154 7 (((h2.1 154 7) - (Int32.ofInt 0)))) x10.1]
    refine am_goX 2 (show ∃ jj nn : Nat, am_sh (am_wI h2 154 7 (((h2.1 154 7) - (Int32.ofInt 0)))) 160 = some (13, nn) ∧ jj < nn ∧ (Int8.ofInt 42).toInt32 = nI jj ∧ pz_S 3 none am_r209 2 Q 62 [(2, .int (Int32.ofInt 0)), (1, .int (nI n)), (0, .ref 154)] [.int ((am_wI h2 154 7 (((h2.1 154 7) - (Int32.ofInt 0)))).1 160 jj)] (am_wI h2 154 7 (((h2.1 154 7) - (Int32.ofInt 0)))) from ⟨42, 80, ex_160 x10.1, (by decide), (by decide), ?_⟩)
    refine am_goX 6 (show (¬ ((((am_wI h2 154 7 (((h2.1 154 7) - (Int32.ofInt 0)))).1 160 42) >>> ((Int32.ofInt 0) &&& 31)) &&& (Int32.ofInt 1)) = (Int32.ofInt 1) → pz_S 3 none am_r209 2 Q 78 [(2, .int (Int32.ofInt 0)), (1, .int (nI n)), (0, .ref 154)] [] (am_wI h2 154 7 (((h2.1 154 7) - (Int32.ofInt 0))))) ∧ (¬ ¬ ((((am_wI h2 154 7 (((h2.1 154 7) - (Int32.ofInt 0)))).1 160 42) >>> ((Int32.ofInt 0) &&& 31)) &&& (Int32.ofInt 1)) = (Int32.ofInt 1) → pz_S 3 none am_r209 2 Q 70 [(2, .int (Int32.ofInt 0)), (1, .int (nI n)), (0, .ref 154)] [] (am_wI h2 154 7 (((h2.1 154 7) - (Int32.ofInt 0))))) from ⟨fun hc => ?_, fun hc => ?_⟩)
    ·
      refine am_goX 3 (show (¬ (nI n) = (Int8.ofInt 8).toInt32 → pz_S 3 none am_r209 2 Q 89 [(2, .int (Int32.ofInt 0)), (1, .int (nI n)), (0, .ref 154)] [] (am_wI h2 154 7 (((h2.1 154 7) - (Int32.ofInt 0))))) ∧ (¬ ¬ (nI n) = (Int8.ofInt 8).toInt32 → pz_S 3 none am_r209 2 Q 84 [(2, .int (Int32.ofInt 0)), (1, .int (nI n)), (0, .ref 154)] [] (am_wI h2 154 7 (((h2.1 154 7) - (Int32.ofInt 0))))) from ⟨fun hc => ?_, fun hc => ?_⟩)
      ·
        refine am_goX 2 (show am_sh (am_wI h2 154 7 (((h2.1 154 7) - (Int32.ofInt 0)))) 154 = some (11, 0) ∧ pz_S 3 none am_r209 2 Q 93 [(2, .int (Int32.ofInt 0)), (1, .int (nI n)), (0, .ref 154)] [.int ((am_wI h2 154 7 (((h2.1 154 7) - (Int32.ofInt 0)))).1 154 8)] (am_wI h2 154 7 (((h2.1 154 7) - (Int32.ofInt 0)))) from ⟨ex_154 x10.1, ?_⟩)
        rw [x10.2.1.1]
        refine am_goX 1 (show (¬ (F1) = 0 → pz_S 3 none am_r209 2 Q 122 [(2, .int (Int32.ofInt 0)), (1, .int (nI n)), (0, .ref 154)] [] (am_wI h2 154 7 (((h2.1 154 7) - (Int32.ofInt 0))))) ∧ (¬ ¬ (F1) = 0 → pz_S 3 none am_r209 2 Q 96 [(2, .int (Int32.ofInt 0)), (1, .int (nI n)), (0, .ref 154)] [] (am_wI h2 154 7 (((h2.1 154 7) - (Int32.ofInt 0))))) from ⟨fun _ => ?_, fun hz => absurd (rx_ne x10) hz⟩)
        refine am_goX 3 (show am_sh (am_wI h2 154 7 (((h2.1 154 7) - (Int32.ofInt 0)))) 154 = some (11, 0) ∧ pz_S 3 none am_r209 2 Q 6 [(2, .int (Int32.ofInt 0)), (1, .int (nI n)), (0, .ref 154)] [.int ((am_wI h2 154 7 (((h2.1 154 7) - (Int32.ofInt 0)))).1 154 8)] (am_wI h2 154 7 (((h2.1 154 7) - (Int32.ofInt 0)))) from ⟨ex_154 x10.1, ?_⟩)
        rw [x10.2.1.1]
        refine am_goX 1 (show (¬ (F1) = 0 → pz_S 3 none am_r209 2 Q 125 [(2, .int (Int32.ofInt 0)), (1, .int (nI n)), (0, .ref 154)] [] (am_wI h2 154 7 (((h2.1 154 7) - (Int32.ofInt 0))))) ∧ (¬ ¬ (F1) = 0 → pz_S 3 none am_r209 2 Q 9 [(2, .int (Int32.ofInt 0)), (1, .int (nI n)), (0, .ref 154)] [] (am_wI h2 154 7 (((h2.1 154 7) - (Int32.ofInt 0))))) from ⟨fun _ => ?_, fun hz => absurd (rx_ne x10) hz⟩)
        exact am_goX 1 (show (none : Option FieldType) = none ∧ (am_wI h2 154 7 (((h2.1 154 7) - (Int32.ofInt 0)))).2.2.2.2 = 175 ∧ _ from ⟨rfl, ex_175 x10.1, hF (F1) _ (e9) x10⟩)
      ·
        refine am_goX 3 (show am_rc (am_wI h2 154 7 (((h2.1 154 7) - (Int32.ofInt 0)))) 154 11 ∧ 0 ≤ 8 ∧ (am_wI h2 154 7 (((h2.1 154 7) - (Int32.ofInt 0)))).2.2.2.2 + am_al 197 ≤ 175 ∧ am_call am_cod 2 197 [.ref 154, .int (Int32.ofInt 5)] (am_wI h2 154 7 (((h2.1 154 7) - (Int32.ofInt 0)))) (fun vv h' => pz_S 3 none am_r209 2 Q 89 [(2, .int (Int32.ofInt 0)), (1, .int (nI n)), (0, .ref 154)] (vv.toList ++ []) h') from ⟨Or.inl ⟨by decide, ex_154 x10.1⟩, by decide, ex_lim x10.1 rfl, am_call.up (d_197 x10 ?_) (by omega)⟩)
        refine am_goX 2 (show am_sh (am_wI h2 154 7 (((h2.1 154 7) - (Int32.ofInt 0)))) 154 = some (11, 0) ∧ pz_S 3 none am_r209 2 Q 93 [(2, .int (Int32.ofInt 0)), (1, .int (nI n)), (0, .ref 154)] [.int ((am_wI h2 154 7 (((h2.1 154 7) - (Int32.ofInt 0)))).1 154 8)] (am_wI h2 154 7 (((h2.1 154 7) - (Int32.ofInt 0)))) from ⟨ex_154 x10.1, ?_⟩)
        rw [x10.2.1.1]
        refine am_goX 1 (show (¬ (F1) = 0 → pz_S 3 none am_r209 2 Q 122 [(2, .int (Int32.ofInt 0)), (1, .int (nI n)), (0, .ref 154)] [] (am_wI h2 154 7 (((h2.1 154 7) - (Int32.ofInt 0))))) ∧ (¬ ¬ (F1) = 0 → pz_S 3 none am_r209 2 Q 96 [(2, .int (Int32.ofInt 0)), (1, .int (nI n)), (0, .ref 154)] [] (am_wI h2 154 7 (((h2.1 154 7) - (Int32.ofInt 0))))) from ⟨fun _ => ?_, fun hz => absurd (rx_ne x10) hz⟩)
        refine am_goX 3 (show am_sh (am_wI h2 154 7 (((h2.1 154 7) - (Int32.ofInt 0)))) 154 = some (11, 0) ∧ pz_S 3 none am_r209 2 Q 6 [(2, .int (Int32.ofInt 0)), (1, .int (nI n)), (0, .ref 154)] [.int ((am_wI h2 154 7 (((h2.1 154 7) - (Int32.ofInt 0)))).1 154 8)] (am_wI h2 154 7 (((h2.1 154 7) - (Int32.ofInt 0)))) from ⟨ex_154 x10.1, ?_⟩)
        rw [x10.2.1.1]
        refine am_goX 1 (show (¬ (F1) = 0 → pz_S 3 none am_r209 2 Q 125 [(2, .int (Int32.ofInt 0)), (1, .int (nI n)), (0, .ref 154)] [] (am_wI h2 154 7 (((h2.1 154 7) - (Int32.ofInt 0))))) ∧ (¬ ¬ (F1) = 0 → pz_S 3 none am_r209 2 Q 9 [(2, .int (Int32.ofInt 0)), (1, .int (nI n)), (0, .ref 154)] [] (am_wI h2 154 7 (((h2.1 154 7) - (Int32.ofInt 0))))) from ⟨fun _ => ?_, fun hz => absurd (rx_ne x10) hz⟩)
        exact am_goX 1 (show (none : Option FieldType) = none ∧ (am_wI h2 154 7 (((h2.1 154 7) - (Int32.ofInt 0)))).2.2.2.2 = 175 ∧ _ from ⟨rfl, ex_175 x10.1, hF (F1) _ (e9) x10⟩)
    ·
      refine am_goX 3 (show am_rc (am_wI h2 154 7 (((h2.1 154 7) - (Int32.ofInt 0)))) 154 11 ∧ 0 ≤ 8 ∧ (am_wI h2 154 7 (((h2.1 154 7) - (Int32.ofInt 0)))).2.2.2.2 + am_al 197 ≤ 175 ∧ am_call am_cod 2 197 [.ref 154, .int (Int32.ofInt 3)] (am_wI h2 154 7 (((h2.1 154 7) - (Int32.ofInt 0)))) (fun vv h' => pz_S 3 none am_r209 2 Q 75 [(2, .int (Int32.ofInt 0)), (1, .int (nI n)), (0, .ref 154)] (vv.toList ++ []) h') from ⟨Or.inl ⟨by decide, ex_154 x10.1⟩, by decide, ex_lim x10.1 rfl, am_call.up (d_197 x10 ?_) (by omega)⟩)
      refine am_goX 3 (show am_sh (am_wI h2 154 7 (((h2.1 154 7) - (Int32.ofInt 0)))) 154 = some (11, 0) ∧ pz_S 3 none am_r209 2 Q 93 [(2, .int (Int32.ofInt 0)), (1, .int (nI n)), (0, .ref 154)] [.int ((am_wI h2 154 7 (((h2.1 154 7) - (Int32.ofInt 0)))).1 154 8)] (am_wI h2 154 7 (((h2.1 154 7) - (Int32.ofInt 0)))) from ⟨ex_154 x10.1, ?_⟩)
      rw [x10.2.1.1]
      refine am_goX 1 (show (¬ (F1) = 0 → pz_S 3 none am_r209 2 Q 122 [(2, .int (Int32.ofInt 0)), (1, .int (nI n)), (0, .ref 154)] [] (am_wI h2 154 7 (((h2.1 154 7) - (Int32.ofInt 0))))) ∧ (¬ ¬ (F1) = 0 → pz_S 3 none am_r209 2 Q 96 [(2, .int (Int32.ofInt 0)), (1, .int (nI n)), (0, .ref 154)] [] (am_wI h2 154 7 (((h2.1 154 7) - (Int32.ofInt 0))))) from ⟨fun _ => ?_, fun hz => absurd (rx_ne x10) hz⟩)
      refine am_goX 3 (show am_sh (am_wI h2 154 7 (((h2.1 154 7) - (Int32.ofInt 0)))) 154 = some (11, 0) ∧ pz_S 3 none am_r209 2 Q 6 [(2, .int (Int32.ofInt 0)), (1, .int (nI n)), (0, .ref 154)] [.int ((am_wI h2 154 7 (((h2.1 154 7) - (Int32.ofInt 0)))).1 154 8)] (am_wI h2 154 7 (((h2.1 154 7) - (Int32.ofInt 0)))) from ⟨ex_154 x10.1, ?_⟩)
      rw [x10.2.1.1]
      refine am_goX 1 (show (¬ (F1) = 0 → pz_S 3 none am_r209 2 Q 125 [(2, .int (Int32.ofInt 0)), (1, .int (nI n)), (0, .ref 154)] [] (am_wI h2 154 7 (((h2.1 154 7) - (Int32.ofInt 0))))) ∧ (¬ ¬ (F1) = 0 → pz_S 3 none am_r209 2 Q 9 [(2, .int (Int32.ofInt 0)), (1, .int (nI n)), (0, .ref 154)] [] (am_wI h2 154 7 (((h2.1 154 7) - (Int32.ofInt 0))))) from ⟨fun _ => ?_, fun hz => absurd (rx_ne x10) hz⟩)
      exact am_goX 1 (show (none : Option FieldType) = none ∧ (am_wI h2 154 7 (((h2.1 154 7) - (Int32.ofInt 0)))).2.2.2.2 = 175 ∧ _ from ⟨rfl, ex_175 x10.1, hF (F1) _ (e9) x10⟩)
  ·
    obtain ⟨-, k8, k9⟩ := sp_tN_inr e6
    refine am_goX 6 (show 2 < 3 ∧ (Value.ref 154).category = 1 ∧ am_sh h5 154 = some (11, 0) ∧ am_sh h5 154 = some (11, 0) ∧ pz_S 3 none am_r209 2 Q 43 [(2, .int (sp_v τ s.1)), (1, .int (nI n)), (0, .ref 154)] [.int (h5.1 154 8), .int (h5.1 154 7), .ref 154] h5 from ⟨by decide, rfl, ex_154 (r_P l7), ex_154 (r_P l7), ?_⟩)
    rw [r_f l7]
    refine am_goX 1 (show (0 ≤ 0 → pz_S 3 none am_r209 2 Q 50 [(2, .int (sp_v τ s.1)), (1, .int (nI n)), (0, .ref 154)] [.int (h5.1 154 7), .ref 154] h5) ∧ (¬ (0 ≤ 0) → pz_S 3 none am_r209 2 Q 46 [(2, .int (sp_v τ s.1)), (1, .int (nI n)), (0, .ref 154)] [.int (h5.1 154 7), .ref 154] h5) from ⟨fun _ => ?_, fun hz => absurd (by decide) hz⟩)
    refine am_goX 3 (show am_sh h5 154 = some (11, 0) ∧ narrow (am_fty 11 7) (.int (((h5.1 154 7) - (Int32.ofInt 1)))) = .int (((h5.1 154 7) - (Int32.ofInt 1))) ∧ fits (am_fty 11 7) (.int (((h5.1 154 7) - (Int32.ofInt 1)))) = true ∧ pz_S 3 none am_r209 2 Q 55 [(2, .int (sp_v τ s.1)), (1, .int (nI n)), (0, .ref 154)] [] (am_wI h5 154 7 (((h5.1 154 7) - (Int32.ofInt 1)))) from ⟨ex_154 (r_P l7), rfl, rfl, ?_⟩)
    rw [r_a l7, show nI (s.1 + 1) - Int32.ofInt 1 = nI s.1 from tk_sub (Nat.le_add_left 1 s.1)]
    have l11 : rr h0 z τ N s (am_wI h5 154 7 (nI s.1)) := rr_at (s := (s.1 + 1, s.2)) (a' := s.1) l7 gl.1 gl.2.2
    refine am_goX 2 (show am_sh (am_wI h5 154 7 (nI s.1)) 154 = some (11, 0) ∧ pz_S 3 none am_r209 2 Q 59 [(2, .int (sp_v τ s.1)), (1, .int (nI n)), (0, .ref 154)] [am_rf ((am_wI h5 154 7 (nI s.1)).2.2.1 154 10)] (am_wI h5 154 7 (nI s.1)) from ⟨ex_154 (r_P l11), ?_⟩)
    rw [ex_r154_10 (h := am_wI h5 154 7 (nI s.1)) (r_P l11)]
    refine am_goX 2 (show ∃ jj nn : Nat, am_sh (am_wI h5 154 7 (nI s.1)) 160 = some (13, nn) ∧ jj < nn ∧ (Int8.ofInt 42).toInt32 = nI jj ∧ pz_S 3 none am_r209 2 Q 62 [(2, .int (sp_v τ s.1)), (1, .int (nI n)), (0, .ref 154)] [.int ((am_wI h5 154 7 (nI s.1)).1 160 jj)] (am_wI h5 154 7 (nI s.1)) from ⟨42, 80, ex_160 (r_P l11), (by decide), (by decide), ?_⟩)
    rw [show (am_wI h5 154 7 (nI s.1)).1 160 42 = s.2.2.2.1.2 from l11.2.1.2.2.2.1.1]
    refine am_goX 5 (show pz_S 3 none am_r209 2 Q 67 [(2, .int (sp_v τ s.1)), (1, .int (nI n)), (0, .ref 154)] [.int (Int32.ofInt 1), .int ((s.2.2.2.1.2 >>> ((sp_v τ s.1) &&& 31)) &&& (Int32.ofInt 1))] (am_wI h5 154 7 (nI s.1)) from ?_)
    cases e4 : sp_bit s.2.2.2.1.2 (sp_v τ s.1) with
    | true =>
      refine am_goX 1 (show (¬ ((s.2.2.2.1.2 >>> ((sp_v τ s.1) &&& 31)) &&& (Int32.ofInt 1)) = (Int32.ofInt 1) → pz_S 3 none am_r209 2 Q 78 [(2, .int (sp_v τ s.1)), (1, .int (nI n)), (0, .ref 154)] [] (am_wI h5 154 7 (nI s.1))) ∧ (¬ ¬ ((s.2.2.2.1.2 >>> ((sp_v τ s.1) &&& 31)) &&& (Int32.ofInt 1)) = (Int32.ofInt 1) → pz_S 3 none am_r209 2 Q 70 [(2, .int (sp_v τ s.1)), (1, .int (nI n)), (0, .ref 154)] [] (am_wI h5 154 7 (nI s.1))) from ⟨fun hz => absurd hz (fun w => w (bit_t e4)), fun _ => ?_⟩)
      refine am_goX 3 (show am_rc (am_wI h5 154 7 (nI s.1)) 154 11 ∧ 0 ≤ 8 ∧ (am_wI h5 154 7 (nI s.1)).2.2.2.2 + am_al 197 ≤ 175 ∧ am_call am_cod 2 197 [.ref 154, .int (Int32.ofInt 3)] (am_wI h5 154 7 (nI s.1)) (fun vv h' => pz_S 3 none am_r209 2 Q 75 [(2, .int (sp_v τ s.1)), (1, .int (nI n)), (0, .ref 154)] (vv.toList ++ []) h') from ⟨Or.inl ⟨by decide, ex_154 (r_P l11)⟩, by decide, ex_lim (r_P l11) rfl, am_call.up (r_197 l11 ?_) (by omega)⟩)
      have x12 : rx h0 (sp_ft τ s.1 (Int32.ofInt 3)) (s.2.2.2.2.2.1 + z) (am_wI (am_wI h5 154 7 (nI s.1)) 154 8 (sp_ft τ s.1 (Int32.ofInt 3))) := rr_x (s := s) l11 (by decide)
      refine am_goX 3 (show am_sh (am_wI (am_wI h5 154 7 (nI s.1)) 154 8 (sp_ft τ s.1 (Int32.ofInt 3))) 154 = some (11, 0) ∧ pz_S 3 none am_r209 2 Q 93 [(2, .int (sp_v τ s.1)), (1, .int (nI n)), (0, .ref 154)] [.int ((am_wI (am_wI h5 154 7 (nI s.1)) 154 8 (sp_ft τ s.1 (Int32.ofInt 3))).1 154 8)] (am_wI (am_wI h5 154 7 (nI s.1)) 154 8 (sp_ft τ s.1 (Int32.ofInt 3))) from ⟨ex_154 x12.1, ?_⟩)
      rw [x12.2.1.1]
      refine am_goX 1 (show (¬ (sp_ft τ s.1 (Int32.ofInt 3)) = 0 → pz_S 3 none am_r209 2 Q 122 [(2, .int (sp_v τ s.1)), (1, .int (nI n)), (0, .ref 154)] [] (am_wI (am_wI h5 154 7 (nI s.1)) 154 8 (sp_ft τ s.1 (Int32.ofInt 3)))) ∧ (¬ ¬ (sp_ft τ s.1 (Int32.ofInt 3)) = 0 → pz_S 3 none am_r209 2 Q 96 [(2, .int (sp_v τ s.1)), (1, .int (nI n)), (0, .ref 154)] [] (am_wI (am_wI h5 154 7 (nI s.1)) 154 8 (sp_ft τ s.1 (Int32.ofInt 3)))) from ⟨fun _ => ?_, fun hz => absurd (rx_ne x12) hz⟩)
      refine am_goX 3 (show am_sh (am_wI (am_wI h5 154 7 (nI s.1)) 154 8 (sp_ft τ s.1 (Int32.ofInt 3))) 154 = some (11, 0) ∧ pz_S 3 none am_r209 2 Q 6 [(2, .int (sp_v τ s.1)), (1, .int (nI n)), (0, .ref 154)] [.int ((am_wI (am_wI h5 154 7 (nI s.1)) 154 8 (sp_ft τ s.1 (Int32.ofInt 3))).1 154 8)] (am_wI (am_wI h5 154 7 (nI s.1)) 154 8 (sp_ft τ s.1 (Int32.ofInt 3))) from ⟨ex_154 x12.1, ?_⟩)
      rw [x12.2.1.1]
      refine am_goX 1 (show (¬ (sp_ft τ s.1 (Int32.ofInt 3)) = 0 → pz_S 3 none am_r209 2 Q 125 [(2, .int (sp_v τ s.1)), (1, .int (nI n)), (0, .ref 154)] [] (am_wI (am_wI h5 154 7 (nI s.1)) 154 8 (sp_ft τ s.1 (Int32.ofInt 3)))) ∧ (¬ ¬ (sp_ft τ s.1 (Int32.ofInt 3)) = 0 → pz_S 3 none am_r209 2 Q 9 [(2, .int (sp_v τ s.1)), (1, .int (nI n)), (0, .ref 154)] [] (am_wI (am_wI h5 154 7 (nI s.1)) 154 8 (sp_ft τ s.1 (Int32.ofInt 3)))) from ⟨fun _ => ?_, fun hz => absurd (rx_ne x12) hz⟩)
      exact am_goX 1 (show (none : Option FieldType) = none ∧ (am_wI (am_wI h5 154 7 (nI s.1)) 154 8 (sp_ft τ s.1 (Int32.ofInt 3))).2.2.2.2 = 175 ∧ _ from ⟨rfl, ex_175 x12.1, hF (sp_ft τ s.1 (Int32.ofInt 3)) _ (by simp only [sp_sd, sp_b, sp_f, cond_true, cond_false, k8, k9, e4]) x12⟩)
    | false =>
      refine am_goX 1 (show (¬ ((s.2.2.2.1.2 >>> ((sp_v τ s.1) &&& 31)) &&& (Int32.ofInt 1)) = (Int32.ofInt 1) → pz_S 3 none am_r209 2 Q 78 [(2, .int (sp_v τ s.1)), (1, .int (nI n)), (0, .ref 154)] [] (am_wI h5 154 7 (nI s.1))) ∧ (¬ ¬ ((s.2.2.2.1.2 >>> ((sp_v τ s.1) &&& 31)) &&& (Int32.ofInt 1)) = (Int32.ofInt 1) → pz_S 3 none am_r209 2 Q 70 [(2, .int (sp_v τ s.1)), (1, .int (nI n)), (0, .ref 154)] [] (am_wI h5 154 7 (nI s.1))) from ⟨fun _ => ?_, fun hz => absurd (bit_f e4) hz⟩)
      refine am_goX 2 (show pz_S 3 none am_r209 2 Q 81 [(2, .int (sp_v τ s.1)), (1, .int (nI n)), (0, .ref 154)] [.int (Int8.ofInt 8).toInt32, .int (nI n)] (am_wI h5 154 7 (nI s.1)) from ?_)
      cases e5 : Nat.ble 8 (sp_pc s.2.2.2.1.2 28) with
      | true =>
        refine am_goX 1 (show (¬ (nI n) = (Int8.ofInt 8).toInt32 → pz_S 3 none am_r209 2 Q 89 [(2, .int (sp_v τ s.1)), (1, .int (nI n)), (0, .ref 154)] [] (am_wI h5 154 7 (nI s.1))) ∧ (¬ ¬ (nI n) = (Int8.ofInt 8).toInt32 → pz_S 3 none am_r209 2 Q 84 [(2, .int (sp_v τ s.1)), (1, .int (nI n)), (0, .ref 154)] [] (am_wI h5 154 7 (nI s.1))) from ⟨fun hz => absurd hz (fun w => w (by have := Nat.le_of_ble_eq_true e5; rw [show n = 8 by omega]; decide)), fun _ => ?_⟩)
        refine am_goX 3 (show am_rc (am_wI h5 154 7 (nI s.1)) 154 11 ∧ 0 ≤ 8 ∧ (am_wI h5 154 7 (nI s.1)).2.2.2.2 + am_al 197 ≤ 175 ∧ am_call am_cod 2 197 [.ref 154, .int (Int32.ofInt 5)] (am_wI h5 154 7 (nI s.1)) (fun vv h' => pz_S 3 none am_r209 2 Q 89 [(2, .int (sp_v τ s.1)), (1, .int (nI n)), (0, .ref 154)] (vv.toList ++ []) h') from ⟨Or.inl ⟨by decide, ex_154 (r_P l11)⟩, by decide, ex_lim (r_P l11) rfl, am_call.up (r_197 l11 ?_) (by omega)⟩)
        have x13 : rx h0 (sp_ft τ s.1 (Int32.ofInt 5)) (s.2.2.2.2.2.1 + z) (am_wI (am_wI h5 154 7 (nI s.1)) 154 8 (sp_ft τ s.1 (Int32.ofInt 5))) := rr_x (s := s) l11 (by decide)
        refine am_goX 2 (show am_sh (am_wI (am_wI h5 154 7 (nI s.1)) 154 8 (sp_ft τ s.1 (Int32.ofInt 5))) 154 = some (11, 0) ∧ pz_S 3 none am_r209 2 Q 93 [(2, .int (sp_v τ s.1)), (1, .int (nI n)), (0, .ref 154)] [.int ((am_wI (am_wI h5 154 7 (nI s.1)) 154 8 (sp_ft τ s.1 (Int32.ofInt 5))).1 154 8)] (am_wI (am_wI h5 154 7 (nI s.1)) 154 8 (sp_ft τ s.1 (Int32.ofInt 5))) from ⟨ex_154 x13.1, ?_⟩)
        rw [x13.2.1.1]
        refine am_goX 1 (show (¬ (sp_ft τ s.1 (Int32.ofInt 5)) = 0 → pz_S 3 none am_r209 2 Q 122 [(2, .int (sp_v τ s.1)), (1, .int (nI n)), (0, .ref 154)] [] (am_wI (am_wI h5 154 7 (nI s.1)) 154 8 (sp_ft τ s.1 (Int32.ofInt 5)))) ∧ (¬ ¬ (sp_ft τ s.1 (Int32.ofInt 5)) = 0 → pz_S 3 none am_r209 2 Q 96 [(2, .int (sp_v τ s.1)), (1, .int (nI n)), (0, .ref 154)] [] (am_wI (am_wI h5 154 7 (nI s.1)) 154 8 (sp_ft τ s.1 (Int32.ofInt 5)))) from ⟨fun _ => ?_, fun hz => absurd (rx_ne x13) hz⟩)
        refine am_goX 3 (show am_sh (am_wI (am_wI h5 154 7 (nI s.1)) 154 8 (sp_ft τ s.1 (Int32.ofInt 5))) 154 = some (11, 0) ∧ pz_S 3 none am_r209 2 Q 6 [(2, .int (sp_v τ s.1)), (1, .int (nI n)), (0, .ref 154)] [.int ((am_wI (am_wI h5 154 7 (nI s.1)) 154 8 (sp_ft τ s.1 (Int32.ofInt 5))).1 154 8)] (am_wI (am_wI h5 154 7 (nI s.1)) 154 8 (sp_ft τ s.1 (Int32.ofInt 5))) from ⟨ex_154 x13.1, ?_⟩)
        rw [x13.2.1.1]
        refine am_goX 1 (show (¬ (sp_ft τ s.1 (Int32.ofInt 5)) = 0 → pz_S 3 none am_r209 2 Q 125 [(2, .int (sp_v τ s.1)), (1, .int (nI n)), (0, .ref 154)] [] (am_wI (am_wI h5 154 7 (nI s.1)) 154 8 (sp_ft τ s.1 (Int32.ofInt 5)))) ∧ (¬ ¬ (sp_ft τ s.1 (Int32.ofInt 5)) = 0 → pz_S 3 none am_r209 2 Q 9 [(2, .int (sp_v τ s.1)), (1, .int (nI n)), (0, .ref 154)] [] (am_wI (am_wI h5 154 7 (nI s.1)) 154 8 (sp_ft τ s.1 (Int32.ofInt 5)))) from ⟨fun _ => ?_, fun hz => absurd (rx_ne x13) hz⟩)
        exact am_goX 1 (show (none : Option FieldType) = none ∧ (am_wI (am_wI h5 154 7 (nI s.1)) 154 8 (sp_ft τ s.1 (Int32.ofInt 5))).2.2.2.2 = 175 ∧ _ from ⟨rfl, ex_175 x13.1, hF (sp_ft τ s.1 (Int32.ofInt 5)) _ (by simp only [sp_sd, sp_b, sp_f, cond_true, cond_false, k8, k9, e4, e5]) x13⟩)
      | false =>
        refine am_goX 1 (show (¬ (nI n) = (Int8.ofInt 8).toInt32 → pz_S 3 none am_r209 2 Q 89 [(2, .int (sp_v τ s.1)), (1, .int (nI n)), (0, .ref 154)] [] (am_wI h5 154 7 (nI s.1))) ∧ (¬ ¬ (nI n) = (Int8.ofInt 8).toInt32 → pz_S 3 none am_r209 2 Q 84 [(2, .int (sp_v τ s.1)), (1, .int (nI n)), (0, .ref 154)] [] (am_wI h5 154 7 (nI s.1))) from ⟨fun _ => ?_, fun hz => absurd (fun w => by have h2 := congrArg Int32.toInt w; rw [nI_toInt (by omega), show ((Int8.ofInt 8).toInt32).toInt = 8 from rfl] at h2; rw [Nat.ble_eq_true_of_le (show 8 ≤ sp_pc s.2.2.2.1.2 28 by omega)] at e5; cases e5) hz⟩)
        refine am_goX 2 (show am_sh (am_wI h5 154 7 (nI s.1)) 154 = some (11, 0) ∧ pz_S 3 none am_r209 2 Q 93 [(2, .int (sp_v τ s.1)), (1, .int (nI n)), (0, .ref 154)] [.int ((am_wI h5 154 7 (nI s.1)).1 154 8)] (am_wI h5 154 7 (nI s.1)) from ⟨ex_154 (r_P l11), ?_⟩)
        rw [r_f l11]
        refine am_goX 1 (show (¬ 0 = 0 → pz_S 3 none am_r209 2 Q 122 [(2, .int (sp_v τ s.1)), (1, .int (nI n)), (0, .ref 154)] [] (am_wI h5 154 7 (nI s.1))) ∧ (¬ ¬ 0 = 0 → pz_S 3 none am_r209 2 Q 96 [(2, .int (sp_v τ s.1)), (1, .int (nI n)), (0, .ref 154)] [] (am_wI h5 154 7 (nI s.1))) from ⟨fun hz => absurd hz (by decide), fun _ => ?_⟩)
        refine am_goX 2 (show am_sh (am_wI h5 154 7 (nI s.1)) 154 = some (11, 0) ∧ pz_S 3 none am_r209 2 Q 100 [(2, .int (sp_v τ s.1)), (1, .int (nI n)), (0, .ref 154)] [am_rf ((am_wI h5 154 7 (nI s.1)).2.2.1 154 10)] (am_wI h5 154 7 (nI s.1)) from ⟨ex_154 (r_P l11), ?_⟩)
        rw [ex_r154_10 (h := am_wI h5 154 7 (nI s.1)) (r_P l11)]
        refine am_goX 3 (show (Value.int (Int8.ofInt 42).toInt32).category = 1 ∧ (Value.ref 160).category = 1 ∧ ∃ jj nn : Nat, am_sh (am_wI h5 154 7 (nI s.1)) 160 = some (13, nn) ∧ jj < nn ∧ (Int8.ofInt 42).toInt32 = nI jj ∧ pz_S 3 none am_r209 2 Q 104 [(2, .int (sp_v τ s.1)), (1, .int (nI n)), (0, .ref 154)] [.int ((am_wI h5 154 7 (nI s.1)).1 160 jj), .int (Int8.ofInt 42).toInt32, .ref 160] (am_wI h5 154 7 (nI s.1)) from ⟨rfl, rfl, 42, 80, ex_160 (r_P l11), (by decide), (by decide), ?_⟩)
        rw [show (am_wI h5 154 7 (nI s.1)).1 160 42 = s.2.2.2.1.2 from l11.2.1.2.2.2.1.1]
        refine am_goX 5 (show ∃ jj nn : Nat, am_so (am_wI h5 154 7 (nI s.1)) 160 = some (13, nn) ∧ jj < nn ∧ (Int8.ofInt 42).toInt32 = nI jj ∧ pz_S 3 none am_r209 2 Q 109 [(2, .int (sp_v τ s.1)), (1, .int (nI n)), (0, .ref 154)] [] (am_wI (am_wI h5 154 7 (nI s.1)) 160 jj ((s.2.2.2.1.2 ||| ((Int32.ofInt 1) <<< ((sp_v τ s.1) &&& 31))))) from ⟨42, 80, ex_w160 (r_P l11), (by decide), (by decide), ?_⟩)
        obtain ⟨D, hD, ev⟩ := l.1.1.2.2.2.2.2.2 s.1 (sp_kt k8)
        have ev2 : sp_v τ s.1 = nI D := by unfold sp_v; rw [ev]; exact Int64.toInt32_ofNat'
        have hD28 : D < 28 := of_decide_eq_true ((sp_in28 hD ev2).symm.trans k9)
        have l14 : rr h0 z τ N (s.1, sp_cS s.2 s.2.2.2.1.1 (s.2.2.2.1.2 ||| ((Int32.ofInt 1) <<< (sp_v τ s.1 &&& 31)))) (am_wI (am_wI h5 154 7 (nI s.1)) 160 42 (s.2.2.2.1.2 ||| ((Int32.ofInt 1) <<< (sp_v τ s.1 &&& 31)))) := rr_S ⟨fun z => absurd (ht.symm.trans z) (by decide), by rw [ev2]; exact sp_28_or hsK.2 hD28⟩ l11
        refine am_goX 6 (show (Value.ref 154).category = 1 ∧ am_sh (am_wI (am_wI h5 154 7 (nI s.1)) 160 42 (s.2.2.2.1.2 ||| ((Int32.ofInt 1) <<< (sp_v τ s.1 &&& 31)))) 154 = some (11, 0) ∧ am_sh (am_wI (am_wI h5 154 7 (nI s.1)) 160 42 (s.2.2.2.1.2 ||| ((Int32.ofInt 1) <<< (sp_v τ s.1 &&& 31)))) 154 = some (11, 0) ∧ narrow (am_fty 11 7) (.int ((((am_wI (am_wI h5 154 7 (nI s.1)) 160 42 (s.2.2.2.1.2 ||| ((Int32.ofInt 1) <<< (sp_v τ s.1 &&& 31)))).1 154 7) + (Int32.ofInt 1)))) = .int ((((am_wI (am_wI h5 154 7 (nI s.1)) 160 42 (s.2.2.2.1.2 ||| ((Int32.ofInt 1) <<< (sp_v τ s.1 &&& 31)))).1 154 7) + (Int32.ofInt 1))) ∧ fits (am_fty 11 7) (.int ((((am_wI (am_wI h5 154 7 (nI s.1)) 160 42 (s.2.2.2.1.2 ||| ((Int32.ofInt 1) <<< (sp_v τ s.1 &&& 31)))).1 154 7) + (Int32.ofInt 1)))) = true ∧ pz_S 3 none am_r209 2 Q 119 [(2, .int (sp_v τ s.1)), (1, .int (nI n)), (0, .ref 154)] [] (am_wI (am_wI (am_wI h5 154 7 (nI s.1)) 160 42 (s.2.2.2.1.2 ||| ((Int32.ofInt 1) <<< (sp_v τ s.1 &&& 31)))) 154 7 ((((am_wI (am_wI h5 154 7 (nI s.1)) 160 42 (s.2.2.2.1.2 ||| ((Int32.ofInt 1) <<< (sp_v τ s.1 &&& 31)))).1 154 7) + (Int32.ofInt 1)))) from ⟨rfl, ex_154 (r_P l14), ex_154 (r_P l14), rfl, rfl, ?_⟩)
        rw [r_a l14, xw_i1]
        have l15 : rr h0 z τ N (s.1 + 1, (sp_cS s.2 s.2.2.2.1.1 (s.2.2.2.1.2 ||| ((Int32.ofInt 1) <<< (sp_v τ s.1 &&& 31))))) (am_wI (am_wI (am_wI h5 154 7 (nI s.1)) 160 42 (s.2.2.2.1.2 ||| ((Int32.ofInt 1) <<< (sp_v τ s.1 &&& 31)))) 154 7 (nI (s.1 + 1))) := rr_nx (a := s.1) (C := (sp_cS s.2 s.2.2.2.1.1 (s.2.2.2.1.2 ||| ((Int32.ofInt 1) <<< (sp_v τ s.1 &&& 31))))) l14 (sp_kn (by decide) k8)
        refine am_goX 2 (show 1 < 3 ∧ pz_S 3 none am_r209 2 Q 2 [(1, .int ((nI n) + Int32.ofInt 1)), (2, .int (sp_v τ s.1)), (0, .ref 154)] [] (am_wI (am_wI (am_wI h5 154 7 (nI s.1)) 160 42 (s.2.2.2.1.2 ||| ((Int32.ofInt 1) <<< (sp_v τ s.1 &&& 31)))) 154 7 (nI (s.1 + 1))) from ⟨by decide, ?_⟩)
        rw [xw_i1]
        exact hK _ _ (by simp only [sp_sd, sp_b, sp_f, cond_true, cond_false, k8, k9, e4, e5]) (by
          show sp_pc (s.2.2.2.1.2 ||| ((Int32.ofInt 1) <<< (sp_v τ s.1 &&& 31))) 28 = n + 1
          rw [ev2, pc_or hsK.2 hD28 (by rw [← ev2]; exact e4), en]) (by
          apply Nat.lt_of_not_le
          intro q
          rw [Nat.ble_eq_true_of_le (show 8 ≤ sp_pc s.2.2.2.1.2 28 by omega)] at e5
          cases e5) l15
theorem r_209l : ∀ (m n : Nat) (s : sp_S) (h : am_H), N < s.1 + m → 1 ≤ n → n ≤ 8 → s.2.2.2.1.1 = true → sp_pc s.2.2.2.1.2 28 = n → rr h0 z τ N s h → (∀ F h1, sp_sl τ m s = .inl F → rx h0 F (s.2.2.2.2.2.1 + z) h1 → Q none h1) → (∀ h1 t, sp_sl τ m s = .inr t → rr h0 z τ N t h1 → Q none h1) → pz_S 3 none am_r209 2 Q 2 [(1, .int (nI n)), (0, .ref 154)] [] h := by
  intro m
  induction m with
  | zero =>
    intro n s h hm h1 hn ht en l hF hS
    have := (r_N l).1
    omega
  | succ m ih =>
    intro n s h hm h1 hn ht en l hF hS
    have hP := r_P l
    have gl := r_N l
    have hn8 := sp_pc_le s.2.2.2.1.2 28
    refine am_goX 2 (show am_sh h 154 = some (11, 0) ∧ pz_S 3 none am_r209 2 Q 6 [(1, .int (nI n)), (0, .ref 154)] [.int (h.1 154 8)] h from ⟨ex_154 (r_P l), ?_⟩)
    rw [r_f l]
    refine am_goX 1 (show (¬ 0 = 0 → pz_S 3 none am_r209 2 Q 125 [(1, .int (nI n)), (0, .ref 154)] [] h) ∧ (¬ ¬ 0 = 0 → pz_S 3 none am_r209 2 Q 9 [(1, .int (nI n)), (0, .ref 154)] [] h) from ⟨fun hz => absurd hz (by decide), fun _ => ?_⟩)
    refine am_goX 2 (show ((nI n) = 0 → pz_S 3 none am_r209 2 Q 26 [(1, .int (nI n)), (0, .ref 154)] [] h) ∧ (¬ ((nI n) = 0) → pz_S 3 none am_r209 2 Q 13 [(1, .int (nI n)), (0, .ref 154)] [] h) from ⟨fun hz => absurd hz (fun w => by have h2 := congrArg Int32.toInt w; rw [nI_toInt (by omega), show (0 : Int32).toInt = 0 from rfl] at h2; omega), fun _ => ?_⟩)
    refine am_goX 2 (show am_sh h 154 = some (11, 0) ∧ pz_S 3 none am_r209 2 Q 17 [(1, .int (nI n)), (0, .ref 154)] [am_rf (h.2.2.1 154 4)] h from ⟨ex_154 (r_P l), ?_⟩)
    rw [ex_r154_4 (h := h) (r_P l)]
    refine am_goX 3 (show am_sh h 154 = some (11, 0) ∧ ∃ jj nn : Nat, am_sh h 156 = some (13, nn) ∧ jj < nn ∧ (h.1 154 7) = nI jj ∧ pz_S 3 none am_r209 2 Q 22 [(1, .int (nI n)), (0, .ref 154)] [.int (h.1 156 jj)] h from ⟨ex_154 (r_P l), s.1, 1002, ex_156 (r_P l), (by have := r_N l; first | omega | (dsimp only at this; omega) | (dsimp only at this ⊢; omega)), r_a l, ?_⟩)
    rw [r_k l]
    refine am_goX 1 (show pz_S 3 none am_r209 2 Q 23 [(1, .int (nI n)), (0, .ref 154)] [.int (Int32.ofInt 2), .int (τ s.1).1] h from ?_)
    cases e16 : sp_k τ s.1 2 with
    | true =>
      refine am_goX 1 (show (¬ (τ s.1).1 = (Int32.ofInt 2) → pz_S 3 none am_r209 2 Q 125 [(1, .int (nI n)), (0, .ref 154)] [] h) ∧ (¬ ¬ (τ s.1).1 = (Int32.ofInt 2) → pz_S 3 none am_r209 2 Q 26 [(1, .int (nI n)), (0, .ref 154)] [] h) from ⟨fun hz => absurd hz (fun w => w (sp_kt e16)), fun _ => ?_⟩)
      refine r_209b hn ht en l (fun F h1 e x => hF F h1 (by simp only [sp_sl, e16, cond_true, sp_b, e]) x) (fun h1 t e e1 e8 l1 => ?_)
      obtain ⟨g1, g2⟩ := sp_sd_inr e
      have g3 := sp_sd_told e
      refine sv_S (by decide +kernel) (by intro q hq; simp only [List.mem_cons, List.not_mem_nil, or_false] at hq; rcases hq with rfl | rfl <;> rfl) (ih (n + 1) t h1 (by omega) (by omega) e8 (g2.trans ht) e1 l1 (fun F h2 e2 x => hF F h2 (by simp only [sp_sl, e16, cond_true, sp_b, e]; exact e2) (by rw [g3] at x; exact x)) (fun h2 u e2 l2 => hS h2 u (by simp only [sp_sl, e16, cond_true, sp_b, e]; exact e2) l2))
    | false =>
      refine am_goX 1 (show (¬ (τ s.1).1 = (Int32.ofInt 2) → pz_S 3 none am_r209 2 Q 125 [(1, .int (nI n)), (0, .ref 154)] [] h) ∧ (¬ ¬ (τ s.1).1 = (Int32.ofInt 2) → pz_S 3 none am_r209 2 Q 26 [(1, .int (nI n)), (0, .ref 154)] [] h) from ⟨fun _ => ?_, fun hz => absurd (of_decide_eq_false e16) hz⟩)
      exact am_goX 1 (show (none : Option FieldType) = none ∧ h.2.2.2.2 = 175 ∧ _ from ⟨rfl, ex_175 (r_P l), hS _ s (by simp only [sp_sl, sp_b, sp_f, cond_true, cond_false, e16]) l⟩)
theorem r_209 (ht : s.2.2.2.1.1 = true) (e0 : s.2.2.2.1.2 = 0) (l : rr h0 z τ N s h) (hF : ∀ F h1, sp_b (sp_sd τ s) (sp_sl τ 1001) = .inl F → rx h0 F (s.2.2.2.2.2.1 + z) h1 → Q none h1) (hS : ∀ h1 t, sp_b (sp_sd τ s) (sp_sl τ 1001) = .inr t → rr h0 z τ N t h1 → Q none h1) : am_call am_cod 3 209 [.ref 154] h Q := by
  have hP := r_P l
  refine pz_call (n := 209) (nL := 3) (rt := none) (rows := am_r209) (d := 2) (by decide +kernel) (by decide +kernel) rfl (by funext pc; rfl) (ex_175 hP) (by exact Nat.le_of_ble_eq_true rfl) ?_
  refine am_goX 4 (show 1 < 3 ∧ am_sh h 154 = some (11, 0) ∧ pz_S 3 none am_r209 2 Q 6 [(1, .int (Int32.ofInt 0)), (0, .ref 154)] [.int (h.1 154 8)] h from ⟨by decide, ex_154 (r_P l), ?_⟩)
  rw [r_f l]
  refine am_goX 1 (show (¬ 0 = 0 → pz_S 3 none am_r209 2 Q 125 [(1, .int (Int32.ofInt 0)), (0, .ref 154)] [] h) ∧ (¬ ¬ 0 = 0 → pz_S 3 none am_r209 2 Q 9 [(1, .int (Int32.ofInt 0)), (0, .ref 154)] [] h) from ⟨fun hz => absurd hz (by decide), fun _ => ?_⟩)
  refine am_goX 2 (show ((Int32.ofInt 0) = 0 → pz_S 3 none am_r209 2 Q 26 [(1, .int (Int32.ofInt 0)), (0, .ref 154)] [] h) ∧ (¬ ((Int32.ofInt 0) = 0) → pz_S 3 none am_r209 2 Q 13 [(1, .int (Int32.ofInt 0)), (0, .ref 154)] [] h) from ⟨fun _ => ?_, fun hz => absurd (by decide) hz⟩)
  refine r_209b (n := 0) (by decide) ht (by rw [e0]; decide +kernel) l (fun F h1 e x => hF F h1 (by simp only [sp_b, e]) x) (fun h1 t e e1 e8 l1 => ?_)
  obtain ⟨g1, g2⟩ := sp_sd_inr e
  have g3 := sp_sd_told e
  have gN := r_N l1
  exact sv_S (by decide +kernel) (by intro q hq; simp only [List.mem_cons, List.not_mem_nil, or_false] at hq; rcases hq with rfl | rfl <;> rfl) (r_209l 1001 (0 + 1) t h1 (by omega) (by omega) e8 (g2.trans ht) e1 l1 (fun F h2 e2 x => hF F h2 (by simp only [sp_b, e]; exact e2) (by rw [g3] at x; exact x)) (fun h2 u e2 l2 => hS h2 u (by simp only [sp_b, e]; exact e2) l2))
theorem r_208 (l : rr h0 (rz s.2) τ N s h) (hF : ∀ F h1 c', sq_once τ s = .inl F → rx h0 F c' h1 → Q none h1) (hS : ∀ h1 t, sq_once τ s = .inr t → rr h0 (rz t.2) τ N t h1 → Q none h1) : am_call am_cod 33 208 [.ref 154] h Q := by
  have hP := r_P l
  have gl := r_N l
  have eO : h.1 154 20 = rb2 s.2.2.2.1.1 s.2.2.2.2.1 := l.2.1.2.2.2.2.1
  refine pz_call (n := 208) (nL := 2) (rt := none) (rows := am_r208) (d := 32) (by decide +kernel) (by decide +kernel) rfl (by funext pc; rfl) (ex_175 hP) (by exact Nat.le_of_ble_eq_true rfl) ?_
  refine am_goX 4 (show am_rc h 154 11 ∧ 0 ≤ 8 ∧ h.2.2.2.2 + am_al 199 ≤ 175 ∧ am_call am_cod 32 199 [.ref 154, .int (Int8.ofInt 6).toInt32, .int (Int32.ofInt 2)] h (fun vv h' => pz_S 2 none am_r208 32 Q 7 [(0, .ref 154)] (vv.toList ++ []) h') from ⟨Or.inl ⟨by decide, ex_154 (r_P l)⟩, by decide, ex_lim (r_P l) rfl, am_call.up (r_199 (f := 6) (M := 2) (by decide) (by decide) (by decide) l ?_) (by omega)⟩)
  rcases wq_v τ s.1 6 2 (by decide) with ⟨w1, w2⟩ | ⟨j, w1, w2, w3⟩
  ·
    rw [w1]
    have e5 : sp_w τ s.1 982151 = false := w2 0 (by decide)
    have e6 : sp_w τ s.1 375310 = false := w2 1 (by decide)
    refine am_goX 3 (show 1 < 2 ∧ (0 ≤ (Int32.ofInt (-1)) → pz_S 2 none am_r208 32 Q 20 [(1, .int (Int32.ofInt (-1))), (0, .ref 154)] [] h) ∧ (¬ (0 ≤ (Int32.ofInt (-1))) → pz_S 2 none am_r208 32 Q 12 [(1, .int (Int32.ofInt (-1))), (0, .ref 154)] [] h) from ⟨by decide, fun hz => absurd hz (by decide), fun _ => ?_⟩)
    refine am_goX 3 (show am_rc h 154 11 ∧ 0 ≤ 8 ∧ h.2.2.2.2 + am_al 197 ≤ 175 ∧ am_call am_cod 32 197 [.ref 154, .int (Int32.ofInt 1)] h (fun vv h' => pz_S 2 none am_r208 32 Q 17 [(1, .int (Int32.ofInt (-1))), (0, .ref 154)] (vv.toList ++ []) h') from ⟨Or.inl ⟨by decide, ex_154 (r_P l)⟩, by decide, ex_lim (r_P l) rfl, am_call.up (r_197 l ?_) (by omega)⟩)
    have x17 : rx h0 (sp_ft τ s.1 (Int32.ofInt 1)) (s.2.2.2.2.2.1 + (rz s.2)) (am_wI h 154 8 (sp_ft τ s.1 (Int32.ofInt 1))) := rr_x (s := s) l (by decide)
    refine am_goX 3 (show am_sh (am_wI h 154 8 (sp_ft τ s.1 (Int32.ofInt 1))) 154 = some (11, 0) ∧ pz_S 2 none am_r208 32 Q 41 [(1, .int (Int32.ofInt (-1))), (0, .ref 154)] [.int ((am_wI h 154 8 (sp_ft τ s.1 (Int32.ofInt 1))).1 154 8)] (am_wI h 154 8 (sp_ft τ s.1 (Int32.ofInt 1))) from ⟨ex_154 x17.1, ?_⟩)
    rw [x17.2.1.1]
    refine am_goX 1 (show ((sp_ft τ s.1 (Int32.ofInt 1)) ≤ 0 → pz_S 2 none am_r208 32 Q 45 [(1, .int (Int32.ofInt (-1))), (0, .ref 154)] [] (am_wI h 154 8 (sp_ft τ s.1 (Int32.ofInt 1)))) ∧ (¬ ((sp_ft τ s.1 (Int32.ofInt 1)) ≤ 0) → pz_S 2 none am_r208 32 Q 44 [(1, .int (Int32.ofInt (-1))), (0, .ref 154)] [] (am_wI h 154 8 (sp_ft τ s.1 (Int32.ofInt 1)))) from ⟨fun hz => absurd hz (rx_le x17), fun _ => ?_⟩)
    exact am_goX 1 (show (none : Option FieldType) = none ∧ (am_wI h 154 8 (sp_ft τ s.1 (Int32.ofInt 1))).2.2.2.2 = 175 ∧ _ from ⟨rfl, ex_175 x17.1, hF (sp_ft τ s.1 (Int32.ofInt 1)) _ (s.2.2.2.2.2.1 + (rz s.2)) (by simp only [sq_once, sq_snow, sq_goes, sp_b, sp_f, cond_true, cond_false, e5, e6]) x17⟩)
  ·
    rw [w2]
    have hj : j = 0 ∨ j = 1 := by omega
    rcases hj with rfl | rfl
    ·
      have e5 : sp_w τ s.1 982151 = true := w3
      refine am_goX 3 (show 1 < 2 ∧ (0 ≤ (nI 0) → pz_S 2 none am_r208 32 Q 20 [(1, .int (nI 0)), (0, .ref 154)] [] h) ∧ (¬ (0 ≤ (nI 0)) → pz_S 2 none am_r208 32 Q 12 [(1, .int (nI 0)), (0, .ref 154)] [] h) from ⟨by decide, fun _ => ?_, fun hz => absurd (by decide) hz⟩)
      refine am_goX 7 (show am_sh h 154 = some (11, 0) ∧ pz_S 2 none am_r208 32 Q 29 [(1, .int (nI 0)), (0, .ref 154)] [.int (Int32.ofInt 1), .int (((h.1 154 20) >>> ((nI 0) &&& 31)) &&& (Int32.ofInt 1))] h from ⟨ex_154 (r_P l), ?_⟩)
      rw [eO]
      cases e1 : s.2.2.2.1.1 with
      | true =>
        refine am_goX 1 (show (¬ (((rb2 true s.2.2.2.2.1) >>> ((nI 0) &&& 31)) &&& (Int32.ofInt 1)) = (Int32.ofInt 1) → pz_S 2 none am_r208 32 Q 37 [(1, .int (nI 0)), (0, .ref 154)] [] h) ∧ (¬ ¬ (((rb2 true s.2.2.2.2.1) >>> ((nI 0) &&& 31)) &&& (Int32.ofInt 1)) = (Int32.ofInt 1) → pz_S 2 none am_r208 32 Q 32 [(1, .int (nI 0)), (0, .ref 154)] [] h) from ⟨fun hz => absurd hz (fun w => w (by rw [rb2_0])), fun _ => ?_⟩)
        refine am_goX 3 (show am_rc h 154 11 ∧ 0 ≤ 8 ∧ h.2.2.2.2 + am_al 197 ≤ 175 ∧ am_call am_cod 32 197 [.ref 154, .int (Int32.ofInt 3)] h (fun vv h' => pz_S 2 none am_r208 32 Q 37 [(1, .int (nI 0)), (0, .ref 154)] (vv.toList ++ []) h') from ⟨Or.inl ⟨by decide, ex_154 (r_P l)⟩, by decide, ex_lim (r_P l) rfl, am_call.up (r_197 l ?_) (by omega)⟩)
        have x18 : rx h0 (sp_ft τ s.1 (Int32.ofInt 3)) (s.2.2.2.2.2.1 + (rz s.2)) (am_wI h 154 8 (sp_ft τ s.1 (Int32.ofInt 3))) := rr_x (s := s) l (by decide)
        refine am_goX 2 (show am_sh (am_wI h 154 8 (sp_ft τ s.1 (Int32.ofInt 3))) 154 = some (11, 0) ∧ pz_S 2 none am_r208 32 Q 41 [(1, .int (nI 0)), (0, .ref 154)] [.int ((am_wI h 154 8 (sp_ft τ s.1 (Int32.ofInt 3))).1 154 8)] (am_wI h 154 8 (sp_ft τ s.1 (Int32.ofInt 3))) from ⟨ex_154 x18.1, ?_⟩)
        rw [x18.2.1.1]
        refine am_goX 1 (show ((sp_ft τ s.1 (Int32.ofInt 3)) ≤ 0 → pz_S 2 none am_r208 32 Q 45 [(1, .int (nI 0)), (0, .ref 154)] [] (am_wI h 154 8 (sp_ft τ s.1 (Int32.ofInt 3)))) ∧ (¬ ((sp_ft τ s.1 (Int32.ofInt 3)) ≤ 0) → pz_S 2 none am_r208 32 Q 44 [(1, .int (nI 0)), (0, .ref 154)] [] (am_wI h 154 8 (sp_ft τ s.1 (Int32.ofInt 3)))) from ⟨fun hz => absurd hz (rx_le x18), fun _ => ?_⟩)
        exact am_goX 1 (show (none : Option FieldType) = none ∧ (am_wI h 154 8 (sp_ft τ s.1 (Int32.ofInt 3))).2.2.2.2 = 175 ∧ _ from ⟨rfl, ex_175 x18.1, hF (sp_ft τ s.1 (Int32.ofInt 3)) _ (s.2.2.2.2.2.1 + (rz s.2)) (by simp only [sq_once, sq_snow, sq_goes, sp_b, sp_f, cond_true, cond_false, e5, e1]) x18⟩)
      | false =>
        refine am_goX 1 (show (¬ (((rb2 false s.2.2.2.2.1) >>> ((nI 0) &&& 31)) &&& (Int32.ofInt 1)) = (Int32.ofInt 1) → pz_S 2 none am_r208 32 Q 37 [(1, .int (nI 0)), (0, .ref 154)] [] h) ∧ (¬ ¬ (((rb2 false s.2.2.2.2.1) >>> ((nI 0) &&& 31)) &&& (Int32.ofInt 1)) = (Int32.ofInt 1) → pz_S 2 none am_r208 32 Q 32 [(1, .int (nI 0)), (0, .ref 154)] [] h) from ⟨fun _ => ?_, fun hz => absurd (by rw [rb2_0]; decide) hz⟩)
        refine am_goX 2 (show am_sh h 154 = some (11, 0) ∧ pz_S 2 none am_r208 32 Q 41 [(1, .int (nI 0)), (0, .ref 154)] [.int (h.1 154 8)] h from ⟨ex_154 (r_P l), ?_⟩)
        rw [r_f l]
        refine am_goX 1 (show (0 ≤ 0 → pz_S 2 none am_r208 32 Q 45 [(1, .int (nI 0)), (0, .ref 154)] [] h) ∧ (¬ (0 ≤ 0) → pz_S 2 none am_r208 32 Q 44 [(1, .int (nI 0)), (0, .ref 154)] [] h) from ⟨fun _ => ?_, fun hz => absurd (by decide) hz⟩)
        refine am_goX 8 (show (Value.ref 154).category = 1 ∧ am_sh h 154 = some (11, 0) ∧ am_sh h 154 = some (11, 0) ∧ narrow (am_fty 11 20) (.int (((h.1 154 20) ||| ((Int32.ofInt 1) <<< ((nI 0) &&& 31))))) = .int (((h.1 154 20) ||| ((Int32.ofInt 1) <<< ((nI 0) &&& 31)))) ∧ fits (am_fty 11 20) (.int (((h.1 154 20) ||| ((Int32.ofInt 1) <<< ((nI 0) &&& 31))))) = true ∧ pz_S 2 none am_r208 32 Q 57 [(1, .int (nI 0)), (0, .ref 154)] [] (am_wI h 154 20 (((h.1 154 20) ||| ((Int32.ofInt 1) <<< ((nI 0) &&& 31))))) from ⟨rfl, ex_154 (r_P l), ex_154 (r_P l), rfl, rfl, ?_⟩)
        rw [eO, rb2_s]
        refine am_goX 6 (show (Value.ref 154).category = 1 ∧ am_sh (am_wI h 154 20 (rb2 true s.2.2.2.2.1)) 154 = some (11, 0) ∧ am_sh (am_wI h 154 20 (rb2 true s.2.2.2.2.1)) 154 = some (11, 0) ∧ narrow (am_fty 11 7) (.int ((((am_wI h 154 20 (rb2 true s.2.2.2.2.1)).1 154 7) + (Int32.ofInt 1)))) = .int ((((am_wI h 154 20 (rb2 true s.2.2.2.2.1)).1 154 7) + (Int32.ofInt 1))) ∧ fits (am_fty 11 7) (.int ((((am_wI h 154 20 (rb2 true s.2.2.2.2.1)).1 154 7) + (Int32.ofInt 1)))) = true ∧ pz_S 2 none am_r208 32 Q 67 [(1, .int (nI 0)), (0, .ref 154)] [] (am_wI (am_wI h 154 20 (rb2 true s.2.2.2.2.1)) 154 7 ((((am_wI h 154 20 (rb2 true s.2.2.2.2.1)).1 154 7) + (Int32.ofInt 1)))) from ⟨rfl, ex_154 hP, ex_154 hP, rfl, rfl, ?_⟩)
        rw [em_wn _ _ (by omega), r_a l, xw_i1]
        have l19 : rr h0 (rz s.2) τ N (s.1 + 1, sp_cS s.2 true s.2.2.2.1.2) (am_wI (am_wI h 154 20 (rb2 true s.2.2.2.2.1)) 154 7 (nI (s.1 + 1))) := rr_sn1 (a := s.1) (C := s.2) l (sp_wn e5)
        refine am_goX 2 (show (¬ (nI 0) = 0 → pz_S 2 none am_r208 32 Q 78 [(1, .int (nI 0)), (0, .ref 154)] [] (am_wI (am_wI h 154 20 (rb2 true s.2.2.2.2.1)) 154 7 (nI (s.1 + 1)))) ∧ (¬ ¬ (nI 0) = 0 → pz_S 2 none am_r208 32 Q 71 [(1, .int (nI 0)), (0, .ref 154)] [] (am_wI (am_wI h 154 20 (rb2 true s.2.2.2.2.1)) 154 7 (nI (s.1 + 1)))) from ⟨fun hz => absurd hz (by decide), fun _ => ?_⟩)
        refine am_goX 2 (show am_rc (am_wI (am_wI h 154 20 (rb2 true s.2.2.2.2.1)) 154 7 (nI (s.1 + 1))) 154 11 ∧ 0 ≤ 8 ∧ (am_wI (am_wI h 154 20 (rb2 true s.2.2.2.2.1)) 154 7 (nI (s.1 + 1))).2.2.2.2 + am_al 209 ≤ 175 ∧ am_call am_cod 32 209 [.ref 154] (am_wI (am_wI h 154 20 (rb2 true s.2.2.2.2.1)) 154 7 (nI (s.1 + 1))) (fun vv h' => pz_S 2 none am_r208 32 Q 75 [(1, .int (nI 0)), (0, .ref 154)] (vv.toList ++ []) h') from ⟨Or.inl ⟨by decide, ex_154 (r_P l19)⟩, by decide, ex_lim (r_P l19) rfl, am_call.up (r_209 (s := (s.1 + 1, sp_cS s.2 true s.2.2.2.1.2)) rfl (l19.2.1.2.2.2.1.2.1 |> fun _ => (l.2.1.2.2.2.1.2.1 e1)) l19 (fun F20 h21 e22 x23 => ?_) (fun h24 t25 e26 l27 => ?_)) (by omega)⟩)
        ·
          exact am_goX 2 (show (none : Option FieldType) = none ∧ h21.2.2.2.2 = 175 ∧ _ from ⟨rfl, ex_175 x23.1, hF (F20) _ (s.2.2.2.2.2.1 + rz s.2) (by simp only [sq_once, sq_snow, cond_true, cond_false, e5, e1]; exact e22) x23⟩)
        ·
          exact am_goX 2 (show (none : Option FieldType) = none ∧ h24.2.2.2.2 = 175 ∧ _ from ⟨rfl, ex_175 (r_P l27), hS _ t25 (by simp only [sq_once, sq_snow, cond_true, cond_false, e5, e1]; exact e26) (by
  have g : rz t25.2 = rz s.2 := by
    obtain ⟨u, u1, u2⟩ := sp_b_inr e26
    have g3 := (sp_sl_told u2).trans (sp_sd_told u1)
    unfold rz
    rw [g3]
    rfl
  rw [g]
  exact l27)⟩)
    ·
      have e6 : sp_w τ s.1 375310 = true := w3
      have k1 : sp_k τ s.1 1 = true := (Bool.and_eq_true _ _ ▸ e6 : _ ∧ _).1
      have e5 : sp_w τ s.1 982151 = false := by
        rw [sp_w_e k1] at e6 ⊢
        rw [of_decide_eq_true e6]
        decide
      refine am_goX 3 (show 1 < 2 ∧ (0 ≤ (nI 1) → pz_S 2 none am_r208 32 Q 20 [(1, .int (nI 1)), (0, .ref 154)] [] h) ∧ (¬ (0 ≤ (nI 1)) → pz_S 2 none am_r208 32 Q 12 [(1, .int (nI 1)), (0, .ref 154)] [] h) from ⟨by decide, fun _ => ?_, fun hz => absurd (by decide) hz⟩)
      refine am_goX 7 (show am_sh h 154 = some (11, 0) ∧ pz_S 2 none am_r208 32 Q 29 [(1, .int (nI 1)), (0, .ref 154)] [.int (Int32.ofInt 1), .int (((h.1 154 20) >>> ((nI 1) &&& 31)) &&& (Int32.ofInt 1))] h from ⟨ex_154 (r_P l), ?_⟩)
      rw [eO]
      cases e1 : s.2.2.2.2.1 with
      | true =>
        refine am_goX 1 (show (¬ (((rb2 s.2.2.2.1.1 true) >>> ((nI 1) &&& 31)) &&& (Int32.ofInt 1)) = (Int32.ofInt 1) → pz_S 2 none am_r208 32 Q 37 [(1, .int (nI 1)), (0, .ref 154)] [] h) ∧ (¬ ¬ (((rb2 s.2.2.2.1.1 true) >>> ((nI 1) &&& 31)) &&& (Int32.ofInt 1)) = (Int32.ofInt 1) → pz_S 2 none am_r208 32 Q 32 [(1, .int (nI 1)), (0, .ref 154)] [] h) from ⟨fun hz => absurd hz (fun w => w (by rw [rb2_1])), fun _ => ?_⟩)
        refine am_goX 3 (show am_rc h 154 11 ∧ 0 ≤ 8 ∧ h.2.2.2.2 + am_al 197 ≤ 175 ∧ am_call am_cod 32 197 [.ref 154, .int (Int32.ofInt 3)] h (fun vv h' => pz_S 2 none am_r208 32 Q 37 [(1, .int (nI 1)), (0, .ref 154)] (vv.toList ++ []) h') from ⟨Or.inl ⟨by decide, ex_154 (r_P l)⟩, by decide, ex_lim (r_P l) rfl, am_call.up (r_197 l ?_) (by omega)⟩)
        have x28 : rx h0 (sp_ft τ s.1 (Int32.ofInt 3)) (s.2.2.2.2.2.1 + (rz s.2)) (am_wI h 154 8 (sp_ft τ s.1 (Int32.ofInt 3))) := rr_x (s := s) l (by decide)
        refine am_goX 2 (show am_sh (am_wI h 154 8 (sp_ft τ s.1 (Int32.ofInt 3))) 154 = some (11, 0) ∧ pz_S 2 none am_r208 32 Q 41 [(1, .int (nI 1)), (0, .ref 154)] [.int ((am_wI h 154 8 (sp_ft τ s.1 (Int32.ofInt 3))).1 154 8)] (am_wI h 154 8 (sp_ft τ s.1 (Int32.ofInt 3))) from ⟨ex_154 x28.1, ?_⟩)
        rw [x28.2.1.1]
        refine am_goX 1 (show ((sp_ft τ s.1 (Int32.ofInt 3)) ≤ 0 → pz_S 2 none am_r208 32 Q 45 [(1, .int (nI 1)), (0, .ref 154)] [] (am_wI h 154 8 (sp_ft τ s.1 (Int32.ofInt 3)))) ∧ (¬ ((sp_ft τ s.1 (Int32.ofInt 3)) ≤ 0) → pz_S 2 none am_r208 32 Q 44 [(1, .int (nI 1)), (0, .ref 154)] [] (am_wI h 154 8 (sp_ft τ s.1 (Int32.ofInt 3)))) from ⟨fun hz => absurd hz (rx_le x28), fun _ => ?_⟩)
        exact am_goX 1 (show (none : Option FieldType) = none ∧ (am_wI h 154 8 (sp_ft τ s.1 (Int32.ofInt 3))).2.2.2.2 = 175 ∧ _ from ⟨rfl, ex_175 x28.1, hF (sp_ft τ s.1 (Int32.ofInt 3)) _ (s.2.2.2.2.2.1 + (rz s.2)) (by simp only [sq_once, sq_snow, sq_goes, sp_b, sp_f, cond_true, cond_false, e5, e6, e1]) x28⟩)
      | false =>
        refine am_goX 1 (show (¬ (((rb2 s.2.2.2.1.1 false) >>> ((nI 1) &&& 31)) &&& (Int32.ofInt 1)) = (Int32.ofInt 1) → pz_S 2 none am_r208 32 Q 37 [(1, .int (nI 1)), (0, .ref 154)] [] h) ∧ (¬ ¬ (((rb2 s.2.2.2.1.1 false) >>> ((nI 1) &&& 31)) &&& (Int32.ofInt 1)) = (Int32.ofInt 1) → pz_S 2 none am_r208 32 Q 32 [(1, .int (nI 1)), (0, .ref 154)] [] h) from ⟨fun _ => ?_, fun hz => absurd (by rw [rb2_1]; decide) hz⟩)
        refine am_goX 2 (show am_sh h 154 = some (11, 0) ∧ pz_S 2 none am_r208 32 Q 41 [(1, .int (nI 1)), (0, .ref 154)] [.int (h.1 154 8)] h from ⟨ex_154 (r_P l), ?_⟩)
        rw [r_f l]
        refine am_goX 1 (show (0 ≤ 0 → pz_S 2 none am_r208 32 Q 45 [(1, .int (nI 1)), (0, .ref 154)] [] h) ∧ (¬ (0 ≤ 0) → pz_S 2 none am_r208 32 Q 44 [(1, .int (nI 1)), (0, .ref 154)] [] h) from ⟨fun _ => ?_, fun hz => absurd (by decide) hz⟩)
        refine am_goX 8 (show (Value.ref 154).category = 1 ∧ am_sh h 154 = some (11, 0) ∧ am_sh h 154 = some (11, 0) ∧ narrow (am_fty 11 20) (.int (((h.1 154 20) ||| ((Int32.ofInt 1) <<< ((nI 1) &&& 31))))) = .int (((h.1 154 20) ||| ((Int32.ofInt 1) <<< ((nI 1) &&& 31)))) ∧ fits (am_fty 11 20) (.int (((h.1 154 20) ||| ((Int32.ofInt 1) <<< ((nI 1) &&& 31))))) = true ∧ pz_S 2 none am_r208 32 Q 57 [(1, .int (nI 1)), (0, .ref 154)] [] (am_wI h 154 20 (((h.1 154 20) ||| ((Int32.ofInt 1) <<< ((nI 1) &&& 31))))) from ⟨rfl, ex_154 (r_P l), ex_154 (r_P l), rfl, rfl, ?_⟩)
        rw [eO, rb2_g]
        refine am_goX 6 (show (Value.ref 154).category = 1 ∧ am_sh (am_wI h 154 20 (rb2 s.2.2.2.1.1 true)) 154 = some (11, 0) ∧ am_sh (am_wI h 154 20 (rb2 s.2.2.2.1.1 true)) 154 = some (11, 0) ∧ narrow (am_fty 11 7) (.int ((((am_wI h 154 20 (rb2 s.2.2.2.1.1 true)).1 154 7) + (Int32.ofInt 1)))) = .int ((((am_wI h 154 20 (rb2 s.2.2.2.1.1 true)).1 154 7) + (Int32.ofInt 1))) ∧ fits (am_fty 11 7) (.int ((((am_wI h 154 20 (rb2 s.2.2.2.1.1 true)).1 154 7) + (Int32.ofInt 1)))) = true ∧ pz_S 2 none am_r208 32 Q 67 [(1, .int (nI 1)), (0, .ref 154)] [] (am_wI (am_wI h 154 20 (rb2 s.2.2.2.1.1 true)) 154 7 ((((am_wI h 154 20 (rb2 s.2.2.2.1.1 true)).1 154 7) + (Int32.ofInt 1)))) from ⟨rfl, ex_154 hP, ex_154 hP, rfl, rfl, ?_⟩)
        rw [em_wn _ _ (by omega), r_a l, xw_i1]
        refine am_goX 2 (show (¬ (nI 1) = 0 → pz_S 2 none am_r208 32 Q 78 [(1, .int (nI 1)), (0, .ref 154)] [] (am_wI (am_wI h 154 20 (rb2 s.2.2.2.1.1 true)) 154 7 (nI (s.1 + 1)))) ∧ (¬ ¬ (nI 1) = 0 → pz_S 2 none am_r208 32 Q 71 [(1, .int (nI 1)), (0, .ref 154)] [] (am_wI (am_wI h 154 20 (rb2 s.2.2.2.1.1 true)) 154 7 (nI (s.1 + 1)))) from ⟨fun _ => ?_, fun hz => absurd (by decide) hz⟩)
        refine am_goX 2 (show am_sh (am_wI (am_wI h 154 20 (rb2 s.2.2.2.1.1 true)) 154 7 (nI (s.1 + 1))) 154 = some (11, 0) ∧ pz_S 2 none am_r208 32 Q 82 [(1, .int (nI 1)), (0, .ref 154)] [am_rf ((am_wI (am_wI h 154 20 (rb2 s.2.2.2.1.1 true)) 154 7 (nI (s.1 + 1))).2.2.1 154 10)] (am_wI (am_wI h 154 20 (rb2 s.2.2.2.1.1 true)) 154 7 (nI (s.1 + 1))) from ⟨ex_154 hP, ?_⟩)
        rw [ex_r154_10 (h := am_wI (am_wI h 154 20 (rb2 s.2.2.2.1.1 true)) 154 7 (nI (s.1 + 1))) hP]
        refine am_goX 3 (show am_sh (am_wI (am_wI h 154 20 (rb2 s.2.2.2.1.1 true)) 154 7 (nI (s.1 + 1))) 154 = some (11, 0) ∧ pz_S 2 none am_r208 32 Q 88 [(1, .int (nI 1)), (0, .ref 154)] [.int ((am_wI (am_wI h 154 20 (rb2 s.2.2.2.1.1 true)) 154 7 (nI (s.1 + 1))).1 154 13), .int (Int8.ofInt 43).toInt32, .ref 160] (am_wI (am_wI h 154 20 (rb2 s.2.2.2.1.1 true)) 154 7 (nI (s.1 + 1))) from ⟨ex_154 hP, ?_⟩)
        have hz : rz s.2 = 0 := by unfold rz; rw [e1]; rfl
        rw [hz] at l
        have c0 : s.2.2.2.2.2.1 = 0 := l.2.1.2.2.2.2.2.1.2.2.2.1 e1
        have eC : h.1 154 13 = nI 0 := by
          have w := l.2.1.2.2.2.2.2.1.1
          rw [c0] at w
          exact w
        rw [show (am_wI (am_wI h 154 20 (rb2 s.2.2.2.1.1 true)) 154 7 (nI (s.1 + 1))).1 154 13 = nI 0 from (em_wn _ _ (by omega)).trans ((em_wn _ _ (by omega)).trans eC)]
        refine am_goX 1 (show ∃ jj nn : Nat, am_so (am_wI (am_wI h 154 20 (rb2 s.2.2.2.1.1 true)) 154 7 (nI (s.1 + 1))) 160 = some (13, nn) ∧ jj < nn ∧ (Int8.ofInt 43).toInt32 = nI jj ∧ pz_S 2 none am_r208 32 Q 89 [(1, .int (nI 1)), (0, .ref 154)] [] (am_wI (am_wI (am_wI h 154 20 (rb2 s.2.2.2.1.1 true)) 154 7 (nI (s.1 + 1))) 160 jj ((nI 0))) from ⟨43, 80, ex_w160 hP, (by decide), (by decide), ?_⟩)
        have l30 : rr h0 0 τ N (s.1 + 1, sp_cL s.2) (am_wI (am_wI (am_wI h 154 20 (rb2 s.2.2.2.1.1 true)) 154 7 (nI (s.1 + 1))) 160 43 ((nI 0))) := rr_go1 (a := s.1) (C := s.2) l (sp_wn e6) e1
        refine am_goX 3 (show am_rc (am_wI (am_wI (am_wI h 154 20 (rb2 s.2.2.2.1.1 true)) 154 7 (nI (s.1 + 1))) 160 43 ((nI 0))) 154 11 ∧ 0 ≤ 8 ∧ (am_wI (am_wI (am_wI h 154 20 (rb2 s.2.2.2.1.1 true)) 154 7 (nI (s.1 + 1))) 160 43 ((nI 0))).2.2.2.2 + am_al 210 ≤ 175 ∧ am_call am_cod 32 210 [.ref 154, .int (Int32.ofInt 0)] (am_wI (am_wI (am_wI h 154 20 (rb2 s.2.2.2.1.1 true)) 154 7 (nI (s.1 + 1))) 160 43 ((nI 0))) (fun vv h' => pz_S 2 none am_r208 32 Q 94 [(1, .int (nI 1)), (0, .ref 154)] (vv.toList ++ []) h') from ⟨Or.inl ⟨by decide, ex_154 (r_P l30)⟩, by decide, ex_lim (r_P l30) rfl, am_call.up ((r_law 5 (Int32.ofInt 0) (by decide) (by decide)).2 (s.1 + 1, sp_cL s.2) _ _ l30 rfl (fun F31 h32 c33 a34 e35 x36 b37 b38 b39 => ?_) (fun h40 t41 e42 l43 ht44 => ?_)) (by omega)⟩)
        ·
          dsimp only at b39
          have hc0 : (sp_cL s.2).2.2.2.2.1 = 0 := c0
          rw [hc0] at b39
          refine am_goX 4 (show am_rc h32 154 11 ∧ 0 ≤ 8 ∧ h32.2.2.2.2 + am_al 216 ≤ 175 ∧ am_call am_cod 32 216 [.ref 154, .int (Int32.ofInt 0), .int (Int32.ofInt 0)] h32 (fun vv h' => pz_S 2 none am_r208 32 Q 100 [(1, .int (nI 1)), (0, .ref 154)] (vv.toList ++ []) h') from ⟨Or.inl ⟨by decide, ex_154 x36.1⟩, by decide, ex_lim x36.1 rfl, am_call.up (d_216 (by omega) x36 (fun h45 x46 => ?_)) (by omega)⟩)
          exact am_goX 1 (show (none : Option FieldType) = none ∧ h45.2.2.2.2 = 175 ∧ _ from ⟨rfl, ex_175 x46.1, hF (F31) _ (c33 + 1) (by simp only [sq_once, sq_snow, sq_goes, sp_b, sp_f, cond_true, cond_false, e5, e6, e1, e35]) x46⟩)
        ·
          refine am_goX 4 (show am_rc h40 154 11 ∧ 0 ≤ 8 ∧ h40.2.2.2.2 + am_al 216 ≤ 175 ∧ am_call am_cod 32 216 [.ref 154, .int (Int32.ofInt 0), .int (Int32.ofInt 0)] h40 (fun vv h' => pz_S 2 none am_r208 32 Q 100 [(1, .int (nI 1)), (0, .ref 154)] (vv.toList ++ []) h') from ⟨Or.inl ⟨by decide, ex_154 (r_P l43)⟩, by decide, ex_lim (r_P l43) rfl, am_call.up (r_216e (s := t41) l43 ht44 (fun h47 l48 => ?_)) (by omega)⟩)
          exact am_goX 1 (show (none : Option FieldType) = none ∧ h47.2.2.2.2 = 175 ∧ _ from ⟨rfl, ex_175 (r_P l48), hS _ t41 (by simp only [sq_once, sq_goes, sp_b, sp_f, cond_true, cond_false, e5, e6, e1, e42]) (by
  have g : rz t41.2 = 1 := by unfold rz; rw [ht44]; rfl
  rw [g]
  exact l48)⟩)
theorem r_194 (l : rr h0 (rz s.2) τ N s h) (hF : ∀ F h1 c', sq_line τ s = .inl F → rx h0 F c' h1 → Q none h1) (hS : ∀ h1 t, sq_line τ s = .inr t → rr h0 (rz t.2) τ N t h1 → Q none h1) : am_call am_cod 34 194 [.ref 154] h Q := by
  have hP := r_P l
  have hp6 : s.2.1.1 ≤ 6 := l.2.1.1.2.1
  have he5 : s.2.2.1.1 ≤ 5 := l.2.1.2.1.2.1
  refine pz_call (n := 194) (nL := 4) (rt := none) (rows := am_r194) (d := 33) (by decide +kernel) (by decide +kernel) rfl (by funext pc; rfl) (ex_175 hP) (by exact Nat.le_of_ble_eq_true rfl) ?_
  refine am_goX 3 (show am_rc h 154 11 ∧ 0 ≤ 8 ∧ h.2.2.2.2 + am_al 195 ≤ 175 ∧ am_call am_cod 33 195 [.ref 154, .int (Int32.ofInt 0)] h (fun vv h' => pz_S 4 none am_r194 33 Q 5 [(0, .ref 154)] (vv.toList ++ []) h') from ⟨Or.inl ⟨by decide, ex_154 (r_P l)⟩, by decide, ex_lim (r_P l) rfl, am_call.up (r_195 (w := 0) (W := 1119812451) (by decide) (by decide) (by decide) l ?_) (by omega)⟩)
  cases e49 : sp_w τ s.1 1119812451 with
  | true =>
    refine am_goX 1 (show ((pz_b (true)) = 0 → pz_S 4 none am_r194 33 Q 71 [(0, .ref 154)] [] h) ∧ (¬ ((pz_b (true)) = 0) → pz_S 4 none am_r194 33 Q 8 [(0, .ref 154)] [] h) from ⟨fun hz => absurd hz (by decide), fun _ => ?_⟩)
    refine am_goX 4 (show am_sh h 154 = some (11, 0) ∧ pz_S 4 none am_r194 33 Q 15 [(0, .ref 154)] [am_rf (h.2.2.1 154 10), .int (Int32.ofInt 3), .int (Int8.ofInt 44).toInt32] h from ⟨ex_154 (r_P l), ?_⟩)
    rw [ex_r154_10 (h := h) (r_P l)]
    refine am_goX 2 (show ∃ jj nn : Nat, am_sh h 160 = some (13, nn) ∧ jj < nn ∧ (Int8.ofInt 40).toInt32 = nI jj ∧ pz_S 4 none am_r194 33 Q 18 [(0, .ref 154)] [.int (h.1 160 jj), .int (Int32.ofInt 3), .int (Int8.ofInt 44).toInt32] h from ⟨40, 80, ex_160 (r_P l), (by decide), (by decide), ?_⟩)
    rw [show h.1 160 40 = nI s.2.1.1 from l.2.1.1.1]
    refine am_goX 7 (show 1 < 4 ∧ pz_S 4 none am_r194 33 Q 26 [(1, .int ((Int8.ofInt 44).toInt32 + ((Int32.ofInt 3) * (nI s.2.1.1)))), (0, .ref 154)] [.int (Int32.ofInt 0), .int (Int8.ofInt 6).toInt32, .int (Int32.ofInt 0), .ref 154] h from ⟨by decide, ?_⟩)
    rw [show ((Int8.ofInt 44).toInt32 + ((Int32.ofInt 3) * (nI s.2.1.1))) = nI (44 + 3 * s.2.1.1) from (by
      rw [show Int32.ofInt 3 * nI s.2.1.1 = nI (3 * s.2.1.1) from nI_mul 3 _]
      exact nI_add 44 _)]
    refine am_goX 1 (show am_rc h 154 11 ∧ 0 ≤ 8 ∧ h.2.2.2.2 + am_al 196 ≤ 175 ∧ am_call am_cod 33 196 [.ref 154, .int (Int32.ofInt 0), .int (Int8.ofInt 6).toInt32, .int (Int32.ofInt 0)] h (fun vv h' => pz_S 4 none am_r194 33 Q 29 [(1, .int (nI (44 + 3 * s.2.1.1))), (0, .ref 154)] (vv.toList ++ []) h') from ⟨Or.inl ⟨by decide, ex_154 (r_P l)⟩, by decide, ex_lim (r_P l) rfl, am_call.up (r_196p (sp_wn e49) l (fun F50 h51 e52 x53 => ?_) (fun X54 Y55 h56 e57 e58 l59 => ?_)) (by omega)⟩)
    ·
      have e9 : sq_person τ s = .inl F50 := by
        unfold sq_person
        cases hb : Nat.ble 6 s.2.1.1 with
        | true => rw [hb] at e52; exact e52
        | false =>
          rw [hb] at e52
          have hfn : sp_fn τ (s.1 + 1, s.2) = .inl F50 := e52
          show sp_b _ _ = _
          rw [hfn]
          rfl
      refine am_goX 4 (show am_rc h51 154 11 ∧ 0 ≤ 8 ∧ h51.2.2.2.2 + am_al 201 ≤ 175 ∧ am_call am_cod 33 201 [.ref 154, .int (Int8.ofInt 10).toInt32, .int (Int32.ofInt 4)] h51 (fun vv h' => pz_S 4 none am_r194 33 Q 36 [(1, .int (nI (44 + 3 * s.2.1.1))), (0, .ref 154)] (vv.toList ++ []) h') from ⟨Or.inl ⟨by decide, ex_154 x53.1⟩, by decide, ex_lim x53.1 rfl, am_call.up (d_201 x53 (fun h60 x61 => ?_)) (by omega)⟩)
      refine am_goX 6 (show 2 < 4 ∧ am_rc h60 154 11 ∧ 0 ≤ 8 ∧ h60.2.2.2.2 + am_al 202 ≤ 175 ∧ am_call am_cod 33 202 [.ref 154, .int (Int32.ofInt 1), .int (Int32.ofInt 0), .int (Int32.ofInt 4)] h60 (fun vv h' => pz_S 4 none am_r194 33 Q 44 [(2, .int (Int32.ofInt 0)), (1, .int (nI (44 + 3 * s.2.1.1))), (0, .ref 154)] (vv.toList ++ []) h') from ⟨by decide, Or.inl ⟨by decide, ex_154 x61.1⟩, by decide, ex_lim x61.1 rfl, am_call.up (d_202 x61 (fun h62 x63 => ?_)) (by omega)⟩)
      refine am_goX 3 (show 3 < 4 ∧ am_sh h62 154 = some (11, 0) ∧ pz_S 4 none am_r194 33 Q 49 [(3, .int (Int32.ofInt 0)), (2, .int (Int32.ofInt 0)), (1, .int (nI (44 + 3 * s.2.1.1))), (0, .ref 154)] [.int (h62.1 154 8)] h62 from ⟨by decide, ex_154 x63.1, ?_⟩)
      rw [x63.2.1.1]
      refine am_goX 1 (show (¬ (F50) = 0 → pz_S 4 none am_r194 33 Q 68 [(3, .int (Int32.ofInt 0)), (2, .int (Int32.ofInt 0)), (1, .int (nI (44 + 3 * s.2.1.1))), (0, .ref 154)] [] h62) ∧ (¬ ¬ (F50) = 0 → pz_S 4 none am_r194 33 Q 52 [(3, .int (Int32.ofInt 0)), (2, .int (Int32.ofInt 0)), (1, .int (nI (44 + 3 * s.2.1.1))), (0, .ref 154)] [] h62) from ⟨fun _ => ?_, fun hz => absurd (rx_ne x63) hz⟩)
      exact am_goX 2 (show (none : Option FieldType) = none ∧ h62.2.2.2.2 = 175 ∧ _ from ⟨rfl, ex_175 x63.1, hF (F50) _ (s.2.2.2.2.2.1 + rz s.2) (by simp only [sq_line, sp_b, sp_f, cond_true, cond_false, e49, e9]) x63⟩)
    ·
      refine am_goX 4 (show am_rc h56 154 11 ∧ 0 ≤ 8 ∧ h56.2.2.2.2 + am_al 201 ≤ 175 ∧ am_call am_cod 33 201 [.ref 154, .int (Int8.ofInt 10).toInt32, .int (Int32.ofInt 4)] h56 (fun vv h' => pz_S 4 none am_r194 33 Q 36 [(1, .int (nI (44 + 3 * s.2.1.1))), (0, .ref 154)] (vv.toList ++ []) h') from ⟨Or.inl ⟨by decide, ex_154 (r_P l59)⟩, by decide, ex_lim (r_P l59) rfl, am_call.up (r_201 (s := (s.1 + 1 + 1, sp_cP s.2 (τ (s.1 + 1)).2.1 X54 Y55)) l59 (fun e65 h64 x66 => ?_) (fun k67 h68 e69 l70 => ?_)) (by omega)⟩)
      ·
        refine am_goX 6 (show 2 < 4 ∧ am_rc h64 154 11 ∧ 0 ≤ 8 ∧ h64.2.2.2.2 + am_al 202 ≤ 175 ∧ am_call am_cod 33 202 [.ref 154, .int (Int32.ofInt 1), .int (Int32.ofInt 0), .int (Int32.ofInt 4)] h64 (fun vv h' => pz_S 4 none am_r194 33 Q 44 [(2, .int (Int32.ofInt 0)), (1, .int (nI (44 + 3 * s.2.1.1))), (0, .ref 154)] (vv.toList ++ []) h') from ⟨by decide, Or.inl ⟨by decide, ex_154 x66.1⟩, by decide, ex_lim x66.1 rfl, am_call.up (d_202 x66 (fun h71 x72 => ?_)) (by omega)⟩)
        refine am_goX 3 (show 3 < 4 ∧ am_sh h71 154 = some (11, 0) ∧ pz_S 4 none am_r194 33 Q 49 [(3, .int (Int32.ofInt 0)), (2, .int (Int32.ofInt 0)), (1, .int (nI (44 + 3 * s.2.1.1))), (0, .ref 154)] [.int (h71.1 154 8)] h71 from ⟨by decide, ex_154 x72.1, ?_⟩)
        rw [x72.2.1.1]
        refine am_goX 1 (show (¬ (sp_ft τ (s.1 + 1 + 1) (Int32.ofInt 1)) = 0 → pz_S 4 none am_r194 33 Q 68 [(3, .int (Int32.ofInt 0)), (2, .int (Int32.ofInt 0)), (1, .int (nI (44 + 3 * s.2.1.1))), (0, .ref 154)] [] h71) ∧ (¬ ¬ (sp_ft τ (s.1 + 1 + 1) (Int32.ofInt 1)) = 0 → pz_S 4 none am_r194 33 Q 52 [(3, .int (Int32.ofInt 0)), (2, .int (Int32.ofInt 0)), (1, .int (nI (44 + 3 * s.2.1.1))), (0, .ref 154)] [] h71) from ⟨fun _ => ?_, fun hz => absurd (rx_ne x72) hz⟩)
        exact am_goX 2 (show (none : Option FieldType) = none ∧ h71.2.2.2.2 = 175 ∧ _ from ⟨rfl, ex_175 x72.1, hF (sp_ft τ (s.1 + 1 + 1) (Int32.ofInt 1)) _ ((sp_cP s.2 (τ (s.1 + 1)).2.1 X54 Y55).2.2.2.2.1 + (rz s.2)) (by simp only [sq_line, sq_person, sq_event, sq_comes, sp_b, sp_f, cond_true, cond_false, e49, e57, e58, e65]) x72⟩)
      ·
        refine am_goX 6 (show 2 < 4 ∧ am_rc h68 154 11 ∧ 0 ≤ 8 ∧ h68.2.2.2.2 + am_al 202 ≤ 175 ∧ am_call am_cod 33 202 [.ref 154, .int (Int32.ofInt 1), .int (Int32.ofInt 0), .int (Int32.ofInt 4)] h68 (fun vv h' => pz_S 4 none am_r194 33 Q 44 [(2, .int k67), (1, .int (nI (44 + 3 * s.2.1.1))), (0, .ref 154)] (vv.toList ++ []) h') from ⟨by decide, Or.inl ⟨by decide, ex_154 (r_P l70)⟩, by decide, ex_lim (r_P l70) rfl, am_call.up (r_202 (w := 1) (W := 17003) (by decide) (by decide) (by decide) (s := (s.1 + 1 + 1 + 1, (sp_cP s.2 (τ (s.1 + 1)).2.1 X54 Y55))) l70 (fun F73 h74 e75 x76 => ?_) (fun h77 e78 l79 => ?_)) (by omega)⟩)
        ·
          have e9 : sq_person τ s = .inl F73 := pn_B e57 e58 e69 e75
          refine am_goX 3 (show 3 < 4 ∧ am_sh h74 154 = some (11, 0) ∧ pz_S 4 none am_r194 33 Q 49 [(3, .int (Int32.ofInt 0)), (2, .int k67), (1, .int (nI (44 + 3 * s.2.1.1))), (0, .ref 154)] [.int (h74.1 154 8)] h74 from ⟨by decide, ex_154 x76.1, ?_⟩)
          rw [x76.2.1.1]
          refine am_goX 1 (show (¬ (F73) = 0 → pz_S 4 none am_r194 33 Q 68 [(3, .int (Int32.ofInt 0)), (2, .int k67), (1, .int (nI (44 + 3 * s.2.1.1))), (0, .ref 154)] [] h74) ∧ (¬ ¬ (F73) = 0 → pz_S 4 none am_r194 33 Q 52 [(3, .int (Int32.ofInt 0)), (2, .int k67), (1, .int (nI (44 + 3 * s.2.1.1))), (0, .ref 154)] [] h74) from ⟨fun _ => ?_, fun hz => absurd (rx_ne x76) hz⟩)
          exact am_goX 2 (show (none : Option FieldType) = none ∧ h74.2.2.2.2 = 175 ∧ _ from ⟨rfl, ex_175 x76.1, hF (F73) _ ((sp_cP s.2 (τ (s.1 + 1)).2.1 X54 Y55).2.2.2.2.1 + (rz s.2)) (by simp only [sq_line, sp_b, sp_f, cond_true, cond_false, e49, e57, e58, e69, e9]) x76⟩)
        ·
          obtain ⟨e80, e81⟩ := e78
          refine am_goX 3 (show 3 < 4 ∧ am_sh h77 154 = some (11, 0) ∧ pz_S 4 none am_r194 33 Q 49 [(3, .int (sp_v τ (s.1 + 1 + 1 + 1 + 1))), (2, .int k67), (1, .int (nI (44 + 3 * s.2.1.1))), (0, .ref 154)] [.int (h77.1 154 8)] h77 from ⟨by decide, ex_154 (r_P l79), ?_⟩)
          rw [r_f l79]
          refine am_goX 1 (show (¬ 0 = 0 → pz_S 4 none am_r194 33 Q 68 [(3, .int (sp_v τ (s.1 + 1 + 1 + 1 + 1))), (2, .int k67), (1, .int (nI (44 + 3 * s.2.1.1))), (0, .ref 154)] [] h77) ∧ (¬ ¬ 0 = 0 → pz_S 4 none am_r194 33 Q 52 [(3, .int (sp_v τ (s.1 + 1 + 1 + 1 + 1))), (2, .int k67), (1, .int (nI (44 + 3 * s.2.1.1))), (0, .ref 154)] [] h77) from ⟨fun hz => absurd hz (by decide), fun _ => ?_⟩)
          refine am_goX 2 (show am_sh h77 154 = some (11, 0) ∧ pz_S 4 none am_r194 33 Q 56 [(3, .int (sp_v τ (s.1 + 1 + 1 + 1 + 1))), (2, .int k67), (1, .int (nI (44 + 3 * s.2.1.1))), (0, .ref 154)] [am_rf (h77.2.2.1 154 10)] h77 from ⟨ex_154 (r_P l79), ?_⟩)
          rw [ex_r154_10 (h := h77) (r_P l79)]
          refine am_goX 3 (show ∃ jj nn : Nat, am_so h77 160 = some (13, nn) ∧ jj < nn ∧ (nI (44 + 3 * s.2.1.1)) = nI jj ∧ pz_S 4 none am_r194 33 Q 59 [(3, .int (sp_v τ (s.1 + 1 + 1 + 1 + 1))), (2, .int k67), (1, .int (nI (44 + 3 * s.2.1.1))), (0, .ref 154)] [] (am_wI h77 160 jj (k67)) from ⟨(44 + 3 * s.2.1.1), 80, ex_w160 (r_P l79), (by omega), rfl, ?_⟩)
          have l82 : rr h0 (rz s.2) τ N (s.1 + 1 + 1 + 1 + 1 + 1, sp_cP s.2 (τ (s.1 + 1)).2.1 k67 Y55) (am_wI h77 160 (44 + 3 * s.2.1.1) (k67)) := rr_P1 l79
          refine am_goX 2 (show am_sh (am_wI h77 160 (44 + 3 * s.2.1.1) (k67)) 154 = some (11, 0) ∧ pz_S 4 none am_r194 33 Q 63 [(3, .int (sp_v τ (s.1 + 1 + 1 + 1 + 1))), (2, .int k67), (1, .int (nI (44 + 3 * s.2.1.1))), (0, .ref 154)] [am_rf ((am_wI h77 160 (44 + 3 * s.2.1.1) (k67)).2.2.1 154 10)] (am_wI h77 160 (44 + 3 * s.2.1.1) (k67)) from ⟨ex_154 (r_P l82), ?_⟩)
          rw [ex_r154_10 (h := am_wI h77 160 (44 + 3 * s.2.1.1) (k67)) (r_P l82)]
          refine am_goX 5 (show ∃ jj nn : Nat, am_so (am_wI h77 160 (44 + 3 * s.2.1.1) (k67)) 160 = some (13, nn) ∧ jj < nn ∧ ((nI (44 + 3 * s.2.1.1)) + (Int32.ofInt 1)) = nI jj ∧ pz_S 4 none am_r194 33 Q 68 [(3, .int (sp_v τ (s.1 + 1 + 1 + 1 + 1))), (2, .int k67), (1, .int (nI (44 + 3 * s.2.1.1))), (0, .ref 154)] [] (am_wI (am_wI h77 160 (44 + 3 * s.2.1.1) (k67)) 160 jj ((sp_v τ (s.1 + 1 + 1 + 1 + 1)))) from ⟨(45 + 3 * s.2.1.1), 80, ex_w160 (r_P l82), (by omega), (by rw [xw_i1]; congr 1; omega), ?_⟩)
          have l83 : rr h0 (rz s.2) τ N (s.1 + 1 + 1 + 1 + 1 + 1, sp_cP s.2 (τ (s.1 + 1)).2.1 k67 (sp_v τ (s.1 + 1 + 1 + 1 + 1))) (am_wI (am_wI h77 160 (44 + 3 * s.2.1.1) (k67)) 160 (45 + 3 * s.2.1.1) ((sp_v τ (s.1 + 1 + 1 + 1 + 1)))) := rr_P2 l82
          exact am_goX 2 (show (none : Option FieldType) = none ∧ (am_wI (am_wI h77 160 (44 + 3 * s.2.1.1) (k67)) 160 (45 + 3 * s.2.1.1) ((sp_v τ (s.1 + 1 + 1 + 1 + 1)))).2.2.2.2 = 175 ∧ _ from ⟨rfl, ex_175 (r_P l83), hS _ _ (by simp only [sq_line, sq_person, sq_event, sq_comes, sp_b, sp_f, cond_true, cond_false, e49, e57, e58, e69, r_cg_W e80, r_cg_N e81]) l83⟩)
  | false =>
    refine am_goX 1 (show ((pz_b (false)) = 0 → pz_S 4 none am_r194 33 Q 71 [(0, .ref 154)] [] h) ∧ (¬ ((pz_b (false)) = 0) → pz_S 4 none am_r194 33 Q 8 [(0, .ref 154)] [] h) from ⟨fun _ => ?_, fun hz => absurd (by decide) hz⟩)
    refine am_goX 3 (show am_rc h 154 11 ∧ 0 ≤ 8 ∧ h.2.2.2.2 + am_al 195 ≤ 175 ∧ am_call am_cod 33 195 [.ref 154, .int (Int32.ofInt 2)] h (fun vv h' => pz_S 4 none am_r194 33 Q 76 [(0, .ref 154)] (vv.toList ++ []) h') from ⟨Or.inl ⟨by decide, ex_154 (r_P l)⟩, by decide, ex_lim (r_P l) rfl, am_call.up (r_195 (w := 2) (W := 10492554) (by decide) (by decide) (by decide) l ?_) (by omega)⟩)
    cases e84 : sp_w τ s.1 10492554 with
    | true =>
      refine am_goX 1 (show ((pz_b (true)) = 0 → pz_S 4 none am_r194 33 Q 144 [(0, .ref 154)] [] h) ∧ (¬ ((pz_b (true)) = 0) → pz_S 4 none am_r194 33 Q 79 [(0, .ref 154)] [] h) from ⟨fun hz => absurd hz (by decide), fun _ => ?_⟩)
      refine am_goX 4 (show am_sh h 154 = some (11, 0) ∧ pz_S 4 none am_r194 33 Q 86 [(0, .ref 154)] [am_rf (h.2.2.1 154 10), .int (Int32.ofInt 2), .int (Int8.ofInt 62).toInt32] h from ⟨ex_154 (r_P l), ?_⟩)
      rw [ex_r154_10 (h := h) (r_P l)]
      refine am_goX 2 (show ∃ jj nn : Nat, am_sh h 160 = some (13, nn) ∧ jj < nn ∧ (Int8.ofInt 41).toInt32 = nI jj ∧ pz_S 4 none am_r194 33 Q 89 [(0, .ref 154)] [.int (h.1 160 jj), .int (Int32.ofInt 2), .int (Int8.ofInt 62).toInt32] h from ⟨41, 80, ex_160 (r_P l), (by decide), (by decide), ?_⟩)
      rw [show h.1 160 41 = nI s.2.2.1.1 from l.2.1.2.1.1]
      refine am_goX 7 (show 1 < 4 ∧ pz_S 4 none am_r194 33 Q 97 [(1, .int ((Int8.ofInt 62).toInt32 + ((Int32.ofInt 2) * (nI s.2.2.1.1)))), (0, .ref 154)] [.int (Int8.ofInt 20).toInt32, .int (Int32.ofInt 5), .int (Int32.ofInt 1), .ref 154] h from ⟨by decide, ?_⟩)
      rw [show ((Int8.ofInt 62).toInt32 + ((Int32.ofInt 2) * (nI s.2.2.1.1))) = nI (62 + 2 * s.2.2.1.1) from (by
        rw [show Int32.ofInt 2 * nI s.2.2.1.1 = nI (2 * s.2.2.1.1) from nI_mul 2 _]
        exact nI_add 62 _)]
      refine am_goX 1 (show am_rc h 154 11 ∧ 0 ≤ 8 ∧ h.2.2.2.2 + am_al 196 ≤ 175 ∧ am_call am_cod 33 196 [.ref 154, .int (Int32.ofInt 1), .int (Int32.ofInt 5), .int (Int8.ofInt 20).toInt32] h (fun vv h' => pz_S 4 none am_r194 33 Q 100 [(1, .int (nI (62 + 2 * s.2.2.1.1))), (0, .ref 154)] (vv.toList ++ []) h') from ⟨Or.inl ⟨by decide, ex_154 (r_P l)⟩, by decide, ex_lim (r_P l) rfl, am_call.up (r_196e (sp_wn e84) l (fun F85 h86 e87 x88 => ?_) (fun X89 Y90 h91 e92 e93 l94 => ?_)) (by omega)⟩)
      ·
        have e9 : sq_event τ s = .inl F85 := by
          unfold sq_event
          cases hb : Nat.ble 5 s.2.2.1.1 with
          | true => rw [hb] at e87; exact e87
          | false =>
            rw [hb] at e87
            have hfn : sp_fn τ (s.1 + 1, s.2) = .inl F85 := e87
            show sp_b _ _ = _
            rw [hfn]
            rfl
        refine am_goX 5 (show am_rc h86 154 11 ∧ 0 ≤ 8 ∧ h86.2.2.2.2 + am_al 202 ≤ 175 ∧ am_call am_cod 33 202 [.ref 154, .int (Int32.ofInt 3), .int (Int32.ofInt 0), .int (Int8.ofInt 6).toInt32] h86 (fun vv h' => pz_S 4 none am_r194 33 Q 108 [(1, .int (nI (62 + 2 * s.2.2.1.1))), (0, .ref 154)] (vv.toList ++ []) h') from ⟨Or.inl ⟨by decide, ex_154 x88.1⟩, by decide, ex_lim x88.1 rfl, am_call.up (d_202 x88 (fun h95 x96 => ?_)) (by omega)⟩)
        refine am_goX 6 (show 2 < 4 ∧ am_rc h95 154 11 ∧ 0 ≤ 8 ∧ h95.2.2.2.2 + am_al 202 ≤ 175 ∧ am_call am_cod 33 202 [.ref 154, .int (Int32.ofInt 4), .int (Int32.ofInt 1), .int (Int8.ofInt 6).toInt32] h95 (fun vv h' => pz_S 4 none am_r194 33 Q 117 [(2, .int (Int32.ofInt 0)), (1, .int (nI (62 + 2 * s.2.2.1.1))), (0, .ref 154)] (vv.toList ++ []) h') from ⟨by decide, Or.inl ⟨by decide, ex_154 x96.1⟩, by decide, ex_lim x96.1 rfl, am_call.up (d_202 x96 (fun h97 x98 => ?_)) (by omega)⟩)
        refine am_goX 3 (show 3 < 4 ∧ am_sh h97 154 = some (11, 0) ∧ pz_S 4 none am_r194 33 Q 122 [(3, .int (Int32.ofInt 0)), (2, .int (Int32.ofInt 0)), (1, .int (nI (62 + 2 * s.2.2.1.1))), (0, .ref 154)] [.int (h97.1 154 8)] h97 from ⟨by decide, ex_154 x98.1, ?_⟩)
        rw [x98.2.1.1]
        refine am_goX 1 (show (¬ (F85) = 0 → pz_S 4 none am_r194 33 Q 141 [(3, .int (Int32.ofInt 0)), (2, .int (Int32.ofInt 0)), (1, .int (nI (62 + 2 * s.2.2.1.1))), (0, .ref 154)] [] h97) ∧ (¬ ¬ (F85) = 0 → pz_S 4 none am_r194 33 Q 125 [(3, .int (Int32.ofInt 0)), (2, .int (Int32.ofInt 0)), (1, .int (nI (62 + 2 * s.2.2.1.1))), (0, .ref 154)] [] h97) from ⟨fun _ => ?_, fun hz => absurd (rx_ne x98) hz⟩)
        exact am_goX 2 (show (none : Option FieldType) = none ∧ h97.2.2.2.2 = 175 ∧ _ from ⟨rfl, ex_175 x98.1, hF (F85) _ (s.2.2.2.2.2.1 + rz s.2) (by simp only [sq_line, sp_b, sp_f, cond_true, cond_false, e49, e84, e9]) x98⟩)
      ·
        refine am_goX 5 (show am_rc h91 154 11 ∧ 0 ≤ 8 ∧ h91.2.2.2.2 + am_al 202 ≤ 175 ∧ am_call am_cod 33 202 [.ref 154, .int (Int32.ofInt 3), .int (Int32.ofInt 0), .int (Int8.ofInt 6).toInt32] h91 (fun vv h' => pz_S 4 none am_r194 33 Q 108 [(1, .int (nI (62 + 2 * s.2.2.1.1))), (0, .ref 154)] (vv.toList ++ []) h') from ⟨Or.inl ⟨by decide, ex_154 (r_P l94)⟩, by decide, ex_lim (r_P l94) rfl, am_call.up (r_202 (w := 3) (W := 569) (by decide) (by decide) (by decide) (s := (s.1 + 1 + 1, sp_cE s.2 (τ (s.1 + 1)).2.1 X89 Y90)) l94 (fun F99 h100 e101 x102 => ?_) (fun h103 e104 l105 => ?_)) (by omega)⟩)
        ·
          have e9 : sq_event τ s = .inl F99 := ev_B1 e92 e93 e101
          refine am_goX 6 (show 2 < 4 ∧ am_rc h100 154 11 ∧ 0 ≤ 8 ∧ h100.2.2.2.2 + am_al 202 ≤ 175 ∧ am_call am_cod 33 202 [.ref 154, .int (Int32.ofInt 4), .int (Int32.ofInt 1), .int (Int8.ofInt 6).toInt32] h100 (fun vv h' => pz_S 4 none am_r194 33 Q 117 [(2, .int (Int32.ofInt 0)), (1, .int (nI (62 + 2 * s.2.2.1.1))), (0, .ref 154)] (vv.toList ++ []) h') from ⟨by decide, Or.inl ⟨by decide, ex_154 x102.1⟩, by decide, ex_lim x102.1 rfl, am_call.up (d_202 x102 (fun h108 x109 => ?_)) (by omega)⟩)
          refine am_goX 3 (show 3 < 4 ∧ am_sh h108 154 = some (11, 0) ∧ pz_S 4 none am_r194 33 Q 122 [(3, .int (Int32.ofInt 0)), (2, .int (Int32.ofInt 0)), (1, .int (nI (62 + 2 * s.2.2.1.1))), (0, .ref 154)] [.int (h108.1 154 8)] h108 from ⟨by decide, ex_154 x109.1, ?_⟩)
          rw [x109.2.1.1]
          refine am_goX 1 (show (¬ (F99) = 0 → pz_S 4 none am_r194 33 Q 141 [(3, .int (Int32.ofInt 0)), (2, .int (Int32.ofInt 0)), (1, .int (nI (62 + 2 * s.2.2.1.1))), (0, .ref 154)] [] h108) ∧ (¬ ¬ (F99) = 0 → pz_S 4 none am_r194 33 Q 125 [(3, .int (Int32.ofInt 0)), (2, .int (Int32.ofInt 0)), (1, .int (nI (62 + 2 * s.2.2.1.1))), (0, .ref 154)] [] h108) from ⟨fun _ => ?_, fun hz => absurd (rx_ne x109) hz⟩)
          exact am_goX 2 (show (none : Option FieldType) = none ∧ h108.2.2.2.2 = 175 ∧ _ from ⟨rfl, ex_175 x109.1, hF (F99) _ ((sp_cE s.2 (τ (s.1 + 1)).2.1 X89 Y90).2.2.2.2.1 + (rz s.2)) (by simp only [sq_line, sp_b, sp_f, cond_true, cond_false, e49, e84, e92, e93, e9]) x109⟩)
        ·
          obtain ⟨e106, e107⟩ := e104
          refine am_goX 6 (show 2 < 4 ∧ am_rc h103 154 11 ∧ 0 ≤ 8 ∧ h103.2.2.2.2 + am_al 202 ≤ 175 ∧ am_call am_cod 33 202 [.ref 154, .int (Int32.ofInt 4), .int (Int32.ofInt 1), .int (Int8.ofInt 6).toInt32] h103 (fun vv h' => pz_S 4 none am_r194 33 Q 117 [(2, .int (sp_v τ (s.1 + 1 + 1 + 1))), (1, .int (nI (62 + 2 * s.2.2.1.1))), (0, .ref 154)] (vv.toList ++ []) h') from ⟨by decide, Or.inl ⟨by decide, ex_154 (r_P l105)⟩, by decide, ex_lim (r_P l105) rfl, am_call.up (r_202 (w := 4) (W := 26498531) (by decide) (by decide) (by decide) (s := (s.1 + 1 + 1 + 1 + 1, (sp_cE s.2 (τ (s.1 + 1)).2.1 X89 Y90))) l105 (fun F110 h111 e112 x113 => ?_) (fun h114 e115 l116 => ?_)) (by omega)⟩)
          ·
            have e9 : sq_event τ s = .inl F110 := ev_B2 e92 e93 e106 e107 e112
            refine am_goX 3 (show 3 < 4 ∧ am_sh h111 154 = some (11, 0) ∧ pz_S 4 none am_r194 33 Q 122 [(3, .int (Int32.ofInt 0)), (2, .int (sp_v τ (s.1 + 1 + 1 + 1))), (1, .int (nI (62 + 2 * s.2.2.1.1))), (0, .ref 154)] [.int (h111.1 154 8)] h111 from ⟨by decide, ex_154 x113.1, ?_⟩)
            rw [x113.2.1.1]
            refine am_goX 1 (show (¬ (F110) = 0 → pz_S 4 none am_r194 33 Q 141 [(3, .int (Int32.ofInt 0)), (2, .int (sp_v τ (s.1 + 1 + 1 + 1))), (1, .int (nI (62 + 2 * s.2.2.1.1))), (0, .ref 154)] [] h111) ∧ (¬ ¬ (F110) = 0 → pz_S 4 none am_r194 33 Q 125 [(3, .int (Int32.ofInt 0)), (2, .int (sp_v τ (s.1 + 1 + 1 + 1))), (1, .int (nI (62 + 2 * s.2.2.1.1))), (0, .ref 154)] [] h111) from ⟨fun _ => ?_, fun hz => absurd (rx_ne x113) hz⟩)
            exact am_goX 2 (show (none : Option FieldType) = none ∧ h111.2.2.2.2 = 175 ∧ _ from ⟨rfl, ex_175 x113.1, hF (F110) _ ((sp_cE s.2 (τ (s.1 + 1)).2.1 X89 Y90).2.2.2.2.1 + (rz s.2)) (by simp only [sq_line, sp_b, sp_f, cond_true, cond_false, e49, e84, e92, e93, r_cg_W e106, r_cg_N e107, e9]) x113⟩)
          ·
            obtain ⟨e117, e118⟩ := e115
            refine am_goX 3 (show 3 < 4 ∧ am_sh h114 154 = some (11, 0) ∧ pz_S 4 none am_r194 33 Q 122 [(3, .int (sp_v τ (s.1 + 1 + 1 + 1 + 1 + 1))), (2, .int (sp_v τ (s.1 + 1 + 1 + 1))), (1, .int (nI (62 + 2 * s.2.2.1.1))), (0, .ref 154)] [.int (h114.1 154 8)] h114 from ⟨by decide, ex_154 (r_P l116), ?_⟩)
            rw [r_f l116]
            refine am_goX 1 (show (¬ 0 = 0 → pz_S 4 none am_r194 33 Q 141 [(3, .int (sp_v τ (s.1 + 1 + 1 + 1 + 1 + 1))), (2, .int (sp_v τ (s.1 + 1 + 1 + 1))), (1, .int (nI (62 + 2 * s.2.2.1.1))), (0, .ref 154)] [] h114) ∧ (¬ ¬ 0 = 0 → pz_S 4 none am_r194 33 Q 125 [(3, .int (sp_v τ (s.1 + 1 + 1 + 1 + 1 + 1))), (2, .int (sp_v τ (s.1 + 1 + 1 + 1))), (1, .int (nI (62 + 2 * s.2.2.1.1))), (0, .ref 154)] [] h114) from ⟨fun hz => absurd hz (by decide), fun _ => ?_⟩)
            refine am_goX 2 (show am_sh h114 154 = some (11, 0) ∧ pz_S 4 none am_r194 33 Q 129 [(3, .int (sp_v τ (s.1 + 1 + 1 + 1 + 1 + 1))), (2, .int (sp_v τ (s.1 + 1 + 1 + 1))), (1, .int (nI (62 + 2 * s.2.2.1.1))), (0, .ref 154)] [am_rf (h114.2.2.1 154 10)] h114 from ⟨ex_154 (r_P l116), ?_⟩)
            rw [ex_r154_10 (h := h114) (r_P l116)]
            refine am_goX 3 (show ∃ jj nn : Nat, am_so h114 160 = some (13, nn) ∧ jj < nn ∧ (nI (62 + 2 * s.2.2.1.1)) = nI jj ∧ pz_S 4 none am_r194 33 Q 132 [(3, .int (sp_v τ (s.1 + 1 + 1 + 1 + 1 + 1))), (2, .int (sp_v τ (s.1 + 1 + 1 + 1))), (1, .int (nI (62 + 2 * s.2.2.1.1))), (0, .ref 154)] [] (am_wI h114 160 jj ((sp_v τ (s.1 + 1 + 1 + 1)))) from ⟨(62 + 2 * s.2.2.1.1), 80, ex_w160 (r_P l116), (by omega), rfl, ?_⟩)
            have l119 : rr h0 (rz s.2) τ N (s.1 + 1 + 1 + 1 + 1 + 1 + 1, sp_cE s.2 (τ (s.1 + 1)).2.1 (sp_v τ (s.1 + 1 + 1 + 1)) Y90) (am_wI h114 160 (62 + 2 * s.2.2.1.1) ((sp_v τ (s.1 + 1 + 1 + 1)))) := rr_E1 l116
            refine am_goX 2 (show am_sh (am_wI h114 160 (62 + 2 * s.2.2.1.1) ((sp_v τ (s.1 + 1 + 1 + 1)))) 154 = some (11, 0) ∧ pz_S 4 none am_r194 33 Q 136 [(3, .int (sp_v τ (s.1 + 1 + 1 + 1 + 1 + 1))), (2, .int (sp_v τ (s.1 + 1 + 1 + 1))), (1, .int (nI (62 + 2 * s.2.2.1.1))), (0, .ref 154)] [am_rf ((am_wI h114 160 (62 + 2 * s.2.2.1.1) ((sp_v τ (s.1 + 1 + 1 + 1)))).2.2.1 154 10)] (am_wI h114 160 (62 + 2 * s.2.2.1.1) ((sp_v τ (s.1 + 1 + 1 + 1)))) from ⟨ex_154 (r_P l119), ?_⟩)
            rw [ex_r154_10 (h := am_wI h114 160 (62 + 2 * s.2.2.1.1) ((sp_v τ (s.1 + 1 + 1 + 1)))) (r_P l119)]
            refine am_goX 5 (show ∃ jj nn : Nat, am_so (am_wI h114 160 (62 + 2 * s.2.2.1.1) ((sp_v τ (s.1 + 1 + 1 + 1)))) 160 = some (13, nn) ∧ jj < nn ∧ ((nI (62 + 2 * s.2.2.1.1)) + (Int32.ofInt 1)) = nI jj ∧ pz_S 4 none am_r194 33 Q 141 [(3, .int (sp_v τ (s.1 + 1 + 1 + 1 + 1 + 1))), (2, .int (sp_v τ (s.1 + 1 + 1 + 1))), (1, .int (nI (62 + 2 * s.2.2.1.1))), (0, .ref 154)] [] (am_wI (am_wI h114 160 (62 + 2 * s.2.2.1.1) ((sp_v τ (s.1 + 1 + 1 + 1)))) 160 jj ((sp_v τ (s.1 + 1 + 1 + 1 + 1 + 1)))) from ⟨(63 + 2 * s.2.2.1.1), 80, ex_w160 (r_P l119), (by omega), (by rw [xw_i1]; congr 1; omega), ?_⟩)
            have l120 : rr h0 (rz s.2) τ N (s.1 + 1 + 1 + 1 + 1 + 1 + 1, sp_cE s.2 (τ (s.1 + 1)).2.1 (sp_v τ (s.1 + 1 + 1 + 1)) (sp_v τ (s.1 + 1 + 1 + 1 + 1 + 1))) (am_wI (am_wI h114 160 (62 + 2 * s.2.2.1.1) ((sp_v τ (s.1 + 1 + 1 + 1)))) 160 (63 + 2 * s.2.2.1.1) ((sp_v τ (s.1 + 1 + 1 + 1 + 1 + 1)))) := rr_E2 l119
            exact am_goX 2 (show (none : Option FieldType) = none ∧ (am_wI (am_wI h114 160 (62 + 2 * s.2.2.1.1) ((sp_v τ (s.1 + 1 + 1 + 1)))) 160 (63 + 2 * s.2.2.1.1) ((sp_v τ (s.1 + 1 + 1 + 1 + 1 + 1)))).2.2.2.2 = 175 ∧ _ from ⟨rfl, ex_175 (r_P l120), hS _ _ (by simp only [sq_line, sq_person, sq_event, sq_comes, sp_b, sp_f, cond_true, cond_false, e49, e84, e92, e93, r_cg_W e106, r_cg_N e107, r_cg_W e117, r_cg_N e118]) l120⟩)
    | false =>
      refine am_goX 1 (show ((pz_b (false)) = 0 → pz_S 4 none am_r194 33 Q 144 [(0, .ref 154)] [] h) ∧ (¬ ((pz_b (false)) = 0) → pz_S 4 none am_r194 33 Q 79 [(0, .ref 154)] [] h) from ⟨fun _ => ?_, fun hz => absurd (by decide) hz⟩)
      refine am_goX 3 (show am_rc h 154 11 ∧ 0 ≤ 8 ∧ h.2.2.2.2 + am_al 195 ≤ 175 ∧ am_call am_cod 33 195 [.ref 154, .int (Int32.ofInt 5)] h (fun vv h' => pz_S 4 none am_r194 33 Q 149 [(0, .ref 154)] (vv.toList ++ []) h') from ⟨Or.inl ⟨by decide, ex_154 (r_P l)⟩, by decide, ex_lim (r_P l) rfl, am_call.up (r_195 (w := 5) (W := 6400279) (by decide) (by decide) (by decide) l ?_) (by omega)⟩)
      cases e121 : sp_w τ s.1 6400279 with
      | true =>
        refine am_goX 1 (show ((pz_b (true)) = 0 → pz_S 4 none am_r194 33 Q 217 [(0, .ref 154)] [] h) ∧ (¬ ((pz_b (true)) = 0) → pz_S 4 none am_r194 33 Q 152 [(0, .ref 154)] [] h) from ⟨fun hz => absurd hz (by decide), fun _ => ?_⟩)
        refine am_goX 6 (show (Value.ref 154).category = 1 ∧ am_sh h 154 = some (11, 0) ∧ am_sh h 154 = some (11, 0) ∧ narrow (am_fty 11 7) (.int (((h.1 154 7) + (Int32.ofInt 1)))) = .int (((h.1 154 7) + (Int32.ofInt 1))) ∧ fits (am_fty 11 7) (.int (((h.1 154 7) + (Int32.ofInt 1)))) = true ∧ pz_S 4 none am_r194 33 Q 162 [(0, .ref 154)] [] (am_wI h 154 7 (((h.1 154 7) + (Int32.ofInt 1)))) from ⟨rfl, ex_154 (r_P l), ex_154 (r_P l), rfl, rfl, ?_⟩)
        rw [r_a l, xw_i1]
        have l122 : rr h0 (rz s.2) τ N (s.1 + 1, s.2) (am_wI h 154 7 (nI (s.1 + 1))) := rr_nx (a := s.1) (C := s.2) l (sp_wn e121)
        refine am_goX 7 (show am_rc (am_wI h 154 7 (nI (s.1 + 1))) 154 11 ∧ 2 ≤ 8 ∧ (am_wI h 154 7 (nI (s.1 + 1))).2.2.2.2 + am_al 206 ≤ 175 ∧ am_call am_cod 33 206 [.ref 154, .int (Int32.ofInt 1), .int (Int32.ofInt 0), .int (Int32.ofInt 0)] (am_wI h 154 7 (nI (s.1 + 1))) (fun vv h' => pz_S 4 none am_r194 33 Q 172 [(0, .ref 154)] (vv.toList ++ [.int (Int32.ofInt 3), .int (Int8.ofInt 44).toInt32]) h') from ⟨Or.inl ⟨by decide, ex_154 (r_P l122)⟩, by decide, ex_lim (r_P l122) rfl, am_call.up (r_206p (s := (s.1 + 1, s.2)) l122 (fun F123 h124 e125 x126 => ?_) (fun p127 h128 e129 e130 l132 => ?_)) (by omega)⟩)
        ·
          have e9 : sq_comes τ s = .inl F123 := cm_p e125
          refine am_goX 10 (show 1 < 4 ∧ am_sh h124 154 = some (11, 0) ∧ pz_S 4 none am_r194 33 Q 185 [(1, .int (((Int8.ofInt 44).toInt32 + ((Int32.ofInt 3) * (Int32.ofInt 0))) + (Int32.ofInt 2))), (0, .ref 154)] [am_rf (h124.2.2.1 154 10), .int (Int8.ofInt 20).toInt32, .int (Int32.ofInt 1), .ref 154] h124 from ⟨by decide, ex_154 x126.1, ?_⟩)
          rw [ex_r154_10 (h := h124) x126.1]
          refine am_goX 2 (show ∃ jj nn : Nat, am_sh h124 160 = some (13, nn) ∧ jj < nn ∧ (((Int8.ofInt 44).toInt32 + ((Int32.ofInt 3) * (Int32.ofInt 0))) + (Int32.ofInt 2)) = nI jj ∧ pz_S 4 none am_r194 33 Q 187 [(1, .int (((Int8.ofInt 44).toInt32 + ((Int32.ofInt 3) * (Int32.ofInt 0))) + (Int32.ofInt 2))), (0, .ref 154)] [.int (h124.1 160 jj), .int (Int8.ofInt 20).toInt32, .int (Int32.ofInt 1), .ref 154] h124 from ⟨46, 80, ex_160 x126.1, (by decide), (by decide), ?_⟩)
          refine am_goX 1 (show am_rc h124 154 11 ∧ 0 ≤ 8 ∧ h124.2.2.2.2 + am_al 206 ≤ 175 ∧ am_call am_cod 33 206 [.ref 154, .int (Int32.ofInt 1), .int (Int8.ofInt 20).toInt32, .int (h124.1 160 46)] h124 (fun vv h' => pz_S 4 none am_r194 33 Q 190 [(1, .int (((Int8.ofInt 44).toInt32 + ((Int32.ofInt 3) * (Int32.ofInt 0))) + (Int32.ofInt 2))), (0, .ref 154)] (vv.toList ++ []) h') from ⟨Or.inl ⟨by decide, ex_154 x126.1⟩, by decide, ex_lim x126.1 rfl, am_call.up (d_206 x126 (fun h133 x134 => ?_)) (by omega)⟩)
          refine am_goX 3 (show 2 < 4 ∧ am_sh h133 154 = some (11, 0) ∧ pz_S 4 none am_r194 33 Q 195 [(2, .int (Int32.ofInt 0)), (1, .int (((Int8.ofInt 44).toInt32 + ((Int32.ofInt 3) * (Int32.ofInt 0))) + (Int32.ofInt 2))), (0, .ref 154)] [am_rf (h133.2.2.1 154 10)] h133 from ⟨by decide, ex_154 x134.1, ?_⟩)
          rw [ex_r154_10 (h := h133) x134.1]
          refine am_goX 3 (show (Value.int (((Int8.ofInt 44).toInt32 + ((Int32.ofInt 3) * (Int32.ofInt 0))) + (Int32.ofInt 2))).category = 1 ∧ (Value.ref 160).category = 1 ∧ ∃ jj nn : Nat, am_sh h133 160 = some (13, nn) ∧ jj < nn ∧ (((Int8.ofInt 44).toInt32 + ((Int32.ofInt 3) * (Int32.ofInt 0))) + (Int32.ofInt 2)) = nI jj ∧ pz_S 4 none am_r194 33 Q 198 [(2, .int (Int32.ofInt 0)), (1, .int (((Int8.ofInt 44).toInt32 + ((Int32.ofInt 3) * (Int32.ofInt 0))) + (Int32.ofInt 2))), (0, .ref 154)] [.int (h133.1 160 jj), .int (((Int8.ofInt 44).toInt32 + ((Int32.ofInt 3) * (Int32.ofInt 0))) + (Int32.ofInt 2)), .ref 160] h133 from ⟨rfl, rfl, 46, 80, ex_160 x134.1, (by decide), (by decide), ?_⟩)
          refine am_goX 2 (show am_sh h133 154 = some (11, 0) ∧ pz_S 4 none am_r194 33 Q 202 [(2, .int (Int32.ofInt 0)), (1, .int (((Int8.ofInt 44).toInt32 + ((Int32.ofInt 3) * (Int32.ofInt 0))) + (Int32.ofInt 2))), (0, .ref 154)] [.int (h133.1 154 8), .int (h133.1 160 46), .int (((Int8.ofInt 44).toInt32 + ((Int32.ofInt 3) * (Int32.ofInt 0))) + (Int32.ofInt 2)), .ref 160] h133 from ⟨ex_154 x134.1, ?_⟩)
          rw [x134.2.1.1]
          refine am_goX 1 (show ((F123) ≤ 0 → pz_S 4 none am_r194 33 Q 209 [(2, .int (Int32.ofInt 0)), (1, .int (((Int8.ofInt 44).toInt32 + ((Int32.ofInt 3) * (Int32.ofInt 0))) + (Int32.ofInt 2))), (0, .ref 154)] [.int (h133.1 160 46), .int (((Int8.ofInt 44).toInt32 + ((Int32.ofInt 3) * (Int32.ofInt 0))) + (Int32.ofInt 2)), .ref 160] h133) ∧ (¬ ((F123) ≤ 0) → pz_S 4 none am_r194 33 Q 205 [(2, .int (Int32.ofInt 0)), (1, .int (((Int8.ofInt 44).toInt32 + ((Int32.ofInt 3) * (Int32.ofInt 0))) + (Int32.ofInt 2))), (0, .ref 154)] [.int (h133.1 160 46), .int (((Int8.ofInt 44).toInt32 + ((Int32.ofInt 3) * (Int32.ofInt 0))) + (Int32.ofInt 2)), .ref 160] h133) from ⟨fun hz => absurd hz (rx_le x134), fun _ => ?_⟩)
          refine am_goX 4 (show ∃ jj nn : Nat, am_so h133 160 = some (13, nn) ∧ jj < nn ∧ (((Int8.ofInt 44).toInt32 + ((Int32.ofInt 3) * (Int32.ofInt 0))) + (Int32.ofInt 2)) = nI jj ∧ pz_S 4 none am_r194 33 Q 214 [(2, .int (Int32.ofInt 0)), (1, .int (((Int8.ofInt 44).toInt32 + ((Int32.ofInt 3) * (Int32.ofInt 0))) + (Int32.ofInt 2))), (0, .ref 154)] [] (am_wI h133 160 jj (((h133.1 160 46) ||| (Int32.ofInt 0)))) from ⟨46, 80, ex_w160 x134.1, (by decide), (by decide), ?_⟩)
          have x135 : rx h0 (F123) (s.2.2.2.2.2.1 + (rz s.2)) (am_wI h133 160 46 (((h133.1 160 46) ||| (Int32.ofInt 0)))) := rx_160 (by omega) x134
          exact am_goX 2 (show (none : Option FieldType) = none ∧ (am_wI h133 160 46 (((h133.1 160 46) ||| (Int32.ofInt 0)))).2.2.2.2 = 175 ∧ _ from ⟨rfl, ex_175 x135.1, hF (F123) _ (s.2.2.2.2.2.1 + (rz s.2)) (by simp only [sq_line, sp_b, sp_f, cond_true, cond_false, e49, e84, e121, e9]) x135⟩)
        ·
          have hpl : p127 < 0 + s.2.1.1 := (sp_fd_lt e130).2.1
          refine am_goX 10 (show 1 < 4 ∧ am_sh h128 154 = some (11, 0) ∧ pz_S 4 none am_r194 33 Q 185 [(1, .int (((Int8.ofInt 44).toInt32 + ((Int32.ofInt 3) * (nI p127))) + (Int32.ofInt 2))), (0, .ref 154)] [am_rf (h128.2.2.1 154 10), .int (Int8.ofInt 20).toInt32, .int (Int32.ofInt 1), .ref 154] h128 from ⟨by decide, ex_154 (r_P l132), ?_⟩)
          rw [ex_r154_10 (h := h128) (r_P l132)]
          refine am_goX 2 (show ∃ jj nn : Nat, am_sh h128 160 = some (13, nn) ∧ jj < nn ∧ (((Int8.ofInt 44).toInt32 + ((Int32.ofInt 3) * (nI p127))) + (Int32.ofInt 2)) = nI jj ∧ pz_S 4 none am_r194 33 Q 187 [(1, .int (((Int8.ofInt 44).toInt32 + ((Int32.ofInt 3) * (nI p127))) + (Int32.ofInt 2))), (0, .ref 154)] [.int (h128.1 160 jj), .int (Int8.ofInt 20).toInt32, .int (Int32.ofInt 1), .ref 154] h128 from ⟨(46 + 3 * p127), 80, ex_160 (r_P l132), (by omega), (cm_i p127), ?_⟩)
          have hcell : ∀ e, e < s.2.2.1.1 → sp_bit (h128.1 160 (46 + 3 * p127)) (nI e) = sp_bit (s.2.2.1.2.2.2.2 e) (nI p127) := fun e he => (l132.2.1.2.2.1 p127 e (by omega) (by omega)).1.trans (by dsimp only; rw [decide_eq_true he]; rfl)
          refine am_goX 1 (show am_rc h128 154 11 ∧ 0 ≤ 8 ∧ h128.2.2.2.2 + am_al 206 ≤ 175 ∧ am_call am_cod 33 206 [.ref 154, .int (Int32.ofInt 1), .int (Int8.ofInt 20).toInt32, .int (h128.1 160 (46 + 3 * p127))] h128 (fun vv h' => pz_S 4 none am_r194 33 Q 190 [(1, .int (((Int8.ofInt 44).toInt32 + ((Int32.ofInt 3) * (nI p127))) + (Int32.ofInt 2))), (0, .ref 154)] (vv.toList ++ []) h') from ⟨Or.inl ⟨by decide, ex_154 (r_P l132)⟩, by decide, ex_lim (r_P l132) rfl, am_call.up (r_206e (s := (s.1 + 1 + 1, s.2)) l132 (fun F136 h137 e138 x139 => ?_) (fun p140 h141 e142 e143 e144 l145 => ?_)) (by omega)⟩)
          ·
            have e9 : sq_comes τ s = .inl F136 := cm_e e129 e130 (hcell) e138
            refine am_goX 3 (show 2 < 4 ∧ am_sh h137 154 = some (11, 0) ∧ pz_S 4 none am_r194 33 Q 195 [(2, .int (Int32.ofInt 0)), (1, .int (((Int8.ofInt 44).toInt32 + ((Int32.ofInt 3) * (nI p127))) + (Int32.ofInt 2))), (0, .ref 154)] [am_rf (h137.2.2.1 154 10)] h137 from ⟨by decide, ex_154 x139.1, ?_⟩)
            rw [ex_r154_10 (h := h137) x139.1]
            refine am_goX 3 (show (Value.int (((Int8.ofInt 44).toInt32 + ((Int32.ofInt 3) * (nI p127))) + (Int32.ofInt 2))).category = 1 ∧ (Value.ref 160).category = 1 ∧ ∃ jj nn : Nat, am_sh h137 160 = some (13, nn) ∧ jj < nn ∧ (((Int8.ofInt 44).toInt32 + ((Int32.ofInt 3) * (nI p127))) + (Int32.ofInt 2)) = nI jj ∧ pz_S 4 none am_r194 33 Q 198 [(2, .int (Int32.ofInt 0)), (1, .int (((Int8.ofInt 44).toInt32 + ((Int32.ofInt 3) * (nI p127))) + (Int32.ofInt 2))), (0, .ref 154)] [.int (h137.1 160 jj), .int (((Int8.ofInt 44).toInt32 + ((Int32.ofInt 3) * (nI p127))) + (Int32.ofInt 2)), .ref 160] h137 from ⟨rfl, rfl, (46 + 3 * p127), 80, ex_160 x139.1, (by omega), (cm_i p127), ?_⟩)
            refine am_goX 2 (show am_sh h137 154 = some (11, 0) ∧ pz_S 4 none am_r194 33 Q 202 [(2, .int (Int32.ofInt 0)), (1, .int (((Int8.ofInt 44).toInt32 + ((Int32.ofInt 3) * (nI p127))) + (Int32.ofInt 2))), (0, .ref 154)] [.int (h137.1 154 8), .int (h137.1 160 (46 + 3 * p127)), .int (((Int8.ofInt 44).toInt32 + ((Int32.ofInt 3) * (nI p127))) + (Int32.ofInt 2)), .ref 160] h137 from ⟨ex_154 x139.1, ?_⟩)
            rw [x139.2.1.1]
            refine am_goX 1 (show ((F136) ≤ 0 → pz_S 4 none am_r194 33 Q 209 [(2, .int (Int32.ofInt 0)), (1, .int (((Int8.ofInt 44).toInt32 + ((Int32.ofInt 3) * (nI p127))) + (Int32.ofInt 2))), (0, .ref 154)] [.int (h137.1 160 (46 + 3 * p127)), .int (((Int8.ofInt 44).toInt32 + ((Int32.ofInt 3) * (nI p127))) + (Int32.ofInt 2)), .ref 160] h137) ∧ (¬ ((F136) ≤ 0) → pz_S 4 none am_r194 33 Q 205 [(2, .int (Int32.ofInt 0)), (1, .int (((Int8.ofInt 44).toInt32 + ((Int32.ofInt 3) * (nI p127))) + (Int32.ofInt 2))), (0, .ref 154)] [.int (h137.1 160 (46 + 3 * p127)), .int (((Int8.ofInt 44).toInt32 + ((Int32.ofInt 3) * (nI p127))) + (Int32.ofInt 2)), .ref 160] h137) from ⟨fun hz => absurd hz (rx_le x139), fun _ => ?_⟩)
            refine am_goX 4 (show ∃ jj nn : Nat, am_so h137 160 = some (13, nn) ∧ jj < nn ∧ (((Int8.ofInt 44).toInt32 + ((Int32.ofInt 3) * (nI p127))) + (Int32.ofInt 2)) = nI jj ∧ pz_S 4 none am_r194 33 Q 214 [(2, .int (Int32.ofInt 0)), (1, .int (((Int8.ofInt 44).toInt32 + ((Int32.ofInt 3) * (nI p127))) + (Int32.ofInt 2))), (0, .ref 154)] [] (am_wI h137 160 jj (((h137.1 160 (46 + 3 * p127)) ||| (Int32.ofInt 0)))) from ⟨(46 + 3 * p127), 80, ex_w160 x139.1, (by omega), (cm_i p127), ?_⟩)
            have x146 : rx h0 (F136) (s.2.2.2.2.2.1 + (rz s.2)) (am_wI h137 160 (46 + 3 * p127) (((h137.1 160 (46 + 3 * p127)) ||| (Int32.ofInt 0)))) := rx_160 (by omega) x139
            exact am_goX 2 (show (none : Option FieldType) = none ∧ (am_wI h137 160 (46 + 3 * p127) (((h137.1 160 (46 + 3 * p127)) ||| (Int32.ofInt 0)))).2.2.2.2 = 175 ∧ _ from ⟨rfl, ex_175 x146.1, hF (F136) _ (s.2.2.2.2.2.1 + (rz s.2)) (by simp only [sq_line, sp_b, sp_f, cond_true, cond_false, e49, e84, e121, e129, e130, e9]) x146⟩)
          ·
            have hel : p140 < 0 + s.2.2.1.1 := (sp_fd_lt e143).2.1
            have e10 : sp_bit (s.2.2.1.2.2.2.2 p140) (nI p127) = false := ((hcell) p140 (show p140 < s.2.2.1.1 by omega)).symm.trans e144
            refine am_goX 3 (show 2 < 4 ∧ am_sh h141 154 = some (11, 0) ∧ pz_S 4 none am_r194 33 Q 195 [(2, .int (nI p140)), (1, .int (((Int8.ofInt 44).toInt32 + ((Int32.ofInt 3) * (nI p127))) + (Int32.ofInt 2))), (0, .ref 154)] [am_rf (h141.2.2.1 154 10)] h141 from ⟨by decide, ex_154 (r_P l145), ?_⟩)
            rw [ex_r154_10 (h := h141) (r_P l145)]
            refine am_goX 3 (show (Value.int (((Int8.ofInt 44).toInt32 + ((Int32.ofInt 3) * (nI p127))) + (Int32.ofInt 2))).category = 1 ∧ (Value.ref 160).category = 1 ∧ ∃ jj nn : Nat, am_sh h141 160 = some (13, nn) ∧ jj < nn ∧ (((Int8.ofInt 44).toInt32 + ((Int32.ofInt 3) * (nI p127))) + (Int32.ofInt 2)) = nI jj ∧ pz_S 4 none am_r194 33 Q 198 [(2, .int (nI p140)), (1, .int (((Int8.ofInt 44).toInt32 + ((Int32.ofInt 3) * (nI p127))) + (Int32.ofInt 2))), (0, .ref 154)] [.int (h141.1 160 jj), .int (((Int8.ofInt 44).toInt32 + ((Int32.ofInt 3) * (nI p127))) + (Int32.ofInt 2)), .ref 160] h141 from ⟨rfl, rfl, (46 + 3 * p127), 80, ex_160 (r_P l145), (by omega), (cm_i p127), ?_⟩)
            refine am_goX 2 (show am_sh h141 154 = some (11, 0) ∧ pz_S 4 none am_r194 33 Q 202 [(2, .int (nI p140)), (1, .int (((Int8.ofInt 44).toInt32 + ((Int32.ofInt 3) * (nI p127))) + (Int32.ofInt 2))), (0, .ref 154)] [.int (h141.1 154 8), .int (h141.1 160 (46 + 3 * p127)), .int (((Int8.ofInt 44).toInt32 + ((Int32.ofInt 3) * (nI p127))) + (Int32.ofInt 2)), .ref 160] h141 from ⟨ex_154 (r_P l145), ?_⟩)
            rw [r_f l145]
            refine am_goX 1 (show (0 ≤ 0 → pz_S 4 none am_r194 33 Q 209 [(2, .int (nI p140)), (1, .int (((Int8.ofInt 44).toInt32 + ((Int32.ofInt 3) * (nI p127))) + (Int32.ofInt 2))), (0, .ref 154)] [.int (h141.1 160 (46 + 3 * p127)), .int (((Int8.ofInt 44).toInt32 + ((Int32.ofInt 3) * (nI p127))) + (Int32.ofInt 2)), .ref 160] h141) ∧ (¬ (0 ≤ 0) → pz_S 4 none am_r194 33 Q 205 [(2, .int (nI p140)), (1, .int (((Int8.ofInt 44).toInt32 + ((Int32.ofInt 3) * (nI p127))) + (Int32.ofInt 2))), (0, .ref 154)] [.int (h141.1 160 (46 + 3 * p127)), .int (((Int8.ofInt 44).toInt32 + ((Int32.ofInt 3) * (nI p127))) + (Int32.ofInt 2)), .ref 160] h141) from ⟨fun _ => ?_, fun hz => absurd (by decide) hz⟩)
            refine am_goX 5 (show ∃ jj nn : Nat, am_so h141 160 = some (13, nn) ∧ jj < nn ∧ (((Int8.ofInt 44).toInt32 + ((Int32.ofInt 3) * (nI p127))) + (Int32.ofInt 2)) = nI jj ∧ pz_S 4 none am_r194 33 Q 214 [(2, .int (nI p140)), (1, .int (((Int8.ofInt 44).toInt32 + ((Int32.ofInt 3) * (nI p127))) + (Int32.ofInt 2))), (0, .ref 154)] [] (am_wI h141 160 jj (((h141.1 160 (46 + 3 * p127)) ||| ((Int32.ofInt 1) <<< ((nI p140) &&& 31))))) from ⟨(46 + 3 * p127), 80, ex_w160 (r_P l145), (by omega), (cm_i p127), ?_⟩)
            have l147 : rr h0 (rz s.2) τ N (s.1 + 1 + 1 + 1, sp_cG s.2 p140 p127) (am_wI h141 160 (46 + 3 * p127) (((h141.1 160 (46 + 3 * p127)) ||| ((Int32.ofInt 1) <<< ((nI p140) &&& 31))))) := rr_G l145 (by omega) (by omega)
            exact am_goX 2 (show (none : Option FieldType) = none ∧ (am_wI h141 160 (46 + 3 * p127) (((h141.1 160 (46 + 3 * p127)) ||| ((Int32.ofInt 1) <<< ((nI p140) &&& 31))))).2.2.2.2 = 175 ∧ _ from ⟨rfl, ex_175 (r_P l147), hS _ _ (by simp only [sq_line, sq_person, sq_event, sq_comes, sp_b, sp_f, cond_true, cond_false, e49, e84, e121, e129, e130, e142, e143, e10]) l147⟩)
      | false =>
        refine am_goX 1 (show ((pz_b (false)) = 0 → pz_S 4 none am_r194 33 Q 217 [(0, .ref 154)] [] h) ∧ (¬ ((pz_b (false)) = 0) → pz_S 4 none am_r194 33 Q 152 [(0, .ref 154)] [] h) from ⟨fun _ => ?_, fun hz => absurd (by decide) hz⟩)
        refine am_goX 2 (show am_rc h 154 11 ∧ 0 ≤ 8 ∧ h.2.2.2.2 + am_al 208 ≤ 175 ∧ am_call am_cod 33 208 [.ref 154] h (fun vv h' => pz_S 4 none am_r194 33 Q 221 [(0, .ref 154)] (vv.toList ++ []) h') from ⟨Or.inl ⟨by decide, ex_154 (r_P l)⟩, by decide, ex_lim (r_P l) rfl, am_call.up (r_208 l (fun F148 h149 c150 e151 x152 => ?_) (fun h153 t154 e155 l156 => ?_)) (by omega)⟩)
        ·
          exact am_goX 1 (show (none : Option FieldType) = none ∧ h149.2.2.2.2 = 175 ∧ _ from ⟨rfl, ex_175 x152.1, hF (F148) _ (c150) (by simp only [sq_line, sq_person, sq_event, sq_comes, sp_b, sp_f, cond_true, cond_false, e49, e84, e121, e151]) x152⟩)
        ·
          exact am_goX 1 (show (none : Option FieldType) = none ∧ h153.2.2.2.2 = 175 ∧ _ from ⟨rfl, ex_175 (r_P l156), hS _ _ (by simp only [sq_line, sq_person, sq_event, sq_comes, sp_b, sp_f, cond_true, cond_false, e49, e84, e121, e155]) l156⟩)
