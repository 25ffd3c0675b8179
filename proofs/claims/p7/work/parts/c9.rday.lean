/-! WALKS: the reference's day -/
theorem on_w {ob k : Nat} {v : Int32} {E : Nat} {f : Nat → Int32} {h : am_H} (hn : ¬ ob = 172) (l : ∀ e, e < E → h.1 172 e = f e) : ∀ e, e < E → (am_wI h ob k v).1 172 e = f e := fun e he => by
  rw [em_wn _ _ (by omega)]
  exact l e he
theorem sR_x {b P : Nat} {s : dS} {h g : am_H} (e : ∀ j, b ≤ j → j < b + 24 → g.1 170 j = h.1 170 j) (hP : P ≤ 6) (l : sR b P s h) : sR b P s g := by
  obtain ⟨⟨a1, a2⟩, a3, a4, a5⟩ := l
  refine ⟨⟨?_, ?_⟩, fun i hi => ?_, fun i hi => ?_, fun i hi => ⟨?_, ?_⟩⟩
  · rw [e _ (by omega) (by omega)]; exact a1
  · rw [e _ (by omega) (by omega)]; exact a2
  · rw [e _ (by omega) (by omega)]; exact a3 i hi
  · rw [e _ (by omega) (by omega)]; exact a4 i hi
  · rw [e _ (by omega) (by omega)]; exact (a5 i hi).1
  · rw [e _ (by omega) (by omega)]; exact (a5 i hi).2
theorem sR_o {b P ob k : Nat} {v : Int32} {s : dS} {h : am_H} (hn : ¬ ob = 170) (l : sR b P s h) : sR b P s (am_wI h ob k v) := by
  have e : ∀ j, (am_wI h ob k v).1 170 j = h.1 170 j := fun j => em_wn _ _ (by omega)
  obtain ⟨⟨a1, a2⟩, a3, a4, a5⟩ := l
  refine ⟨⟨?_, ?_⟩, fun i hi => ?_, fun i hi => ?_, fun i hi => ⟨?_, ?_⟩⟩ <;> rw [e]
  · exact a1
  · exact a2
  · exact a3 i hi
  · exact a4 i hi
  · exact (a5 i hi).1
  · exact (a5 i hi).2
theorem sR_q {b P j : Nat} {v : Int32} {s : dS} {h : am_H} (hn : (¬ (b ≤ j ∧ j < b + 24)) ∧ P ≤ 6) (l : sR b P s h) : sR b P s (am_wI h 170 j v) :=
  sR_x (fun i h1 h2 => em_wn _ _ (by omega)) hn.2 l
theorem sR_wD {b P j : Nat} {v : Int32} {s : dS} {h : am_H} (hj : j = b ∧ P ≤ 6) (l : sR b P s h) : sR b P (sSD s v) (am_wI h 170 j v) := by
  obtain ⟨⟨a1, a2⟩, a3, a4, a5⟩ := l
  obtain ⟨rfl, hP⟩ := hj
  refine ⟨⟨em_we _ _ _ _, ?_⟩, fun i hi => ?_, fun i hi => ?_, fun i hi => ⟨?_, ?_⟩⟩ <;> rw [em_wn _ _ (by omega)]
  · exact a2
  · exact a3 i hi
  · exact a4 i hi
  · exact (a5 i hi).1
  · exact (a5 i hi).2
theorem sR_wX {b P j : Nat} {v : Int32} {s : dS} {h : am_H} (hj : j = b + 1 ∧ P ≤ 6) (l : sR b P s h) : sR b P (sSX s v) (am_wI h 170 j v) := by
  obtain ⟨⟨a1, a2⟩, a3, a4, a5⟩ := l
  obtain ⟨rfl, hP⟩ := hj
  refine ⟨⟨?_, em_we _ _ _ _⟩, fun i hi => ?_, fun i hi => ?_, fun i hi => ⟨?_, ?_⟩⟩ <;> rw [em_wn _ _ (by omega)]
  · exact a1
  · exact a3 i hi
  · exact a4 i hi
  · exact (a5 i hi).1
  · exact (a5 i hi).2

theorem sR_wL {b P j i : Nat} {v : Int32} {s : dS} {h : am_H} (hj : j = b + 2 + i) (hi0 : i < P ∧ P ≤ 6) (l : sR b P s h) : sR b P (sSL s i v) (am_wI h 170 j v) := by
  obtain ⟨⟨a1, a2⟩, a3, a4, a5⟩ := l
  refine ⟨⟨?_, ?_⟩, fun i_ hi => ?_, fun i_ hi => ?_, fun i_ hi => ⟨?_, ?_⟩⟩
  · rw [em_wn _ _ (by omega)]; exact a1
  · rw [em_wn _ _ (by omega)]; exact a2
  · rw [em_u]; show (if _ = _ then v else _) = (if i_ = i then v else _); by_cases e : i_ = i
    · rw [if_pos (by omega), if_pos e]
    · rw [if_neg (by omega), if_neg e]; exact a3 i_ hi
  · rw [em_wn _ _ (by omega)]; exact a4 i_ hi
  · rw [em_wn _ _ (by omega)]; exact (a5 i_ hi).1
  · rw [em_wn _ _ (by omega)]; exact (a5 i_ hi).2
theorem sR_wM {b P j i : Nat} {v : Int32} {s : dS} {h : am_H} (hj : j = b + 8 + i) (hi0 : i < 6 ∧ P ≤ 6) (l : sR b P s h) : sR b P (sSM s i v) (am_wI h 170 j v) := by
  obtain ⟨⟨a1, a2⟩, a3, a4, a5⟩ := l
  refine ⟨⟨?_, ?_⟩, fun i_ hi => ?_, fun i_ hi => ?_, fun i_ hi => ⟨?_, ?_⟩⟩
  · rw [em_wn _ _ (by omega)]; exact a1
  · rw [em_wn _ _ (by omega)]; exact a2
  · rw [em_wn _ _ (by omega)]; exact a3 i_ hi
  · rw [em_u]; show (if _ = _ then v else _) = (if i_ = i then v else _); by_cases e : i_ = i
    · rw [if_pos (by omega), if_pos e]
    · rw [if_neg (by omega), if_neg e]; exact a4 i_ hi
  · rw [em_wn _ _ (by omega)]; exact (a5 i_ hi).1
  · rw [em_wn _ _ (by omega)]; exact (a5 i_ hi).2
theorem sR_wH {b P j i : Nat} {v : Int32} {s : dS} {h : am_H} (hj : j = b + 14 + i) (hi0 : i < 5 ∧ P ≤ 6) (l : sR b P s h) : sR b P (sSH s i v) (am_wI h 170 j v) := by
  obtain ⟨⟨a1, a2⟩, a3, a4, a5⟩ := l
  refine ⟨⟨?_, ?_⟩, fun i_ hi => ?_, fun i_ hi => ?_, fun i_ hi => ⟨?_, ?_⟩⟩
  · rw [em_wn _ _ (by omega)]; exact a1
  · rw [em_wn _ _ (by omega)]; exact a2
  · rw [em_wn _ _ (by omega)]; exact a3 i_ hi
  · rw [em_wn _ _ (by omega)]; exact a4 i_ hi
  · rw [em_u]; show (if _ = _ then v else _) = (if i_ = i then v else _); by_cases e : i_ = i
    · rw [if_pos (by omega), if_pos e]
    · rw [if_neg (by omega), if_neg e]; exact (a5 i_ hi).1
  · rw [em_wn _ _ (by omega)]; exact (a5 i_ hi).2
theorem sR_wA {b P j i : Nat} {v : Int32} {s : dS} {h : am_H} (hj : j = b + 19 + i) (hi0 : i < 5 ∧ P ≤ 6) (l : sR b P s h) : sR b P (sSA s i v) (am_wI h 170 j v) := by
  obtain ⟨⟨a1, a2⟩, a3, a4, a5⟩ := l
  refine ⟨⟨?_, ?_⟩, fun i_ hi => ?_, fun i_ hi => ?_, fun i_ hi => ⟨?_, ?_⟩⟩
  · rw [em_wn _ _ (by omega)]; exact a1
  · rw [em_wn _ _ (by omega)]; exact a2
  · rw [em_wn _ _ (by omega)]; exact a3 i_ hi
  · rw [em_wn _ _ (by omega)]; exact a4 i_ hi
  · rw [em_wn _ _ (by omega)]; exact (a5 i_ hi).1
  · rw [em_u]; show (if _ = _ then v else _) = (if i_ = i then v else _); by_cases e : i_ = i
    · rw [if_pos (by omega), if_pos e]
    · rw [if_neg (by omega), if_neg e]; exact (a5 i_ hi).2
theorem lfr_r {C : sp_C} {h0 h : am_H} (l : lfr 169 h0 h) (t : tR C h0) : tR C h := by
  obtain ⟨⟨a1, a2, a3⟩, ⟨b1, b2, b3⟩, c3, ⟨d1, d2⟩, e1, e2, e3, e4, e5⟩ := t
  have w : ∀ a q, ¬ a = 169 → h.1 a q = h0.1 a q := l.2
  refine ⟨⟨?_, a2, fun i hi => ?_⟩, ⟨?_, b2, fun i hi => ?_⟩, fun p q hp hq => ?_, ⟨?_, d2⟩, e1, fun j hj => ?_, fun w => ?_, e4, ?_⟩
  · rw [w _ _ (by omega)]; exact a1
  · rw [w _ _ (by omega), w _ _ (by omega)]; exact a3 i hi
  · rw [w _ _ (by omega)]; exact b1
  · rw [w _ _ (by omega), w _ _ (by omega)]; exact b3 i hi
  · rw [w _ _ (by omega)]; exact c3 p q hp hq
  · rw [w _ _ (by omega)]; exact d1
  · rw [w _ _ (by omega), w _ _ (by omega)]; exact e2 j hj
  · rw [l.2 _ _ (by omega)]; exact e3 w
  · rw [w _ _ (by omega)]; exact e5
theorem lfr_sR {b P : Nat} {s : dS} {h0 h : am_H} (l : lfr 169 h0 h) (hP : P ≤ 6) (t : sR b P s h0) : sR b P s h := sR_x (fun j _ _ => l.2 _ _ (by omega)) hP t
theorem lfr_on {E : Nat} {f : Nat → Int32} {h0 h : am_H} (l : lfr 169 h0 h) (t : ∀ e, e < E → h0.1 172 e = f e) : ∀ e, e < E → h.1 172 e = f e := fun e he => (l.2 _ _ (by omega)).trans (t e he)
/-- what the reference's day leaves: all but the state at 0, facts, pile and goers -/
def fR (h0 h : am_H) : Prop := h.2 = h0.2 ∧ ∀ o k, ¬ (o = 170 ∧ k < 24) → ¬ o = 168 → ¬ o = 169 → ¬ (o = 154 ∧ k = 28) → h.1 o k = h0.1 o k
theorem fR_0 {h : am_H} : fR h h := ⟨rfl, fun _ _ _ _ _ _ => rfl⟩
theorem fR_w {o k : Nat} {v : Int32} {h0 h : am_H} (ho : (o = 170 ∧ k < 24) ∨ o = 168 ∨ o = 169 ∨ (o = 154 ∧ k = 28)) (l : fR h0 h) : fR h0 (am_wI h o k v) := ⟨l.1, fun a j h1 h2 h3 h4 => (em_wn _ _ (by omega)).trans (l.2 a j h1 h2 h3 h4)⟩
theorem fR_l {h0 h h1 : am_H} (l : lfr 169 h h1) (x : fR h0 h) : fR h0 h1 := ⟨l.1.trans x.1, fun a j n1 n2 n3 n4 => (l.2 a j n3).trans (x.2 a j n1 n2 n3 n4)⟩
/-- both laws are worth the same -/
theorem law_e {C : sp_C} {a b c d : Int32} : ∀ (m k n : Nat) (f g : Nat → Int32), k + m = dM C → n ≤ 32 → lst ((dTL C).drop k) n = some 1 → (∀ j, j < n → f j = g j) → (d_105_6 C a b c d m k n f).1 = 1 ∧ (d_236_4 C a b c d m k n g).2 0 = (d_105_6 C a b c d m k n f).2 0 := by
  intro m
  induction m with
  | zero =>
    intro k n f g hk hn hw hf
    have e : (dTL C).drop k = [] := List.drop_eq_nil_of_le (by
      unfold dTL
      rw [List.length_map, List.length_range]
      omega)
    rw [e] at hw
    have hn1 : n = 1 := Option.some.inj hw
    exact ⟨hn1, (hf 0 (by omega)).symm⟩
  | succ m ih =>
    intro k n f g hk hn hw hf
    have l4 : ∀ x : Int32, (-4 : Int32) ≤ x ↔ ¬ x < (Int8.ofInt (-4)).toInt32 := fun x => by
      rw [Int32.le_iff_toInt_le, Int32.lt_iff_toInt_lt]
      have e4 : (-4 : Int32).toInt = -4 := by decide
      have e5 : ((Int8.ofInt (-4)).toInt32).toInt = -4 := by decide
      omega
    have l5 : ∀ x : Int32, ¬ (-4 : Int32) ≤ x → ¬ x = -5 → ¬ (Int8.ofInt (-5)).toInt32 ≤ x := fun x h1 h2 w => by
      rw [Int32.le_iff_toInt_le] at h1 w
      have e4 : (-4 : Int32).toInt = -4 := by decide
      have e5 : ((Int8.ofInt (-5)).toInt32).toInt = -5 := by decide
      exact h2 (Int32.toInt_inj.mp (by rw [show (-5 : Int32).toInt = -5 by decide]; omega))
    rcases wf_s (by omega) hw with ⟨w1, w2, w3⟩ | ⟨w1, w2, w3⟩ | ⟨w1, w2, w3, w4⟩
    · have hA : ¬ dT C k < (Int8.ofInt (-4)).toInt32 := (l4 _).mp w1
      have hF : ¬ (Int8.ofInt 32).toInt32 ≤ nI n := by
        show ¬ nI 32 ≤ nI n
        rw [nI_leI (by omega) (by omega)]
        omega
      have up : ∀ v w, v = w → ∀ j, j < n + 1 → sp_uI f n v j = sp_uI g n w j := fun v w e j hj => by
        show (if j = n then v else f j) = (if j = n then w else g j)
        by_cases ej : j = n
        · rw [if_pos ej, if_pos ej, e]
        · rw [if_neg ej, if_neg ej, hf j (by omega)]
      by_cases h0 : 0 ≤ dT C k
      · have r1 := rbo_1.mpr h0
        have ra : rb_a (dT C k) = dT C k := by
          unfold rb_a
          rw [decide_eq_true h0]
          rfl
        have hl : ¬ dT C k < 0 := Int32.not_lt.mpr h0
        simp only [d_105_6, d_236_4, hA, hF, r1, if_true, if_false, hl]
        exact ih _ _ _ _ (by omega) (by omega) w3 (up _ _ ra.symm)
      · have r1 : ¬ rb_o (dT C k) = Int32.ofInt 1 := fun w => h0 (rbo_1.mp w)
        have r2 : rb_o (dT C k) = Int32.ofInt 2 := (rbo_v.mpr w1).resolve_left r1
        have hl : dT C k < 0 := Int32.not_le.mp h0
        simp only [d_105_6, d_236_4, hA, hF, r1, r2, if_true, if_false, hl, not_true_eq_false, not_false_eq_true, show ¬ Int32.ofInt 2 = Int32.ofInt 1 by decide]
        exact ih _ _ _ _ (by omega) (by omega) w3 (up _ _ (fsel_e _ _ _ _))
    · have hA : dT C k < (Int8.ofInt (-4)).toInt32 := by rw [w1]; decide
      have h4 : ¬ (-4 : Int32) ≤ dT C k := by rw [w1]; decide
      have r3 : rb_o (dT C k) = Int32.ofInt 3 := (rbo_5 h4).mpr w1
      have hE : ¬ nI n ≤ 0 := nI_nle w2 (by omega)
      have ut : ∀ i v w, v = w → ∀ j, j < n → sp_uI f i v j = sp_uI g i w j := fun i v w e j hj => by
        show (if j = i then v else f j) = (if j = i then w else g j)
        by_cases ej : j = i
        · rw [if_pos ej, if_pos ej, e]
        · rw [if_neg ej, if_neg ej, hf j hj]
      have w5 : dT C k = (Int8.ofInt (-5)).toInt32 := w1
      have q1 : ¬ rb_o (dT C k) = Int32.ofInt 1 := by rw [r3]; decide
      have q2 : ¬ rb_o (dT C k) = Int32.ofInt 2 := by rw [r3]; decide
      rw [show d_105_6 C a b c d (m + 1) k n f = d_105_6 C a b c d m (k + 1) n (sp_uI f (n - 1) (if ¬ (f (n - 1)) = 0 then Int32.ofInt 0 else Int32.ofInt 1)) from by
        rw [d_105_6, if_pos hA, if_neg (fun z => z w5), if_neg hE]]
      rw [show d_236_4 C a b c d (m + 1) k n g = d_236_4 C a b c d m (k + 1) n (sp_uI g (n - 1) (if ¬ (g (n - 1)) = 0 then Int32.ofInt 0 else Int32.ofInt 1)) from by
        rw [d_236_4, if_neg q1, if_pos q2, if_neg (fun z => z r3)]]
      refine ih _ _ _ _ (by omega) hn w3 (ut _ _ _ ?_)
      rw [hf (n - 1) (by omega)]
    · have hA : dT C k < (Int8.ofInt (-4)).toInt32 := by
        by_cases z : dT C k < (Int8.ofInt (-4)).toInt32
        · exact z
        · exact absurd ((l4 _).mpr z) w1
      have q1 : ¬ rb_o (dT C k) = Int32.ofInt 1 := fun z => w1 (rbo_v.mp (Or.inl z))
      have q2 : ¬ rb_o (dT C k) = Int32.ofInt 2 := fun z => w1 (rbo_v.mp (Or.inr z))
      have q3 : ¬ rb_o (dT C k) = Int32.ofInt 3 := fun z => w2 ((rbo_5 w1).mp z)
      have hD : ¬ nI n ≤ Int32.ofInt 1 := by
        show ¬ nI n ≤ nI 1
        rw [nI_leI (by omega) (by omega)]
        omega
      have ut : ∀ i v w, v = w → ∀ j, j < n → sp_uI f i v j = sp_uI g i w j := fun i v w e j hj => by
        show (if j = i then v else f j) = (if j = i then w else g j)
        by_cases ej : j = i
        · rw [if_pos ej, if_pos ej, e]
        · rw [if_neg ej, if_neg ej, hf j hj]
      rw [show d_105_6 C a b c d (m + 1) k n f = d_105_6 C a b c d m (k + 1) (n - 1) (sp_uI f ((n - 1) - 1) (d_107 (dT C k) (f ((n - 1) - 1)) (f (n - 1)))) from by
        rw [d_105_6, if_pos hA, if_pos (show ¬ dT C k = (Int8.ofInt (-5)).toInt32 from w2), if_neg (l5 _ w1 w2), if_neg hD]]
      rw [show d_236_4 C a b c d (m + 1) k n g = d_236_4 C a b c d m (k + 1) (n - 1) (sp_uI g ((n - 1) - 1) (d_237 (rb_o (dT C k)) (g ((n - 1) - 1)) (g (n - 1)))) from by
        rw [d_236_4, if_neg q1, if_pos q2, if_pos q3]]
      refine ih _ _ _ _ (by omega) (by omega) w4 (fun j hj => ut _ _ _ ?_ j (by omega))
      rw [d_237_e w1 w2, hf (n - 1 - 1) (by omega), hf (n - 1) (by omega)]
theorem dlaw_e {C : sp_C} {a b c d : Int32} (hc : cIL C) (ht : C.2.2.2.1 = true) (f : Nat → Int32) : lst ((dTL C).drop 0) 0 = some 1 ∧ d_236 C a b c d f = dlaw C a b c d := by
  have hw : lst ((dTL C).drop 0) 0 = some 1 := by
    rcases hc with w | w
    · rw [ht] at w
      cases w.1
    · exact w.2
  refine ⟨hw, ?_⟩
  obtain ⟨e1, e2⟩ := law_e (C := C) (a := a) (b := b) (c := c) (d := d) (dM C) 0 0 (fun _ => 0) f (by omega) (by decide) hw (fun j hj => absurd hj (Nat.not_lt_zero j))
  unfold d_236 dlaw d_105
  rw [e1, if_neg (by decide)]
  exact e2
theorem dlaw_0 {C : sp_C} {a b c d : Int32} (hM : dM C = 0) : dlaw C a b c d = Int32.ofInt 1 := by
  unfold dlaw d_105
  rw [hM]
  rfl
theorem dQ_t {C : sp_C} (h : ¬ dQ C < 0) : C.2.2.2.1 = true ∧ dQ C = nI 0 := by
  cases e : C.2.2.2.1 with
  | true => exact ⟨rfl, by show (bif C.2.2.2.1 then nI 0 else Int32.ofInt (-1)) = _; rw [e]; rfl⟩
  | false =>
    refine absurd ?_ h
    show (bif C.2.2.2.1 then nI 0 else Int32.ofInt (-1)) < 0
    rw [e]
    decide
theorem dQ_f {C : sp_C} (h : dQ C < 0) : C.2.2.2.1 = false := by
  cases e : C.2.2.2.1 with
  | false => rfl
  | true =>
    refine absurd h ?_
    show ¬ (bif C.2.2.2.1 then nI 0 else Int32.ofInt (-1)) < 0
    rw [e]
    decide
variable {h : am_H} {Q : am_Q} {C V : sp_C} {x y w a b c d : Int32} {p q e : Nat} {s u : dS} {h0 : am_H} {f fc : Nat → Int32} {gg : Int32}
theorem q_236 (hP : ex_P h) (hI : cI C) (hT : tR C h) (hA : h.1 168 0 = a ∧ h.1 168 1 = b ∧ h.1 168 2 = c ∧ h.1 168 3 = d) (hd : ¬ dQ C < 0) (hQ : ∀ h1, lfr 169 h h1 → Q (some (.int (dlaw C a b c d))) h1) : am_call am_cod 2 236 [.ref 154, .int (dQ C)] h Q := by
  obtain ⟨ht, e⟩ := dQ_t hd
  rw [e]
  obtain ⟨hw, e2⟩ := dlaw_e (a := a) (b := b) (c := c) (d := d) hI.2.2.2 ht (fun j => h.1 169 j)
  exact d_236_r (h0 := h) (f := fun j => h.1 169 j) hP hT hA lfr_0 (fun _ _ => rfl) ht hw (fun h1 _ _ _ l _ => by
    rw [e2]
    exact hQ h1 l)
theorem sv2_223 : am_r223.all (fun q => sv2_ok q.2) = true := by decide +kernel
theorem sv2_225 : am_r225.all (fun q => sv2_ok q.2) = true := by decide +kernel
theorem sv2_228 : am_r228.all (fun q => sv2_ok q.2) = true := by decide +kernel
theorem sv2_229 : am_r229.all (fun q => sv2_ok q.2) = true := by decide +kernel
theorem sv2_234 : am_r234.all (fun q => sv2_ok q.2) = true := by decide +kernel
theorem sv2_238 : am_r238.all (fun q => sv2_ok q.2) = true := by decide +kernel
def d_225 (x y w : Int32) : Int32 := (if ¬ w = (Int32.ofInt 1) then ((x + y) + ((Int8.ofInt 7).toInt32)) - ((x + y) + ((Int8.ofInt 7).toInt32)) / ((Int8.ofInt 7).toInt32) * ((Int8.ofInt 7).toInt32) else x - x / ((Int8.ofInt 7).toInt32) * ((Int8.ofInt 7).toInt32))
theorem d_225_w (hP : ex_P h)  (hQ : Q (some (.int (d_225 x y w))) h) : am_call am_cod 1 225 [.int x, .int y, .int w] h Q := by
  refine pz_call (n := 225) (nL := 3) (rt := (some .int)) (rows := am_r225) (d := 0) (by decide +kernel) (by decide +kernel) rfl (by funext pc; rfl) (ex_175 hP) (by exact Nat.le_of_ble_eq_true rfl) ?_
  suffices key : ∀ (v2 : Int32), v2 = (if ¬ w = (Int32.ofInt 1) then ((x + y) + ((Int8.ofInt 7).toInt32)) - ((x + y) + ((Int8.ofInt 7).toInt32)) / ((Int8.ofInt 7).toInt32) * ((Int8.ofInt 7).toInt32) else x - x / ((Int8.ofInt 7).toInt32) * ((Int8.ofInt 7).toInt32)) → pz_S 3 (some .int) am_r225 0 Q 21 [] [.int v2] h by
    refine am_goX 3 (show (¬ w = (Int32.ofInt 1) → pz_S 3 (some .int) am_r225 0 Q 12 [(0, .int x), (1, .int y), (2, .int w)] [] h) ∧ (¬ ¬ w = (Int32.ofInt 1) → pz_S 3 (some .int) am_r225 0 Q 5 [(0, .int x), (1, .int y), (2, .int w)] [] h) from ⟨fun c1 => ?_, fun c1 => ?_⟩)
    · refine am_goX 7 (show ¬ ((Int8.ofInt 7).toInt32) = 0 ∧ pz_S 3 (some .int) am_r225 0 Q 21 [(0, .int x), (1, .int y), (2, .int w)] [.int (((x + y) + ((Int8.ofInt 7).toInt32)) - ((x + y) + ((Int8.ofInt 7).toInt32)) / ((Int8.ofInt 7).toInt32) * ((Int8.ofInt 7).toInt32))] h from ⟨by decide, ?_⟩)
      exact sv_S2 sv2_225 (fun q hq => absurd hq List.not_mem_nil) (key _ (if_pos c1).symm)
    · refine am_goX 4 (show ¬ ((Int8.ofInt 7).toInt32) = 0 ∧ pz_S 3 (some .int) am_r225 0 Q 21 [(0, .int x), (1, .int y), (2, .int w)] [.int (x - x / ((Int8.ofInt 7).toInt32) * ((Int8.ofInt 7).toInt32))] h from ⟨by decide, ?_⟩)
      exact sv_S2 sv2_225 (fun q hq => absurd hq List.not_mem_nil) (key _ (if_neg c1).symm)
  intro v2 e3
  subst e3
  exact am_goX 1 (show (∃ ty, (some .int) = some ty ∧ narrow ty (.int (if ¬ w = (Int32.ofInt 1) then ((x + y) + ((Int8.ofInt 7).toInt32)) - ((x + y) + ((Int8.ofInt 7).toInt32)) / ((Int8.ofInt 7).toInt32) * ((Int8.ofInt 7).toInt32) else x - x / ((Int8.ofInt 7).toInt32) * ((Int8.ofInt 7).toInt32))) = .int (if ¬ w = (Int32.ofInt 1) then ((x + y) + ((Int8.ofInt 7).toInt32)) - ((x + y) + ((Int8.ofInt 7).toInt32)) / ((Int8.ofInt 7).toInt32) * ((Int8.ofInt 7).toInt32) else x - x / ((Int8.ofInt 7).toInt32) * ((Int8.ofInt 7).toInt32))) ∧ h.2.2.2.2 = 175 ∧ _ from ⟨⟨.int, rfl, rfl⟩, ex_175 hP, hQ⟩)
def d_224 (C : sp_C) (x : Int32) : Int32 := ((dO C) >>> ((x - x / ((Int8.ofInt 28).toInt32) * ((Int8.ofInt 28).toInt32)) &&& 31)) &&& (Int32.ofInt 1)
theorem d_224_r (hP : ex_P h) (hT : tR C h)  (hQ : Q (some (.int (d_224 C x))) h) : am_call am_cod 1 224 [.ref 154, .int x] h Q := by
  have h6 := hT.1.2.1
  have h5 := hT.2.1.2.1
  refine pz_call (n := 224) (nL := 2) (rt := (some .int)) (rows := am_r224) (d := 0) (by decide +kernel) (by decide +kernel) rfl (by funext pc; rfl) (ex_175 hP) (by exact Nat.le_of_ble_eq_true rfl) ?_
  refine am_goX 2 (show am_sh h 154 = some (11, 0) ∧ pz_S 2 (some .int) am_r224 0 Q 4 [(0, .ref 154), (1, .int x)] [am_rf (h.2.2.1 154 10)] h from ⟨ex_154 hP, ?_⟩)
  rw [show am_rf (h.2.2.1 154 10) = .ref 160 from congrArg am_rf (ex_r154_10 hP)]
  refine am_goX 2 (show ∃ jj nn : Nat, am_sh h 160 = some (13, nn) ∧ jj < nn ∧ Int32.ofInt 2 = nI jj ∧ pz_S 2 (some .int) am_r224 0 Q 6 [(0, .ref 154), (1, .int x)] [.int (h.1 160 jj)] h from ⟨2, 80, ex_160 hP, (by omega), rfl, ?_⟩)
  rw [show h.1 160 2 = dO C from hT.2.2.2.1.1]
  exact am_goX 7 (show ¬ ((Int8.ofInt 28).toInt32) = 0 ∧ (∃ ty, (some .int) = some ty ∧ narrow ty (.int (((dO C) >>> ((x - x / ((Int8.ofInt 28).toInt32) * ((Int8.ofInt 28).toInt32)) &&& 31)) &&& (Int32.ofInt 1))) = .int (((dO C) >>> ((x - x / ((Int8.ofInt 28).toInt32) * ((Int8.ofInt 28).toInt32)) &&& 31)) &&& (Int32.ofInt 1))) ∧ h.2.2.2.2 = 175 ∧ _ from ⟨by decide, ⟨.int, rfl, rfl⟩, ex_175 hP, hQ⟩)
def d_229 (C : sp_C) (p : Nat) (x : Int32) : Int32 := (if ¬ (((dB C p) >>> (x &&& 31)) &&& (Int32.ofInt 1)) = (Int32.ofInt 1) then Int32.ofInt 0 else Int32.ofInt 1)
theorem d_229_r (hP : ex_P h) (hT : tR C h) (hp : p < dP C) (hQ : Q (some (.int (d_229 C p x))) h) : am_call am_cod 2 229 [.ref 154, .int (nI p), .int x] h Q := by
  have h6 := hT.1.2.1
  have h5 := hT.2.1.2.1
  refine pz_call (n := 229) (nL := 3) (rt := (some .boolean)) (rows := am_r229) (d := 1) (by decide +kernel) (by decide +kernel) rfl (by funext pc; rfl) (ex_175 hP) (by exact Nat.le_of_ble_eq_true rfl) ?_
  refine am_goX 4 (show am_rc h 154 11 ∧ 0 ≤ 8 ∧ h.2.2.2.2 + am_al 187 ≤ 175 ∧ am_call am_cod 1 187 [.ref 154, .int (nI p), .int (Int32.ofInt 2)] h (fun vv h' => pz_S 3 (some .boolean) am_r229 1 Q 6 [(0, .ref 154), (1, .int (nI p)), (2, .int x)] (vv.toList ++ []) h') from ⟨Or.inl ⟨by decide, ex_154 hP⟩, by decide, ex_lim hP rfl, am_call.up (d_187_r2 hP hT (by omega) ?_) (by decide)⟩)
  suffices key : ∀ (v5 : Int32), v5 = (if ¬ (((dB C p) >>> (x &&& 31)) &&& (Int32.ofInt 1)) = (Int32.ofInt 1) then Int32.ofInt 0 else Int32.ofInt 1) → pz_S 3 (some .boolean) am_r229 1 Q 19 [] [.int v5] h by
    refine am_goX 6 (show (¬ (((dB C p) >>> (x &&& 31)) &&& (Int32.ofInt 1)) = (Int32.ofInt 1) → pz_S 3 (some .boolean) am_r229 1 Q 18 [(0, .ref 154), (1, .int (nI p)), (2, .int x)] [] h) ∧ (¬ ¬ (((dB C p) >>> (x &&& 31)) &&& (Int32.ofInt 1)) = (Int32.ofInt 1) → pz_S 3 (some .boolean) am_r229 1 Q 14 [(0, .ref 154), (1, .int (nI p)), (2, .int x)] [] h) from ⟨fun c4 => ?_, fun c4 => ?_⟩)
    · refine am_goX 1 (show pz_S 3 (some .boolean) am_r229 1 Q 19 [(0, .ref 154), (1, .int (nI p)), (2, .int x)] [.int (Int32.ofInt 0)] h from ?_)
      exact sv_S2 sv2_229 (fun q hq => absurd hq List.not_mem_nil) (key _ (if_pos c4).symm)
    · refine am_goX 2 (show pz_S 3 (some .boolean) am_r229 1 Q 19 [(0, .ref 154), (1, .int (nI p)), (2, .int x)] [.int (Int32.ofInt 1)] h from ?_)
      exact sv_S2 sv2_229 (fun q hq => absurd hq List.not_mem_nil) (key _ (if_neg c4).symm)
  intro v5 e6
  subst e6
  exact am_goX 1 (show (∃ ty, (some .boolean) = some ty ∧ narrow ty (.int (if ¬ (((dB C p) >>> (x &&& 31)) &&& (Int32.ofInt 1)) = (Int32.ofInt 1) then Int32.ofInt 0 else Int32.ofInt 1)) = .int (if ¬ (((dB C p) >>> (x &&& 31)) &&& (Int32.ofInt 1)) = (Int32.ofInt 1) then Int32.ofInt 0 else Int32.ofInt 1)) ∧ h.2.2.2.2 = 175 ∧ _ from ⟨⟨.boolean, rfl, (by (repeat' split) <;> rfl)⟩, ex_175 hP, hQ⟩)
def d_228_4 (C : sp_C) (x : Int32) : Nat → Nat → Int32 → Int32
  | 0, _, a2 => a2
  | m + 1, k, a2 => d_228_4 C x m (k + 1) (a2 ||| (if (d_229 C k x) = 0 then Int32.ofInt 0 else (Int32.ofInt 1) <<< ((nI k) &&& 31)))
theorem d_228_4_r (hP : ex_P h) (hT : tR C h) : ∀ (m k : Nat) (a2 : Int32), k + m = dP C → (pz_S 4 (some .int) am_r228 2 Q 37 [(2, .int (d_228_4 C x m k a2))] [] h) → pz_S 4 (some .int) am_r228 2 Q 4 [(0, .ref 154), (1, .int x), (2, .int a2), (3, .int (nI k))] [] h := by
  intro m
  induction m with
  | zero =>
    intro k a2 hk hZ
    have h6 := hT.1.2.1
    have h5 := hT.2.1.2.1
    refine am_goX 3 (show am_rc h 154 11 ∧ 1 ≤ 8 ∧ h.2.2.2.2 + am_al 186 ≤ 175 ∧ am_call am_cod 2 186 [.ref 154] h (fun vv h' => pz_S 4 (some .int) am_r228 2 Q 9 [(0, .ref 154), (1, .int x), (2, .int a2), (3, .int (nI k))] (vv.toList ++ [.int (nI k)]) h') from ⟨Or.inl ⟨by decide, ex_154 hP⟩, by decide, ex_lim hP rfl, am_call.up (d_186_r hP hT ?_) (by decide)⟩)
    refine am_goX 1 (show ((nI (dP C)) ≤ (nI k) → pz_S 4 (some .int) am_r228 2 Q 37 [(0, .ref 154), (1, .int x), (2, .int a2), (3, .int (nI k))] [] h) ∧ (¬ ((nI (dP C)) ≤ (nI k)) → pz_S 4 (some .int) am_r228 2 Q 12 [(0, .ref 154), (1, .int x), (2, .int a2), (3, .int (nI k))] [] h) from ⟨fun _ => ?_, fun hz => absurd (show nI (dP C) ≤ nI k from nI_le (by omega) (by omega)) hz⟩)
    exact sv_S2 sv2_228 (by intro q hq; simp only [List.mem_cons, List.not_mem_nil, or_false] at hq; rcases hq with rfl <;> rfl) (hZ)
  | succ m ih =>
    intro k a2 hk hZ
    have h6 := hT.1.2.1
    have h5 := hT.2.1.2.1
    refine am_goX 3 (show am_rc h 154 11 ∧ 1 ≤ 8 ∧ h.2.2.2.2 + am_al 186 ≤ 175 ∧ am_call am_cod 2 186 [.ref 154] h (fun vv h' => pz_S 4 (some .int) am_r228 2 Q 9 [(0, .ref 154), (1, .int x), (2, .int a2), (3, .int (nI k))] (vv.toList ++ [.int (nI k)]) h') from ⟨Or.inl ⟨by decide, ex_154 hP⟩, by decide, ex_lim hP rfl, am_call.up (d_186_r hP hT ?_) (by decide)⟩)
    refine am_goX 1 (show ((nI (dP C)) ≤ (nI k) → pz_S 4 (some .int) am_r228 2 Q 37 [(0, .ref 154), (1, .int x), (2, .int a2), (3, .int (nI k))] [] h) ∧ (¬ ((nI (dP C)) ≤ (nI k)) → pz_S 4 (some .int) am_r228 2 Q 12 [(0, .ref 154), (1, .int x), (2, .int a2), (3, .int (nI k))] [] h) from ⟨fun hz => absurd hz (show ¬ (nI (dP C) ≤ nI k) by rw [nI_leI (by omega) (by omega)]; omega), fun _ => ?_⟩)
    refine am_goX 5 (show am_rc h 154 11 ∧ 1 ≤ 8 ∧ h.2.2.2.2 + am_al 229 ≤ 175 ∧ am_call am_cod 2 229 [.ref 154, .int (nI k), .int x] h (fun vv h' => pz_S 4 (some .int) am_r228 2 Q 19 [(0, .ref 154), (1, .int x), (2, .int a2), (3, .int (nI k))] (vv.toList ++ [.int a2]) h') from ⟨Or.inl ⟨by decide, ex_154 hP⟩, by decide, ex_lim hP rfl, am_call.up (d_229_r hP hT (by omega) ?_) (by decide)⟩)
    suffices key : ∀ (v8 : Int32), v8 = (if (d_229 C k x) = 0 then Int32.ofInt 0 else (Int32.ofInt 1) <<< ((nI k) &&& 31)) → pz_S 4 (some .int) am_r228 2 Q 29 [(0, .ref 154), (1, .int x), (3, .int (nI k))] [.int v8, .int a2] h by
      refine am_goX 1 (show ((d_229 C k x) = 0 → pz_S 4 (some .int) am_r228 2 Q 28 [(0, .ref 154), (1, .int x), (2, .int a2), (3, .int (nI k))] [.int a2] h) ∧ (¬ ((d_229 C k x) = 0) → pz_S 4 (some .int) am_r228 2 Q 22 [(0, .ref 154), (1, .int x), (2, .int a2), (3, .int (nI k))] [.int a2] h) from ⟨fun c7 => ?_, fun c7 => ?_⟩)
      · refine am_goX 1 (show pz_S 4 (some .int) am_r228 2 Q 29 [(0, .ref 154), (1, .int x), (2, .int a2), (3, .int (nI k))] [.int (Int32.ofInt 0), .int a2] h from ?_)
        exact sv_S2 sv2_228 (by intro q hq; simp only [List.mem_cons, List.not_mem_nil, or_false] at hq; rcases hq with rfl | rfl | rfl <;> rfl) (key _ (if_pos c7).symm)
      · refine am_goX 4 (show pz_S 4 (some .int) am_r228 2 Q 29 [(0, .ref 154), (1, .int x), (2, .int a2), (3, .int (nI k))] [.int ((Int32.ofInt 1) <<< ((nI k) &&& 31)), .int a2] h from ?_)
        exact sv_S2 sv2_228 (by intro q hq; simp only [List.mem_cons, List.not_mem_nil, or_false] at hq; rcases hq with rfl | rfl | rfl <;> rfl) (key _ (if_neg c7).symm)
    intro v8 e9
    subst e9
    refine am_goX 4 (show 2 < 4 ∧ 3 < 4 ∧ pz_S 4 (some .int) am_r228 2 Q 4 [(3, .int ((nI k) + (Int32.ofInt 1))), (2, .int (a2 ||| (if (d_229 C k x) = 0 then Int32.ofInt 0 else (Int32.ofInt 1) <<< ((nI k) &&& 31)))), (0, .ref 154), (1, .int x)] [] h from ⟨by decide, by decide, ?_⟩)
    rw [show (nI k) + (Int32.ofInt 1) = nI (k + 1) from (dn_a rfl rfl)]
    exact sv_S2 sv2_228 (by intro q hq; simp only [List.mem_cons, List.not_mem_nil, or_false] at hq; rcases hq with rfl | rfl | rfl | rfl <;> rfl) (ih (k + 1) (a2 ||| (if (d_229 C k x) = 0 then Int32.ofInt 0 else (Int32.ofInt 1) <<< ((nI k) &&& 31))) (by omega) hZ)
def d_228 (C : sp_C) (x : Int32) : Int32 := d_228_4 C x (dP C) 0 (Int32.ofInt 0)
theorem d_228_r (hP : ex_P h) (hT : tR C h)  (hQ : Q (some (.int (d_228 C x))) h) : am_call am_cod 3 228 [.ref 154, .int x] h Q := by
  have h6 := hT.1.2.1
  have h5 := hT.2.1.2.1
  refine pz_call (n := 228) (nL := 4) (rt := (some .int)) (rows := am_r228) (d := 2) (by decide +kernel) (by decide +kernel) rfl (by funext pc; rfl) (ex_175 hP) (by exact Nat.le_of_ble_eq_true rfl) ?_
  refine am_goX 4 (show 2 < 4 ∧ 3 < 4 ∧ pz_S 4 (some .int) am_r228 2 Q 4 [(3, .int (Int32.ofInt 0)), (2, .int (Int32.ofInt 0)), (0, .ref 154), (1, .int x)] [] h from ⟨by decide, by decide, ?_⟩)
  refine sv_S2 sv2_228 (by intro q hq; simp only [List.mem_cons, List.not_mem_nil, or_false] at hq; rcases hq with rfl | rfl | rfl | rfl <;> rfl) (d_228_4_r hP hT (dP C) 0 (Int32.ofInt 0) (by omega) ?_)
  exact am_goX 2 (show (∃ ty, (some .int) = some ty ∧ narrow ty (.int (d_228_4 C x (dP C) 0 (Int32.ofInt 0))) = .int (d_228_4 C x (dP C) 0 (Int32.ofInt 0))) ∧ h.2.2.2.2 = 175 ∧ _ from ⟨⟨.int, rfl, rfl⟩, ex_175 hP, hQ⟩)
theorem fo_w {ob k : Nat} {v a b c d : Int32} {h : am_H} (hn : ¬ ob = 168) (l : h.1 168 0 = a ∧ h.1 168 1 = b ∧ h.1 168 2 = c ∧ h.1 168 3 = d) : (am_wI h ob k v).1 168 0 = a ∧ (am_wI h ob k v).1 168 1 = b ∧ (am_wI h ob k v).1 168 2 = c ∧ (am_wI h ob k v).1 168 3 = d := by
  rw [em_wn _ _ (by omega), em_wn _ _ (by omega), em_wn _ _ (by omega), em_wn _ _ (by omega)]
  exact l
theorem fa_w0 {v a b c d : Int32} {h : am_H} (l : h.1 168 0 = a ∧ h.1 168 1 = b ∧ h.1 168 2 = c ∧ h.1 168 3 = d) : (am_wI h 168 0 v).1 168 0 = v ∧ (am_wI h 168 0 v).1 168 1 = b ∧ (am_wI h 168 0 v).1 168 2 = c ∧ (am_wI h 168 0 v).1 168 3 = d := by
  refine ⟨?_, ?_, ?_, ?_⟩
  · exact em_we _ _ _ _
  · rw [em_wn _ _ (by omega)]; exact l.2.1
  · rw [em_wn _ _ (by omega)]; exact l.2.2.1
  · rw [em_wn _ _ (by omega)]; exact l.2.2.2
theorem fa_w1 {v a b c d : Int32} {h : am_H} (l : h.1 168 0 = a ∧ h.1 168 1 = b ∧ h.1 168 2 = c ∧ h.1 168 3 = d) : (am_wI h 168 1 v).1 168 0 = a ∧ (am_wI h 168 1 v).1 168 1 = v ∧ (am_wI h 168 1 v).1 168 2 = c ∧ (am_wI h 168 1 v).1 168 3 = d := by
  refine ⟨?_, ?_, ?_, ?_⟩
  · rw [em_wn _ _ (by omega)]; exact l.1
  · exact em_we _ _ _ _
  · rw [em_wn _ _ (by omega)]; exact l.2.2.1
  · rw [em_wn _ _ (by omega)]; exact l.2.2.2
theorem fa_w2 {v a b c d : Int32} {h : am_H} (l : h.1 168 0 = a ∧ h.1 168 1 = b ∧ h.1 168 2 = c ∧ h.1 168 3 = d) : (am_wI h 168 2 v).1 168 0 = a ∧ (am_wI h 168 2 v).1 168 1 = b ∧ (am_wI h 168 2 v).1 168 2 = v ∧ (am_wI h 168 2 v).1 168 3 = d := by
  refine ⟨?_, ?_, ?_, ?_⟩
  · rw [em_wn _ _ (by omega)]; exact l.1
  · rw [em_wn _ _ (by omega)]; exact l.2.1
  · exact em_we _ _ _ _
  · rw [em_wn _ _ (by omega)]; exact l.2.2.2
theorem fa_w3 {v a b c d : Int32} {h : am_H} (l : h.1 168 0 = a ∧ h.1 168 1 = b ∧ h.1 168 2 = c ∧ h.1 168 3 = d) : (am_wI h 168 3 v).1 168 0 = a ∧ (am_wI h 168 3 v).1 168 1 = b ∧ (am_wI h 168 3 v).1 168 2 = c ∧ (am_wI h 168 3 v).1 168 3 = v := by
  refine ⟨?_, ?_, ?_, ?_⟩
  · rw [em_wn _ _ (by omega)]; exact l.1
  · rw [em_wn _ _ (by omega)]; exact l.2.1
  · rw [em_wn _ _ (by omega)]; exact l.2.2.1
  · exact em_we _ _ _ _
def d_223 (C : sp_C) (s : dS) (p : Nat) : Int32 := (if ¬ (dK C p) = (Int32.ofInt 3) then (s.2.2.1 p) - (Int32.ofInt 2) else Int32.ofInt 0)
theorem d_223_r0 (hP : ex_P h) (hI : cI C) (hT : tR C h) (hO : ∀ e, e < dE C → h.1 172 e = dW V e) (hS : sR 0 (dP C) s h) (hX : fR h0 h) (hp : p < dP C) (hQ : Q (some (.int (d_223 C s p))) h) : am_call am_cod 2 223 [.ref 154, .int (Int32.ofInt 0), .int (nI p)] h Q := by
  have h6 := hT.1.2.1
  have h5 := hT.2.1.2.1
  refine pz_call (n := 223) (nL := 3) (rt := (some .int)) (rows := am_r223) (d := 1) (by decide +kernel) (by decide +kernel) rfl (by funext pc; rfl) (ex_175 hP) (by exact Nat.le_of_ble_eq_true rfl) ?_
  refine am_goX 4 (show am_rc h 154 11 ∧ 0 ≤ 8 ∧ h.2.2.2.2 + am_al 187 ≤ 175 ∧ am_call am_cod 1 187 [.ref 154, .int (nI p), .int (Int32.ofInt 0)] h (fun vv h' => pz_S 3 (some .int) am_r223 1 Q 6 [(0, .ref 154), (1, .int (Int32.ofInt 0)), (2, .int (nI p))] (vv.toList ++ []) h') from ⟨Or.inl ⟨by decide, ex_154 hP⟩, by decide, ex_lim hP rfl, am_call.up (d_187_r0 hP hT (by omega) ?_) (by decide)⟩)
  suffices key : ∀ (v11 : Int32), v11 = (if ¬ (dK C p) = (Int32.ofInt 3) then (s.2.2.1 p) - (Int32.ofInt 2) else Int32.ofInt 0) → pz_S 3 (some .int) am_r223 1 Q 26 [] [.int v11] h by
    refine am_goX 2 (show (¬ (dK C p) = (Int32.ofInt 3) → pz_S 3 (some .int) am_r223 1 Q 14 [(0, .ref 154), (1, .int (Int32.ofInt 0)), (2, .int (nI p))] [] h) ∧ (¬ ¬ (dK C p) = (Int32.ofInt 3) → pz_S 3 (some .int) am_r223 1 Q 10 [(0, .ref 154), (1, .int (Int32.ofInt 0)), (2, .int (nI p))] [] h) from ⟨fun c10 => ?_, fun c10 => ?_⟩)
    · refine am_goX 2 (show am_sh h 154 = some (11, 0) ∧ pz_S 3 (some .int) am_r223 1 Q 18 [(0, .ref 154), (1, .int (Int32.ofInt 0)), (2, .int (nI p))] [am_rf (h.2.2.1 154 24)] h from ⟨ex_154 hP, ?_⟩)
      rw [show am_rf (h.2.2.1 154 24) = .ref 170 from congrArg am_rf (ex_r154_24 hP)]
      refine am_goX 6 (show ∃ jj nn : Nat, am_sh h 170 = some (13, nn) ∧ jj < nn ∧ ((Int32.ofInt 0) + (Int32.ofInt 2)) + (nI p) = nI jj ∧ pz_S 3 (some .int) am_r223 1 Q 24 [(0, .ref 154), (1, .int (Int32.ofInt 0)), (2, .int (nI p))] [.int (h.1 170 jj)] h from ⟨(2 + p), 1127, ex_170 hP, (by omega), (dn_a (dn_a rfl rfl) rfl), ?_⟩)
      rw [show h.1 170 (2 + p) = s.2.2.1 p from (by rw [show (2 + p) = 0 + 2 + p by omega]; exact hS.2.1 p (by omega))]
      refine am_goX 2 (show pz_S 3 (some .int) am_r223 1 Q 26 [(0, .ref 154), (1, .int (Int32.ofInt 0)), (2, .int (nI p))] [.int ((s.2.2.1 p) - (Int32.ofInt 2))] h from ?_)
      exact sv_S2 sv2_223 (fun q hq => absurd hq List.not_mem_nil) (key _ (if_pos c10).symm)
    · refine am_goX 2 (show pz_S 3 (some .int) am_r223 1 Q 26 [(0, .ref 154), (1, .int (Int32.ofInt 0)), (2, .int (nI p))] [.int (Int32.ofInt 0)] h from ?_)
      exact sv_S2 sv2_223 (fun q hq => absurd hq List.not_mem_nil) (key _ (if_neg c10).symm)
  intro v11 e12
  subst e12
  exact am_goX 1 (show (∃ ty, (some .int) = some ty ∧ narrow ty (.int (if ¬ (dK C p) = (Int32.ofInt 3) then (s.2.2.1 p) - (Int32.ofInt 2) else Int32.ofInt 0)) = .int (if ¬ (dK C p) = (Int32.ofInt 3) then (s.2.2.1 p) - (Int32.ofInt 2) else Int32.ofInt 0)) ∧ h.2.2.2.2 = 175 ∧ _ from ⟨⟨.int, rfl, rfl⟩, ex_175 hP, hQ⟩)
def d_222 (C : sp_C) (s : dS) (p : Nat) : Int32 := d_225 s.1 (d_223 C s p) (d_224 C s.1)
theorem d_222_r0 (hP : ex_P h) (hI : cI C) (hT : tR C h) (hO : ∀ e, e < dE C → h.1 172 e = dW V e) (hS : sR 0 (dP C) s h) (hX : fR h0 h) (hp : p < dP C) (hQ : Q (some (.int (d_222 C s p))) h) : am_call am_cod 3 222 [.ref 154, .int (nI p)] h Q := by
  have h6 := hT.1.2.1
  have h5 := hT.2.1.2.1
  refine pz_call (n := 222) (nL := 2) (rt := (some .int)) (rows := am_r222) (d := 2) (by decide +kernel) (by decide +kernel) rfl (by funext pc; rfl) (ex_175 hP) (by exact Nat.le_of_ble_eq_true rfl) ?_
  refine am_goX 2 (show am_sh h 154 = some (11, 0) ∧ pz_S 2 (some .int) am_r222 2 Q 4 [(0, .ref 154), (1, .int (nI p))] [am_rf (h.2.2.1 154 24)] h from ⟨ex_154 hP, ?_⟩)
  rw [show am_rf (h.2.2.1 154 24) = .ref 170 from congrArg am_rf (ex_r154_24 hP)]
  refine am_goX 2 (show ∃ jj nn : Nat, am_sh h 170 = some (13, nn) ∧ jj < nn ∧ Int32.ofInt 0 = nI jj ∧ pz_S 2 (some .int) am_r222 2 Q 6 [(0, .ref 154), (1, .int (nI p))] [.int (h.1 170 jj)] h from ⟨0, 1127, ex_170 hP, (by omega), rfl, ?_⟩)
  rw [show h.1 170 0 = s.1 from hS.1.1]
  refine am_goX 4 (show am_rc h 154 11 ∧ 1 ≤ 8 ∧ h.2.2.2.2 + am_al 223 ≤ 175 ∧ am_call am_cod 2 223 [.ref 154, .int (Int32.ofInt 0), .int (nI p)] h (fun vv h' => pz_S 2 (some .int) am_r222 2 Q 12 [(0, .ref 154), (1, .int (nI p))] (vv.toList ++ [.int s.1]) h') from ⟨Or.inl ⟨by decide, ex_154 hP⟩, by decide, ex_lim hP rfl, am_call.up (d_223_r0 hP hI hT hO hS hX (by omega) ?_) (by decide)⟩)
  refine am_goX 3 (show am_sh h 154 = some (11, 0) ∧ pz_S 2 (some .int) am_r222 2 Q 17 [(0, .ref 154), (1, .int (nI p))] [am_rf (h.2.2.1 154 24), .ref 154, .int (d_223 C s p), .int s.1] h from ⟨ex_154 hP, ?_⟩)
  rw [show am_rf (h.2.2.1 154 24) = .ref 170 from congrArg am_rf (ex_r154_24 hP)]
  refine am_goX 2 (show ∃ jj nn : Nat, am_sh h 170 = some (13, nn) ∧ jj < nn ∧ Int32.ofInt 0 = nI jj ∧ pz_S 2 (some .int) am_r222 2 Q 19 [(0, .ref 154), (1, .int (nI p))] [.int (h.1 170 jj), .ref 154, .int (d_223 C s p), .int s.1] h from ⟨0, 1127, ex_170 hP, (by omega), rfl, ?_⟩)
  rw [show h.1 170 0 = s.1 from hS.1.1]
  refine am_goX 1 (show am_rc h 154 11 ∧ 2 ≤ 8 ∧ h.2.2.2.2 + am_al 224 ≤ 175 ∧ am_call am_cod 2 224 [.ref 154, .int s.1] h (fun vv h' => pz_S 2 (some .int) am_r222 2 Q 22 [(0, .ref 154), (1, .int (nI p))] (vv.toList ++ [.int (d_223 C s p), .int s.1]) h') from ⟨Or.inl ⟨by decide, ex_154 hP⟩, by decide, ex_lim hP rfl, am_call.up (d_224_r hP hT ?_) (by decide)⟩)
  refine am_goX 1 (show 0 ≤ 8 ∧ h.2.2.2.2 + am_al 225 ≤ 175 ∧ am_call am_cod 2 225 [.int s.1, .int (d_223 C s p), .int (d_224 C s.1)] h (fun vv h' => pz_S 2 (some .int) am_r222 2 Q 25 [(0, .ref 154), (1, .int (nI p))] (vv.toList ++ []) h') from ⟨by decide, ex_lim hP rfl, am_call.up (d_225_w hP ?_) (by decide)⟩)
  exact am_goX 1 (show (∃ ty, (some .int) = some ty ∧ narrow ty (.int (d_225 s.1 (d_223 C s p) (d_224 C s.1))) = .int (d_225 s.1 (d_223 C s p) (d_224 C s.1))) ∧ h.2.2.2.2 = 175 ∧ _ from ⟨⟨.int, rfl, rfl⟩, ex_175 hP, hQ⟩)
def d_238 (C V : sp_C) (s : dS) (p e : Nat) (w : Int32) : Int32 := (if (d_229 C p (nI e)) = 0 then Int32.ofInt 0 else (if (d_225 s.1 (d_223 C s p) w) = (dW V e) then (if ¬ (dK C p) = (Int32.ofInt 2) then Int32.ofInt 1 else (if ¬ (dW V e) = (Int32.ofInt 1) then Int32.ofInt 0 else Int32.ofInt 1)) else (if ¬ (dK C p) = (Int32.ofInt 1) then Int32.ofInt 0 else (if ¬ (d_225 s.1 (d_223 C s p) w) = (((dW V e) + (Int32.ofInt 1)) - ((dW V e) + (Int32.ofInt 1)) / ((Int8.ofInt 7).toInt32) * ((Int8.ofInt 7).toInt32)) then Int32.ofInt 0 else (if ¬ (dK C p) = (Int32.ofInt 2) then Int32.ofInt 1 else (if ¬ (dW V e) = (Int32.ofInt 1) then Int32.ofInt 0 else Int32.ofInt 1))))))
theorem d_238_r0 (hP : ex_P h) (hI : cI C) (hT : tR C h) (hO : ∀ e, e < dE C → h.1 172 e = dW V e) (hS : sR 0 (dP C) s h) (hX : fR h0 h) (hp : p < dP C) (he : e < dE C) (hQ : Q (some (.int (d_238 C V s p e w))) h) : am_call am_cod 3 238 [.ref 154, .int (Int32.ofInt 0), .int (nI p), .int (nI e), .int w] h Q := by
  have h6 := hT.1.2.1
  have h5 := hT.2.1.2.1
  refine pz_call (n := 238) (nL := 8) (rt := (some .boolean)) (rows := am_r238) (d := 2) (by decide +kernel) (by decide +kernel) rfl (by funext pc; rfl) (ex_175 hP) (by exact Nat.le_of_ble_eq_true rfl) ?_
  refine am_goX 4 (show am_rc h 154 11 ∧ 0 ≤ 8 ∧ h.2.2.2.2 + am_al 187 ≤ 175 ∧ am_call am_cod 2 187 [.ref 154, .int (nI p), .int (Int32.ofInt 0)] h (fun vv h' => pz_S 8 (some .boolean) am_r238 2 Q 6 [(0, .ref 154), (1, .int (Int32.ofInt 0)), (2, .int (nI p)), (3, .int (nI e)), (4, .int w)] (vv.toList ++ []) h') from ⟨Or.inl ⟨by decide, ex_154 hP⟩, by decide, ex_lim hP rfl, am_call.up (d_187_r0 hP hT (by omega) ?_) (by decide)⟩)
  refine am_goX 3 (show 5 < 8 ∧ am_sh h 154 = some (11, 0) ∧ pz_S 8 (some .boolean) am_r238 2 Q 12 [(5, .int (dK C p)), (0, .ref 154), (1, .int (Int32.ofInt 0)), (2, .int (nI p)), (3, .int (nI e)), (4, .int w)] [am_rf (h.2.2.1 154 27)] h from ⟨by decide, ex_154 hP, ?_⟩)
  rw [show am_rf (h.2.2.1 154 27) = .ref 172 from congrArg am_rf (ex_r154_27 hP)]
  refine am_goX 2 (show ∃ jj nn : Nat, am_sh h 172 = some (13, nn) ∧ jj < nn ∧ nI e = nI jj ∧ pz_S 8 (some .boolean) am_r238 2 Q 14 [(5, .int (dK C p)), (0, .ref 154), (1, .int (Int32.ofInt 0)), (2, .int (nI p)), (3, .int (nI e)), (4, .int w)] [.int (h.1 172 jj)] h from ⟨e, 5, ex_172 hP, (by omega), rfl, ?_⟩)
  rw [show h.1 172 e = dW V e from hO e (by omega)]
  refine am_goX 3 (show 6 < 8 ∧ am_sh h 154 = some (11, 0) ∧ pz_S 8 (some .boolean) am_r238 2 Q 20 [(6, .int (dW V e)), (5, .int (dK C p)), (0, .ref 154), (1, .int (Int32.ofInt 0)), (2, .int (nI p)), (3, .int (nI e)), (4, .int w)] [am_rf (h.2.2.1 154 24)] h from ⟨by decide, ex_154 hP, ?_⟩)
  rw [show am_rf (h.2.2.1 154 24) = .ref 170 from congrArg am_rf (ex_r154_24 hP)]
  refine am_goX 4 (show ∃ jj nn : Nat, am_sh h 170 = some (13, nn) ∧ jj < nn ∧ (Int32.ofInt 0) + (Int32.ofInt 0) = nI jj ∧ pz_S 8 (some .boolean) am_r238 2 Q 24 [(6, .int (dW V e)), (5, .int (dK C p)), (0, .ref 154), (1, .int (Int32.ofInt 0)), (2, .int (nI p)), (3, .int (nI e)), (4, .int w)] [.int (h.1 170 jj)] h from ⟨0, 1127, ex_170 hP, (by omega), (dn_a rfl rfl), ?_⟩)
  rw [show h.1 170 0 = s.1 from hS.1.1]
  refine am_goX 4 (show am_rc h 154 11 ∧ 1 ≤ 8 ∧ h.2.2.2.2 + am_al 223 ≤ 175 ∧ am_call am_cod 2 223 [.ref 154, .int (Int32.ofInt 0), .int (nI p)] h (fun vv h' => pz_S 8 (some .boolean) am_r238 2 Q 30 [(6, .int (dW V e)), (5, .int (dK C p)), (0, .ref 154), (1, .int (Int32.ofInt 0)), (2, .int (nI p)), (3, .int (nI e)), (4, .int w)] (vv.toList ++ [.int s.1]) h') from ⟨Or.inl ⟨by decide, ex_154 hP⟩, by decide, ex_lim hP rfl, am_call.up (d_223_r0 hP hI hT hO hS hX (by omega) ?_) (by decide)⟩)
  refine am_goX 2 (show 0 ≤ 8 ∧ h.2.2.2.2 + am_al 225 ≤ 175 ∧ am_call am_cod 2 225 [.int s.1, .int (d_223 C s p), .int w] h (fun vv h' => pz_S 8 (some .boolean) am_r238 2 Q 35 [(6, .int (dW V e)), (5, .int (dK C p)), (0, .ref 154), (1, .int (Int32.ofInt 0)), (2, .int (nI p)), (3, .int (nI e)), (4, .int w)] (vv.toList ++ []) h') from ⟨by decide, ex_lim hP rfl, am_call.up (d_225_w hP ?_) (by decide)⟩)
  refine am_goX 5 (show 7 < 8 ∧ am_rc h 154 11 ∧ 0 ≤ 8 ∧ h.2.2.2.2 + am_al 229 ≤ 175 ∧ am_call am_cod 2 229 [.ref 154, .int (nI p), .int (nI e)] h (fun vv h' => pz_S 8 (some .boolean) am_r238 2 Q 43 [(7, .int (d_225 s.1 (d_223 C s p) w)), (6, .int (dW V e)), (5, .int (dK C p)), (0, .ref 154), (1, .int (Int32.ofInt 0)), (2, .int (nI p)), (3, .int (nI e)), (4, .int w)] (vv.toList ++ []) h') from ⟨by decide, Or.inl ⟨by decide, ex_154 hP⟩, by decide, ex_lim hP rfl, am_call.up (d_229_r hP hT (by omega) ?_) (by decide)⟩)
  suffices key : ∀ (v14 : Int32), v14 = (if (d_229 C p (nI e)) = 0 then Int32.ofInt 0 else (if (d_225 s.1 (d_223 C s p) w) = (dW V e) then (if ¬ (dK C p) = (Int32.ofInt 2) then Int32.ofInt 1 else (if ¬ (dW V e) = (Int32.ofInt 1) then Int32.ofInt 0 else Int32.ofInt 1)) else (if ¬ (dK C p) = (Int32.ofInt 1) then Int32.ofInt 0 else (if ¬ (d_225 s.1 (d_223 C s p) w) = (((dW V e) + (Int32.ofInt 1)) - ((dW V e) + (Int32.ofInt 1)) / ((Int8.ofInt 7).toInt32) * ((Int8.ofInt 7).toInt32)) then Int32.ofInt 0 else (if ¬ (dK C p) = (Int32.ofInt 2) then Int32.ofInt 1 else (if ¬ (dW V e) = (Int32.ofInt 1) then Int32.ofInt 0 else Int32.ofInt 1)))))) → pz_S 8 (some .boolean) am_r238 2 Q 88 [] [.int v14] h by
    refine am_goX 1 (show ((d_229 C p (nI e)) = 0 → pz_S 8 (some .boolean) am_r238 2 Q 87 [(7, .int (d_225 s.1 (d_223 C s p) w)), (6, .int (dW V e)), (5, .int (dK C p)), (0, .ref 154), (1, .int (Int32.ofInt 0)), (2, .int (nI p)), (3, .int (nI e)), (4, .int w)] [] h) ∧ (¬ ((d_229 C p (nI e)) = 0) → pz_S 8 (some .boolean) am_r238 2 Q 46 [(7, .int (d_225 s.1 (d_223 C s p) w)), (6, .int (dW V e)), (5, .int (dK C p)), (0, .ref 154), (1, .int (Int32.ofInt 0)), (2, .int (nI p)), (3, .int (nI e)), (4, .int w)] [] h) from ⟨fun c13 => ?_, fun c13 => ?_⟩)
    · refine am_goX 1 (show pz_S 8 (some .boolean) am_r238 2 Q 88 [(7, .int (d_225 s.1 (d_223 C s p) w)), (6, .int (dW V e)), (5, .int (dK C p)), (0, .ref 154), (1, .int (Int32.ofInt 0)), (2, .int (nI p)), (3, .int (nI e)), (4, .int w)] [.int (Int32.ofInt 0)] h from ?_)
      exact sv_S2 sv2_238 (fun q hq => absurd hq List.not_mem_nil) (key _ (if_pos c13).symm)
    · suffices key : ∀ (v16 : Int32), v16 = (if (d_225 s.1 (d_223 C s p) w) = (dW V e) then (if ¬ (dK C p) = (Int32.ofInt 2) then Int32.ofInt 1 else (if ¬ (dW V e) = (Int32.ofInt 1) then Int32.ofInt 0 else Int32.ofInt 1)) else (if ¬ (dK C p) = (Int32.ofInt 1) then Int32.ofInt 0 else (if ¬ (d_225 s.1 (d_223 C s p) w) = (((dW V e) + (Int32.ofInt 1)) - ((dW V e) + (Int32.ofInt 1)) / ((Int8.ofInt 7).toInt32) * ((Int8.ofInt 7).toInt32)) then Int32.ofInt 0 else (if ¬ (dK C p) = (Int32.ofInt 2) then Int32.ofInt 1 else (if ¬ (dW V e) = (Int32.ofInt 1) then Int32.ofInt 0 else Int32.ofInt 1))))) → pz_S 8 (some .boolean) am_r238 2 Q 88 [] [.int v16] h by
        refine am_goX 3 (show ((d_225 s.1 (d_223 C s p) w) = (dW V e) → pz_S 8 (some .boolean) am_r238 2 Q 71 [(7, .int (d_225 s.1 (d_223 C s p) w)), (6, .int (dW V e)), (5, .int (dK C p)), (0, .ref 154), (1, .int (Int32.ofInt 0)), (2, .int (nI p)), (3, .int (nI e)), (4, .int w)] [] h) ∧ (¬ ((d_225 s.1 (d_223 C s p) w) = (dW V e)) → pz_S 8 (some .boolean) am_r238 2 Q 53 [(7, .int (d_225 s.1 (d_223 C s p) w)), (6, .int (dW V e)), (5, .int (dK C p)), (0, .ref 154), (1, .int (Int32.ofInt 0)), (2, .int (nI p)), (3, .int (nI e)), (4, .int w)] [] h) from ⟨fun c15 => ?_, fun c15 => ?_⟩)
        · suffices key : ∀ (v18 : Int32), v18 = (if ¬ (dK C p) = (Int32.ofInt 2) then Int32.ofInt 1 else (if ¬ (dW V e) = (Int32.ofInt 1) then Int32.ofInt 0 else Int32.ofInt 1)) → pz_S 8 (some .boolean) am_r238 2 Q 88 [] [.int v18] h by
            refine am_goX 3 (show (¬ (dK C p) = (Int32.ofInt 2) → pz_S 8 (some .boolean) am_r238 2 Q 83 [(7, .int (d_225 s.1 (d_223 C s p) w)), (6, .int (dW V e)), (5, .int (dK C p)), (0, .ref 154), (1, .int (Int32.ofInt 0)), (2, .int (nI p)), (3, .int (nI e)), (4, .int w)] [] h) ∧ (¬ ¬ (dK C p) = (Int32.ofInt 2) → pz_S 8 (some .boolean) am_r238 2 Q 77 [(7, .int (d_225 s.1 (d_223 C s p) w)), (6, .int (dW V e)), (5, .int (dK C p)), (0, .ref 154), (1, .int (Int32.ofInt 0)), (2, .int (nI p)), (3, .int (nI e)), (4, .int w)] [] h) from ⟨fun c17 => ?_, fun c17 => ?_⟩)
            · refine am_goX 2 (show pz_S 8 (some .boolean) am_r238 2 Q 88 [(7, .int (d_225 s.1 (d_223 C s p) w)), (6, .int (dW V e)), (5, .int (dK C p)), (0, .ref 154), (1, .int (Int32.ofInt 0)), (2, .int (nI p)), (3, .int (nI e)), (4, .int w)] [.int (Int32.ofInt 1)] h from ?_)
              exact sv_S2 sv2_238 (fun q hq => absurd hq List.not_mem_nil) (key _ (if_pos c17).symm)
            · suffices key : ∀ (v20 : Int32), v20 = (if ¬ (dW V e) = (Int32.ofInt 1) then Int32.ofInt 0 else Int32.ofInt 1) → pz_S 8 (some .boolean) am_r238 2 Q 88 [] [.int v20] h by
                refine am_goX 3 (show (¬ (dW V e) = (Int32.ofInt 1) → pz_S 8 (some .boolean) am_r238 2 Q 87 [(7, .int (d_225 s.1 (d_223 C s p) w)), (6, .int (dW V e)), (5, .int (dK C p)), (0, .ref 154), (1, .int (Int32.ofInt 0)), (2, .int (nI p)), (3, .int (nI e)), (4, .int w)] [] h) ∧ (¬ ¬ (dW V e) = (Int32.ofInt 1) → pz_S 8 (some .boolean) am_r238 2 Q 83 [(7, .int (d_225 s.1 (d_223 C s p) w)), (6, .int (dW V e)), (5, .int (dK C p)), (0, .ref 154), (1, .int (Int32.ofInt 0)), (2, .int (nI p)), (3, .int (nI e)), (4, .int w)] [] h) from ⟨fun c19 => ?_, fun c19 => ?_⟩)
                · refine am_goX 1 (show pz_S 8 (some .boolean) am_r238 2 Q 88 [(7, .int (d_225 s.1 (d_223 C s p) w)), (6, .int (dW V e)), (5, .int (dK C p)), (0, .ref 154), (1, .int (Int32.ofInt 0)), (2, .int (nI p)), (3, .int (nI e)), (4, .int w)] [.int (Int32.ofInt 0)] h from ?_)
                  exact sv_S2 sv2_238 (fun q hq => absurd hq List.not_mem_nil) (key _ (if_pos c19).symm)
                · refine am_goX 2 (show pz_S 8 (some .boolean) am_r238 2 Q 88 [(7, .int (d_225 s.1 (d_223 C s p) w)), (6, .int (dW V e)), (5, .int (dK C p)), (0, .ref 154), (1, .int (Int32.ofInt 0)), (2, .int (nI p)), (3, .int (nI e)), (4, .int w)] [.int (Int32.ofInt 1)] h from ?_)
                  exact sv_S2 sv2_238 (fun q hq => absurd hq List.not_mem_nil) (key _ (if_neg c19).symm)
              intro v20 e21
              subst e21
              exact sv_S2 sv2_238 (fun q hq => absurd hq List.not_mem_nil) (key _ (if_neg c17).symm)
          intro v18 e22
          subst e22
          exact sv_S2 sv2_238 (fun q hq => absurd hq List.not_mem_nil) (key _ (if_pos c15).symm)
        · suffices key : ∀ (v24 : Int32), v24 = (if ¬ (dK C p) = (Int32.ofInt 1) then Int32.ofInt 0 else (if ¬ (d_225 s.1 (d_223 C s p) w) = (((dW V e) + (Int32.ofInt 1)) - ((dW V e) + (Int32.ofInt 1)) / ((Int8.ofInt 7).toInt32) * ((Int8.ofInt 7).toInt32)) then Int32.ofInt 0 else (if ¬ (dK C p) = (Int32.ofInt 2) then Int32.ofInt 1 else (if ¬ (dW V e) = (Int32.ofInt 1) then Int32.ofInt 0 else Int32.ofInt 1)))) → pz_S 8 (some .boolean) am_r238 2 Q 88 [] [.int v24] h by
            refine am_goX 3 (show (¬ (dK C p) = (Int32.ofInt 1) → pz_S 8 (some .boolean) am_r238 2 Q 87 [(7, .int (d_225 s.1 (d_223 C s p) w)), (6, .int (dW V e)), (5, .int (dK C p)), (0, .ref 154), (1, .int (Int32.ofInt 0)), (2, .int (nI p)), (3, .int (nI e)), (4, .int w)] [] h) ∧ (¬ ¬ (dK C p) = (Int32.ofInt 1) → pz_S 8 (some .boolean) am_r238 2 Q 59 [(7, .int (d_225 s.1 (d_223 C s p) w)), (6, .int (dW V e)), (5, .int (dK C p)), (0, .ref 154), (1, .int (Int32.ofInt 0)), (2, .int (nI p)), (3, .int (nI e)), (4, .int w)] [] h) from ⟨fun c23 => ?_, fun c23 => ?_⟩)
            · refine am_goX 1 (show pz_S 8 (some .boolean) am_r238 2 Q 88 [(7, .int (d_225 s.1 (d_223 C s p) w)), (6, .int (dW V e)), (5, .int (dK C p)), (0, .ref 154), (1, .int (Int32.ofInt 0)), (2, .int (nI p)), (3, .int (nI e)), (4, .int w)] [.int (Int32.ofInt 0)] h from ?_)
              exact sv_S2 sv2_238 (fun q hq => absurd hq List.not_mem_nil) (key _ (if_pos c23).symm)
            · suffices key : ∀ (v26 : Int32), v26 = (if ¬ (d_225 s.1 (d_223 C s p) w) = (((dW V e) + (Int32.ofInt 1)) - ((dW V e) + (Int32.ofInt 1)) / ((Int8.ofInt 7).toInt32) * ((Int8.ofInt 7).toInt32)) then Int32.ofInt 0 else (if ¬ (dK C p) = (Int32.ofInt 2) then Int32.ofInt 1 else (if ¬ (dW V e) = (Int32.ofInt 1) then Int32.ofInt 0 else Int32.ofInt 1))) → pz_S 8 (some .boolean) am_r238 2 Q 88 [] [.int v26] h by
                refine am_goX 7 (show ¬ ((Int8.ofInt 7).toInt32) = 0 ∧ (¬ (d_225 s.1 (d_223 C s p) w) = (((dW V e) + (Int32.ofInt 1)) - ((dW V e) + (Int32.ofInt 1)) / ((Int8.ofInt 7).toInt32) * ((Int8.ofInt 7).toInt32)) → pz_S 8 (some .boolean) am_r238 2 Q 87 [(7, .int (d_225 s.1 (d_223 C s p) w)), (6, .int (dW V e)), (5, .int (dK C p)), (0, .ref 154), (1, .int (Int32.ofInt 0)), (2, .int (nI p)), (3, .int (nI e)), (4, .int w)] [] h) ∧ (¬ ¬ (d_225 s.1 (d_223 C s p) w) = (((dW V e) + (Int32.ofInt 1)) - ((dW V e) + (Int32.ofInt 1)) / ((Int8.ofInt 7).toInt32) * ((Int8.ofInt 7).toInt32)) → pz_S 8 (some .boolean) am_r238 2 Q 71 [(7, .int (d_225 s.1 (d_223 C s p) w)), (6, .int (dW V e)), (5, .int (dK C p)), (0, .ref 154), (1, .int (Int32.ofInt 0)), (2, .int (nI p)), (3, .int (nI e)), (4, .int w)] [] h) from ⟨by decide, fun c25 => ?_, fun c25 => ?_⟩)
                · refine am_goX 1 (show pz_S 8 (some .boolean) am_r238 2 Q 88 [(7, .int (d_225 s.1 (d_223 C s p) w)), (6, .int (dW V e)), (5, .int (dK C p)), (0, .ref 154), (1, .int (Int32.ofInt 0)), (2, .int (nI p)), (3, .int (nI e)), (4, .int w)] [.int (Int32.ofInt 0)] h from ?_)
                  exact sv_S2 sv2_238 (fun q hq => absurd hq List.not_mem_nil) (key _ (if_pos c25).symm)
                · suffices key : ∀ (v28 : Int32), v28 = (if ¬ (dK C p) = (Int32.ofInt 2) then Int32.ofInt 1 else (if ¬ (dW V e) = (Int32.ofInt 1) then Int32.ofInt 0 else Int32.ofInt 1)) → pz_S 8 (some .boolean) am_r238 2 Q 88 [] [.int v28] h by
                    refine am_goX 3 (show (¬ (dK C p) = (Int32.ofInt 2) → pz_S 8 (some .boolean) am_r238 2 Q 83 [(7, .int (d_225 s.1 (d_223 C s p) w)), (6, .int (dW V e)), (5, .int (dK C p)), (0, .ref 154), (1, .int (Int32.ofInt 0)), (2, .int (nI p)), (3, .int (nI e)), (4, .int w)] [] h) ∧ (¬ ¬ (dK C p) = (Int32.ofInt 2) → pz_S 8 (some .boolean) am_r238 2 Q 77 [(7, .int (d_225 s.1 (d_223 C s p) w)), (6, .int (dW V e)), (5, .int (dK C p)), (0, .ref 154), (1, .int (Int32.ofInt 0)), (2, .int (nI p)), (3, .int (nI e)), (4, .int w)] [] h) from ⟨fun c27 => ?_, fun c27 => ?_⟩)
                    · refine am_goX 2 (show pz_S 8 (some .boolean) am_r238 2 Q 88 [(7, .int (d_225 s.1 (d_223 C s p) w)), (6, .int (dW V e)), (5, .int (dK C p)), (0, .ref 154), (1, .int (Int32.ofInt 0)), (2, .int (nI p)), (3, .int (nI e)), (4, .int w)] [.int (Int32.ofInt 1)] h from ?_)
                      exact sv_S2 sv2_238 (fun q hq => absurd hq List.not_mem_nil) (key _ (if_pos c27).symm)
                    · suffices key : ∀ (v30 : Int32), v30 = (if ¬ (dW V e) = (Int32.ofInt 1) then Int32.ofInt 0 else Int32.ofInt 1) → pz_S 8 (some .boolean) am_r238 2 Q 88 [] [.int v30] h by
                        refine am_goX 3 (show (¬ (dW V e) = (Int32.ofInt 1) → pz_S 8 (some .boolean) am_r238 2 Q 87 [(7, .int (d_225 s.1 (d_223 C s p) w)), (6, .int (dW V e)), (5, .int (dK C p)), (0, .ref 154), (1, .int (Int32.ofInt 0)), (2, .int (nI p)), (3, .int (nI e)), (4, .int w)] [] h) ∧ (¬ ¬ (dW V e) = (Int32.ofInt 1) → pz_S 8 (some .boolean) am_r238 2 Q 83 [(7, .int (d_225 s.1 (d_223 C s p) w)), (6, .int (dW V e)), (5, .int (dK C p)), (0, .ref 154), (1, .int (Int32.ofInt 0)), (2, .int (nI p)), (3, .int (nI e)), (4, .int w)] [] h) from ⟨fun c29 => ?_, fun c29 => ?_⟩)
                        · refine am_goX 1 (show pz_S 8 (some .boolean) am_r238 2 Q 88 [(7, .int (d_225 s.1 (d_223 C s p) w)), (6, .int (dW V e)), (5, .int (dK C p)), (0, .ref 154), (1, .int (Int32.ofInt 0)), (2, .int (nI p)), (3, .int (nI e)), (4, .int w)] [.int (Int32.ofInt 0)] h from ?_)
                          exact sv_S2 sv2_238 (fun q hq => absurd hq List.not_mem_nil) (key _ (if_pos c29).symm)
                        · refine am_goX 2 (show pz_S 8 (some .boolean) am_r238 2 Q 88 [(7, .int (d_225 s.1 (d_223 C s p) w)), (6, .int (dW V e)), (5, .int (dK C p)), (0, .ref 154), (1, .int (Int32.ofInt 0)), (2, .int (nI p)), (3, .int (nI e)), (4, .int w)] [.int (Int32.ofInt 1)] h from ?_)
                          exact sv_S2 sv2_238 (fun q hq => absurd hq List.not_mem_nil) (key _ (if_neg c29).symm)
                      intro v30 e31
                      subst e31
                      exact sv_S2 sv2_238 (fun q hq => absurd hq List.not_mem_nil) (key _ (if_neg c27).symm)
                  intro v28 e32
                  subst e32
                  exact sv_S2 sv2_238 (fun q hq => absurd hq List.not_mem_nil) (key _ (if_neg c25).symm)
              intro v26 e33
              subst e33
              exact sv_S2 sv2_238 (fun q hq => absurd hq List.not_mem_nil) (key _ (if_neg c23).symm)
          intro v24 e34
          subst e34
          exact sv_S2 sv2_238 (fun q hq => absurd hq List.not_mem_nil) (key _ (if_neg c15).symm)
      intro v16 e35
      subst e35
      exact sv_S2 sv2_238 (fun q hq => absurd hq List.not_mem_nil) (key _ (if_neg c13).symm)
  intro v14 e36
  subst e36
  exact am_goX 1 (show (∃ ty, (some .boolean) = some ty ∧ narrow ty (.int (if (d_229 C p (nI e)) = 0 then Int32.ofInt 0 else (if (d_225 s.1 (d_223 C s p) w) = (dW V e) then (if ¬ (dK C p) = (Int32.ofInt 2) then Int32.ofInt 1 else (if ¬ (dW V e) = (Int32.ofInt 1) then Int32.ofInt 0 else Int32.ofInt 1)) else (if ¬ (dK C p) = (Int32.ofInt 1) then Int32.ofInt 0 else (if ¬ (d_225 s.1 (d_223 C s p) w) = (((dW V e) + (Int32.ofInt 1)) - ((dW V e) + (Int32.ofInt 1)) / ((Int8.ofInt 7).toInt32) * ((Int8.ofInt 7).toInt32)) then Int32.ofInt 0 else (if ¬ (dK C p) = (Int32.ofInt 2) then Int32.ofInt 1 else (if ¬ (dW V e) = (Int32.ofInt 1) then Int32.ofInt 0 else Int32.ofInt 1))))))) = .int (if (d_229 C p (nI e)) = 0 then Int32.ofInt 0 else (if (d_225 s.1 (d_223 C s p) w) = (dW V e) then (if ¬ (dK C p) = (Int32.ofInt 2) then Int32.ofInt 1 else (if ¬ (dW V e) = (Int32.ofInt 1) then Int32.ofInt 0 else Int32.ofInt 1)) else (if ¬ (dK C p) = (Int32.ofInt 1) then Int32.ofInt 0 else (if ¬ (d_225 s.1 (d_223 C s p) w) = (((dW V e) + (Int32.ofInt 1)) - ((dW V e) + (Int32.ofInt 1)) / ((Int8.ofInt 7).toInt32) * ((Int8.ofInt 7).toInt32)) then Int32.ofInt 0 else (if ¬ (dK C p) = (Int32.ofInt 2) then Int32.ofInt 1 else (if ¬ (dW V e) = (Int32.ofInt 1) then Int32.ofInt 0 else Int32.ofInt 1))))))) ∧ h.2.2.2.2 = 175 ∧ _ from ⟨⟨.boolean, rfl, (by (repeat' split) <;> rfl)⟩, ex_175 hP, hQ⟩)
theorem d_223_r1029 (hP : ex_P h) (hI : cI C) (hT : tR C h) (hO : ∀ e, e < dE C → h.1 172 e = dW V e) (hN : sR 0 (dP C) u h) (hS : sR 1029 (dP C) s h) (hp : p < dP C) (hQ : Q (some (.int (d_223 C s p))) h) : am_call am_cod 2 223 [.ref 154, .int ((Int16.ofInt 1029).toInt32), .int (nI p)] h Q := by
  have h6 := hT.1.2.1
  have h5 := hT.2.1.2.1
  refine pz_call (n := 223) (nL := 3) (rt := (some .int)) (rows := am_r223) (d := 1) (by decide +kernel) (by decide +kernel) rfl (by funext pc; rfl) (ex_175 hP) (by exact Nat.le_of_ble_eq_true rfl) ?_
  refine am_goX 4 (show am_rc h 154 11 ∧ 0 ≤ 8 ∧ h.2.2.2.2 + am_al 187 ≤ 175 ∧ am_call am_cod 1 187 [.ref 154, .int (nI p), .int (Int32.ofInt 0)] h (fun vv h' => pz_S 3 (some .int) am_r223 1 Q 6 [(0, .ref 154), (1, .int ((Int16.ofInt 1029).toInt32)), (2, .int (nI p))] (vv.toList ++ []) h') from ⟨Or.inl ⟨by decide, ex_154 hP⟩, by decide, ex_lim hP rfl, am_call.up (d_187_r0 hP hT (by omega) ?_) (by decide)⟩)
  suffices key : ∀ (v38 : Int32), v38 = (if ¬ (dK C p) = (Int32.ofInt 3) then (s.2.2.1 p) - (Int32.ofInt 2) else Int32.ofInt 0) → pz_S 3 (some .int) am_r223 1 Q 26 [] [.int v38] h by
    refine am_goX 2 (show (¬ (dK C p) = (Int32.ofInt 3) → pz_S 3 (some .int) am_r223 1 Q 14 [(0, .ref 154), (1, .int ((Int16.ofInt 1029).toInt32)), (2, .int (nI p))] [] h) ∧ (¬ ¬ (dK C p) = (Int32.ofInt 3) → pz_S 3 (some .int) am_r223 1 Q 10 [(0, .ref 154), (1, .int ((Int16.ofInt 1029).toInt32)), (2, .int (nI p))] [] h) from ⟨fun c37 => ?_, fun c37 => ?_⟩)
    · refine am_goX 2 (show am_sh h 154 = some (11, 0) ∧ pz_S 3 (some .int) am_r223 1 Q 18 [(0, .ref 154), (1, .int ((Int16.ofInt 1029).toInt32)), (2, .int (nI p))] [am_rf (h.2.2.1 154 24)] h from ⟨ex_154 hP, ?_⟩)
      rw [show am_rf (h.2.2.1 154 24) = .ref 170 from congrArg am_rf (ex_r154_24 hP)]
      refine am_goX 6 (show ∃ jj nn : Nat, am_sh h 170 = some (13, nn) ∧ jj < nn ∧ (((Int16.ofInt 1029).toInt32) + (Int32.ofInt 2)) + (nI p) = nI jj ∧ pz_S 3 (some .int) am_r223 1 Q 24 [(0, .ref 154), (1, .int ((Int16.ofInt 1029).toInt32)), (2, .int (nI p))] [.int (h.1 170 jj)] h from ⟨(1031 + p), 1127, ex_170 hP, (by omega), (dn_a (dn_a (show (Int16.ofInt 1029).toInt32 = nI 1029 by decide) rfl) rfl), ?_⟩)
      rw [show h.1 170 (1031 + p) = s.2.2.1 p from (by rw [show (1031 + p) = 1029 + 2 + p by omega]; exact hS.2.1 p (by omega))]
      refine am_goX 2 (show pz_S 3 (some .int) am_r223 1 Q 26 [(0, .ref 154), (1, .int ((Int16.ofInt 1029).toInt32)), (2, .int (nI p))] [.int ((s.2.2.1 p) - (Int32.ofInt 2))] h from ?_)
      exact sv_S2 sv2_223 (fun q hq => absurd hq List.not_mem_nil) (key _ (if_pos c37).symm)
    · refine am_goX 2 (show pz_S 3 (some .int) am_r223 1 Q 26 [(0, .ref 154), (1, .int ((Int16.ofInt 1029).toInt32)), (2, .int (nI p))] [.int (Int32.ofInt 0)] h from ?_)
      exact sv_S2 sv2_223 (fun q hq => absurd hq List.not_mem_nil) (key _ (if_neg c37).symm)
  intro v38 e39
  subst e39
  exact am_goX 1 (show (∃ ty, (some .int) = some ty ∧ narrow ty (.int (if ¬ (dK C p) = (Int32.ofInt 3) then (s.2.2.1 p) - (Int32.ofInt 2) else Int32.ofInt 0)) = .int (if ¬ (dK C p) = (Int32.ofInt 3) then (s.2.2.1 p) - (Int32.ofInt 2) else Int32.ofInt 0)) ∧ h.2.2.2.2 = 175 ∧ _ from ⟨⟨.int, rfl, rfl⟩, ex_175 hP, hQ⟩)
theorem d_238_r1029 (hP : ex_P h) (hI : cI C) (hT : tR C h) (hO : ∀ e, e < dE C → h.1 172 e = dW V e) (hN : sR 0 (dP C) u h) (hS : sR 1029 (dP C) s h) (hp : p < dP C) (he : e < dE C) (hQ : Q (some (.int (d_238 C V s p e w))) h) : am_call am_cod 3 238 [.ref 154, .int ((Int16.ofInt 1029).toInt32), .int (nI p), .int (nI e), .int w] h Q := by
  have h6 := hT.1.2.1
  have h5 := hT.2.1.2.1
  refine pz_call (n := 238) (nL := 8) (rt := (some .boolean)) (rows := am_r238) (d := 2) (by decide +kernel) (by decide +kernel) rfl (by funext pc; rfl) (ex_175 hP) (by exact Nat.le_of_ble_eq_true rfl) ?_
  refine am_goX 4 (show am_rc h 154 11 ∧ 0 ≤ 8 ∧ h.2.2.2.2 + am_al 187 ≤ 175 ∧ am_call am_cod 2 187 [.ref 154, .int (nI p), .int (Int32.ofInt 0)] h (fun vv h' => pz_S 8 (some .boolean) am_r238 2 Q 6 [(0, .ref 154), (1, .int ((Int16.ofInt 1029).toInt32)), (2, .int (nI p)), (3, .int (nI e)), (4, .int w)] (vv.toList ++ []) h') from ⟨Or.inl ⟨by decide, ex_154 hP⟩, by decide, ex_lim hP rfl, am_call.up (d_187_r0 hP hT (by omega) ?_) (by decide)⟩)
  refine am_goX 3 (show 5 < 8 ∧ am_sh h 154 = some (11, 0) ∧ pz_S 8 (some .boolean) am_r238 2 Q 12 [(5, .int (dK C p)), (0, .ref 154), (1, .int ((Int16.ofInt 1029).toInt32)), (2, .int (nI p)), (3, .int (nI e)), (4, .int w)] [am_rf (h.2.2.1 154 27)] h from ⟨by decide, ex_154 hP, ?_⟩)
  rw [show am_rf (h.2.2.1 154 27) = .ref 172 from congrArg am_rf (ex_r154_27 hP)]
  refine am_goX 2 (show ∃ jj nn : Nat, am_sh h 172 = some (13, nn) ∧ jj < nn ∧ nI e = nI jj ∧ pz_S 8 (some .boolean) am_r238 2 Q 14 [(5, .int (dK C p)), (0, .ref 154), (1, .int ((Int16.ofInt 1029).toInt32)), (2, .int (nI p)), (3, .int (nI e)), (4, .int w)] [.int (h.1 172 jj)] h from ⟨e, 5, ex_172 hP, (by omega), rfl, ?_⟩)
  rw [show h.1 172 e = dW V e from hO e (by omega)]
  refine am_goX 3 (show 6 < 8 ∧ am_sh h 154 = some (11, 0) ∧ pz_S 8 (some .boolean) am_r238 2 Q 20 [(6, .int (dW V e)), (5, .int (dK C p)), (0, .ref 154), (1, .int ((Int16.ofInt 1029).toInt32)), (2, .int (nI p)), (3, .int (nI e)), (4, .int w)] [am_rf (h.2.2.1 154 24)] h from ⟨by decide, ex_154 hP, ?_⟩)
  rw [show am_rf (h.2.2.1 154 24) = .ref 170 from congrArg am_rf (ex_r154_24 hP)]
  refine am_goX 4 (show ∃ jj nn : Nat, am_sh h 170 = some (13, nn) ∧ jj < nn ∧ ((Int16.ofInt 1029).toInt32) + (Int32.ofInt 0) = nI jj ∧ pz_S 8 (some .boolean) am_r238 2 Q 24 [(6, .int (dW V e)), (5, .int (dK C p)), (0, .ref 154), (1, .int ((Int16.ofInt 1029).toInt32)), (2, .int (nI p)), (3, .int (nI e)), (4, .int w)] [.int (h.1 170 jj)] h from ⟨1029, 1127, ex_170 hP, (by omega), (dn_a (show (Int16.ofInt 1029).toInt32 = nI 1029 by decide) rfl), ?_⟩)
  rw [show h.1 170 1029 = s.1 from hS.1.1]
  refine am_goX 4 (show am_rc h 154 11 ∧ 1 ≤ 8 ∧ h.2.2.2.2 + am_al 223 ≤ 175 ∧ am_call am_cod 2 223 [.ref 154, .int ((Int16.ofInt 1029).toInt32), .int (nI p)] h (fun vv h' => pz_S 8 (some .boolean) am_r238 2 Q 30 [(6, .int (dW V e)), (5, .int (dK C p)), (0, .ref 154), (1, .int ((Int16.ofInt 1029).toInt32)), (2, .int (nI p)), (3, .int (nI e)), (4, .int w)] (vv.toList ++ [.int s.1]) h') from ⟨Or.inl ⟨by decide, ex_154 hP⟩, by decide, ex_lim hP rfl, am_call.up (d_223_r1029 hP hI hT hO hN hS (by omega) ?_) (by decide)⟩)
  refine am_goX 2 (show 0 ≤ 8 ∧ h.2.2.2.2 + am_al 225 ≤ 175 ∧ am_call am_cod 2 225 [.int s.1, .int (d_223 C s p), .int w] h (fun vv h' => pz_S 8 (some .boolean) am_r238 2 Q 35 [(6, .int (dW V e)), (5, .int (dK C p)), (0, .ref 154), (1, .int ((Int16.ofInt 1029).toInt32)), (2, .int (nI p)), (3, .int (nI e)), (4, .int w)] (vv.toList ++ []) h') from ⟨by decide, ex_lim hP rfl, am_call.up (d_225_w hP ?_) (by decide)⟩)
  refine am_goX 5 (show 7 < 8 ∧ am_rc h 154 11 ∧ 0 ≤ 8 ∧ h.2.2.2.2 + am_al 229 ≤ 175 ∧ am_call am_cod 2 229 [.ref 154, .int (nI p), .int (nI e)] h (fun vv h' => pz_S 8 (some .boolean) am_r238 2 Q 43 [(7, .int (d_225 s.1 (d_223 C s p) w)), (6, .int (dW V e)), (5, .int (dK C p)), (0, .ref 154), (1, .int ((Int16.ofInt 1029).toInt32)), (2, .int (nI p)), (3, .int (nI e)), (4, .int w)] (vv.toList ++ []) h') from ⟨by decide, Or.inl ⟨by decide, ex_154 hP⟩, by decide, ex_lim hP rfl, am_call.up (d_229_r hP hT (by omega) ?_) (by decide)⟩)
  suffices key : ∀ (v41 : Int32), v41 = (if (d_229 C p (nI e)) = 0 then Int32.ofInt 0 else (if (d_225 s.1 (d_223 C s p) w) = (dW V e) then (if ¬ (dK C p) = (Int32.ofInt 2) then Int32.ofInt 1 else (if ¬ (dW V e) = (Int32.ofInt 1) then Int32.ofInt 0 else Int32.ofInt 1)) else (if ¬ (dK C p) = (Int32.ofInt 1) then Int32.ofInt 0 else (if ¬ (d_225 s.1 (d_223 C s p) w) = (((dW V e) + (Int32.ofInt 1)) - ((dW V e) + (Int32.ofInt 1)) / ((Int8.ofInt 7).toInt32) * ((Int8.ofInt 7).toInt32)) then Int32.ofInt 0 else (if ¬ (dK C p) = (Int32.ofInt 2) then Int32.ofInt 1 else (if ¬ (dW V e) = (Int32.ofInt 1) then Int32.ofInt 0 else Int32.ofInt 1)))))) → pz_S 8 (some .boolean) am_r238 2 Q 88 [] [.int v41] h by
    refine am_goX 1 (show ((d_229 C p (nI e)) = 0 → pz_S 8 (some .boolean) am_r238 2 Q 87 [(7, .int (d_225 s.1 (d_223 C s p) w)), (6, .int (dW V e)), (5, .int (dK C p)), (0, .ref 154), (1, .int ((Int16.ofInt 1029).toInt32)), (2, .int (nI p)), (3, .int (nI e)), (4, .int w)] [] h) ∧ (¬ ((d_229 C p (nI e)) = 0) → pz_S 8 (some .boolean) am_r238 2 Q 46 [(7, .int (d_225 s.1 (d_223 C s p) w)), (6, .int (dW V e)), (5, .int (dK C p)), (0, .ref 154), (1, .int ((Int16.ofInt 1029).toInt32)), (2, .int (nI p)), (3, .int (nI e)), (4, .int w)] [] h) from ⟨fun c40 => ?_, fun c40 => ?_⟩)
    · refine am_goX 1 (show pz_S 8 (some .boolean) am_r238 2 Q 88 [(7, .int (d_225 s.1 (d_223 C s p) w)), (6, .int (dW V e)), (5, .int (dK C p)), (0, .ref 154), (1, .int ((Int16.ofInt 1029).toInt32)), (2, .int (nI p)), (3, .int (nI e)), (4, .int w)] [.int (Int32.ofInt 0)] h from ?_)
      exact sv_S2 sv2_238 (fun q hq => absurd hq List.not_mem_nil) (key _ (if_pos c40).symm)
    · suffices key : ∀ (v43 : Int32), v43 = (if (d_225 s.1 (d_223 C s p) w) = (dW V e) then (if ¬ (dK C p) = (Int32.ofInt 2) then Int32.ofInt 1 else (if ¬ (dW V e) = (Int32.ofInt 1) then Int32.ofInt 0 else Int32.ofInt 1)) else (if ¬ (dK C p) = (Int32.ofInt 1) then Int32.ofInt 0 else (if ¬ (d_225 s.1 (d_223 C s p) w) = (((dW V e) + (Int32.ofInt 1)) - ((dW V e) + (Int32.ofInt 1)) / ((Int8.ofInt 7).toInt32) * ((Int8.ofInt 7).toInt32)) then Int32.ofInt 0 else (if ¬ (dK C p) = (Int32.ofInt 2) then Int32.ofInt 1 else (if ¬ (dW V e) = (Int32.ofInt 1) then Int32.ofInt 0 else Int32.ofInt 1))))) → pz_S 8 (some .boolean) am_r238 2 Q 88 [] [.int v43] h by
        refine am_goX 3 (show ((d_225 s.1 (d_223 C s p) w) = (dW V e) → pz_S 8 (some .boolean) am_r238 2 Q 71 [(7, .int (d_225 s.1 (d_223 C s p) w)), (6, .int (dW V e)), (5, .int (dK C p)), (0, .ref 154), (1, .int ((Int16.ofInt 1029).toInt32)), (2, .int (nI p)), (3, .int (nI e)), (4, .int w)] [] h) ∧ (¬ ((d_225 s.1 (d_223 C s p) w) = (dW V e)) → pz_S 8 (some .boolean) am_r238 2 Q 53 [(7, .int (d_225 s.1 (d_223 C s p) w)), (6, .int (dW V e)), (5, .int (dK C p)), (0, .ref 154), (1, .int ((Int16.ofInt 1029).toInt32)), (2, .int (nI p)), (3, .int (nI e)), (4, .int w)] [] h) from ⟨fun c42 => ?_, fun c42 => ?_⟩)
        · suffices key : ∀ (v45 : Int32), v45 = (if ¬ (dK C p) = (Int32.ofInt 2) then Int32.ofInt 1 else (if ¬ (dW V e) = (Int32.ofInt 1) then Int32.ofInt 0 else Int32.ofInt 1)) → pz_S 8 (some .boolean) am_r238 2 Q 88 [] [.int v45] h by
            refine am_goX 3 (show (¬ (dK C p) = (Int32.ofInt 2) → pz_S 8 (some .boolean) am_r238 2 Q 83 [(7, .int (d_225 s.1 (d_223 C s p) w)), (6, .int (dW V e)), (5, .int (dK C p)), (0, .ref 154), (1, .int ((Int16.ofInt 1029).toInt32)), (2, .int (nI p)), (3, .int (nI e)), (4, .int w)] [] h) ∧ (¬ ¬ (dK C p) = (Int32.ofInt 2) → pz_S 8 (some .boolean) am_r238 2 Q 77 [(7, .int (d_225 s.1 (d_223 C s p) w)), (6, .int (dW V e)), (5, .int (dK C p)), (0, .ref 154), (1, .int ((Int16.ofInt 1029).toInt32)), (2, .int (nI p)), (3, .int (nI e)), (4, .int w)] [] h) from ⟨fun c44 => ?_, fun c44 => ?_⟩)
            · refine am_goX 2 (show pz_S 8 (some .boolean) am_r238 2 Q 88 [(7, .int (d_225 s.1 (d_223 C s p) w)), (6, .int (dW V e)), (5, .int (dK C p)), (0, .ref 154), (1, .int ((Int16.ofInt 1029).toInt32)), (2, .int (nI p)), (3, .int (nI e)), (4, .int w)] [.int (Int32.ofInt 1)] h from ?_)
              exact sv_S2 sv2_238 (fun q hq => absurd hq List.not_mem_nil) (key _ (if_pos c44).symm)
            · suffices key : ∀ (v47 : Int32), v47 = (if ¬ (dW V e) = (Int32.ofInt 1) then Int32.ofInt 0 else Int32.ofInt 1) → pz_S 8 (some .boolean) am_r238 2 Q 88 [] [.int v47] h by
                refine am_goX 3 (show (¬ (dW V e) = (Int32.ofInt 1) → pz_S 8 (some .boolean) am_r238 2 Q 87 [(7, .int (d_225 s.1 (d_223 C s p) w)), (6, .int (dW V e)), (5, .int (dK C p)), (0, .ref 154), (1, .int ((Int16.ofInt 1029).toInt32)), (2, .int (nI p)), (3, .int (nI e)), (4, .int w)] [] h) ∧ (¬ ¬ (dW V e) = (Int32.ofInt 1) → pz_S 8 (some .boolean) am_r238 2 Q 83 [(7, .int (d_225 s.1 (d_223 C s p) w)), (6, .int (dW V e)), (5, .int (dK C p)), (0, .ref 154), (1, .int ((Int16.ofInt 1029).toInt32)), (2, .int (nI p)), (3, .int (nI e)), (4, .int w)] [] h) from ⟨fun c46 => ?_, fun c46 => ?_⟩)
                · refine am_goX 1 (show pz_S 8 (some .boolean) am_r238 2 Q 88 [(7, .int (d_225 s.1 (d_223 C s p) w)), (6, .int (dW V e)), (5, .int (dK C p)), (0, .ref 154), (1, .int ((Int16.ofInt 1029).toInt32)), (2, .int (nI p)), (3, .int (nI e)), (4, .int w)] [.int (Int32.ofInt 0)] h from ?_)
                  exact sv_S2 sv2_238 (fun q hq => absurd hq List.not_mem_nil) (key _ (if_pos c46).symm)
                · refine am_goX 2 (show pz_S 8 (some .boolean) am_r238 2 Q 88 [(7, .int (d_225 s.1 (d_223 C s p) w)), (6, .int (dW V e)), (5, .int (dK C p)), (0, .ref 154), (1, .int ((Int16.ofInt 1029).toInt32)), (2, .int (nI p)), (3, .int (nI e)), (4, .int w)] [.int (Int32.ofInt 1)] h from ?_)
                  exact sv_S2 sv2_238 (fun q hq => absurd hq List.not_mem_nil) (key _ (if_neg c46).symm)
              intro v47 e48
              subst e48
              exact sv_S2 sv2_238 (fun q hq => absurd hq List.not_mem_nil) (key _ (if_neg c44).symm)
          intro v45 e49
          subst e49
          exact sv_S2 sv2_238 (fun q hq => absurd hq List.not_mem_nil) (key _ (if_pos c42).symm)
        · suffices key : ∀ (v51 : Int32), v51 = (if ¬ (dK C p) = (Int32.ofInt 1) then Int32.ofInt 0 else (if ¬ (d_225 s.1 (d_223 C s p) w) = (((dW V e) + (Int32.ofInt 1)) - ((dW V e) + (Int32.ofInt 1)) / ((Int8.ofInt 7).toInt32) * ((Int8.ofInt 7).toInt32)) then Int32.ofInt 0 else (if ¬ (dK C p) = (Int32.ofInt 2) then Int32.ofInt 1 else (if ¬ (dW V e) = (Int32.ofInt 1) then Int32.ofInt 0 else Int32.ofInt 1)))) → pz_S 8 (some .boolean) am_r238 2 Q 88 [] [.int v51] h by
            refine am_goX 3 (show (¬ (dK C p) = (Int32.ofInt 1) → pz_S 8 (some .boolean) am_r238 2 Q 87 [(7, .int (d_225 s.1 (d_223 C s p) w)), (6, .int (dW V e)), (5, .int (dK C p)), (0, .ref 154), (1, .int ((Int16.ofInt 1029).toInt32)), (2, .int (nI p)), (3, .int (nI e)), (4, .int w)] [] h) ∧ (¬ ¬ (dK C p) = (Int32.ofInt 1) → pz_S 8 (some .boolean) am_r238 2 Q 59 [(7, .int (d_225 s.1 (d_223 C s p) w)), (6, .int (dW V e)), (5, .int (dK C p)), (0, .ref 154), (1, .int ((Int16.ofInt 1029).toInt32)), (2, .int (nI p)), (3, .int (nI e)), (4, .int w)] [] h) from ⟨fun c50 => ?_, fun c50 => ?_⟩)
            · refine am_goX 1 (show pz_S 8 (some .boolean) am_r238 2 Q 88 [(7, .int (d_225 s.1 (d_223 C s p) w)), (6, .int (dW V e)), (5, .int (dK C p)), (0, .ref 154), (1, .int ((Int16.ofInt 1029).toInt32)), (2, .int (nI p)), (3, .int (nI e)), (4, .int w)] [.int (Int32.ofInt 0)] h from ?_)
              exact sv_S2 sv2_238 (fun q hq => absurd hq List.not_mem_nil) (key _ (if_pos c50).symm)
            · suffices key : ∀ (v53 : Int32), v53 = (if ¬ (d_225 s.1 (d_223 C s p) w) = (((dW V e) + (Int32.ofInt 1)) - ((dW V e) + (Int32.ofInt 1)) / ((Int8.ofInt 7).toInt32) * ((Int8.ofInt 7).toInt32)) then Int32.ofInt 0 else (if ¬ (dK C p) = (Int32.ofInt 2) then Int32.ofInt 1 else (if ¬ (dW V e) = (Int32.ofInt 1) then Int32.ofInt 0 else Int32.ofInt 1))) → pz_S 8 (some .boolean) am_r238 2 Q 88 [] [.int v53] h by
                refine am_goX 7 (show ¬ ((Int8.ofInt 7).toInt32) = 0 ∧ (¬ (d_225 s.1 (d_223 C s p) w) = (((dW V e) + (Int32.ofInt 1)) - ((dW V e) + (Int32.ofInt 1)) / ((Int8.ofInt 7).toInt32) * ((Int8.ofInt 7).toInt32)) → pz_S 8 (some .boolean) am_r238 2 Q 87 [(7, .int (d_225 s.1 (d_223 C s p) w)), (6, .int (dW V e)), (5, .int (dK C p)), (0, .ref 154), (1, .int ((Int16.ofInt 1029).toInt32)), (2, .int (nI p)), (3, .int (nI e)), (4, .int w)] [] h) ∧ (¬ ¬ (d_225 s.1 (d_223 C s p) w) = (((dW V e) + (Int32.ofInt 1)) - ((dW V e) + (Int32.ofInt 1)) / ((Int8.ofInt 7).toInt32) * ((Int8.ofInt 7).toInt32)) → pz_S 8 (some .boolean) am_r238 2 Q 71 [(7, .int (d_225 s.1 (d_223 C s p) w)), (6, .int (dW V e)), (5, .int (dK C p)), (0, .ref 154), (1, .int ((Int16.ofInt 1029).toInt32)), (2, .int (nI p)), (3, .int (nI e)), (4, .int w)] [] h) from ⟨by decide, fun c52 => ?_, fun c52 => ?_⟩)
                · refine am_goX 1 (show pz_S 8 (some .boolean) am_r238 2 Q 88 [(7, .int (d_225 s.1 (d_223 C s p) w)), (6, .int (dW V e)), (5, .int (dK C p)), (0, .ref 154), (1, .int ((Int16.ofInt 1029).toInt32)), (2, .int (nI p)), (3, .int (nI e)), (4, .int w)] [.int (Int32.ofInt 0)] h from ?_)
                  exact sv_S2 sv2_238 (fun q hq => absurd hq List.not_mem_nil) (key _ (if_pos c52).symm)
                · suffices key : ∀ (v55 : Int32), v55 = (if ¬ (dK C p) = (Int32.ofInt 2) then Int32.ofInt 1 else (if ¬ (dW V e) = (Int32.ofInt 1) then Int32.ofInt 0 else Int32.ofInt 1)) → pz_S 8 (some .boolean) am_r238 2 Q 88 [] [.int v55] h by
                    refine am_goX 3 (show (¬ (dK C p) = (Int32.ofInt 2) → pz_S 8 (some .boolean) am_r238 2 Q 83 [(7, .int (d_225 s.1 (d_223 C s p) w)), (6, .int (dW V e)), (5, .int (dK C p)), (0, .ref 154), (1, .int ((Int16.ofInt 1029).toInt32)), (2, .int (nI p)), (3, .int (nI e)), (4, .int w)] [] h) ∧ (¬ ¬ (dK C p) = (Int32.ofInt 2) → pz_S 8 (some .boolean) am_r238 2 Q 77 [(7, .int (d_225 s.1 (d_223 C s p) w)), (6, .int (dW V e)), (5, .int (dK C p)), (0, .ref 154), (1, .int ((Int16.ofInt 1029).toInt32)), (2, .int (nI p)), (3, .int (nI e)), (4, .int w)] [] h) from ⟨fun c54 => ?_, fun c54 => ?_⟩)
                    · refine am_goX 2 (show pz_S 8 (some .boolean) am_r238 2 Q 88 [(7, .int (d_225 s.1 (d_223 C s p) w)), (6, .int (dW V e)), (5, .int (dK C p)), (0, .ref 154), (1, .int ((Int16.ofInt 1029).toInt32)), (2, .int (nI p)), (3, .int (nI e)), (4, .int w)] [.int (Int32.ofInt 1)] h from ?_)
                      exact sv_S2 sv2_238 (fun q hq => absurd hq List.not_mem_nil) (key _ (if_pos c54).symm)
                    · suffices key : ∀ (v57 : Int32), v57 = (if ¬ (dW V e) = (Int32.ofInt 1) then Int32.ofInt 0 else Int32.ofInt 1) → pz_S 8 (some .boolean) am_r238 2 Q 88 [] [.int v57] h by
                        refine am_goX 3 (show (¬ (dW V e) = (Int32.ofInt 1) → pz_S 8 (some .boolean) am_r238 2 Q 87 [(7, .int (d_225 s.1 (d_223 C s p) w)), (6, .int (dW V e)), (5, .int (dK C p)), (0, .ref 154), (1, .int ((Int16.ofInt 1029).toInt32)), (2, .int (nI p)), (3, .int (nI e)), (4, .int w)] [] h) ∧ (¬ ¬ (dW V e) = (Int32.ofInt 1) → pz_S 8 (some .boolean) am_r238 2 Q 83 [(7, .int (d_225 s.1 (d_223 C s p) w)), (6, .int (dW V e)), (5, .int (dK C p)), (0, .ref 154), (1, .int ((Int16.ofInt 1029).toInt32)), (2, .int (nI p)), (3, .int (nI e)), (4, .int w)] [] h) from ⟨fun c56 => ?_, fun c56 => ?_⟩)
                        · refine am_goX 1 (show pz_S 8 (some .boolean) am_r238 2 Q 88 [(7, .int (d_225 s.1 (d_223 C s p) w)), (6, .int (dW V e)), (5, .int (dK C p)), (0, .ref 154), (1, .int ((Int16.ofInt 1029).toInt32)), (2, .int (nI p)), (3, .int (nI e)), (4, .int w)] [.int (Int32.ofInt 0)] h from ?_)
                          exact sv_S2 sv2_238 (fun q hq => absurd hq List.not_mem_nil) (key _ (if_pos c56).symm)
                        · refine am_goX 2 (show pz_S 8 (some .boolean) am_r238 2 Q 88 [(7, .int (d_225 s.1 (d_223 C s p) w)), (6, .int (dW V e)), (5, .int (dK C p)), (0, .ref 154), (1, .int ((Int16.ofInt 1029).toInt32)), (2, .int (nI p)), (3, .int (nI e)), (4, .int w)] [.int (Int32.ofInt 1)] h from ?_)
                          exact sv_S2 sv2_238 (fun q hq => absurd hq List.not_mem_nil) (key _ (if_neg c56).symm)
                      intro v57 e58
                      subst e58
                      exact sv_S2 sv2_238 (fun q hq => absurd hq List.not_mem_nil) (key _ (if_neg c54).symm)
                  intro v55 e59
                  subst e59
                  exact sv_S2 sv2_238 (fun q hq => absurd hq List.not_mem_nil) (key _ (if_neg c52).symm)
              intro v53 e60
              subst e60
              exact sv_S2 sv2_238 (fun q hq => absurd hq List.not_mem_nil) (key _ (if_neg c50).symm)
          intro v51 e61
          subst e61
          exact sv_S2 sv2_238 (fun q hq => absurd hq List.not_mem_nil) (key _ (if_neg c42).symm)
      intro v43 e62
      subst e62
      exact sv_S2 sv2_238 (fun q hq => absurd hq List.not_mem_nil) (key _ (if_neg c40).symm)
  intro v41 e63
  subst e63
  exact am_goX 1 (show (∃ ty, (some .boolean) = some ty ∧ narrow ty (.int (if (d_229 C p (nI e)) = 0 then Int32.ofInt 0 else (if (d_225 s.1 (d_223 C s p) w) = (dW V e) then (if ¬ (dK C p) = (Int32.ofInt 2) then Int32.ofInt 1 else (if ¬ (dW V e) = (Int32.ofInt 1) then Int32.ofInt 0 else Int32.ofInt 1)) else (if ¬ (dK C p) = (Int32.ofInt 1) then Int32.ofInt 0 else (if ¬ (d_225 s.1 (d_223 C s p) w) = (((dW V e) + (Int32.ofInt 1)) - ((dW V e) + (Int32.ofInt 1)) / ((Int8.ofInt 7).toInt32) * ((Int8.ofInt 7).toInt32)) then Int32.ofInt 0 else (if ¬ (dK C p) = (Int32.ofInt 2) then Int32.ofInt 1 else (if ¬ (dW V e) = (Int32.ofInt 1) then Int32.ofInt 0 else Int32.ofInt 1))))))) = .int (if (d_229 C p (nI e)) = 0 then Int32.ofInt 0 else (if (d_225 s.1 (d_223 C s p) w) = (dW V e) then (if ¬ (dK C p) = (Int32.ofInt 2) then Int32.ofInt 1 else (if ¬ (dW V e) = (Int32.ofInt 1) then Int32.ofInt 0 else Int32.ofInt 1)) else (if ¬ (dK C p) = (Int32.ofInt 1) then Int32.ofInt 0 else (if ¬ (d_225 s.1 (d_223 C s p) w) = (((dW V e) + (Int32.ofInt 1)) - ((dW V e) + (Int32.ofInt 1)) / ((Int8.ofInt 7).toInt32) * ((Int8.ofInt 7).toInt32)) then Int32.ofInt 0 else (if ¬ (dK C p) = (Int32.ofInt 2) then Int32.ofInt 1 else (if ¬ (dW V e) = (Int32.ofInt 1) then Int32.ofInt 0 else Int32.ofInt 1))))))) ∧ h.2.2.2.2 = 175 ∧ _ from ⟨⟨.boolean, rfl, (by (repeat' split) <;> rfl)⟩, ex_175 hP, hQ⟩)
theorem d_223_r1078 (hP : ex_P h) (hI : cI C) (hT : tR C h) (hO : ∀ e, e < dE C → h.1 172 e = dW V e) (hN : sR 0 (dP C) u h) (hS : sR 1078 (dP C) s h) (hp : p < dP C) (hQ : Q (some (.int (d_223 C s p))) h) : am_call am_cod 2 223 [.ref 154, .int ((Int16.ofInt 1078).toInt32), .int (nI p)] h Q := by
  have h6 := hT.1.2.1
  have h5 := hT.2.1.2.1
  refine pz_call (n := 223) (nL := 3) (rt := (some .int)) (rows := am_r223) (d := 1) (by decide +kernel) (by decide +kernel) rfl (by funext pc; rfl) (ex_175 hP) (by exact Nat.le_of_ble_eq_true rfl) ?_
  refine am_goX 4 (show am_rc h 154 11 ∧ 0 ≤ 8 ∧ h.2.2.2.2 + am_al 187 ≤ 175 ∧ am_call am_cod 1 187 [.ref 154, .int (nI p), .int (Int32.ofInt 0)] h (fun vv h' => pz_S 3 (some .int) am_r223 1 Q 6 [(0, .ref 154), (1, .int ((Int16.ofInt 1078).toInt32)), (2, .int (nI p))] (vv.toList ++ []) h') from ⟨Or.inl ⟨by decide, ex_154 hP⟩, by decide, ex_lim hP rfl, am_call.up (d_187_r0 hP hT (by omega) ?_) (by decide)⟩)
  suffices key : ∀ (v65 : Int32), v65 = (if ¬ (dK C p) = (Int32.ofInt 3) then (s.2.2.1 p) - (Int32.ofInt 2) else Int32.ofInt 0) → pz_S 3 (some .int) am_r223 1 Q 26 [] [.int v65] h by
    refine am_goX 2 (show (¬ (dK C p) = (Int32.ofInt 3) → pz_S 3 (some .int) am_r223 1 Q 14 [(0, .ref 154), (1, .int ((Int16.ofInt 1078).toInt32)), (2, .int (nI p))] [] h) ∧ (¬ ¬ (dK C p) = (Int32.ofInt 3) → pz_S 3 (some .int) am_r223 1 Q 10 [(0, .ref 154), (1, .int ((Int16.ofInt 1078).toInt32)), (2, .int (nI p))] [] h) from ⟨fun c64 => ?_, fun c64 => ?_⟩)
    · refine am_goX 2 (show am_sh h 154 = some (11, 0) ∧ pz_S 3 (some .int) am_r223 1 Q 18 [(0, .ref 154), (1, .int ((Int16.ofInt 1078).toInt32)), (2, .int (nI p))] [am_rf (h.2.2.1 154 24)] h from ⟨ex_154 hP, ?_⟩)
      rw [show am_rf (h.2.2.1 154 24) = .ref 170 from congrArg am_rf (ex_r154_24 hP)]
      refine am_goX 6 (show ∃ jj nn : Nat, am_sh h 170 = some (13, nn) ∧ jj < nn ∧ (((Int16.ofInt 1078).toInt32) + (Int32.ofInt 2)) + (nI p) = nI jj ∧ pz_S 3 (some .int) am_r223 1 Q 24 [(0, .ref 154), (1, .int ((Int16.ofInt 1078).toInt32)), (2, .int (nI p))] [.int (h.1 170 jj)] h from ⟨(1080 + p), 1127, ex_170 hP, (by omega), (dn_a (dn_a (show (Int16.ofInt 1078).toInt32 = nI 1078 by decide) rfl) rfl), ?_⟩)
      rw [show h.1 170 (1080 + p) = s.2.2.1 p from (by rw [show (1080 + p) = 1078 + 2 + p by omega]; exact hS.2.1 p (by omega))]
      refine am_goX 2 (show pz_S 3 (some .int) am_r223 1 Q 26 [(0, .ref 154), (1, .int ((Int16.ofInt 1078).toInt32)), (2, .int (nI p))] [.int ((s.2.2.1 p) - (Int32.ofInt 2))] h from ?_)
      exact sv_S2 sv2_223 (fun q hq => absurd hq List.not_mem_nil) (key _ (if_pos c64).symm)
    · refine am_goX 2 (show pz_S 3 (some .int) am_r223 1 Q 26 [(0, .ref 154), (1, .int ((Int16.ofInt 1078).toInt32)), (2, .int (nI p))] [.int (Int32.ofInt 0)] h from ?_)
      exact sv_S2 sv2_223 (fun q hq => absurd hq List.not_mem_nil) (key _ (if_neg c64).symm)
  intro v65 e66
  subst e66
  exact am_goX 1 (show (∃ ty, (some .int) = some ty ∧ narrow ty (.int (if ¬ (dK C p) = (Int32.ofInt 3) then (s.2.2.1 p) - (Int32.ofInt 2) else Int32.ofInt 0)) = .int (if ¬ (dK C p) = (Int32.ofInt 3) then (s.2.2.1 p) - (Int32.ofInt 2) else Int32.ofInt 0)) ∧ h.2.2.2.2 = 175 ∧ _ from ⟨⟨.int, rfl, rfl⟩, ex_175 hP, hQ⟩)
theorem d_238_r1078 (hP : ex_P h) (hI : cI C) (hT : tR C h) (hO : ∀ e, e < dE C → h.1 172 e = dW V e) (hN : sR 0 (dP C) u h) (hS : sR 1078 (dP C) s h) (hp : p < dP C) (he : e < dE C) (hQ : Q (some (.int (d_238 C V s p e w))) h) : am_call am_cod 3 238 [.ref 154, .int ((Int16.ofInt 1078).toInt32), .int (nI p), .int (nI e), .int w] h Q := by
  have h6 := hT.1.2.1
  have h5 := hT.2.1.2.1
  refine pz_call (n := 238) (nL := 8) (rt := (some .boolean)) (rows := am_r238) (d := 2) (by decide +kernel) (by decide +kernel) rfl (by funext pc; rfl) (ex_175 hP) (by exact Nat.le_of_ble_eq_true rfl) ?_
  refine am_goX 4 (show am_rc h 154 11 ∧ 0 ≤ 8 ∧ h.2.2.2.2 + am_al 187 ≤ 175 ∧ am_call am_cod 2 187 [.ref 154, .int (nI p), .int (Int32.ofInt 0)] h (fun vv h' => pz_S 8 (some .boolean) am_r238 2 Q 6 [(0, .ref 154), (1, .int ((Int16.ofInt 1078).toInt32)), (2, .int (nI p)), (3, .int (nI e)), (4, .int w)] (vv.toList ++ []) h') from ⟨Or.inl ⟨by decide, ex_154 hP⟩, by decide, ex_lim hP rfl, am_call.up (d_187_r0 hP hT (by omega) ?_) (by decide)⟩)
  refine am_goX 3 (show 5 < 8 ∧ am_sh h 154 = some (11, 0) ∧ pz_S 8 (some .boolean) am_r238 2 Q 12 [(5, .int (dK C p)), (0, .ref 154), (1, .int ((Int16.ofInt 1078).toInt32)), (2, .int (nI p)), (3, .int (nI e)), (4, .int w)] [am_rf (h.2.2.1 154 27)] h from ⟨by decide, ex_154 hP, ?_⟩)
  rw [show am_rf (h.2.2.1 154 27) = .ref 172 from congrArg am_rf (ex_r154_27 hP)]
  refine am_goX 2 (show ∃ jj nn : Nat, am_sh h 172 = some (13, nn) ∧ jj < nn ∧ nI e = nI jj ∧ pz_S 8 (some .boolean) am_r238 2 Q 14 [(5, .int (dK C p)), (0, .ref 154), (1, .int ((Int16.ofInt 1078).toInt32)), (2, .int (nI p)), (3, .int (nI e)), (4, .int w)] [.int (h.1 172 jj)] h from ⟨e, 5, ex_172 hP, (by omega), rfl, ?_⟩)
  rw [show h.1 172 e = dW V e from hO e (by omega)]
  refine am_goX 3 (show 6 < 8 ∧ am_sh h 154 = some (11, 0) ∧ pz_S 8 (some .boolean) am_r238 2 Q 20 [(6, .int (dW V e)), (5, .int (dK C p)), (0, .ref 154), (1, .int ((Int16.ofInt 1078).toInt32)), (2, .int (nI p)), (3, .int (nI e)), (4, .int w)] [am_rf (h.2.2.1 154 24)] h from ⟨by decide, ex_154 hP, ?_⟩)
  rw [show am_rf (h.2.2.1 154 24) = .ref 170 from congrArg am_rf (ex_r154_24 hP)]
  refine am_goX 4 (show ∃ jj nn : Nat, am_sh h 170 = some (13, nn) ∧ jj < nn ∧ ((Int16.ofInt 1078).toInt32) + (Int32.ofInt 0) = nI jj ∧ pz_S 8 (some .boolean) am_r238 2 Q 24 [(6, .int (dW V e)), (5, .int (dK C p)), (0, .ref 154), (1, .int ((Int16.ofInt 1078).toInt32)), (2, .int (nI p)), (3, .int (nI e)), (4, .int w)] [.int (h.1 170 jj)] h from ⟨1078, 1127, ex_170 hP, (by omega), (dn_a (show (Int16.ofInt 1078).toInt32 = nI 1078 by decide) rfl), ?_⟩)
  rw [show h.1 170 1078 = s.1 from hS.1.1]
  refine am_goX 4 (show am_rc h 154 11 ∧ 1 ≤ 8 ∧ h.2.2.2.2 + am_al 223 ≤ 175 ∧ am_call am_cod 2 223 [.ref 154, .int ((Int16.ofInt 1078).toInt32), .int (nI p)] h (fun vv h' => pz_S 8 (some .boolean) am_r238 2 Q 30 [(6, .int (dW V e)), (5, .int (dK C p)), (0, .ref 154), (1, .int ((Int16.ofInt 1078).toInt32)), (2, .int (nI p)), (3, .int (nI e)), (4, .int w)] (vv.toList ++ [.int s.1]) h') from ⟨Or.inl ⟨by decide, ex_154 hP⟩, by decide, ex_lim hP rfl, am_call.up (d_223_r1078 hP hI hT hO hN hS (by omega) ?_) (by decide)⟩)
  refine am_goX 2 (show 0 ≤ 8 ∧ h.2.2.2.2 + am_al 225 ≤ 175 ∧ am_call am_cod 2 225 [.int s.1, .int (d_223 C s p), .int w] h (fun vv h' => pz_S 8 (some .boolean) am_r238 2 Q 35 [(6, .int (dW V e)), (5, .int (dK C p)), (0, .ref 154), (1, .int ((Int16.ofInt 1078).toInt32)), (2, .int (nI p)), (3, .int (nI e)), (4, .int w)] (vv.toList ++ []) h') from ⟨by decide, ex_lim hP rfl, am_call.up (d_225_w hP ?_) (by decide)⟩)
  refine am_goX 5 (show 7 < 8 ∧ am_rc h 154 11 ∧ 0 ≤ 8 ∧ h.2.2.2.2 + am_al 229 ≤ 175 ∧ am_call am_cod 2 229 [.ref 154, .int (nI p), .int (nI e)] h (fun vv h' => pz_S 8 (some .boolean) am_r238 2 Q 43 [(7, .int (d_225 s.1 (d_223 C s p) w)), (6, .int (dW V e)), (5, .int (dK C p)), (0, .ref 154), (1, .int ((Int16.ofInt 1078).toInt32)), (2, .int (nI p)), (3, .int (nI e)), (4, .int w)] (vv.toList ++ []) h') from ⟨by decide, Or.inl ⟨by decide, ex_154 hP⟩, by decide, ex_lim hP rfl, am_call.up (d_229_r hP hT (by omega) ?_) (by decide)⟩)
  suffices key : ∀ (v68 : Int32), v68 = (if (d_229 C p (nI e)) = 0 then Int32.ofInt 0 else (if (d_225 s.1 (d_223 C s p) w) = (dW V e) then (if ¬ (dK C p) = (Int32.ofInt 2) then Int32.ofInt 1 else (if ¬ (dW V e) = (Int32.ofInt 1) then Int32.ofInt 0 else Int32.ofInt 1)) else (if ¬ (dK C p) = (Int32.ofInt 1) then Int32.ofInt 0 else (if ¬ (d_225 s.1 (d_223 C s p) w) = (((dW V e) + (Int32.ofInt 1)) - ((dW V e) + (Int32.ofInt 1)) / ((Int8.ofInt 7).toInt32) * ((Int8.ofInt 7).toInt32)) then Int32.ofInt 0 else (if ¬ (dK C p) = (Int32.ofInt 2) then Int32.ofInt 1 else (if ¬ (dW V e) = (Int32.ofInt 1) then Int32.ofInt 0 else Int32.ofInt 1)))))) → pz_S 8 (some .boolean) am_r238 2 Q 88 [] [.int v68] h by
    refine am_goX 1 (show ((d_229 C p (nI e)) = 0 → pz_S 8 (some .boolean) am_r238 2 Q 87 [(7, .int (d_225 s.1 (d_223 C s p) w)), (6, .int (dW V e)), (5, .int (dK C p)), (0, .ref 154), (1, .int ((Int16.ofInt 1078).toInt32)), (2, .int (nI p)), (3, .int (nI e)), (4, .int w)] [] h) ∧ (¬ ((d_229 C p (nI e)) = 0) → pz_S 8 (some .boolean) am_r238 2 Q 46 [(7, .int (d_225 s.1 (d_223 C s p) w)), (6, .int (dW V e)), (5, .int (dK C p)), (0, .ref 154), (1, .int ((Int16.ofInt 1078).toInt32)), (2, .int (nI p)), (3, .int (nI e)), (4, .int w)] [] h) from ⟨fun c67 => ?_, fun c67 => ?_⟩)
    · refine am_goX 1 (show pz_S 8 (some .boolean) am_r238 2 Q 88 [(7, .int (d_225 s.1 (d_223 C s p) w)), (6, .int (dW V e)), (5, .int (dK C p)), (0, .ref 154), (1, .int ((Int16.ofInt 1078).toInt32)), (2, .int (nI p)), (3, .int (nI e)), (4, .int w)] [.int (Int32.ofInt 0)] h from ?_)
      exact sv_S2 sv2_238 (fun q hq => absurd hq List.not_mem_nil) (key _ (if_pos c67).symm)
    · suffices key : ∀ (v70 : Int32), v70 = (if (d_225 s.1 (d_223 C s p) w) = (dW V e) then (if ¬ (dK C p) = (Int32.ofInt 2) then Int32.ofInt 1 else (if ¬ (dW V e) = (Int32.ofInt 1) then Int32.ofInt 0 else Int32.ofInt 1)) else (if ¬ (dK C p) = (Int32.ofInt 1) then Int32.ofInt 0 else (if ¬ (d_225 s.1 (d_223 C s p) w) = (((dW V e) + (Int32.ofInt 1)) - ((dW V e) + (Int32.ofInt 1)) / ((Int8.ofInt 7).toInt32) * ((Int8.ofInt 7).toInt32)) then Int32.ofInt 0 else (if ¬ (dK C p) = (Int32.ofInt 2) then Int32.ofInt 1 else (if ¬ (dW V e) = (Int32.ofInt 1) then Int32.ofInt 0 else Int32.ofInt 1))))) → pz_S 8 (some .boolean) am_r238 2 Q 88 [] [.int v70] h by
        refine am_goX 3 (show ((d_225 s.1 (d_223 C s p) w) = (dW V e) → pz_S 8 (some .boolean) am_r238 2 Q 71 [(7, .int (d_225 s.1 (d_223 C s p) w)), (6, .int (dW V e)), (5, .int (dK C p)), (0, .ref 154), (1, .int ((Int16.ofInt 1078).toInt32)), (2, .int (nI p)), (3, .int (nI e)), (4, .int w)] [] h) ∧ (¬ ((d_225 s.1 (d_223 C s p) w) = (dW V e)) → pz_S 8 (some .boolean) am_r238 2 Q 53 [(7, .int (d_225 s.1 (d_223 C s p) w)), (6, .int (dW V e)), (5, .int (dK C p)), (0, .ref 154), (1, .int ((Int16.ofInt 1078).toInt32)), (2, .int (nI p)), (3, .int (nI e)), (4, .int w)] [] h) from ⟨fun c69 => ?_, fun c69 => ?_⟩)
        · suffices key : ∀ (v72 : Int32), v72 = (if ¬ (dK C p) = (Int32.ofInt 2) then Int32.ofInt 1 else (if ¬ (dW V e) = (Int32.ofInt 1) then Int32.ofInt 0 else Int32.ofInt 1)) → pz_S 8 (some .boolean) am_r238 2 Q 88 [] [.int v72] h by
            refine am_goX 3 (show (¬ (dK C p) = (Int32.ofInt 2) → pz_S 8 (some .boolean) am_r238 2 Q 83 [(7, .int (d_225 s.1 (d_223 C s p) w)), (6, .int (dW V e)), (5, .int (dK C p)), (0, .ref 154), (1, .int ((Int16.ofInt 1078).toInt32)), (2, .int (nI p)), (3, .int (nI e)), (4, .int w)] [] h) ∧ (¬ ¬ (dK C p) = (Int32.ofInt 2) → pz_S 8 (some .boolean) am_r238 2 Q 77 [(7, .int (d_225 s.1 (d_223 C s p) w)), (6, .int (dW V e)), (5, .int (dK C p)), (0, .ref 154), (1, .int ((Int16.ofInt 1078).toInt32)), (2, .int (nI p)), (3, .int (nI e)), (4, .int w)] [] h) from ⟨fun c71 => ?_, fun c71 => ?_⟩)
            · refine am_goX 2 (show pz_S 8 (some .boolean) am_r238 2 Q 88 [(7, .int (d_225 s.1 (d_223 C s p) w)), (6, .int (dW V e)), (5, .int (dK C p)), (0, .ref 154), (1, .int ((Int16.ofInt 1078).toInt32)), (2, .int (nI p)), (3, .int (nI e)), (4, .int w)] [.int (Int32.ofInt 1)] h from ?_)
              exact sv_S2 sv2_238 (fun q hq => absurd hq List.not_mem_nil) (key _ (if_pos c71).symm)
            · suffices key : ∀ (v74 : Int32), v74 = (if ¬ (dW V e) = (Int32.ofInt 1) then Int32.ofInt 0 else Int32.ofInt 1) → pz_S 8 (some .boolean) am_r238 2 Q 88 [] [.int v74] h by
                refine am_goX 3 (show (¬ (dW V e) = (Int32.ofInt 1) → pz_S 8 (some .boolean) am_r238 2 Q 87 [(7, .int (d_225 s.1 (d_223 C s p) w)), (6, .int (dW V e)), (5, .int (dK C p)), (0, .ref 154), (1, .int ((Int16.ofInt 1078).toInt32)), (2, .int (nI p)), (3, .int (nI e)), (4, .int w)] [] h) ∧ (¬ ¬ (dW V e) = (Int32.ofInt 1) → pz_S 8 (some .boolean) am_r238 2 Q 83 [(7, .int (d_225 s.1 (d_223 C s p) w)), (6, .int (dW V e)), (5, .int (dK C p)), (0, .ref 154), (1, .int ((Int16.ofInt 1078).toInt32)), (2, .int (nI p)), (3, .int (nI e)), (4, .int w)] [] h) from ⟨fun c73 => ?_, fun c73 => ?_⟩)
                · refine am_goX 1 (show pz_S 8 (some .boolean) am_r238 2 Q 88 [(7, .int (d_225 s.1 (d_223 C s p) w)), (6, .int (dW V e)), (5, .int (dK C p)), (0, .ref 154), (1, .int ((Int16.ofInt 1078).toInt32)), (2, .int (nI p)), (3, .int (nI e)), (4, .int w)] [.int (Int32.ofInt 0)] h from ?_)
                  exact sv_S2 sv2_238 (fun q hq => absurd hq List.not_mem_nil) (key _ (if_pos c73).symm)
                · refine am_goX 2 (show pz_S 8 (some .boolean) am_r238 2 Q 88 [(7, .int (d_225 s.1 (d_223 C s p) w)), (6, .int (dW V e)), (5, .int (dK C p)), (0, .ref 154), (1, .int ((Int16.ofInt 1078).toInt32)), (2, .int (nI p)), (3, .int (nI e)), (4, .int w)] [.int (Int32.ofInt 1)] h from ?_)
                  exact sv_S2 sv2_238 (fun q hq => absurd hq List.not_mem_nil) (key _ (if_neg c73).symm)
              intro v74 e75
              subst e75
              exact sv_S2 sv2_238 (fun q hq => absurd hq List.not_mem_nil) (key _ (if_neg c71).symm)
          intro v72 e76
          subst e76
          exact sv_S2 sv2_238 (fun q hq => absurd hq List.not_mem_nil) (key _ (if_pos c69).symm)
        · suffices key : ∀ (v78 : Int32), v78 = (if ¬ (dK C p) = (Int32.ofInt 1) then Int32.ofInt 0 else (if ¬ (d_225 s.1 (d_223 C s p) w) = (((dW V e) + (Int32.ofInt 1)) - ((dW V e) + (Int32.ofInt 1)) / ((Int8.ofInt 7).toInt32) * ((Int8.ofInt 7).toInt32)) then Int32.ofInt 0 else (if ¬ (dK C p) = (Int32.ofInt 2) then Int32.ofInt 1 else (if ¬ (dW V e) = (Int32.ofInt 1) then Int32.ofInt 0 else Int32.ofInt 1)))) → pz_S 8 (some .boolean) am_r238 2 Q 88 [] [.int v78] h by
            refine am_goX 3 (show (¬ (dK C p) = (Int32.ofInt 1) → pz_S 8 (some .boolean) am_r238 2 Q 87 [(7, .int (d_225 s.1 (d_223 C s p) w)), (6, .int (dW V e)), (5, .int (dK C p)), (0, .ref 154), (1, .int ((Int16.ofInt 1078).toInt32)), (2, .int (nI p)), (3, .int (nI e)), (4, .int w)] [] h) ∧ (¬ ¬ (dK C p) = (Int32.ofInt 1) → pz_S 8 (some .boolean) am_r238 2 Q 59 [(7, .int (d_225 s.1 (d_223 C s p) w)), (6, .int (dW V e)), (5, .int (dK C p)), (0, .ref 154), (1, .int ((Int16.ofInt 1078).toInt32)), (2, .int (nI p)), (3, .int (nI e)), (4, .int w)] [] h) from ⟨fun c77 => ?_, fun c77 => ?_⟩)
            · refine am_goX 1 (show pz_S 8 (some .boolean) am_r238 2 Q 88 [(7, .int (d_225 s.1 (d_223 C s p) w)), (6, .int (dW V e)), (5, .int (dK C p)), (0, .ref 154), (1, .int ((Int16.ofInt 1078).toInt32)), (2, .int (nI p)), (3, .int (nI e)), (4, .int w)] [.int (Int32.ofInt 0)] h from ?_)
              exact sv_S2 sv2_238 (fun q hq => absurd hq List.not_mem_nil) (key _ (if_pos c77).symm)
            · suffices key : ∀ (v80 : Int32), v80 = (if ¬ (d_225 s.1 (d_223 C s p) w) = (((dW V e) + (Int32.ofInt 1)) - ((dW V e) + (Int32.ofInt 1)) / ((Int8.ofInt 7).toInt32) * ((Int8.ofInt 7).toInt32)) then Int32.ofInt 0 else (if ¬ (dK C p) = (Int32.ofInt 2) then Int32.ofInt 1 else (if ¬ (dW V e) = (Int32.ofInt 1) then Int32.ofInt 0 else Int32.ofInt 1))) → pz_S 8 (some .boolean) am_r238 2 Q 88 [] [.int v80] h by
                refine am_goX 7 (show ¬ ((Int8.ofInt 7).toInt32) = 0 ∧ (¬ (d_225 s.1 (d_223 C s p) w) = (((dW V e) + (Int32.ofInt 1)) - ((dW V e) + (Int32.ofInt 1)) / ((Int8.ofInt 7).toInt32) * ((Int8.ofInt 7).toInt32)) → pz_S 8 (some .boolean) am_r238 2 Q 87 [(7, .int (d_225 s.1 (d_223 C s p) w)), (6, .int (dW V e)), (5, .int (dK C p)), (0, .ref 154), (1, .int ((Int16.ofInt 1078).toInt32)), (2, .int (nI p)), (3, .int (nI e)), (4, .int w)] [] h) ∧ (¬ ¬ (d_225 s.1 (d_223 C s p) w) = (((dW V e) + (Int32.ofInt 1)) - ((dW V e) + (Int32.ofInt 1)) / ((Int8.ofInt 7).toInt32) * ((Int8.ofInt 7).toInt32)) → pz_S 8 (some .boolean) am_r238 2 Q 71 [(7, .int (d_225 s.1 (d_223 C s p) w)), (6, .int (dW V e)), (5, .int (dK C p)), (0, .ref 154), (1, .int ((Int16.ofInt 1078).toInt32)), (2, .int (nI p)), (3, .int (nI e)), (4, .int w)] [] h) from ⟨by decide, fun c79 => ?_, fun c79 => ?_⟩)
                · refine am_goX 1 (show pz_S 8 (some .boolean) am_r238 2 Q 88 [(7, .int (d_225 s.1 (d_223 C s p) w)), (6, .int (dW V e)), (5, .int (dK C p)), (0, .ref 154), (1, .int ((Int16.ofInt 1078).toInt32)), (2, .int (nI p)), (3, .int (nI e)), (4, .int w)] [.int (Int32.ofInt 0)] h from ?_)
                  exact sv_S2 sv2_238 (fun q hq => absurd hq List.not_mem_nil) (key _ (if_pos c79).symm)
                · suffices key : ∀ (v82 : Int32), v82 = (if ¬ (dK C p) = (Int32.ofInt 2) then Int32.ofInt 1 else (if ¬ (dW V e) = (Int32.ofInt 1) then Int32.ofInt 0 else Int32.ofInt 1)) → pz_S 8 (some .boolean) am_r238 2 Q 88 [] [.int v82] h by
                    refine am_goX 3 (show (¬ (dK C p) = (Int32.ofInt 2) → pz_S 8 (some .boolean) am_r238 2 Q 83 [(7, .int (d_225 s.1 (d_223 C s p) w)), (6, .int (dW V e)), (5, .int (dK C p)), (0, .ref 154), (1, .int ((Int16.ofInt 1078).toInt32)), (2, .int (nI p)), (3, .int (nI e)), (4, .int w)] [] h) ∧ (¬ ¬ (dK C p) = (Int32.ofInt 2) → pz_S 8 (some .boolean) am_r238 2 Q 77 [(7, .int (d_225 s.1 (d_223 C s p) w)), (6, .int (dW V e)), (5, .int (dK C p)), (0, .ref 154), (1, .int ((Int16.ofInt 1078).toInt32)), (2, .int (nI p)), (3, .int (nI e)), (4, .int w)] [] h) from ⟨fun c81 => ?_, fun c81 => ?_⟩)
                    · refine am_goX 2 (show pz_S 8 (some .boolean) am_r238 2 Q 88 [(7, .int (d_225 s.1 (d_223 C s p) w)), (6, .int (dW V e)), (5, .int (dK C p)), (0, .ref 154), (1, .int ((Int16.ofInt 1078).toInt32)), (2, .int (nI p)), (3, .int (nI e)), (4, .int w)] [.int (Int32.ofInt 1)] h from ?_)
                      exact sv_S2 sv2_238 (fun q hq => absurd hq List.not_mem_nil) (key _ (if_pos c81).symm)
                    · suffices key : ∀ (v84 : Int32), v84 = (if ¬ (dW V e) = (Int32.ofInt 1) then Int32.ofInt 0 else Int32.ofInt 1) → pz_S 8 (some .boolean) am_r238 2 Q 88 [] [.int v84] h by
                        refine am_goX 3 (show (¬ (dW V e) = (Int32.ofInt 1) → pz_S 8 (some .boolean) am_r238 2 Q 87 [(7, .int (d_225 s.1 (d_223 C s p) w)), (6, .int (dW V e)), (5, .int (dK C p)), (0, .ref 154), (1, .int ((Int16.ofInt 1078).toInt32)), (2, .int (nI p)), (3, .int (nI e)), (4, .int w)] [] h) ∧ (¬ ¬ (dW V e) = (Int32.ofInt 1) → pz_S 8 (some .boolean) am_r238 2 Q 83 [(7, .int (d_225 s.1 (d_223 C s p) w)), (6, .int (dW V e)), (5, .int (dK C p)), (0, .ref 154), (1, .int ((Int16.ofInt 1078).toInt32)), (2, .int (nI p)), (3, .int (nI e)), (4, .int w)] [] h) from ⟨fun c83 => ?_, fun c83 => ?_⟩)
                        · refine am_goX 1 (show pz_S 8 (some .boolean) am_r238 2 Q 88 [(7, .int (d_225 s.1 (d_223 C s p) w)), (6, .int (dW V e)), (5, .int (dK C p)), (0, .ref 154), (1, .int ((Int16.ofInt 1078).toInt32)), (2, .int (nI p)), (3, .int (nI e)), (4, .int w)] [.int (Int32.ofInt 0)] h from ?_)
                          exact sv_S2 sv2_238 (fun q hq => absurd hq List.not_mem_nil) (key _ (if_pos c83).symm)
                        · refine am_goX 2 (show pz_S 8 (some .boolean) am_r238 2 Q 88 [(7, .int (d_225 s.1 (d_223 C s p) w)), (6, .int (dW V e)), (5, .int (dK C p)), (0, .ref 154), (1, .int ((Int16.ofInt 1078).toInt32)), (2, .int (nI p)), (3, .int (nI e)), (4, .int w)] [.int (Int32.ofInt 1)] h from ?_)
                          exact sv_S2 sv2_238 (fun q hq => absurd hq List.not_mem_nil) (key _ (if_neg c83).symm)
                      intro v84 e85
                      subst e85
                      exact sv_S2 sv2_238 (fun q hq => absurd hq List.not_mem_nil) (key _ (if_neg c81).symm)
                  intro v82 e86
                  subst e86
                  exact sv_S2 sv2_238 (fun q hq => absurd hq List.not_mem_nil) (key _ (if_neg c79).symm)
              intro v80 e87
              subst e87
              exact sv_S2 sv2_238 (fun q hq => absurd hq List.not_mem_nil) (key _ (if_neg c77).symm)
          intro v78 e88
          subst e88
          exact sv_S2 sv2_238 (fun q hq => absurd hq List.not_mem_nil) (key _ (if_neg c69).symm)
      intro v70 e89
      subst e89
      exact sv_S2 sv2_238 (fun q hq => absurd hq List.not_mem_nil) (key _ (if_neg c67).symm)
  intro v68 e90
  subst e90
  exact am_goX 1 (show (∃ ty, (some .boolean) = some ty ∧ narrow ty (.int (if (d_229 C p (nI e)) = 0 then Int32.ofInt 0 else (if (d_225 s.1 (d_223 C s p) w) = (dW V e) then (if ¬ (dK C p) = (Int32.ofInt 2) then Int32.ofInt 1 else (if ¬ (dW V e) = (Int32.ofInt 1) then Int32.ofInt 0 else Int32.ofInt 1)) else (if ¬ (dK C p) = (Int32.ofInt 1) then Int32.ofInt 0 else (if ¬ (d_225 s.1 (d_223 C s p) w) = (((dW V e) + (Int32.ofInt 1)) - ((dW V e) + (Int32.ofInt 1)) / ((Int8.ofInt 7).toInt32) * ((Int8.ofInt 7).toInt32)) then Int32.ofInt 0 else (if ¬ (dK C p) = (Int32.ofInt 2) then Int32.ofInt 1 else (if ¬ (dW V e) = (Int32.ofInt 1) then Int32.ofInt 0 else Int32.ofInt 1))))))) = .int (if (d_229 C p (nI e)) = 0 then Int32.ofInt 0 else (if (d_225 s.1 (d_223 C s p) w) = (dW V e) then (if ¬ (dK C p) = (Int32.ofInt 2) then Int32.ofInt 1 else (if ¬ (dW V e) = (Int32.ofInt 1) then Int32.ofInt 0 else Int32.ofInt 1)) else (if ¬ (dK C p) = (Int32.ofInt 1) then Int32.ofInt 0 else (if ¬ (d_225 s.1 (d_223 C s p) w) = (((dW V e) + (Int32.ofInt 1)) - ((dW V e) + (Int32.ofInt 1)) / ((Int8.ofInt 7).toInt32) * ((Int8.ofInt 7).toInt32)) then Int32.ofInt 0 else (if ¬ (dK C p) = (Int32.ofInt 2) then Int32.ofInt 1 else (if ¬ (dW V e) = (Int32.ofInt 1) then Int32.ofInt 0 else Int32.ofInt 1))))))) ∧ h.2.2.2.2 = 175 ∧ _ from ⟨⟨.boolean, rfl, (by (repeat' split) <;> rfl)⟩, ex_175 hP, hQ⟩)
def d_234_19 (C : sp_C) (w : Int32) : Nat → Nat → dS → Int32 → dS × Int32
  | 0, _, s, gg => (s, gg)
  | m + 1, k, s, gg => (if (dQ C) < 0 then (d_234_19 C w m (k + 1) s (gg ||| ((Int32.ofInt 1) <<< ((nI k) &&& 31)))) else (if (dlaw C (d_223 C s k) (s.1 / ((Int8.ofInt 7).toInt32)) (d_235 (s.2.2.2.1 k)) w) = 0 then (d_234_19 C w m (k + 1) s (gg ||| (Int32.ofInt 0))) else (d_234_19 C w m (k + 1) s (gg ||| ((Int32.ofInt 1) <<< ((nI k) &&& 31))))))
theorem d_234_19_g0 : ∀ (m k : Nat) (s : dS) (gg : Int32) (h : am_H), k + m = dP C → (ex_P h) → (cI C) → (tR C h) → (∀ e, e < dE C → h.1 172 e = dW V e) → (sR 0 (dP C) s h) → (fR h0 h) → (h.1 154 28 = gg) → (∀ h1, (ex_P h1) → (cI C) → (tR C h1) → (∀ e, e < dE C → h1.1 172 e = dW V e) → (sR 0 (dP C) ((d_234_19 C w m k s gg).1) h1) → (fR h0 h1) → (h1.1 154 28 = ((d_234_19 C w m k s gg).2)) → pz_S 8 (some .int) am_r234 4 Q 127 [(0, .ref 154), (1, .int (Int32.ofInt 0)), (2, .int w)] [] h1) → pz_S 8 (some .int) am_r234 4 Q 19 [(0, .ref 154), (1, .int (Int32.ofInt 0)), (2, .int w), (3, .int (nI k))] [] h := by
  intro m
  induction m with
  | zero =>
    intro k s gg h hk hP hI hT hO hS hX hG hZ
    have h6 := hT.1.2.1
    have h5 := hT.2.1.2.1
    have hA : h.1 168 0 = (h.1 168 0) ∧ h.1 168 1 = (h.1 168 1) ∧ h.1 168 2 = (h.1 168 2) ∧ h.1 168 3 = (h.1 168 3) := ⟨rfl, rfl, rfl, rfl⟩
    refine am_goX 3 (show am_rc h 154 11 ∧ 1 ≤ 8 ∧ h.2.2.2.2 + am_al 186 ≤ 175 ∧ am_call am_cod 4 186 [.ref 154] h (fun vv h' => pz_S 8 (some .int) am_r234 4 Q 24 [(0, .ref 154), (1, .int (Int32.ofInt 0)), (2, .int w), (3, .int (nI k))] (vv.toList ++ [.int (nI k)]) h') from ⟨Or.inl ⟨by decide, ex_154 hP⟩, by decide, ex_lim hP rfl, am_call.up (d_186_r hP hT ?_) (by decide)⟩)
    refine am_goX 1 (show ((nI (dP C)) ≤ (nI k) → pz_S 8 (some .int) am_r234 4 Q 127 [(0, .ref 154), (1, .int (Int32.ofInt 0)), (2, .int w), (3, .int (nI k))] [] h) ∧ (¬ ((nI (dP C)) ≤ (nI k)) → pz_S 8 (some .int) am_r234 4 Q 27 [(0, .ref 154), (1, .int (Int32.ofInt 0)), (2, .int w), (3, .int (nI k))] [] h) from ⟨fun _ => ?_, fun hz => absurd (show nI (dP C) ≤ nI k from nI_le (by omega) (by omega)) hz⟩)
    exact sv_S2 sv2_234 (by intro q hq; simp only [List.mem_cons, List.not_mem_nil, or_false] at hq; rcases hq with rfl | rfl | rfl <;> rfl) (hZ _ hP hI hT hO hS hX hG)
  | succ m ih =>
    intro k s gg h hk hP hI hT hO hS hX hG hZ
    have h6 := hT.1.2.1
    have h5 := hT.2.1.2.1
    have hA : h.1 168 0 = (h.1 168 0) ∧ h.1 168 1 = (h.1 168 1) ∧ h.1 168 2 = (h.1 168 2) ∧ h.1 168 3 = (h.1 168 3) := ⟨rfl, rfl, rfl, rfl⟩
    refine am_goX 3 (show am_rc h 154 11 ∧ 1 ≤ 8 ∧ h.2.2.2.2 + am_al 186 ≤ 175 ∧ am_call am_cod 4 186 [.ref 154] h (fun vv h' => pz_S 8 (some .int) am_r234 4 Q 24 [(0, .ref 154), (1, .int (Int32.ofInt 0)), (2, .int w), (3, .int (nI k))] (vv.toList ++ [.int (nI k)]) h') from ⟨Or.inl ⟨by decide, ex_154 hP⟩, by decide, ex_lim hP rfl, am_call.up (d_186_r hP hT ?_) (by decide)⟩)
    refine am_goX 1 (show ((nI (dP C)) ≤ (nI k) → pz_S 8 (some .int) am_r234 4 Q 127 [(0, .ref 154), (1, .int (Int32.ofInt 0)), (2, .int w), (3, .int (nI k))] [] h) ∧ (¬ ((nI (dP C)) ≤ (nI k)) → pz_S 8 (some .int) am_r234 4 Q 27 [(0, .ref 154), (1, .int (Int32.ofInt 0)), (2, .int w), (3, .int (nI k))] [] h) from ⟨fun hz => absurd hz (show ¬ (nI (dP C) ≤ nI k) by rw [nI_leI (by omega) (by omega)]; omega), fun _ => ?_⟩)
    refine am_goX 2 (show am_sh h 154 = some (11, 0) ∧ pz_S 8 (some .int) am_r234 4 Q 31 [(0, .ref 154), (1, .int (Int32.ofInt 0)), (2, .int w), (3, .int (nI k))] [am_rf (h.2.2.1 154 22)] h from ⟨ex_154 hP, ?_⟩)
    rw [show am_rf (h.2.2.1 154 22) = .ref 168 from congrArg am_rf (ex_r154_22 hP)]
    refine am_goX 5 (show am_rc h 154 11 ∧ 2 ≤ 8 ∧ h.2.2.2.2 + am_al 223 ≤ 175 ∧ am_call am_cod 4 223 [.ref 154, .int (Int32.ofInt 0), .int (nI k)] h (fun vv h' => pz_S 8 (some .int) am_r234 4 Q 38 [(0, .ref 154), (1, .int (Int32.ofInt 0)), (2, .int w), (3, .int (nI k))] (vv.toList ++ [.int (Int32.ofInt 0), .ref 168]) h') from ⟨Or.inl ⟨by decide, ex_154 hP⟩, by decide, ex_lim hP rfl, am_call.up (d_223_r0 hP hI hT hO hS hX (by omega) ?_) (by decide)⟩)
    refine am_goX 1 (show ∃ jj nn : Nat, am_so h 168 = some (13, nn) ∧ jj < nn ∧ Int32.ofInt 0 = nI jj ∧ pz_S 8 (some .int) am_r234 4 Q 39 [(0, .ref 154), (1, .int (Int32.ofInt 0)), (2, .int w), (3, .int (nI k))] [] (am_wI h 168 jj (d_223 C s k)) from ⟨0, 4, ex_w168 hP, (by omega), rfl, ?_⟩)
    have f108 : ex_P (am_wI h 168 0 (d_223 C s k)) := hP
    have f109 : cI C := hI
    have f110 : tR C (am_wI h 168 0 (d_223 C s k)) := tR_w (by omega) hT
    have f111 : ∀ e, e < dE C → (am_wI h 168 0 (d_223 C s k)).1 172 e = dW V e := on_w (by omega) hO
    have f112 : sR 0 (dP C) s (am_wI h 168 0 (d_223 C s k)) := sR_o (by omega) hS
    have f113 : fR h0 (am_wI h 168 0 (d_223 C s k)) := fR_w (by omega) hX
    have f114 : (am_wI h 168 0 (d_223 C s k)).1 154 28 = gg := (em_wn _ _ (by omega)).trans hG
    have f115 : (am_wI h 168 0 (d_223 C s k)).1 168 0 = (d_223 C s k) ∧ (am_wI h 168 0 (d_223 C s k)).1 168 1 = (h.1 168 1) ∧ (am_wI h 168 0 (d_223 C s k)).1 168 2 = (h.1 168 2) ∧ (am_wI h 168 0 (d_223 C s k)).1 168 3 = (h.1 168 3) := fa_w0 hA
    generalize am_wI h 168 0 (d_223 C s k) = h107 at f108 f109 f110 f111 f112 f113 f114 f115 ⊢
    refine am_goX 2 (show am_sh h107 154 = some (11, 0) ∧ pz_S 8 (some .int) am_r234 4 Q 43 [(0, .ref 154), (1, .int (Int32.ofInt 0)), (2, .int w), (3, .int (nI k))] [am_rf (h107.2.2.1 154 22)] h107 from ⟨ex_154 f108, ?_⟩)
    rw [show am_rf (h107.2.2.1 154 22) = .ref 168 from congrArg am_rf (ex_r154_22 f108)]
    refine am_goX 3 (show am_sh h107 154 = some (11, 0) ∧ pz_S 8 (some .int) am_r234 4 Q 48 [(0, .ref 154), (1, .int (Int32.ofInt 0)), (2, .int w), (3, .int (nI k))] [am_rf (h107.2.2.1 154 24), .int (Int32.ofInt 1), .ref 168] h107 from ⟨ex_154 f108, ?_⟩)
    rw [show am_rf (h107.2.2.1 154 24) = .ref 170 from congrArg am_rf (ex_r154_24 f108)]
    refine am_goX 4 (show ∃ jj nn : Nat, am_sh h107 170 = some (13, nn) ∧ jj < nn ∧ (Int32.ofInt 0) + (Int32.ofInt 0) = nI jj ∧ pz_S 8 (some .int) am_r234 4 Q 52 [(0, .ref 154), (1, .int (Int32.ofInt 0)), (2, .int w), (3, .int (nI k))] [.int (h107.1 170 jj), .int (Int32.ofInt 1), .ref 168] h107 from ⟨0, 1127, ex_170 f108, (by omega), (dn_a rfl rfl), ?_⟩)
    rw [show h107.1 170 0 = s.1 from f112.1.1]
    refine am_goX 3 (show ¬ ((Int8.ofInt 7).toInt32) = 0 ∧ ∃ jj nn : Nat, am_so h107 168 = some (13, nn) ∧ jj < nn ∧ Int32.ofInt 1 = nI jj ∧ pz_S 8 (some .int) am_r234 4 Q 56 [(0, .ref 154), (1, .int (Int32.ofInt 0)), (2, .int w), (3, .int (nI k))] [] (am_wI h107 168 jj (s.1 / ((Int8.ofInt 7).toInt32))) from ⟨by decide, 1, 4, ex_w168 f108, (by omega), rfl, ?_⟩)
    have f117 : ex_P (am_wI h107 168 1 (s.1 / ((Int8.ofInt 7).toInt32))) := f108
    have f118 : cI C := f109
    have f119 : tR C (am_wI h107 168 1 (s.1 / ((Int8.ofInt 7).toInt32))) := tR_w (by omega) f110
    have f120 : ∀ e, e < dE C → (am_wI h107 168 1 (s.1 / ((Int8.ofInt 7).toInt32))).1 172 e = dW V e := on_w (by omega) f111
    have f121 : sR 0 (dP C) s (am_wI h107 168 1 (s.1 / ((Int8.ofInt 7).toInt32))) := sR_o (by omega) f112
    have f122 : fR h0 (am_wI h107 168 1 (s.1 / ((Int8.ofInt 7).toInt32))) := fR_w (by omega) f113
    have f123 : (am_wI h107 168 1 (s.1 / ((Int8.ofInt 7).toInt32))).1 154 28 = gg := (em_wn _ _ (by omega)).trans f114
    have f124 : (am_wI h107 168 1 (s.1 / ((Int8.ofInt 7).toInt32))).1 168 0 = (d_223 C s k) ∧ (am_wI h107 168 1 (s.1 / ((Int8.ofInt 7).toInt32))).1 168 1 = (s.1 / ((Int8.ofInt 7).toInt32)) ∧ (am_wI h107 168 1 (s.1 / ((Int8.ofInt 7).toInt32))).1 168 2 = (h.1 168 2) ∧ (am_wI h107 168 1 (s.1 / ((Int8.ofInt 7).toInt32))).1 168 3 = (h.1 168 3) := fa_w1 f115
    generalize am_wI h107 168 1 (s.1 / ((Int8.ofInt 7).toInt32)) = h116 at f117 f118 f119 f120 f121 f122 f123 f124 ⊢
    refine am_goX 2 (show am_sh h116 154 = some (11, 0) ∧ pz_S 8 (some .int) am_r234 4 Q 60 [(0, .ref 154), (1, .int (Int32.ofInt 0)), (2, .int w), (3, .int (nI k))] [am_rf (h116.2.2.1 154 22)] h116 from ⟨ex_154 f117, ?_⟩)
    rw [show am_rf (h116.2.2.1 154 22) = .ref 168 from congrArg am_rf (ex_r154_22 f117)]
    refine am_goX 3 (show am_sh h116 154 = some (11, 0) ∧ pz_S 8 (some .int) am_r234 4 Q 65 [(0, .ref 154), (1, .int (Int32.ofInt 0)), (2, .int w), (3, .int (nI k))] [am_rf (h116.2.2.1 154 24), .int (Int32.ofInt 2), .ref 168] h116 from ⟨ex_154 f117, ?_⟩)
    rw [show am_rf (h116.2.2.1 154 24) = .ref 170 from congrArg am_rf (ex_r154_24 f117)]
    refine am_goX 6 (show ∃ jj nn : Nat, am_sh h116 170 = some (13, nn) ∧ jj < nn ∧ ((Int32.ofInt 0) + ((Int8.ofInt 8).toInt32)) + (nI k) = nI jj ∧ pz_S 8 (some .int) am_r234 4 Q 72 [(0, .ref 154), (1, .int (Int32.ofInt 0)), (2, .int w), (3, .int (nI k))] [.int (h116.1 170 jj), .int (Int32.ofInt 2), .ref 168] h116 from ⟨(8 + k), 1127, ex_170 f117, (by omega), (dn_a (dn_a rfl (show (Int8.ofInt 8).toInt32 = nI 8 by decide)) rfl), ?_⟩)
    rw [show h116.1 170 (8 + k) = s.2.2.2.1 k from (by rw [show (8 + k) = 0 + 8 + k by omega]; exact f121.2.2.1 k (by omega))]
    refine am_goX 1 (show 2 ≤ 8 ∧ h116.2.2.2.2 + am_al 235 ≤ 175 ∧ am_call am_cod 4 235 [.int (s.2.2.2.1 k)] h116 (fun vv h' => pz_S 8 (some .int) am_r234 4 Q 75 [(0, .ref 154), (1, .int (Int32.ofInt 0)), (2, .int w), (3, .int (nI k))] (vv.toList ++ [.int (Int32.ofInt 2), .ref 168]) h') from ⟨by decide, ex_lim f117 rfl, am_call.up (d_235_w f117 ?_) (by decide)⟩)
    refine am_goX 1 (show ∃ jj nn : Nat, am_so h116 168 = some (13, nn) ∧ jj < nn ∧ Int32.ofInt 2 = nI jj ∧ pz_S 8 (some .int) am_r234 4 Q 76 [(0, .ref 154), (1, .int (Int32.ofInt 0)), (2, .int w), (3, .int (nI k))] [] (am_wI h116 168 jj (d_235 (s.2.2.2.1 k))) from ⟨2, 4, ex_w168 f117, (by omega), rfl, ?_⟩)
    have f126 : ex_P (am_wI h116 168 2 (d_235 (s.2.2.2.1 k))) := f117
    have f127 : cI C := f118
    have f128 : tR C (am_wI h116 168 2 (d_235 (s.2.2.2.1 k))) := tR_w (by omega) f119
    have f129 : ∀ e, e < dE C → (am_wI h116 168 2 (d_235 (s.2.2.2.1 k))).1 172 e = dW V e := on_w (by omega) f120
    have f130 : sR 0 (dP C) s (am_wI h116 168 2 (d_235 (s.2.2.2.1 k))) := sR_o (by omega) f121
    have f131 : fR h0 (am_wI h116 168 2 (d_235 (s.2.2.2.1 k))) := fR_w (by omega) f122
    have f132 : (am_wI h116 168 2 (d_235 (s.2.2.2.1 k))).1 154 28 = gg := (em_wn _ _ (by omega)).trans f123
    have f133 : (am_wI h116 168 2 (d_235 (s.2.2.2.1 k))).1 168 0 = (d_223 C s k) ∧ (am_wI h116 168 2 (d_235 (s.2.2.2.1 k))).1 168 1 = (s.1 / ((Int8.ofInt 7).toInt32)) ∧ (am_wI h116 168 2 (d_235 (s.2.2.2.1 k))).1 168 2 = (d_235 (s.2.2.2.1 k)) ∧ (am_wI h116 168 2 (d_235 (s.2.2.2.1 k))).1 168 3 = (h.1 168 3) := fa_w2 f124
    generalize am_wI h116 168 2 (d_235 (s.2.2.2.1 k)) = h125 at f126 f127 f128 f129 f130 f131 f132 f133 ⊢
    refine am_goX 2 (show am_sh h125 154 = some (11, 0) ∧ pz_S 8 (some .int) am_r234 4 Q 80 [(0, .ref 154), (1, .int (Int32.ofInt 0)), (2, .int w), (3, .int (nI k))] [am_rf (h125.2.2.1 154 22)] h125 from ⟨ex_154 f126, ?_⟩)
    rw [show am_rf (h125.2.2.1 154 22) = .ref 168 from congrArg am_rf (ex_r154_22 f126)]
    refine am_goX 3 (show ∃ jj nn : Nat, am_so h125 168 = some (13, nn) ∧ jj < nn ∧ Int32.ofInt 3 = nI jj ∧ pz_S 8 (some .int) am_r234 4 Q 83 [(0, .ref 154), (1, .int (Int32.ofInt 0)), (2, .int w), (3, .int (nI k))] [] (am_wI h125 168 jj w) from ⟨3, 4, ex_w168 f126, (by omega), rfl, ?_⟩)
    have f135 : ex_P (am_wI h125 168 3 w) := f126
    have f136 : cI C := f127
    have f137 : tR C (am_wI h125 168 3 w) := tR_w (by omega) f128
    have f138 : ∀ e, e < dE C → (am_wI h125 168 3 w).1 172 e = dW V e := on_w (by omega) f129
    have f139 : sR 0 (dP C) s (am_wI h125 168 3 w) := sR_o (by omega) f130
    have f140 : fR h0 (am_wI h125 168 3 w) := fR_w (by omega) f131
    have f141 : (am_wI h125 168 3 w).1 154 28 = gg := (em_wn _ _ (by omega)).trans f132
    have f142 : (am_wI h125 168 3 w).1 168 0 = (d_223 C s k) ∧ (am_wI h125 168 3 w).1 168 1 = (s.1 / ((Int8.ofInt 7).toInt32)) ∧ (am_wI h125 168 3 w).1 168 2 = (d_235 (s.2.2.2.1 k)) ∧ (am_wI h125 168 3 w).1 168 3 = w := fa_w3 f133
    generalize am_wI h125 168 3 w = h134 at f135 f136 f137 f138 f139 f140 f141 f142 ⊢
    refine am_goX 3 (show (Value.ref 154).category = 1 ∧ am_sh h134 154 = some (11, 0) ∧ pz_S 8 (some .int) am_r234 4 Q 88 [(0, .ref 154), (1, .int (Int32.ofInt 0)), (2, .int w), (3, .int (nI k))] [.int (h134.1 154 28), .ref 154] h134 from ⟨rfl, ex_154 f135, ?_⟩)
    rw [show h134.1 154 28 = gg from f141]
    refine am_goX 2 (show am_sh h134 154 = some (11, 0) ∧ pz_S 8 (some .int) am_r234 4 Q 92 [(0, .ref 154), (1, .int (Int32.ofInt 0)), (2, .int w), (3, .int (nI k))] [am_rf (h134.2.2.1 154 10), .int gg, .ref 154] h134 from ⟨ex_154 f135, ?_⟩)
    rw [show am_rf (h134.2.2.1 154 10) = .ref 160 from congrArg am_rf (ex_r154_10 f135)]
    refine am_goX 2 (show ∃ jj nn : Nat, am_sh h134 160 = some (13, nn) ∧ jj < nn ∧ Int32.ofInt 3 = nI jj ∧ pz_S 8 (some .int) am_r234 4 Q 94 [(0, .ref 154), (1, .int (Int32.ofInt 0)), (2, .int w), (3, .int (nI k))] [.int (h134.1 160 jj), .int gg, .ref 154] h134 from ⟨3, 80, ex_160 f135, (by omega), rfl, ?_⟩)
    rw [show h134.1 160 3 = dQ C from f137.2.2.2.2.2.2.2.2]
    refine am_goX 1 (show ((dQ C) < 0 → pz_S 8 (some .int) am_r234 4 Q 110 [(0, .ref 154), (1, .int (Int32.ofInt 0)), (2, .int w), (3, .int (nI k))] [.int gg, .ref 154] h134) ∧ (¬ ((dQ C) < 0) → pz_S 8 (some .int) am_r234 4 Q 97 [(0, .ref 154), (1, .int (Int32.ofInt 0)), (2, .int w), (3, .int (nI k))] [.int gg, .ref 154] h134) from ⟨fun c143 => ?_, fun c143 => ?_⟩)
    · refine am_goX 6 (show am_sh h134 154 = some (11, 0) ∧ narrow (am_fty 11 28) (.int (gg ||| ((Int32.ofInt 1) <<< ((nI k) &&& 31)))) = .int (gg ||| ((Int32.ofInt 1) <<< ((nI k) &&& 31))) ∧ fits (am_fty 11 28) (.int (gg ||| ((Int32.ofInt 1) <<< ((nI k) &&& 31)))) = true ∧ pz_S 8 (some .int) am_r234 4 Q 121 [(0, .ref 154), (1, .int (Int32.ofInt 0)), (2, .int w), (3, .int (nI k))] [] (am_wI h134 154 28 (gg ||| ((Int32.ofInt 1) <<< ((nI k) &&& 31)))) from ⟨ex_154 f135, rfl, rfl, ?_⟩)
      have f145 : ex_P (am_wI h134 154 28 (gg ||| ((Int32.ofInt 1) <<< ((nI k) &&& 31)))) := f135
      have f146 : cI C := f136
      have f147 : tR C (am_wI h134 154 28 (gg ||| ((Int32.ofInt 1) <<< ((nI k) &&& 31)))) := tR_w (by omega) f137
      have f148 : ∀ e, e < dE C → (am_wI h134 154 28 (gg ||| ((Int32.ofInt 1) <<< ((nI k) &&& 31)))).1 172 e = dW V e := on_w (by omega) f138
      have f149 : sR 0 (dP C) s (am_wI h134 154 28 (gg ||| ((Int32.ofInt 1) <<< ((nI k) &&& 31)))) := sR_o (by omega) f139
      have f150 : fR h0 (am_wI h134 154 28 (gg ||| ((Int32.ofInt 1) <<< ((nI k) &&& 31)))) := fR_w (by omega) f140
      have f151 : (am_wI h134 154 28 (gg ||| ((Int32.ofInt 1) <<< ((nI k) &&& 31)))).1 154 28 = (gg ||| ((Int32.ofInt 1) <<< ((nI k) &&& 31))) := em_we _ _ _ _
      have f152 : (am_wI h134 154 28 (gg ||| ((Int32.ofInt 1) <<< ((nI k) &&& 31)))).1 168 0 = (d_223 C s k) ∧ (am_wI h134 154 28 (gg ||| ((Int32.ofInt 1) <<< ((nI k) &&& 31)))).1 168 1 = (s.1 / ((Int8.ofInt 7).toInt32)) ∧ (am_wI h134 154 28 (gg ||| ((Int32.ofInt 1) <<< ((nI k) &&& 31)))).1 168 2 = (d_235 (s.2.2.2.1 k)) ∧ (am_wI h134 154 28 (gg ||| ((Int32.ofInt 1) <<< ((nI k) &&& 31)))).1 168 3 = w := fo_w (by omega) f142
      generalize am_wI h134 154 28 (gg ||| ((Int32.ofInt 1) <<< ((nI k) &&& 31))) = h144 at f145 f146 f147 f148 f149 f150 f151 f152 ⊢
      refine am_goX 2 (show 3 < 8 ∧ pz_S 8 (some .int) am_r234 4 Q 19 [(3, .int ((nI k) + (Int32.ofInt 1))), (0, .ref 154), (1, .int (Int32.ofInt 0)), (2, .int w)] [] h144 from ⟨by decide, ?_⟩)
      rw [show d_234_19 C w (m + 1) k s gg = d_234_19 C w m (k + 1) s (gg ||| ((Int32.ofInt 1) <<< ((nI k) &&& 31))) from if_pos c143] at hZ
      rw [show (nI k) + (Int32.ofInt 1) = nI (k + 1) from (dn_a rfl rfl)]
      exact sv_S2 sv2_234 (by intro q hq; simp only [List.mem_cons, List.not_mem_nil, or_false] at hq; rcases hq with rfl | rfl | rfl | rfl <;> rfl) (ih (k + 1) s (gg ||| ((Int32.ofInt 1) <<< ((nI k) &&& 31))) _ (by omega) f145 f146 f147 f148 f149 f150 f151 hZ)
    · refine am_goX 3 (show am_sh h134 154 = some (11, 0) ∧ pz_S 8 (some .int) am_r234 4 Q 102 [(0, .ref 154), (1, .int (Int32.ofInt 0)), (2, .int w), (3, .int (nI k))] [am_rf (h134.2.2.1 154 10), .ref 154, .int gg, .ref 154] h134 from ⟨ex_154 f135, ?_⟩)
      rw [show am_rf (h134.2.2.1 154 10) = .ref 160 from congrArg am_rf (ex_r154_10 f135)]
      refine am_goX 2 (show ∃ jj nn : Nat, am_sh h134 160 = some (13, nn) ∧ jj < nn ∧ Int32.ofInt 3 = nI jj ∧ pz_S 8 (some .int) am_r234 4 Q 104 [(0, .ref 154), (1, .int (Int32.ofInt 0)), (2, .int w), (3, .int (nI k))] [.int (h134.1 160 jj), .ref 154, .int gg, .ref 154] h134 from ⟨3, 80, ex_160 f135, (by omega), rfl, ?_⟩)
      rw [show h134.1 160 3 = dQ C from f137.2.2.2.2.2.2.2.2]
      refine am_goX 1 (show am_rc h134 154 11 ∧ 2 ≤ 8 ∧ h134.2.2.2.2 + am_al 236 ≤ 175 ∧ am_call am_cod 4 236 [.ref 154, .int (dQ C)] h134 (fun vv h' => pz_S 8 (some .int) am_r234 4 Q 107 [(0, .ref 154), (1, .int (Int32.ofInt 0)), (2, .int w), (3, .int (nI k))] (vv.toList ++ [.int gg, .ref 154]) h') from ⟨Or.inl ⟨by decide, ex_154 f135⟩, by decide, ex_lim f135 rfl, am_call.up (q_236 (a := (d_223 C s k)) (b := (s.1 / ((Int8.ofInt 7).toInt32))) (c := (d_235 (s.2.2.2.1 k))) (d := w) f135 f136 f137 f142 c143 (fun h153 l154 => ?_)) (by decide)⟩)
      have f155 : ex_P h153 := lfr_P l154 f135
      have f156 : cI C := f136
      have f157 : tR C h153 := lfr_r l154 f137
      have f158 : ∀ e, e < dE C → h153.1 172 e = dW V e := lfr_on l154 f138
      have f159 : sR 0 (dP C) s h153 := lfr_sR l154 (by omega) f139
      have f160 : fR h0 h153 := fR_l l154 f140
      have f161 : h153.1 154 28 = gg := (l154.2 _ _ (by decide)).trans f141
      have f162 : h153.1 168 0 = (d_223 C s k) ∧ h153.1 168 1 = (s.1 / ((Int8.ofInt 7).toInt32)) ∧ h153.1 168 2 = (d_235 (s.2.2.2.1 k)) ∧ h153.1 168 3 = w := ⟨(l154.2 _ _ (by decide)).trans f142.1, (l154.2 _ _ (by decide)).trans f142.2.1, (l154.2 _ _ (by decide)).trans f142.2.2.1, (l154.2 _ _ (by decide)).trans f142.2.2.2⟩
      refine am_goX 1 (show ((dlaw C (d_223 C s k) (s.1 / ((Int8.ofInt 7).toInt32)) (d_235 (s.2.2.2.1 k)) w) = 0 → pz_S 8 (some .int) am_r234 4 Q 116 [(0, .ref 154), (1, .int (Int32.ofInt 0)), (2, .int w), (3, .int (nI k))] [.int gg, .ref 154] h153) ∧ (¬ ((dlaw C (d_223 C s k) (s.1 / ((Int8.ofInt 7).toInt32)) (d_235 (s.2.2.2.1 k)) w) = 0) → pz_S 8 (some .int) am_r234 4 Q 110 [(0, .ref 154), (1, .int (Int32.ofInt 0)), (2, .int w), (3, .int (nI k))] [.int gg, .ref 154] h153) from ⟨fun c163 => ?_, fun c163 => ?_⟩)
      · refine am_goX 3 (show am_sh h153 154 = some (11, 0) ∧ narrow (am_fty 11 28) (.int (gg ||| (Int32.ofInt 0))) = .int (gg ||| (Int32.ofInt 0)) ∧ fits (am_fty 11 28) (.int (gg ||| (Int32.ofInt 0))) = true ∧ pz_S 8 (some .int) am_r234 4 Q 121 [(0, .ref 154), (1, .int (Int32.ofInt 0)), (2, .int w), (3, .int (nI k))] [] (am_wI h153 154 28 (gg ||| (Int32.ofInt 0))) from ⟨ex_154 f155, rfl, rfl, ?_⟩)
        have f165 : ex_P (am_wI h153 154 28 (gg ||| (Int32.ofInt 0))) := f155
        have f166 : cI C := f156
        have f167 : tR C (am_wI h153 154 28 (gg ||| (Int32.ofInt 0))) := tR_w (by omega) f157
        have f168 : ∀ e, e < dE C → (am_wI h153 154 28 (gg ||| (Int32.ofInt 0))).1 172 e = dW V e := on_w (by omega) f158
        have f169 : sR 0 (dP C) s (am_wI h153 154 28 (gg ||| (Int32.ofInt 0))) := sR_o (by omega) f159
        have f170 : fR h0 (am_wI h153 154 28 (gg ||| (Int32.ofInt 0))) := fR_w (by omega) f160
        have f171 : (am_wI h153 154 28 (gg ||| (Int32.ofInt 0))).1 154 28 = (gg ||| (Int32.ofInt 0)) := em_we _ _ _ _
        have f172 : (am_wI h153 154 28 (gg ||| (Int32.ofInt 0))).1 168 0 = (d_223 C s k) ∧ (am_wI h153 154 28 (gg ||| (Int32.ofInt 0))).1 168 1 = (s.1 / ((Int8.ofInt 7).toInt32)) ∧ (am_wI h153 154 28 (gg ||| (Int32.ofInt 0))).1 168 2 = (d_235 (s.2.2.2.1 k)) ∧ (am_wI h153 154 28 (gg ||| (Int32.ofInt 0))).1 168 3 = w := fo_w (by omega) f162
        generalize am_wI h153 154 28 (gg ||| (Int32.ofInt 0)) = h164 at f165 f166 f167 f168 f169 f170 f171 f172 ⊢
        refine am_goX 2 (show 3 < 8 ∧ pz_S 8 (some .int) am_r234 4 Q 19 [(3, .int ((nI k) + (Int32.ofInt 1))), (0, .ref 154), (1, .int (Int32.ofInt 0)), (2, .int w)] [] h164 from ⟨by decide, ?_⟩)
        rw [show d_234_19 C w (m + 1) k s gg = d_234_19 C w m (k + 1) s (gg ||| (Int32.ofInt 0)) from (if_neg c143).trans (if_pos c163)] at hZ
        rw [show (nI k) + (Int32.ofInt 1) = nI (k + 1) from (dn_a rfl rfl)]
        exact sv_S2 sv2_234 (by intro q hq; simp only [List.mem_cons, List.not_mem_nil, or_false] at hq; rcases hq with rfl | rfl | rfl | rfl <;> rfl) (ih (k + 1) s (gg ||| (Int32.ofInt 0)) _ (by omega) f165 f166 f167 f168 f169 f170 f171 hZ)
      · refine am_goX 6 (show am_sh h153 154 = some (11, 0) ∧ narrow (am_fty 11 28) (.int (gg ||| ((Int32.ofInt 1) <<< ((nI k) &&& 31)))) = .int (gg ||| ((Int32.ofInt 1) <<< ((nI k) &&& 31))) ∧ fits (am_fty 11 28) (.int (gg ||| ((Int32.ofInt 1) <<< ((nI k) &&& 31)))) = true ∧ pz_S 8 (some .int) am_r234 4 Q 121 [(0, .ref 154), (1, .int (Int32.ofInt 0)), (2, .int w), (3, .int (nI k))] [] (am_wI h153 154 28 (gg ||| ((Int32.ofInt 1) <<< ((nI k) &&& 31)))) from ⟨ex_154 f155, rfl, rfl, ?_⟩)
        have f174 : ex_P (am_wI h153 154 28 (gg ||| ((Int32.ofInt 1) <<< ((nI k) &&& 31)))) := f155
        have f175 : cI C := f156
        have f176 : tR C (am_wI h153 154 28 (gg ||| ((Int32.ofInt 1) <<< ((nI k) &&& 31)))) := tR_w (by omega) f157
        have f177 : ∀ e, e < dE C → (am_wI h153 154 28 (gg ||| ((Int32.ofInt 1) <<< ((nI k) &&& 31)))).1 172 e = dW V e := on_w (by omega) f158
        have f178 : sR 0 (dP C) s (am_wI h153 154 28 (gg ||| ((Int32.ofInt 1) <<< ((nI k) &&& 31)))) := sR_o (by omega) f159
        have f179 : fR h0 (am_wI h153 154 28 (gg ||| ((Int32.ofInt 1) <<< ((nI k) &&& 31)))) := fR_w (by omega) f160
        have f180 : (am_wI h153 154 28 (gg ||| ((Int32.ofInt 1) <<< ((nI k) &&& 31)))).1 154 28 = (gg ||| ((Int32.ofInt 1) <<< ((nI k) &&& 31))) := em_we _ _ _ _
        have f181 : (am_wI h153 154 28 (gg ||| ((Int32.ofInt 1) <<< ((nI k) &&& 31)))).1 168 0 = (d_223 C s k) ∧ (am_wI h153 154 28 (gg ||| ((Int32.ofInt 1) <<< ((nI k) &&& 31)))).1 168 1 = (s.1 / ((Int8.ofInt 7).toInt32)) ∧ (am_wI h153 154 28 (gg ||| ((Int32.ofInt 1) <<< ((nI k) &&& 31)))).1 168 2 = (d_235 (s.2.2.2.1 k)) ∧ (am_wI h153 154 28 (gg ||| ((Int32.ofInt 1) <<< ((nI k) &&& 31)))).1 168 3 = w := fo_w (by omega) f162
        generalize am_wI h153 154 28 (gg ||| ((Int32.ofInt 1) <<< ((nI k) &&& 31))) = h173 at f174 f175 f176 f177 f178 f179 f180 f181 ⊢
        refine am_goX 2 (show 3 < 8 ∧ pz_S 8 (some .int) am_r234 4 Q 19 [(3, .int ((nI k) + (Int32.ofInt 1))), (0, .ref 154), (1, .int (Int32.ofInt 0)), (2, .int w)] [] h173 from ⟨by decide, ?_⟩)
        rw [show d_234_19 C w (m + 1) k s gg = d_234_19 C w m (k + 1) s (gg ||| ((Int32.ofInt 1) <<< ((nI k) &&& 31))) from (if_neg c143).trans (if_neg c163)] at hZ
        rw [show (nI k) + (Int32.ofInt 1) = nI (k + 1) from (dn_a rfl rfl)]
        exact sv_S2 sv2_234 (by intro q hq; simp only [List.mem_cons, List.not_mem_nil, or_false] at hq; rcases hq with rfl | rfl | rfl | rfl <;> rfl) (ih (k + 1) s (gg ||| ((Int32.ofInt 1) <<< ((nI k) &&& 31))) _ (by omega) f174 f175 f176 f177 f178 f179 f180 hZ)
def d_234_147 (C V : sp_C) (s : dS) (gg w : Int32) (n4 : Nat) : Nat → Nat → Int32 → Int32
  | 0, _, a5 => a5
  | m + 1, k, a5 => d_234_147 C V s gg w n4 m (k + 1) (a5 ||| (if ¬ ((gg >>> ((nI k) &&& 31)) &&& (Int32.ofInt 1)) = (Int32.ofInt 1) then Int32.ofInt 0 else (if (d_238 C V s k n4 w) = 0 then Int32.ofInt 0 else (Int32.ofInt 1) <<< ((nI k) &&& 31))))
theorem d_234_147_g0 (x3 : Int32) (n4 : Nat) (hP : ex_P h) (hI : cI C) (hT : tR C h) (hO : ∀ e, e < dE C → h.1 172 e = dW V e) (hS : sR 0 (dP C) s h) (hX : fR h0 h) (hG : h.1 154 28 = gg) (he : n4 < dE C) : ∀ (m k : Nat) (a5 : Int32), k + m = dP C → (pz_S 8 (some .int) am_r234 4 Q 201 [(0, .ref 154), (1, .int (Int32.ofInt 0)), (2, .int w), (3, .int x3), (4, .int (nI n4)), (5, .int (d_234_147 C V s gg w n4 m k a5))] [] h) → pz_S 8 (some .int) am_r234 4 Q 147 [(0, .ref 154), (1, .int (Int32.ofInt 0)), (2, .int w), (3, .int x3), (4, .int (nI n4)), (5, .int a5), (6, .int (nI k))] [] h := by
  intro m
  induction m with
  | zero =>
    intro k a5 hk hZ
    have h6 := hT.1.2.1
    have h5 := hT.2.1.2.1
    refine am_goX 3 (show am_rc h 154 11 ∧ 1 ≤ 8 ∧ h.2.2.2.2 + am_al 186 ≤ 175 ∧ am_call am_cod 4 186 [.ref 154] h (fun vv h' => pz_S 8 (some .int) am_r234 4 Q 153 [(0, .ref 154), (1, .int (Int32.ofInt 0)), (2, .int w), (3, .int x3), (4, .int (nI n4)), (5, .int a5), (6, .int (nI k))] (vv.toList ++ [.int (nI k)]) h') from ⟨Or.inl ⟨by decide, ex_154 hP⟩, by decide, ex_lim hP rfl, am_call.up (d_186_r hP hT ?_) (by decide)⟩)
    refine am_goX 1 (show ((nI (dP C)) ≤ (nI k) → pz_S 8 (some .int) am_r234 4 Q 201 [(0, .ref 154), (1, .int (Int32.ofInt 0)), (2, .int w), (3, .int x3), (4, .int (nI n4)), (5, .int a5), (6, .int (nI k))] [] h) ∧ (¬ ((nI (dP C)) ≤ (nI k)) → pz_S 8 (some .int) am_r234 4 Q 156 [(0, .ref 154), (1, .int (Int32.ofInt 0)), (2, .int w), (3, .int x3), (4, .int (nI n4)), (5, .int a5), (6, .int (nI k))] [] h) from ⟨fun _ => ?_, fun hz => absurd (show nI (dP C) ≤ nI k from nI_le (by omega) (by omega)) hz⟩)
    exact sv_S2 sv2_234 (by intro q hq; simp only [List.mem_cons, List.not_mem_nil, or_false] at hq; rcases hq with rfl | rfl | rfl | rfl | rfl | rfl <;> rfl) (hZ)
  | succ m ih =>
    intro k a5 hk hZ
    have h6 := hT.1.2.1
    have h5 := hT.2.1.2.1
    refine am_goX 3 (show am_rc h 154 11 ∧ 1 ≤ 8 ∧ h.2.2.2.2 + am_al 186 ≤ 175 ∧ am_call am_cod 4 186 [.ref 154] h (fun vv h' => pz_S 8 (some .int) am_r234 4 Q 153 [(0, .ref 154), (1, .int (Int32.ofInt 0)), (2, .int w), (3, .int x3), (4, .int (nI n4)), (5, .int a5), (6, .int (nI k))] (vv.toList ++ [.int (nI k)]) h') from ⟨Or.inl ⟨by decide, ex_154 hP⟩, by decide, ex_lim hP rfl, am_call.up (d_186_r hP hT ?_) (by decide)⟩)
    refine am_goX 1 (show ((nI (dP C)) ≤ (nI k) → pz_S 8 (some .int) am_r234 4 Q 201 [(0, .ref 154), (1, .int (Int32.ofInt 0)), (2, .int w), (3, .int x3), (4, .int (nI n4)), (5, .int a5), (6, .int (nI k))] [] h) ∧ (¬ ((nI (dP C)) ≤ (nI k)) → pz_S 8 (some .int) am_r234 4 Q 156 [(0, .ref 154), (1, .int (Int32.ofInt 0)), (2, .int w), (3, .int x3), (4, .int (nI n4)), (5, .int a5), (6, .int (nI k))] [] h) from ⟨fun hz => absurd hz (show ¬ (nI (dP C) ≤ nI k) by rw [nI_leI (by omega) (by omega)]; omega), fun _ => ?_⟩)
    refine am_goX 3 (show am_sh h 154 = some (11, 0) ∧ pz_S 8 (some .int) am_r234 4 Q 162 [(0, .ref 154), (1, .int (Int32.ofInt 0)), (2, .int w), (3, .int x3), (4, .int (nI n4)), (5, .int a5), (6, .int (nI k))] [.int (h.1 154 28), .int a5] h from ⟨ex_154 hP, ?_⟩)
    rw [show h.1 154 28 = gg from hG]
    suffices key : ∀ (v191 : Int32), v191 = (if ¬ ((gg >>> ((nI k) &&& 31)) &&& (Int32.ofInt 1)) = (Int32.ofInt 1) then Int32.ofInt 0 else (if (d_238 C V s k n4 w) = 0 then Int32.ofInt 0 else (Int32.ofInt 1) <<< ((nI k) &&& 31))) → pz_S 8 (some .int) am_r234 4 Q 192 [(0, .ref 154), (1, .int (Int32.ofInt 0)), (2, .int w), (3, .int x3), (4, .int (nI n4)), (6, .int (nI k))] [.int v191, .int a5] h by
      refine am_goX 6 (show (¬ ((gg >>> ((nI k) &&& 31)) &&& (Int32.ofInt 1)) = (Int32.ofInt 1) → pz_S 8 (some .int) am_r234 4 Q 191 [(0, .ref 154), (1, .int (Int32.ofInt 0)), (2, .int w), (3, .int x3), (4, .int (nI n4)), (5, .int a5), (6, .int (nI k))] [.int a5] h) ∧ (¬ ¬ ((gg >>> ((nI k) &&& 31)) &&& (Int32.ofInt 1)) = (Int32.ofInt 1) → pz_S 8 (some .int) am_r234 4 Q 171 [(0, .ref 154), (1, .int (Int32.ofInt 0)), (2, .int w), (3, .int x3), (4, .int (nI n4)), (5, .int a5), (6, .int (nI k))] [.int a5] h) from ⟨fun c190 => ?_, fun c190 => ?_⟩)
      · refine am_goX 1 (show pz_S 8 (some .int) am_r234 4 Q 192 [(0, .ref 154), (1, .int (Int32.ofInt 0)), (2, .int w), (3, .int x3), (4, .int (nI n4)), (5, .int a5), (6, .int (nI k))] [.int (Int32.ofInt 0), .int a5] h from ?_)
        exact sv_S2 sv2_234 (by intro q hq; simp only [List.mem_cons, List.not_mem_nil, or_false] at hq; rcases hq with rfl | rfl | rfl | rfl | rfl | rfl <;> rfl) (key _ (if_pos c190).symm)
      · refine am_goX 6 (show am_rc h 154 11 ∧ 1 ≤ 8 ∧ h.2.2.2.2 + am_al 238 ≤ 175 ∧ am_call am_cod 4 238 [.ref 154, .int (Int32.ofInt 0), .int (nI k), .int (nI n4), .int w] h (fun vv h' => pz_S 8 (some .int) am_r234 4 Q 181 [(0, .ref 154), (1, .int (Int32.ofInt 0)), (2, .int w), (3, .int x3), (4, .int (nI n4)), (5, .int a5), (6, .int (nI k))] (vv.toList ++ [.int a5]) h') from ⟨Or.inl ⟨by decide, ex_154 hP⟩, by decide, ex_lim hP rfl, am_call.up (d_238_r0 hP hI hT hO hS hX (by omega) (by omega) ?_) (by decide)⟩)
        suffices key : ∀ (v193 : Int32), v193 = (if (d_238 C V s k n4 w) = 0 then Int32.ofInt 0 else (Int32.ofInt 1) <<< ((nI k) &&& 31)) → pz_S 8 (some .int) am_r234 4 Q 192 [(0, .ref 154), (1, .int (Int32.ofInt 0)), (2, .int w), (3, .int x3), (4, .int (nI n4)), (6, .int (nI k))] [.int v193, .int a5] h by
          refine am_goX 1 (show ((d_238 C V s k n4 w) = 0 → pz_S 8 (some .int) am_r234 4 Q 191 [(0, .ref 154), (1, .int (Int32.ofInt 0)), (2, .int w), (3, .int x3), (4, .int (nI n4)), (5, .int a5), (6, .int (nI k))] [.int a5] h) ∧ (¬ ((d_238 C V s k n4 w) = 0) → pz_S 8 (some .int) am_r234 4 Q 184 [(0, .ref 154), (1, .int (Int32.ofInt 0)), (2, .int w), (3, .int x3), (4, .int (nI n4)), (5, .int a5), (6, .int (nI k))] [.int a5] h) from ⟨fun c192 => ?_, fun c192 => ?_⟩)
          · refine am_goX 1 (show pz_S 8 (some .int) am_r234 4 Q 192 [(0, .ref 154), (1, .int (Int32.ofInt 0)), (2, .int w), (3, .int x3), (4, .int (nI n4)), (5, .int a5), (6, .int (nI k))] [.int (Int32.ofInt 0), .int a5] h from ?_)
            exact sv_S2 sv2_234 (by intro q hq; simp only [List.mem_cons, List.not_mem_nil, or_false] at hq; rcases hq with rfl | rfl | rfl | rfl | rfl | rfl <;> rfl) (key _ (if_pos c192).symm)
          · refine am_goX 4 (show pz_S 8 (some .int) am_r234 4 Q 192 [(0, .ref 154), (1, .int (Int32.ofInt 0)), (2, .int w), (3, .int x3), (4, .int (nI n4)), (5, .int a5), (6, .int (nI k))] [.int ((Int32.ofInt 1) <<< ((nI k) &&& 31)), .int a5] h from ?_)
            exact sv_S2 sv2_234 (by intro q hq; simp only [List.mem_cons, List.not_mem_nil, or_false] at hq; rcases hq with rfl | rfl | rfl | rfl | rfl | rfl <;> rfl) (key _ (if_neg c192).symm)
        intro v193 e194
        subst e194
        exact sv_S2 sv2_234 (by intro q hq; simp only [List.mem_cons, List.not_mem_nil, or_false] at hq; rcases hq with rfl | rfl | rfl | rfl | rfl | rfl <;> rfl) (key _ (if_neg c190).symm)
    intro v191 e195
    subst e195
    refine am_goX 4 (show 5 < 8 ∧ 6 < 8 ∧ pz_S 8 (some .int) am_r234 4 Q 147 [(6, .int ((nI k) + (Int32.ofInt 1))), (5, .int (a5 ||| (if ¬ ((gg >>> ((nI k) &&& 31)) &&& (Int32.ofInt 1)) = (Int32.ofInt 1) then Int32.ofInt 0 else (if (d_238 C V s k n4 w) = 0 then Int32.ofInt 0 else (Int32.ofInt 1) <<< ((nI k) &&& 31))))), (0, .ref 154), (1, .int (Int32.ofInt 0)), (2, .int w), (3, .int x3), (4, .int (nI n4))] [] h from ⟨by decide, by decide, ?_⟩)
    rw [show (nI k) + (Int32.ofInt 1) = nI (k + 1) from (dn_a rfl rfl)]
    exact sv_S2 sv2_234 (by intro q hq; simp only [List.mem_cons, List.not_mem_nil, or_false] at hq; rcases hq with rfl | rfl | rfl | rfl | rfl | rfl | rfl <;> rfl) (ih (k + 1) (a5 ||| (if ¬ ((gg >>> ((nI k) &&& 31)) &&& (Int32.ofInt 1)) = (Int32.ofInt 1) then Int32.ofInt 0 else (if (d_238 C V s k n4 w) = 0 then Int32.ofInt 0 else (Int32.ofInt 1) <<< ((nI k) &&& 31)))) (by omega) hZ)
def d_234_281 (C : sp_C) (x5 : Int32) : Nat → Nat → dS → dS
  | 0, _, s => s
  | m + 1, k, s => d_234_281 C x5 m (k + 1) (sSM s k ((s.2.2.2.1 k) ||| (if ¬ ((x5 >>> ((nI k) &&& 31)) &&& (Int32.ofInt 1)) = (Int32.ofInt 1) then Int32.ofInt 0 else x5 &&& (((Int32.ofInt 1) <<< ((nI k) &&& 31)) ^^^ (Int32.ofInt (-1))))))
theorem d_234_281_g0 (x3 : Int32) (n4 : Nat) (x5 : Int32) : ∀ (m k : Nat) (s : dS) (h : am_H), k + m = dP C → (ex_P h) → (cI C) → (tR C h) → (∀ e, e < dE C → h.1 172 e = dW V e) → (sR 0 (dP C) s h) → (fR h0 h) → (h.1 154 28 = gg) → (∀ h1, (ex_P h1) → (cI C) → (tR C h1) → (∀ e, e < dE C → h1.1 172 e = dW V e) → (sR 0 (dP C) (d_234_281 C x5 m k s) h1) → (fR h0 h1) → (h1.1 154 28 = gg) → pz_S 8 (some .int) am_r234 4 Q 335 [(0, .ref 154), (1, .int (Int32.ofInt 0)), (2, .int w), (3, .int x3), (4, .int (nI n4))] [] h1) → pz_S 8 (some .int) am_r234 4 Q 281 [(0, .ref 154), (1, .int (Int32.ofInt 0)), (2, .int w), (3, .int x3), (4, .int (nI n4)), (5, .int x5), (7, .int (nI k))] [] h := by
  intro m
  induction m with
  | zero =>
    intro k s h hk hP hI hT hO hS hX hG hZ
    have h6 := hT.1.2.1
    have h5 := hT.2.1.2.1
    refine am_goX 3 (show am_rc h 154 11 ∧ 1 ≤ 8 ∧ h.2.2.2.2 + am_al 186 ≤ 175 ∧ am_call am_cod 4 186 [.ref 154] h (fun vv h' => pz_S 8 (some .int) am_r234 4 Q 287 [(0, .ref 154), (1, .int (Int32.ofInt 0)), (2, .int w), (3, .int x3), (4, .int (nI n4)), (5, .int x5), (7, .int (nI k))] (vv.toList ++ [.int (nI k)]) h') from ⟨Or.inl ⟨by decide, ex_154 hP⟩, by decide, ex_lim hP rfl, am_call.up (d_186_r hP hT ?_) (by decide)⟩)
    refine am_goX 1 (show ((nI (dP C)) ≤ (nI k) → pz_S 8 (some .int) am_r234 4 Q 335 [(0, .ref 154), (1, .int (Int32.ofInt 0)), (2, .int w), (3, .int x3), (4, .int (nI n4)), (5, .int x5), (7, .int (nI k))] [] h) ∧ (¬ ((nI (dP C)) ≤ (nI k)) → pz_S 8 (some .int) am_r234 4 Q 290 [(0, .ref 154), (1, .int (Int32.ofInt 0)), (2, .int w), (3, .int x3), (4, .int (nI n4)), (5, .int x5), (7, .int (nI k))] [] h) from ⟨fun _ => ?_, fun hz => absurd (show nI (dP C) ≤ nI k from nI_le (by omega) (by omega)) hz⟩)
    exact sv_S2 sv2_234 (by intro q hq; simp only [List.mem_cons, List.not_mem_nil, or_false] at hq; rcases hq with rfl | rfl | rfl | rfl | rfl <;> rfl) (hZ _ hP hI hT hO hS hX hG)
  | succ m ih =>
    intro k s h hk hP hI hT hO hS hX hG hZ
    have h6 := hT.1.2.1
    have h5 := hT.2.1.2.1
    refine am_goX 3 (show am_rc h 154 11 ∧ 1 ≤ 8 ∧ h.2.2.2.2 + am_al 186 ≤ 175 ∧ am_call am_cod 4 186 [.ref 154] h (fun vv h' => pz_S 8 (some .int) am_r234 4 Q 287 [(0, .ref 154), (1, .int (Int32.ofInt 0)), (2, .int w), (3, .int x3), (4, .int (nI n4)), (5, .int x5), (7, .int (nI k))] (vv.toList ++ [.int (nI k)]) h') from ⟨Or.inl ⟨by decide, ex_154 hP⟩, by decide, ex_lim hP rfl, am_call.up (d_186_r hP hT ?_) (by decide)⟩)
    refine am_goX 1 (show ((nI (dP C)) ≤ (nI k) → pz_S 8 (some .int) am_r234 4 Q 335 [(0, .ref 154), (1, .int (Int32.ofInt 0)), (2, .int w), (3, .int x3), (4, .int (nI n4)), (5, .int x5), (7, .int (nI k))] [] h) ∧ (¬ ((nI (dP C)) ≤ (nI k)) → pz_S 8 (some .int) am_r234 4 Q 290 [(0, .ref 154), (1, .int (Int32.ofInt 0)), (2, .int w), (3, .int x3), (4, .int (nI n4)), (5, .int x5), (7, .int (nI k))] [] h) from ⟨fun hz => absurd hz (show ¬ (nI (dP C) ≤ nI k) by rw [nI_leI (by omega) (by omega)]; omega), fun _ => ?_⟩)
    refine am_goX 2 (show am_sh h 154 = some (11, 0) ∧ pz_S 8 (some .int) am_r234 4 Q 294 [(0, .ref 154), (1, .int (Int32.ofInt 0)), (2, .int w), (3, .int x3), (4, .int (nI n4)), (5, .int x5), (7, .int (nI k))] [am_rf (h.2.2.1 154 24)] h from ⟨ex_154 hP, ?_⟩)
    rw [show am_rf (h.2.2.1 154 24) = .ref 170 from congrArg am_rf (ex_r154_24 hP)]
    refine am_goX 7 (show (Value.int (((Int32.ofInt 0) + ((Int8.ofInt 8).toInt32)) + (nI k))).category = 1 ∧ (Value.ref 170).category = 1 ∧ ∃ jj nn : Nat, am_sh h 170 = some (13, nn) ∧ jj < nn ∧ ((Int32.ofInt 0) + ((Int8.ofInt 8).toInt32)) + (nI k) = nI jj ∧ pz_S 8 (some .int) am_r234 4 Q 303 [(0, .ref 154), (1, .int (Int32.ofInt 0)), (2, .int w), (3, .int x3), (4, .int (nI n4)), (5, .int x5), (7, .int (nI k))] [.int (h.1 170 jj), .int (((Int32.ofInt 0) + ((Int8.ofInt 8).toInt32)) + (nI k)), .ref 170] h from ⟨rfl, rfl, ⟨(8 + k), 1127, ex_170 hP, (by omega), (dn_a (dn_a rfl (show (Int8.ofInt 8).toInt32 = nI 8 by decide)) rfl), ?_⟩⟩)
    rw [show h.1 170 (8 + k) = s.2.2.2.1 k from (by rw [show (8 + k) = 0 + 8 + k by omega]; exact hS.2.2.1 k (by omega))]
    suffices key : ∀ (v222 : Int32), v222 = (if ¬ ((x5 >>> ((nI k) &&& 31)) &&& (Int32.ofInt 1)) = (Int32.ofInt 1) then Int32.ofInt 0 else x5 &&& (((Int32.ofInt 1) <<< ((nI k) &&& 31)) ^^^ (Int32.ofInt (-1)))) → pz_S 8 (some .int) am_r234 4 Q 327 [(0, .ref 154), (1, .int (Int32.ofInt 0)), (2, .int w), (3, .int x3), (4, .int (nI n4)), (5, .int x5), (7, .int (nI k))] [.int v222, .int (s.2.2.2.1 k), .int (((Int32.ofInt 0) + ((Int8.ofInt 8).toInt32)) + (nI k)), .ref 170] h by
      refine am_goX 7 (show (¬ ((x5 >>> ((nI k) &&& 31)) &&& (Int32.ofInt 1)) = (Int32.ofInt 1) → pz_S 8 (some .int) am_r234 4 Q 326 [(0, .ref 154), (1, .int (Int32.ofInt 0)), (2, .int w), (3, .int x3), (4, .int (nI n4)), (5, .int x5), (7, .int (nI k))] [.int (s.2.2.2.1 k), .int (((Int32.ofInt 0) + ((Int8.ofInt 8).toInt32)) + (nI k)), .ref 170] h) ∧ (¬ ¬ ((x5 >>> ((nI k) &&& 31)) &&& (Int32.ofInt 1)) = (Int32.ofInt 1) → pz_S 8 (some .int) am_r234 4 Q 314 [(0, .ref 154), (1, .int (Int32.ofInt 0)), (2, .int w), (3, .int x3), (4, .int (nI n4)), (5, .int x5), (7, .int (nI k))] [.int (s.2.2.2.1 k), .int (((Int32.ofInt 0) + ((Int8.ofInt 8).toInt32)) + (nI k)), .ref 170] h) from ⟨fun c221 => ?_, fun c221 => ?_⟩)
      · refine am_goX 1 (show pz_S 8 (some .int) am_r234 4 Q 327 [(0, .ref 154), (1, .int (Int32.ofInt 0)), (2, .int w), (3, .int x3), (4, .int (nI n4)), (5, .int x5), (7, .int (nI k))] [.int (Int32.ofInt 0), .int (s.2.2.2.1 k), .int (((Int32.ofInt 0) + ((Int8.ofInt 8).toInt32)) + (nI k)), .ref 170] h from ?_)
        exact sv_S2 sv2_234 (by intro q hq; simp only [List.mem_cons, List.not_mem_nil, or_false] at hq; rcases hq with rfl | rfl | rfl | rfl | rfl | rfl | rfl <;> rfl) (key _ (if_pos c221).symm)
      · refine am_goX 8 (show pz_S 8 (some .int) am_r234 4 Q 327 [(0, .ref 154), (1, .int (Int32.ofInt 0)), (2, .int w), (3, .int x3), (4, .int (nI n4)), (5, .int x5), (7, .int (nI k))] [.int (x5 &&& (((Int32.ofInt 1) <<< ((nI k) &&& 31)) ^^^ (Int32.ofInt (-1)))), .int (s.2.2.2.1 k), .int (((Int32.ofInt 0) + ((Int8.ofInt 8).toInt32)) + (nI k)), .ref 170] h from ?_)
        exact sv_S2 sv2_234 (by intro q hq; simp only [List.mem_cons, List.not_mem_nil, or_false] at hq; rcases hq with rfl | rfl | rfl | rfl | rfl | rfl | rfl <;> rfl) (key _ (if_neg c221).symm)
    intro v222 e223
    subst e223
    refine am_goX 2 (show ∃ jj nn : Nat, am_so h 170 = some (13, nn) ∧ jj < nn ∧ ((Int32.ofInt 0) + ((Int8.ofInt 8).toInt32)) + (nI k) = nI jj ∧ pz_S 8 (some .int) am_r234 4 Q 329 [(0, .ref 154), (1, .int (Int32.ofInt 0)), (2, .int w), (3, .int x3), (4, .int (nI n4)), (5, .int x5), (7, .int (nI k))] [] (am_wI h 170 jj ((s.2.2.2.1 k) ||| (if ¬ ((x5 >>> ((nI k) &&& 31)) &&& (Int32.ofInt 1)) = (Int32.ofInt 1) then Int32.ofInt 0 else x5 &&& (((Int32.ofInt 1) <<< ((nI k) &&& 31)) ^^^ (Int32.ofInt (-1)))))) from ⟨(8 + k), 1127, ex_w170 hP, (by omega), (dn_a (dn_a rfl (show (Int8.ofInt 8).toInt32 = nI 8 by decide)) rfl), ?_⟩)
    have f225 : ex_P (am_wI h 170 (8 + k) ((s.2.2.2.1 k) ||| (if ¬ ((x5 >>> ((nI k) &&& 31)) &&& (Int32.ofInt 1)) = (Int32.ofInt 1) then Int32.ofInt 0 else x5 &&& (((Int32.ofInt 1) <<< ((nI k) &&& 31)) ^^^ (Int32.ofInt (-1)))))) := hP
    have f226 : cI C := hI
    have f227 : tR C (am_wI h 170 (8 + k) ((s.2.2.2.1 k) ||| (if ¬ ((x5 >>> ((nI k) &&& 31)) &&& (Int32.ofInt 1)) = (Int32.ofInt 1) then Int32.ofInt 0 else x5 &&& (((Int32.ofInt 1) <<< ((nI k) &&& 31)) ^^^ (Int32.ofInt (-1)))))) := tR_w (by omega) hT
    have f228 : ∀ e, e < dE C → (am_wI h 170 (8 + k) ((s.2.2.2.1 k) ||| (if ¬ ((x5 >>> ((nI k) &&& 31)) &&& (Int32.ofInt 1)) = (Int32.ofInt 1) then Int32.ofInt 0 else x5 &&& (((Int32.ofInt 1) <<< ((nI k) &&& 31)) ^^^ (Int32.ofInt (-1)))))).1 172 e = dW V e := on_w (by omega) hO
    have f229 : sR 0 (dP C) (sSM s k ((s.2.2.2.1 k) ||| (if ¬ ((x5 >>> ((nI k) &&& 31)) &&& (Int32.ofInt 1)) = (Int32.ofInt 1) then Int32.ofInt 0 else x5 &&& (((Int32.ofInt 1) <<< ((nI k) &&& 31)) ^^^ (Int32.ofInt (-1)))))) (am_wI h 170 (8 + k) ((s.2.2.2.1 k) ||| (if ¬ ((x5 >>> ((nI k) &&& 31)) &&& (Int32.ofInt 1)) = (Int32.ofInt 1) then Int32.ofInt 0 else x5 &&& (((Int32.ofInt 1) <<< ((nI k) &&& 31)) ^^^ (Int32.ofInt (-1)))))) := sR_wM (i := k) (by omega) (by omega) hS
    have f230 : fR h0 (am_wI h 170 (8 + k) ((s.2.2.2.1 k) ||| (if ¬ ((x5 >>> ((nI k) &&& 31)) &&& (Int32.ofInt 1)) = (Int32.ofInt 1) then Int32.ofInt 0 else x5 &&& (((Int32.ofInt 1) <<< ((nI k) &&& 31)) ^^^ (Int32.ofInt (-1)))))) := fR_w (by omega) hX
    have f231 : (am_wI h 170 (8 + k) ((s.2.2.2.1 k) ||| (if ¬ ((x5 >>> ((nI k) &&& 31)) &&& (Int32.ofInt 1)) = (Int32.ofInt 1) then Int32.ofInt 0 else x5 &&& (((Int32.ofInt 1) <<< ((nI k) &&& 31)) ^^^ (Int32.ofInt (-1)))))).1 154 28 = gg := (em_wn _ _ (by omega)).trans hG
    generalize am_wI h 170 (8 + k) ((s.2.2.2.1 k) ||| (if ¬ ((x5 >>> ((nI k) &&& 31)) &&& (Int32.ofInt 1)) = (Int32.ofInt 1) then Int32.ofInt 0 else x5 &&& (((Int32.ofInt 1) <<< ((nI k) &&& 31)) ^^^ (Int32.ofInt (-1))))) = h224 at f225 f226 f227 f228 f229 f230 f231 ⊢
    refine am_goX 2 (show 7 < 8 ∧ pz_S 8 (some .int) am_r234 4 Q 281 [(7, .int ((nI k) + (Int32.ofInt 1))), (0, .ref 154), (1, .int (Int32.ofInt 0)), (2, .int w), (3, .int x3), (4, .int (nI n4)), (5, .int x5)] [] h224 from ⟨by decide, ?_⟩)
    rw [show (nI k) + (Int32.ofInt 1) = nI (k + 1) from (dn_a rfl rfl)]
    exact sv_S2 sv2_234 (by intro q hq; simp only [List.mem_cons, List.not_mem_nil, or_false] at hq; rcases hq with rfl | rfl | rfl | rfl | rfl | rfl | rfl <;> rfl) (ih (k + 1) (sSM s k ((s.2.2.2.1 k) ||| (if ¬ ((x5 >>> ((nI k) &&& 31)) &&& (Int32.ofInt 1)) = (Int32.ofInt 1) then Int32.ofInt 0 else x5 &&& (((Int32.ofInt 1) <<< ((nI k) &&& 31)) ^^^ (Int32.ofInt (-1)))))) _ (by omega) f225 f226 f227 f228 f229 f230 f231 hZ)
def d_234_132 (C V : sp_C) (gg w : Int32) : Nat → Nat → Int32 → dS → Int32 × dS
  | 0, _, a3, s => (a3, s)
  | m + 1, k, a3, s => d_234_132 C V gg w m (k + 1) (a3 ||| (if (if (d_235 (d_234_147 C V s gg w k (dP C) 0 (Int32.ofInt 0))) < (dN C k) then Int32.ofInt 0 else Int32.ofInt 1) = 0 then Int32.ofInt 0 else (Int32.ofInt 1) <<< ((nI k) &&& 31))) (d_234_281 C (d_234_147 C V s gg w k (dP C) 0 (Int32.ofInt 0)) (dP C) 0 (sSH (sSA s k (d_234_147 C V s gg w k (dP C) 0 (Int32.ofInt 0))) k (((sSA s k (d_234_147 C V s gg w k (dP C) 0 (Int32.ofInt 0))).2.2.2.2.1 k) + (if (if (d_235 (d_234_147 C V s gg w k (dP C) 0 (Int32.ofInt 0))) < (dN C k) then Int32.ofInt 0 else Int32.ofInt 1) = 0 then Int32.ofInt 0 else Int32.ofInt 1))))
theorem d_234_132_g0 : ∀ (m k : Nat) (a3 : Int32) (s : dS) (h : am_H), k + m = dE C → (ex_P h) → (cI C) → (tR C h) → (∀ e, e < dE C → h.1 172 e = dW V e) → (sR 0 (dP C) s h) → (fR h0 h) → (h.1 154 28 = gg) → (∀ h1, (ex_P h1) → (cI C) → (tR C h1) → (∀ e, e < dE C → h1.1 172 e = dW V e) → (sR 0 (dP C) ((d_234_132 C V gg w m k a3 s).2) h1) → (fR h0 h1) → (h1.1 154 28 = gg) → pz_S 8 (some .int) am_r234 4 Q 341 [(3, .int ((d_234_132 C V gg w m k a3 s).1))] [] h1) → pz_S 8 (some .int) am_r234 4 Q 132 [(0, .ref 154), (1, .int (Int32.ofInt 0)), (2, .int w), (3, .int a3), (4, .int (nI k))] [] h := by
  intro m
  induction m with
  | zero =>
    intro k a3 s h hk hP hI hT hO hS hX hG hZ
    have h6 := hT.1.2.1
    have h5 := hT.2.1.2.1
    refine am_goX 3 (show am_rc h 154 11 ∧ 1 ≤ 8 ∧ h.2.2.2.2 + am_al 183 ≤ 175 ∧ am_call am_cod 4 183 [.ref 154] h (fun vv h' => pz_S 8 (some .int) am_r234 4 Q 138 [(0, .ref 154), (1, .int (Int32.ofInt 0)), (2, .int w), (3, .int a3), (4, .int (nI k))] (vv.toList ++ [.int (nI k)]) h') from ⟨Or.inl ⟨by decide, ex_154 hP⟩, by decide, ex_lim hP rfl, am_call.up (d_183_r hP hT ?_) (by decide)⟩)
    refine am_goX 1 (show ((nI (dE C)) ≤ (nI k) → pz_S 8 (some .int) am_r234 4 Q 341 [(0, .ref 154), (1, .int (Int32.ofInt 0)), (2, .int w), (3, .int a3), (4, .int (nI k))] [] h) ∧ (¬ ((nI (dE C)) ≤ (nI k)) → pz_S 8 (some .int) am_r234 4 Q 141 [(0, .ref 154), (1, .int (Int32.ofInt 0)), (2, .int w), (3, .int a3), (4, .int (nI k))] [] h) from ⟨fun _ => ?_, fun hz => absurd (show nI (dE C) ≤ nI k from nI_le (by omega) (by omega)) hz⟩)
    exact sv_S2 sv2_234 (by intro q hq; simp only [List.mem_cons, List.not_mem_nil, or_false] at hq; rcases hq with rfl <;> rfl) (hZ _ hP hI hT hO hS hX hG)
  | succ m ih =>
    intro k a3 s h hk hP hI hT hO hS hX hG hZ
    have h6 := hT.1.2.1
    have h5 := hT.2.1.2.1
    refine am_goX 3 (show am_rc h 154 11 ∧ 1 ≤ 8 ∧ h.2.2.2.2 + am_al 183 ≤ 175 ∧ am_call am_cod 4 183 [.ref 154] h (fun vv h' => pz_S 8 (some .int) am_r234 4 Q 138 [(0, .ref 154), (1, .int (Int32.ofInt 0)), (2, .int w), (3, .int a3), (4, .int (nI k))] (vv.toList ++ [.int (nI k)]) h') from ⟨Or.inl ⟨by decide, ex_154 hP⟩, by decide, ex_lim hP rfl, am_call.up (d_183_r hP hT ?_) (by decide)⟩)
    refine am_goX 1 (show ((nI (dE C)) ≤ (nI k) → pz_S 8 (some .int) am_r234 4 Q 341 [(0, .ref 154), (1, .int (Int32.ofInt 0)), (2, .int w), (3, .int a3), (4, .int (nI k))] [] h) ∧ (¬ ((nI (dE C)) ≤ (nI k)) → pz_S 8 (some .int) am_r234 4 Q 141 [(0, .ref 154), (1, .int (Int32.ofInt 0)), (2, .int w), (3, .int a3), (4, .int (nI k))] [] h) from ⟨fun hz => absurd hz (show ¬ (nI (dE C) ≤ nI k) by rw [nI_leI (by omega) (by omega)]; omega), fun _ => ?_⟩)
    refine am_goX 4 (show 5 < 8 ∧ 6 < 8 ∧ pz_S 8 (some .int) am_r234 4 Q 147 [(6, .int (Int32.ofInt 0)), (5, .int (Int32.ofInt 0)), (0, .ref 154), (1, .int (Int32.ofInt 0)), (2, .int w), (3, .int a3), (4, .int (nI k))] [] h from ⟨by decide, by decide, ?_⟩)
    refine sv_S2 sv2_234 (by intro q hq; simp only [List.mem_cons, List.not_mem_nil, or_false] at hq; rcases hq with rfl | rfl | rfl | rfl | rfl | rfl | rfl <;> rfl) (d_234_147_g0 a3 k hP hI hT hO hS hX hG (by omega) (dP C) 0 (Int32.ofInt 0) (by omega) ?_)
    refine am_goX 2 (show am_sh h 154 = some (11, 0) ∧ pz_S 8 (some .int) am_r234 4 Q 205 [(0, .ref 154), (1, .int (Int32.ofInt 0)), (2, .int w), (3, .int a3), (4, .int (nI k)), (5, .int (d_234_147 C V s gg w k (dP C) 0 (Int32.ofInt 0)))] [am_rf (h.2.2.1 154 24)] h from ⟨ex_154 hP, ?_⟩)
    rw [show am_rf (h.2.2.1 154 24) = .ref 170 from congrArg am_rf (ex_r154_24 hP)]
    refine am_goX 7 (show ∃ jj nn : Nat, am_so h 170 = some (13, nn) ∧ jj < nn ∧ ((Int32.ofInt 0) + ((Int8.ofInt 19).toInt32)) + (nI k) = nI jj ∧ pz_S 8 (some .int) am_r234 4 Q 215 [(0, .ref 154), (1, .int (Int32.ofInt 0)), (2, .int w), (3, .int a3), (4, .int (nI k)), (5, .int (d_234_147 C V s gg w k (dP C) 0 (Int32.ofInt 0)))] [] (am_wI h 170 jj (d_234_147 C V s gg w k (dP C) 0 (Int32.ofInt 0))) from ⟨(19 + k), 1127, ex_w170 hP, (by omega), (dn_a (dn_a rfl (show (Int8.ofInt 19).toInt32 = nI 19 by decide)) rfl), ?_⟩)
    have f191 : ex_P (am_wI h 170 (19 + k) (d_234_147 C V s gg w k (dP C) 0 (Int32.ofInt 0))) := hP
    have f192 : cI C := hI
    have f193 : tR C (am_wI h 170 (19 + k) (d_234_147 C V s gg w k (dP C) 0 (Int32.ofInt 0))) := tR_w (by omega) hT
    have f194 : ∀ e, e < dE C → (am_wI h 170 (19 + k) (d_234_147 C V s gg w k (dP C) 0 (Int32.ofInt 0))).1 172 e = dW V e := on_w (by omega) hO
    have f195 : sR 0 (dP C) (sSA s k (d_234_147 C V s gg w k (dP C) 0 (Int32.ofInt 0))) (am_wI h 170 (19 + k) (d_234_147 C V s gg w k (dP C) 0 (Int32.ofInt 0))) := sR_wA (i := k) (by omega) (by omega) hS
    have f196 : fR h0 (am_wI h 170 (19 + k) (d_234_147 C V s gg w k (dP C) 0 (Int32.ofInt 0))) := fR_w (by omega) hX
    have f197 : (am_wI h 170 (19 + k) (d_234_147 C V s gg w k (dP C) 0 (Int32.ofInt 0))).1 154 28 = gg := (em_wn _ _ (by omega)).trans hG
    generalize am_wI h 170 (19 + k) (d_234_147 C V s gg w k (dP C) 0 (Int32.ofInt 0)) = h190 at f191 f192 f193 f194 f195 f196 f197 ⊢
    refine am_goX 2 (show 0 ≤ 8 ∧ h190.2.2.2.2 + am_al 235 ≤ 175 ∧ am_call am_cod 4 235 [.int (d_234_147 C V s gg w k (dP C) 0 (Int32.ofInt 0))] h190 (fun vv h' => pz_S 8 (some .int) am_r234 4 Q 220 [(0, .ref 154), (1, .int (Int32.ofInt 0)), (2, .int w), (3, .int a3), (4, .int (nI k)), (5, .int (d_234_147 C V s gg w k (dP C) 0 (Int32.ofInt 0)))] (vv.toList ++ []) h') from ⟨by decide, ex_lim f191 rfl, am_call.up (d_235_w f191 ?_) (by decide)⟩)
    refine am_goX 4 (show am_rc h190 154 11 ∧ 1 ≤ 8 ∧ h190.2.2.2.2 + am_al 184 ≤ 175 ∧ am_call am_cod 4 184 [.ref 154, .int (nI k), .int (Int32.ofInt 1)] h190 (fun vv h' => pz_S 8 (some .int) am_r234 4 Q 227 [(0, .ref 154), (1, .int (Int32.ofInt 0)), (2, .int w), (3, .int a3), (4, .int (nI k)), (5, .int (d_234_147 C V s gg w k (dP C) 0 (Int32.ofInt 0)))] (vv.toList ++ [.int (d_235 (d_234_147 C V s gg w k (dP C) 0 (Int32.ofInt 0)))]) h') from ⟨Or.inl ⟨by decide, ex_154 f191⟩, by decide, ex_lim f191 rfl, am_call.up (d_184_r1 f191 f193 (by omega) ?_) (by decide)⟩)
    suffices key : ∀ (v199 : Int32), v199 = (if (d_235 (d_234_147 C V s gg w k (dP C) 0 (Int32.ofInt 0))) < (dN C k) then Int32.ofInt 0 else Int32.ofInt 1) → pz_S 8 (some .int) am_r234 4 Q 235 [(0, .ref 154), (1, .int (Int32.ofInt 0)), (2, .int w), (3, .int a3), (4, .int (nI k)), (5, .int (d_234_147 C V s gg w k (dP C) 0 (Int32.ofInt 0)))] [.int v199] h190 by
      refine am_goX 1 (show ((d_235 (d_234_147 C V s gg w k (dP C) 0 (Int32.ofInt 0))) < (dN C k) → pz_S 8 (some .int) am_r234 4 Q 234 [(0, .ref 154), (1, .int (Int32.ofInt 0)), (2, .int w), (3, .int a3), (4, .int (nI k)), (5, .int (d_234_147 C V s gg w k (dP C) 0 (Int32.ofInt 0)))] [] h190) ∧ (¬ ((d_235 (d_234_147 C V s gg w k (dP C) 0 (Int32.ofInt 0))) < (dN C k)) → pz_S 8 (some .int) am_r234 4 Q 230 [(0, .ref 154), (1, .int (Int32.ofInt 0)), (2, .int w), (3, .int a3), (4, .int (nI k)), (5, .int (d_234_147 C V s gg w k (dP C) 0 (Int32.ofInt 0)))] [] h190) from ⟨fun c198 => ?_, fun c198 => ?_⟩)
      · refine am_goX 1 (show pz_S 8 (some .int) am_r234 4 Q 235 [(0, .ref 154), (1, .int (Int32.ofInt 0)), (2, .int w), (3, .int a3), (4, .int (nI k)), (5, .int (d_234_147 C V s gg w k (dP C) 0 (Int32.ofInt 0)))] [.int (Int32.ofInt 0)] h190 from ?_)
        exact sv_S2 sv2_234 (by intro q hq; simp only [List.mem_cons, List.not_mem_nil, or_false] at hq; rcases hq with rfl | rfl | rfl | rfl | rfl | rfl <;> rfl) (key _ (if_pos c198).symm)
      · refine am_goX 2 (show pz_S 8 (some .int) am_r234 4 Q 235 [(0, .ref 154), (1, .int (Int32.ofInt 0)), (2, .int w), (3, .int a3), (4, .int (nI k)), (5, .int (d_234_147 C V s gg w k (dP C) 0 (Int32.ofInt 0)))] [.int (Int32.ofInt 1)] h190 from ?_)
        exact sv_S2 sv2_234 (by intro q hq; simp only [List.mem_cons, List.not_mem_nil, or_false] at hq; rcases hq with rfl | rfl | rfl | rfl | rfl | rfl <;> rfl) (key _ (if_neg c198).symm)
    intro v199 e200
    subst e200
    refine am_goX 3 (show 6 < 8 ∧ am_sh h190 154 = some (11, 0) ∧ pz_S 8 (some .int) am_r234 4 Q 241 [(6, .int (if (d_235 (d_234_147 C V s gg w k (dP C) 0 (Int32.ofInt 0))) < (dN C k) then Int32.ofInt 0 else Int32.ofInt 1)), (0, .ref 154), (1, .int (Int32.ofInt 0)), (2, .int w), (3, .int a3), (4, .int (nI k)), (5, .int (d_234_147 C V s gg w k (dP C) 0 (Int32.ofInt 0)))] [am_rf (h190.2.2.1 154 24)] h190 from ⟨by decide, ex_154 f191, ?_⟩)
    rw [show am_rf (h190.2.2.1 154 24) = .ref 170 from congrArg am_rf (ex_r154_24 f191)]
    refine am_goX 7 (show (Value.int (((Int32.ofInt 0) + ((Int8.ofInt 14).toInt32)) + (nI k))).category = 1 ∧ (Value.ref 170).category = 1 ∧ ∃ jj nn : Nat, am_sh h190 170 = some (13, nn) ∧ jj < nn ∧ ((Int32.ofInt 0) + ((Int8.ofInt 14).toInt32)) + (nI k) = nI jj ∧ pz_S 8 (some .int) am_r234 4 Q 250 [(6, .int (if (d_235 (d_234_147 C V s gg w k (dP C) 0 (Int32.ofInt 0))) < (dN C k) then Int32.ofInt 0 else Int32.ofInt 1)), (0, .ref 154), (1, .int (Int32.ofInt 0)), (2, .int w), (3, .int a3), (4, .int (nI k)), (5, .int (d_234_147 C V s gg w k (dP C) 0 (Int32.ofInt 0)))] [.int (h190.1 170 jj), .int (((Int32.ofInt 0) + ((Int8.ofInt 14).toInt32)) + (nI k)), .ref 170] h190 from ⟨rfl, rfl, ⟨(14 + k), 1127, ex_170 f191, (by omega), (dn_a (dn_a rfl (show (Int8.ofInt 14).toInt32 = nI 14 by decide)) rfl), ?_⟩⟩)
    rw [show h190.1 170 (14 + k) = (sSA s k (d_234_147 C V s gg w k (dP C) 0 (Int32.ofInt 0))).2.2.2.2.1 k from (by rw [show (14 + k) = 0 + 14 + k by omega]; exact (f195.2.2.2 k (by omega)).1)]
    suffices key : ∀ (v202 : Int32), v202 = (if (if (d_235 (d_234_147 C V s gg w k (dP C) 0 (Int32.ofInt 0))) < (dN C k) then Int32.ofInt 0 else Int32.ofInt 1) = 0 then Int32.ofInt 0 else Int32.ofInt 1) → pz_S 8 (some .int) am_r234 4 Q 260 [(0, .ref 154), (1, .int (Int32.ofInt 0)), (2, .int w), (3, .int a3), (4, .int (nI k)), (5, .int (d_234_147 C V s gg w k (dP C) 0 (Int32.ofInt 0))), (6, .int (if (d_235 (d_234_147 C V s gg w k (dP C) 0 (Int32.ofInt 0))) < (dN C k) then Int32.ofInt 0 else Int32.ofInt 1))] [.int v202, .int ((sSA s k (d_234_147 C V s gg w k (dP C) 0 (Int32.ofInt 0))).2.2.2.2.1 k), .int (((Int32.ofInt 0) + ((Int8.ofInt 14).toInt32)) + (nI k)), .ref 170] h190 by
      refine am_goX 2 (show ((if (d_235 (d_234_147 C V s gg w k (dP C) 0 (Int32.ofInt 0))) < (dN C k) then Int32.ofInt 0 else Int32.ofInt 1) = 0 → pz_S 8 (some .int) am_r234 4 Q 259 [(6, .int (if (d_235 (d_234_147 C V s gg w k (dP C) 0 (Int32.ofInt 0))) < (dN C k) then Int32.ofInt 0 else Int32.ofInt 1)), (0, .ref 154), (1, .int (Int32.ofInt 0)), (2, .int w), (3, .int a3), (4, .int (nI k)), (5, .int (d_234_147 C V s gg w k (dP C) 0 (Int32.ofInt 0)))] [.int ((sSA s k (d_234_147 C V s gg w k (dP C) 0 (Int32.ofInt 0))).2.2.2.2.1 k), .int (((Int32.ofInt 0) + ((Int8.ofInt 14).toInt32)) + (nI k)), .ref 170] h190) ∧ (¬ ((if (d_235 (d_234_147 C V s gg w k (dP C) 0 (Int32.ofInt 0))) < (dN C k) then Int32.ofInt 0 else Int32.ofInt 1) = 0) → pz_S 8 (some .int) am_r234 4 Q 255 [(6, .int (if (d_235 (d_234_147 C V s gg w k (dP C) 0 (Int32.ofInt 0))) < (dN C k) then Int32.ofInt 0 else Int32.ofInt 1)), (0, .ref 154), (1, .int (Int32.ofInt 0)), (2, .int w), (3, .int a3), (4, .int (nI k)), (5, .int (d_234_147 C V s gg w k (dP C) 0 (Int32.ofInt 0)))] [.int ((sSA s k (d_234_147 C V s gg w k (dP C) 0 (Int32.ofInt 0))).2.2.2.2.1 k), .int (((Int32.ofInt 0) + ((Int8.ofInt 14).toInt32)) + (nI k)), .ref 170] h190) from ⟨fun c201 => ?_, fun c201 => ?_⟩)
      · refine am_goX 1 (show pz_S 8 (some .int) am_r234 4 Q 260 [(6, .int (if (d_235 (d_234_147 C V s gg w k (dP C) 0 (Int32.ofInt 0))) < (dN C k) then Int32.ofInt 0 else Int32.ofInt 1)), (0, .ref 154), (1, .int (Int32.ofInt 0)), (2, .int w), (3, .int a3), (4, .int (nI k)), (5, .int (d_234_147 C V s gg w k (dP C) 0 (Int32.ofInt 0)))] [.int (Int32.ofInt 0), .int ((sSA s k (d_234_147 C V s gg w k (dP C) 0 (Int32.ofInt 0))).2.2.2.2.1 k), .int (((Int32.ofInt 0) + ((Int8.ofInt 14).toInt32)) + (nI k)), .ref 170] h190 from ?_)
        exact sv_S2 sv2_234 (by intro q hq; simp only [List.mem_cons, List.not_mem_nil, or_false] at hq; rcases hq with rfl | rfl | rfl | rfl | rfl | rfl | rfl <;> rfl) (key _ (if_pos c201).symm)
      · refine am_goX 2 (show pz_S 8 (some .int) am_r234 4 Q 260 [(6, .int (if (d_235 (d_234_147 C V s gg w k (dP C) 0 (Int32.ofInt 0))) < (dN C k) then Int32.ofInt 0 else Int32.ofInt 1)), (0, .ref 154), (1, .int (Int32.ofInt 0)), (2, .int w), (3, .int a3), (4, .int (nI k)), (5, .int (d_234_147 C V s gg w k (dP C) 0 (Int32.ofInt 0)))] [.int (Int32.ofInt 1), .int ((sSA s k (d_234_147 C V s gg w k (dP C) 0 (Int32.ofInt 0))).2.2.2.2.1 k), .int (((Int32.ofInt 0) + ((Int8.ofInt 14).toInt32)) + (nI k)), .ref 170] h190 from ?_)
        exact sv_S2 sv2_234 (by intro q hq; simp only [List.mem_cons, List.not_mem_nil, or_false] at hq; rcases hq with rfl | rfl | rfl | rfl | rfl | rfl | rfl <;> rfl) (key _ (if_neg c201).symm)
    intro v202 e203
    subst e203
    refine am_goX 2 (show ∃ jj nn : Nat, am_so h190 170 = some (13, nn) ∧ jj < nn ∧ ((Int32.ofInt 0) + ((Int8.ofInt 14).toInt32)) + (nI k) = nI jj ∧ pz_S 8 (some .int) am_r234 4 Q 262 [(0, .ref 154), (1, .int (Int32.ofInt 0)), (2, .int w), (3, .int a3), (4, .int (nI k)), (5, .int (d_234_147 C V s gg w k (dP C) 0 (Int32.ofInt 0))), (6, .int (if (d_235 (d_234_147 C V s gg w k (dP C) 0 (Int32.ofInt 0))) < (dN C k) then Int32.ofInt 0 else Int32.ofInt 1))] [] (am_wI h190 170 jj (((sSA s k (d_234_147 C V s gg w k (dP C) 0 (Int32.ofInt 0))).2.2.2.2.1 k) + (if (if (d_235 (d_234_147 C V s gg w k (dP C) 0 (Int32.ofInt 0))) < (dN C k) then Int32.ofInt 0 else Int32.ofInt 1) = 0 then Int32.ofInt 0 else Int32.ofInt 1))) from ⟨(14 + k), 1127, ex_w170 f191, (by omega), (dn_a (dn_a rfl (show (Int8.ofInt 14).toInt32 = nI 14 by decide)) rfl), ?_⟩)
    have f205 : ex_P (am_wI h190 170 (14 + k) (((sSA s k (d_234_147 C V s gg w k (dP C) 0 (Int32.ofInt 0))).2.2.2.2.1 k) + (if (if (d_235 (d_234_147 C V s gg w k (dP C) 0 (Int32.ofInt 0))) < (dN C k) then Int32.ofInt 0 else Int32.ofInt 1) = 0 then Int32.ofInt 0 else Int32.ofInt 1))) := f191
    have f206 : cI C := f192
    have f207 : tR C (am_wI h190 170 (14 + k) (((sSA s k (d_234_147 C V s gg w k (dP C) 0 (Int32.ofInt 0))).2.2.2.2.1 k) + (if (if (d_235 (d_234_147 C V s gg w k (dP C) 0 (Int32.ofInt 0))) < (dN C k) then Int32.ofInt 0 else Int32.ofInt 1) = 0 then Int32.ofInt 0 else Int32.ofInt 1))) := tR_w (by omega) f193
    have f208 : ∀ e, e < dE C → (am_wI h190 170 (14 + k) (((sSA s k (d_234_147 C V s gg w k (dP C) 0 (Int32.ofInt 0))).2.2.2.2.1 k) + (if (if (d_235 (d_234_147 C V s gg w k (dP C) 0 (Int32.ofInt 0))) < (dN C k) then Int32.ofInt 0 else Int32.ofInt 1) = 0 then Int32.ofInt 0 else Int32.ofInt 1))).1 172 e = dW V e := on_w (by omega) f194
    have f209 : sR 0 (dP C) (sSH (sSA s k (d_234_147 C V s gg w k (dP C) 0 (Int32.ofInt 0))) k (((sSA s k (d_234_147 C V s gg w k (dP C) 0 (Int32.ofInt 0))).2.2.2.2.1 k) + (if (if (d_235 (d_234_147 C V s gg w k (dP C) 0 (Int32.ofInt 0))) < (dN C k) then Int32.ofInt 0 else Int32.ofInt 1) = 0 then Int32.ofInt 0 else Int32.ofInt 1))) (am_wI h190 170 (14 + k) (((sSA s k (d_234_147 C V s gg w k (dP C) 0 (Int32.ofInt 0))).2.2.2.2.1 k) + (if (if (d_235 (d_234_147 C V s gg w k (dP C) 0 (Int32.ofInt 0))) < (dN C k) then Int32.ofInt 0 else Int32.ofInt 1) = 0 then Int32.ofInt 0 else Int32.ofInt 1))) := sR_wH (i := k) (by omega) (by omega) f195
    have f210 : fR h0 (am_wI h190 170 (14 + k) (((sSA s k (d_234_147 C V s gg w k (dP C) 0 (Int32.ofInt 0))).2.2.2.2.1 k) + (if (if (d_235 (d_234_147 C V s gg w k (dP C) 0 (Int32.ofInt 0))) < (dN C k) then Int32.ofInt 0 else Int32.ofInt 1) = 0 then Int32.ofInt 0 else Int32.ofInt 1))) := fR_w (by omega) f196
    have f211 : (am_wI h190 170 (14 + k) (((sSA s k (d_234_147 C V s gg w k (dP C) 0 (Int32.ofInt 0))).2.2.2.2.1 k) + (if (if (d_235 (d_234_147 C V s gg w k (dP C) 0 (Int32.ofInt 0))) < (dN C k) then Int32.ofInt 0 else Int32.ofInt 1) = 0 then Int32.ofInt 0 else Int32.ofInt 1))).1 154 28 = gg := (em_wn _ _ (by omega)).trans f197
    generalize am_wI h190 170 (14 + k) (((sSA s k (d_234_147 C V s gg w k (dP C) 0 (Int32.ofInt 0))).2.2.2.2.1 k) + (if (if (d_235 (d_234_147 C V s gg w k (dP C) 0 (Int32.ofInt 0))) < (dN C k) then Int32.ofInt 0 else Int32.ofInt 1) = 0 then Int32.ofInt 0 else Int32.ofInt 1)) = h204 at f205 f206 f207 f208 f209 f210 f211 ⊢
    suffices key : ∀ (v213 : Int32), v213 = (if (if (d_235 (d_234_147 C V s gg w k (dP C) 0 (Int32.ofInt 0))) < (dN C k) then Int32.ofInt 0 else Int32.ofInt 1) = 0 then Int32.ofInt 0 else (Int32.ofInt 1) <<< ((nI k) &&& 31)) → pz_S 8 (some .int) am_r234 4 Q 276 [(0, .ref 154), (1, .int (Int32.ofInt 0)), (2, .int w), (4, .int (nI k)), (5, .int (d_234_147 C V s gg w k (dP C) 0 (Int32.ofInt 0)))] [.int v213, .int a3] h204 by
      refine am_goX 3 (show ((if (d_235 (d_234_147 C V s gg w k (dP C) 0 (Int32.ofInt 0))) < (dN C k) then Int32.ofInt 0 else Int32.ofInt 1) = 0 → pz_S 8 (some .int) am_r234 4 Q 275 [(0, .ref 154), (1, .int (Int32.ofInt 0)), (2, .int w), (3, .int a3), (4, .int (nI k)), (5, .int (d_234_147 C V s gg w k (dP C) 0 (Int32.ofInt 0))), (6, .int (if (d_235 (d_234_147 C V s gg w k (dP C) 0 (Int32.ofInt 0))) < (dN C k) then Int32.ofInt 0 else Int32.ofInt 1))] [.int a3] h204) ∧ (¬ ((if (d_235 (d_234_147 C V s gg w k (dP C) 0 (Int32.ofInt 0))) < (dN C k) then Int32.ofInt 0 else Int32.ofInt 1) = 0) → pz_S 8 (some .int) am_r234 4 Q 268 [(0, .ref 154), (1, .int (Int32.ofInt 0)), (2, .int w), (3, .int a3), (4, .int (nI k)), (5, .int (d_234_147 C V s gg w k (dP C) 0 (Int32.ofInt 0))), (6, .int (if (d_235 (d_234_147 C V s gg w k (dP C) 0 (Int32.ofInt 0))) < (dN C k) then Int32.ofInt 0 else Int32.ofInt 1))] [.int a3] h204) from ⟨fun c212 => ?_, fun c212 => ?_⟩)
      · refine am_goX 1 (show pz_S 8 (some .int) am_r234 4 Q 276 [(0, .ref 154), (1, .int (Int32.ofInt 0)), (2, .int w), (3, .int a3), (4, .int (nI k)), (5, .int (d_234_147 C V s gg w k (dP C) 0 (Int32.ofInt 0))), (6, .int (if (d_235 (d_234_147 C V s gg w k (dP C) 0 (Int32.ofInt 0))) < (dN C k) then Int32.ofInt 0 else Int32.ofInt 1))] [.int (Int32.ofInt 0), .int a3] h204 from ?_)
        exact sv_S2 sv2_234 (by intro q hq; simp only [List.mem_cons, List.not_mem_nil, or_false] at hq; rcases hq with rfl | rfl | rfl | rfl | rfl <;> rfl) (key _ (if_pos c212).symm)
      · refine am_goX 4 (show pz_S 8 (some .int) am_r234 4 Q 276 [(0, .ref 154), (1, .int (Int32.ofInt 0)), (2, .int w), (3, .int a3), (4, .int (nI k)), (5, .int (d_234_147 C V s gg w k (dP C) 0 (Int32.ofInt 0))), (6, .int (if (d_235 (d_234_147 C V s gg w k (dP C) 0 (Int32.ofInt 0))) < (dN C k) then Int32.ofInt 0 else Int32.ofInt 1))] [.int ((Int32.ofInt 1) <<< ((nI k) &&& 31)), .int a3] h204 from ?_)
        exact sv_S2 sv2_234 (by intro q hq; simp only [List.mem_cons, List.not_mem_nil, or_false] at hq; rcases hq with rfl | rfl | rfl | rfl | rfl <;> rfl) (key _ (if_neg c212).symm)
    intro v213 e214
    subst e214
    refine am_goX 4 (show 3 < 8 ∧ 7 < 8 ∧ pz_S 8 (some .int) am_r234 4 Q 281 [(7, .int (Int32.ofInt 0)), (3, .int (a3 ||| (if (if (d_235 (d_234_147 C V s gg w k (dP C) 0 (Int32.ofInt 0))) < (dN C k) then Int32.ofInt 0 else Int32.ofInt 1) = 0 then Int32.ofInt 0 else (Int32.ofInt 1) <<< ((nI k) &&& 31)))), (0, .ref 154), (1, .int (Int32.ofInt 0)), (2, .int w), (4, .int (nI k)), (5, .int (d_234_147 C V s gg w k (dP C) 0 (Int32.ofInt 0)))] [] h204 from ⟨by decide, by decide, ?_⟩)
    refine sv_S2 sv2_234 (by intro q hq; simp only [List.mem_cons, List.not_mem_nil, or_false] at hq; rcases hq with rfl | rfl | rfl | rfl | rfl | rfl | rfl <;> rfl) (d_234_281_g0 (a3 ||| (if (if (d_235 (d_234_147 C V s gg w k (dP C) 0 (Int32.ofInt 0))) < (dN C k) then Int32.ofInt 0 else Int32.ofInt 1) = 0 then Int32.ofInt 0 else (Int32.ofInt 1) <<< ((nI k) &&& 31))) k (d_234_147 C V s gg w k (dP C) 0 (Int32.ofInt 0)) (dP C) 0 (sSH (sSA s k (d_234_147 C V s gg w k (dP C) 0 (Int32.ofInt 0))) k (((sSA s k (d_234_147 C V s gg w k (dP C) 0 (Int32.ofInt 0))).2.2.2.2.1 k) + (if (if (d_235 (d_234_147 C V s gg w k (dP C) 0 (Int32.ofInt 0))) < (dN C k) then Int32.ofInt 0 else Int32.ofInt 1) = 0 then Int32.ofInt 0 else Int32.ofInt 1))) _ (by omega) f205 f206 f207 f208 f209 f210 f211 (fun h215 f216 f217 f218 f219 f220 f221 f222 => ?_))
    refine am_goX 2 (show 4 < 8 ∧ pz_S 8 (some .int) am_r234 4 Q 132 [(4, .int ((nI k) + (Int32.ofInt 1))), (0, .ref 154), (1, .int (Int32.ofInt 0)), (2, .int w), (3, .int (a3 ||| (if (if (d_235 (d_234_147 C V s gg w k (dP C) 0 (Int32.ofInt 0))) < (dN C k) then Int32.ofInt 0 else Int32.ofInt 1) = 0 then Int32.ofInt 0 else (Int32.ofInt 1) <<< ((nI k) &&& 31))))] [] h215 from ⟨by decide, ?_⟩)
    rw [show (nI k) + (Int32.ofInt 1) = nI (k + 1) from (dn_a rfl rfl)]
    exact sv_S2 sv2_234 (by intro q hq; simp only [List.mem_cons, List.not_mem_nil, or_false] at hq; rcases hq with rfl | rfl | rfl | rfl | rfl <;> rfl) (ih (k + 1) (a3 ||| (if (if (d_235 (d_234_147 C V s gg w k (dP C) 0 (Int32.ofInt 0))) < (dN C k) then Int32.ofInt 0 else Int32.ofInt 1) = 0 then Int32.ofInt 0 else (Int32.ofInt 1) <<< ((nI k) &&& 31))) (d_234_281 C (d_234_147 C V s gg w k (dP C) 0 (Int32.ofInt 0)) (dP C) 0 (sSH (sSA s k (d_234_147 C V s gg w k (dP C) 0 (Int32.ofInt 0))) k (((sSA s k (d_234_147 C V s gg w k (dP C) 0 (Int32.ofInt 0))).2.2.2.2.1 k) + (if (if (d_235 (d_234_147 C V s gg w k (dP C) 0 (Int32.ofInt 0))) < (dN C k) then Int32.ofInt 0 else Int32.ofInt 1) = 0 then Int32.ofInt 0 else Int32.ofInt 1)))) _ (by omega) f216 f217 f218 f219 f220 f221 f222 hZ)
def d_234_s (C V : sp_C) (s : dS) (w : Int32) : dS := (d_234_132 C V ((d_234_19 C w (dP C) 0 (sSD s (s.1 + (Int32.ofInt 1))) (Int32.ofInt 0)).2) w (dE C) 0 (Int32.ofInt 0) ((d_234_19 C w (dP C) 0 (sSD s (s.1 + (Int32.ofInt 1))) (Int32.ofInt 0)).1)).2
def d_234_gg (C V : sp_C) (s : dS) (w : Int32) : Int32 := (d_234_19 C w (dP C) 0 (sSD s (s.1 + (Int32.ofInt 1))) (Int32.ofInt 0)).2
def d_234 (C V : sp_C) (s : dS) (w : Int32) : Int32 := (d_234_132 C V ((d_234_19 C w (dP C) 0 (sSD s (s.1 + (Int32.ofInt 1))) (Int32.ofInt 0)).2) w (dE C) 0 (Int32.ofInt 0) ((d_234_19 C w (dP C) 0 (sSD s (s.1 + (Int32.ofInt 1))) (Int32.ofInt 0)).1)).1
theorem d_234_g0 (hP : ex_P h) (hI : cI C) (hT : tR C h) (hO : ∀ e, e < dE C → h.1 172 e = dW V e) (hS : sR 0 (dP C) s h) (hX : fR h0 h) (hG : h.1 154 28 = gg)  (hQ : ∀ h1, (ex_P h1) → (cI C) → (tR C h1) → (∀ e, e < dE C → h1.1 172 e = dW V e) → (sR 0 (dP C) (d_234_s C V s w) h1) → (fR h0 h1) → (h1.1 154 28 = (d_234_gg C V s w)) → Q (some (.int (d_234 C V s w))) h1) : am_call am_cod 5 234 [.ref 154, .int (Int32.ofInt 0), .int w] h Q := by
  have h6 := hT.1.2.1
  have h5 := hT.2.1.2.1
  refine pz_call (n := 234) (nL := 8) (rt := (some .int)) (rows := am_r234) (d := 4) (by decide +kernel) (by decide +kernel) rfl (by funext pc; rfl) (ex_175 hP) (by exact Nat.le_of_ble_eq_true rfl) ?_
  refine am_goX 2 (show am_sh h 154 = some (11, 0) ∧ pz_S 8 (some .int) am_r234 4 Q 4 [(0, .ref 154), (1, .int (Int32.ofInt 0)), (2, .int w)] [am_rf (h.2.2.1 154 24)] h from ⟨ex_154 hP, ?_⟩)
  rw [show am_rf (h.2.2.1 154 24) = .ref 170 from congrArg am_rf (ex_r154_24 hP)]
  refine am_goX 5 (show (Value.int ((Int32.ofInt 0) + (Int32.ofInt 0))).category = 1 ∧ (Value.ref 170).category = 1 ∧ ∃ jj nn : Nat, am_sh h 170 = some (13, nn) ∧ jj < nn ∧ (Int32.ofInt 0) + (Int32.ofInt 0) = nI jj ∧ pz_S 8 (some .int) am_r234 4 Q 9 [(0, .ref 154), (1, .int (Int32.ofInt 0)), (2, .int w)] [.int (h.1 170 jj), .int ((Int32.ofInt 0) + (Int32.ofInt 0)), .ref 170] h from ⟨rfl, rfl, ⟨0, 1127, ex_170 hP, (by omega), (dn_a rfl rfl), ?_⟩⟩)
  rw [show h.1 170 0 = s.1 from hS.1.1]
  refine am_goX 3 (show ∃ jj nn : Nat, am_so h 170 = some (13, nn) ∧ jj < nn ∧ (Int32.ofInt 0) + (Int32.ofInt 0) = nI jj ∧ pz_S 8 (some .int) am_r234 4 Q 12 [(0, .ref 154), (1, .int (Int32.ofInt 0)), (2, .int w)] [] (am_wI h 170 jj (s.1 + (Int32.ofInt 1))) from ⟨0, 1127, ex_w170 hP, (by omega), (dn_a rfl rfl), ?_⟩)
  have f92 : ex_P (am_wI h 170 0 (s.1 + (Int32.ofInt 1))) := hP
  have f93 : cI C := hI
  have f94 : tR C (am_wI h 170 0 (s.1 + (Int32.ofInt 1))) := tR_w (by omega) hT
  have f95 : ∀ e, e < dE C → (am_wI h 170 0 (s.1 + (Int32.ofInt 1))).1 172 e = dW V e := on_w (by omega) hO
  have f96 : sR 0 (dP C) (sSD s (s.1 + (Int32.ofInt 1))) (am_wI h 170 0 (s.1 + (Int32.ofInt 1))) := sR_wD (by omega) hS
  have f97 : fR h0 (am_wI h 170 0 (s.1 + (Int32.ofInt 1))) := fR_w (by omega) hX
  have f98 : (am_wI h 170 0 (s.1 + (Int32.ofInt 1))).1 154 28 = gg := (em_wn _ _ (by omega)).trans hG
  generalize am_wI h 170 0 (s.1 + (Int32.ofInt 1)) = h91 at f92 f93 f94 f95 f96 f97 f98 ⊢
  refine am_goX 3 (show am_sh h91 154 = some (11, 0) ∧ narrow (am_fty 11 28) (.int (Int32.ofInt 0)) = .int (Int32.ofInt 0) ∧ fits (am_fty 11 28) (.int (Int32.ofInt 0)) = true ∧ pz_S 8 (some .int) am_r234 4 Q 17 [(0, .ref 154), (1, .int (Int32.ofInt 0)), (2, .int w)] [] (am_wI h91 154 28 (Int32.ofInt 0)) from ⟨ex_154 f92, rfl, rfl, ?_⟩)
  have f100 : ex_P (am_wI h91 154 28 (Int32.ofInt 0)) := f92
  have f101 : cI C := f93
  have f102 : tR C (am_wI h91 154 28 (Int32.ofInt 0)) := tR_w (by omega) f94
  have f103 : ∀ e, e < dE C → (am_wI h91 154 28 (Int32.ofInt 0)).1 172 e = dW V e := on_w (by omega) f95
  have f104 : sR 0 (dP C) (sSD s (s.1 + (Int32.ofInt 1))) (am_wI h91 154 28 (Int32.ofInt 0)) := sR_o (by omega) f96
  have f105 : fR h0 (am_wI h91 154 28 (Int32.ofInt 0)) := fR_w (by omega) f97
  have f106 : (am_wI h91 154 28 (Int32.ofInt 0)).1 154 28 = (Int32.ofInt 0) := em_we _ _ _ _
  generalize am_wI h91 154 28 (Int32.ofInt 0) = h99 at f100 f101 f102 f103 f104 f105 f106 ⊢
  refine am_goX 2 (show 3 < 8 ∧ pz_S 8 (some .int) am_r234 4 Q 19 [(3, .int (Int32.ofInt 0)), (0, .ref 154), (1, .int (Int32.ofInt 0)), (2, .int w)] [] h99 from ⟨by decide, ?_⟩)
  refine sv_S2 sv2_234 (by intro q hq; simp only [List.mem_cons, List.not_mem_nil, or_false] at hq; rcases hq with rfl | rfl | rfl | rfl <;> rfl) (d_234_19_g0 (dP C) 0 (sSD s (s.1 + (Int32.ofInt 1))) (Int32.ofInt 0) _ (by omega) f100 f101 f102 f103 f104 f105 f106 (fun h182 f183 f184 f185 f186 f187 f188 f189 => ?_))
  refine am_goX 4 (show 3 < 8 ∧ 4 < 8 ∧ pz_S 8 (some .int) am_r234 4 Q 132 [(4, .int (Int32.ofInt 0)), (3, .int (Int32.ofInt 0)), (0, .ref 154), (1, .int (Int32.ofInt 0)), (2, .int w)] [] h182 from ⟨by decide, by decide, ?_⟩)
  refine sv_S2 sv2_234 (by intro q hq; simp only [List.mem_cons, List.not_mem_nil, or_false] at hq; rcases hq with rfl | rfl | rfl | rfl | rfl <;> rfl) (d_234_132_g0 (dE C) 0 (Int32.ofInt 0) ((d_234_19 C w (dP C) 0 (sSD s (s.1 + (Int32.ofInt 1))) (Int32.ofInt 0)).1) _ (by omega) f183 f184 f185 f186 f187 f188 f189 (fun h223 f224 f225 f226 f227 f228 f229 f230 => ?_))
  exact am_goX 2 (show (∃ ty, (some .int) = some ty ∧ narrow ty (.int ((d_234_132 C V ((d_234_19 C w (dP C) 0 (sSD s (s.1 + (Int32.ofInt 1))) (Int32.ofInt 0)).2) w (dE C) 0 (Int32.ofInt 0) ((d_234_19 C w (dP C) 0 (sSD s (s.1 + (Int32.ofInt 1))) (Int32.ofInt 0)).1)).1)) = .int ((d_234_132 C V ((d_234_19 C w (dP C) 0 (sSD s (s.1 + (Int32.ofInt 1))) (Int32.ofInt 0)).2) w (dE C) 0 (Int32.ofInt 0) ((d_234_19 C w (dP C) 0 (sSD s (s.1 + (Int32.ofInt 1))) (Int32.ofInt 0)).1)).1)) ∧ h223.2.2.2.2 = 175 ∧ _ from ⟨⟨.int, rfl, rfl⟩, ex_175 f224, hQ _ f224 f225 f226 f227 f228 f229 f230⟩)
theorem q_234_r0 (hP : ex_P h) (hI : cI C) (hT : tR C h) (hO : ∀ e, e < dE C → h.1 172 e = dW V e) (hS : sR 0 (dP C) s h) (hX : fR h0 h) (hQ : ∀ h1, (ex_P h1) → (cI C) → (tR C h1) → (∀ e, e < dE C → h1.1 172 e = dW V e) → (sR 0 (dP C) (d_234_s C V s w) h1) → (fR h0 h1) → Q (some (.int (d_234 C V s w))) h1) : am_call am_cod 5 234 [.ref 154, .int (Int32.ofInt 0), .int w] h Q :=
  d_234_g0 (gg := h.1 154 28) hP hI hT hO hS hX rfl (fun h1 khP khI khT khO khS khX _ => hQ h1 khP khI khT khO khS khX)
def d_233_s (C V : sp_C) (s : dS) : dS := d_234_s C V s (d_224 C (s.1 + (Int32.ofInt 1)))
def d_233 (C V : sp_C) (s : dS) : Int32 := d_234 C V s (d_224 C (s.1 + (Int32.ofInt 1)))
theorem d_233_r0 (hP : ex_P h) (hI : cI C) (hT : tR C h) (hO : ∀ e, e < dE C → h.1 172 e = dW V e) (hS : sR 0 (dP C) s h) (hX : fR h0 h)  (hQ : ∀ h1, (ex_P h1) → (cI C) → (tR C h1) → (∀ e, e < dE C → h1.1 172 e = dW V e) → (sR 0 (dP C) (d_233_s C V s) h1) → (fR h0 h1) → Q (some (.int (d_233 C V s))) h1) : am_call am_cod 6 233 [.ref 154, .int (Int32.ofInt 0)] h Q := by
  have h6 := hT.1.2.1
  have h5 := hT.2.1.2.1
  refine pz_call (n := 233) (nL := 2) (rt := (some .int)) (rows := am_r233) (d := 5) (by decide +kernel) (by decide +kernel) rfl (by funext pc; rfl) (ex_175 hP) (by exact Nat.le_of_ble_eq_true rfl) ?_
  refine am_goX 5 (show am_sh h 154 = some (11, 0) ∧ pz_S 2 (some .int) am_r233 5 Q 7 [(0, .ref 154), (1, .int (Int32.ofInt 0))] [am_rf (h.2.2.1 154 24), .ref 154, .int (Int32.ofInt 0), .ref 154] h from ⟨ex_154 hP, ?_⟩)
  rw [show am_rf (h.2.2.1 154 24) = .ref 170 from congrArg am_rf (ex_r154_24 hP)]
  refine am_goX 4 (show ∃ jj nn : Nat, am_sh h 170 = some (13, nn) ∧ jj < nn ∧ (Int32.ofInt 0) + (Int32.ofInt 0) = nI jj ∧ pz_S 2 (some .int) am_r233 5 Q 11 [(0, .ref 154), (1, .int (Int32.ofInt 0))] [.int (h.1 170 jj), .ref 154, .int (Int32.ofInt 0), .ref 154] h from ⟨0, 1127, ex_170 hP, (by omega), (dn_a rfl rfl), ?_⟩)
  rw [show h.1 170 0 = s.1 from hS.1.1]
  refine am_goX 3 (show am_rc h 154 11 ∧ 2 ≤ 8 ∧ h.2.2.2.2 + am_al 224 ≤ 175 ∧ am_call am_cod 5 224 [.ref 154, .int (s.1 + (Int32.ofInt 1))] h (fun vv h' => pz_S 2 (some .int) am_r233 5 Q 16 [(0, .ref 154), (1, .int (Int32.ofInt 0))] (vv.toList ++ [.int (Int32.ofInt 0), .ref 154]) h') from ⟨Or.inl ⟨by decide, ex_154 hP⟩, by decide, ex_lim hP rfl, am_call.up (d_224_r hP hT ?_) (by decide)⟩)
  refine am_goX 1 (show am_rc h 154 11 ∧ 0 ≤ 8 ∧ h.2.2.2.2 + am_al 234 ≤ 175 ∧ am_call am_cod 5 234 [.ref 154, .int (Int32.ofInt 0), .int (d_224 C (s.1 + (Int32.ofInt 1)))] h (fun vv h' => pz_S 2 (some .int) am_r233 5 Q 19 [(0, .ref 154), (1, .int (Int32.ofInt 0))] (vv.toList ++ []) h') from ⟨Or.inl ⟨by decide, ex_154 hP⟩, by decide, ex_lim hP rfl, am_call.up (q_234_r0 hP hI hT hO hS hX (fun h231 f232 f233 f234 f235 f236 f237 => ?_)) (by decide)⟩)
  exact am_goX 1 (show (∃ ty, (some .int) = some ty ∧ narrow ty (.int (d_234 C V s (d_224 C (s.1 + (Int32.ofInt 1))))) = .int (d_234 C V s (d_224 C (s.1 + (Int32.ofInt 1))))) ∧ h231.2.2.2.2 = 175 ∧ _ from ⟨⟨.int, rfl, rfl⟩, ex_175 f232, hQ _ f232 f233 f234 f235 f236 f237⟩)
theorem d_234_19_g1029 : ∀ (m k : Nat) (s : dS) (gg : Int32) (h : am_H), k + m = dP C → (ex_P h) → (cI C) → (tR C h) → (∀ e, e < dE C → h.1 172 e = dW V e) → (sR 0 (dP C) u h) → (sR 1029 (dP C) s h) → (h.1 154 28 = gg) → (∀ h1, (ex_P h1) → (cI C) → (tR C h1) → (∀ e, e < dE C → h1.1 172 e = dW V e) → (sR 0 (dP C) u h1) → (sR 1029 (dP C) ((d_234_19 C w m k s gg).1) h1) → (h1.1 154 28 = ((d_234_19 C w m k s gg).2)) → pz_S 8 (some .int) am_r234 4 Q 127 [(0, .ref 154), (1, .int ((Int16.ofInt 1029).toInt32)), (2, .int w)] [] h1) → pz_S 8 (some .int) am_r234 4 Q 19 [(0, .ref 154), (1, .int ((Int16.ofInt 1029).toInt32)), (2, .int w), (3, .int (nI k))] [] h := by
  intro m
  induction m with
  | zero =>
    intro k s gg h hk hP hI hT hO hN hS hG hZ
    have h6 := hT.1.2.1
    have h5 := hT.2.1.2.1
    have hA : h.1 168 0 = (h.1 168 0) ∧ h.1 168 1 = (h.1 168 1) ∧ h.1 168 2 = (h.1 168 2) ∧ h.1 168 3 = (h.1 168 3) := ⟨rfl, rfl, rfl, rfl⟩
    refine am_goX 3 (show am_rc h 154 11 ∧ 1 ≤ 8 ∧ h.2.2.2.2 + am_al 186 ≤ 175 ∧ am_call am_cod 4 186 [.ref 154] h (fun vv h' => pz_S 8 (some .int) am_r234 4 Q 24 [(0, .ref 154), (1, .int ((Int16.ofInt 1029).toInt32)), (2, .int w), (3, .int (nI k))] (vv.toList ++ [.int (nI k)]) h') from ⟨Or.inl ⟨by decide, ex_154 hP⟩, by decide, ex_lim hP rfl, am_call.up (d_186_r hP hT ?_) (by decide)⟩)
    refine am_goX 1 (show ((nI (dP C)) ≤ (nI k) → pz_S 8 (some .int) am_r234 4 Q 127 [(0, .ref 154), (1, .int ((Int16.ofInt 1029).toInt32)), (2, .int w), (3, .int (nI k))] [] h) ∧ (¬ ((nI (dP C)) ≤ (nI k)) → pz_S 8 (some .int) am_r234 4 Q 27 [(0, .ref 154), (1, .int ((Int16.ofInt 1029).toInt32)), (2, .int w), (3, .int (nI k))] [] h) from ⟨fun _ => ?_, fun hz => absurd (show nI (dP C) ≤ nI k from nI_le (by omega) (by omega)) hz⟩)
    exact sv_S2 sv2_234 (by intro q hq; simp only [List.mem_cons, List.not_mem_nil, or_false] at hq; rcases hq with rfl | rfl | rfl <;> rfl) (hZ _ hP hI hT hO hN hS hG)
  | succ m ih =>
    intro k s gg h hk hP hI hT hO hN hS hG hZ
    have h6 := hT.1.2.1
    have h5 := hT.2.1.2.1
    have hA : h.1 168 0 = (h.1 168 0) ∧ h.1 168 1 = (h.1 168 1) ∧ h.1 168 2 = (h.1 168 2) ∧ h.1 168 3 = (h.1 168 3) := ⟨rfl, rfl, rfl, rfl⟩
    refine am_goX 3 (show am_rc h 154 11 ∧ 1 ≤ 8 ∧ h.2.2.2.2 + am_al 186 ≤ 175 ∧ am_call am_cod 4 186 [.ref 154] h (fun vv h' => pz_S 8 (some .int) am_r234 4 Q 24 [(0, .ref 154), (1, .int ((Int16.ofInt 1029).toInt32)), (2, .int w), (3, .int (nI k))] (vv.toList ++ [.int (nI k)]) h') from ⟨Or.inl ⟨by decide, ex_154 hP⟩, by decide, ex_lim hP rfl, am_call.up (d_186_r hP hT ?_) (by decide)⟩)
    refine am_goX 1 (show ((nI (dP C)) ≤ (nI k) → pz_S 8 (some .int) am_r234 4 Q 127 [(0, .ref 154), (1, .int ((Int16.ofInt 1029).toInt32)), (2, .int w), (3, .int (nI k))] [] h) ∧ (¬ ((nI (dP C)) ≤ (nI k)) → pz_S 8 (some .int) am_r234 4 Q 27 [(0, .ref 154), (1, .int ((Int16.ofInt 1029).toInt32)), (2, .int w), (3, .int (nI k))] [] h) from ⟨fun hz => absurd hz (show ¬ (nI (dP C) ≤ nI k) by rw [nI_leI (by omega) (by omega)]; omega), fun _ => ?_⟩)
    refine am_goX 2 (show am_sh h 154 = some (11, 0) ∧ pz_S 8 (some .int) am_r234 4 Q 31 [(0, .ref 154), (1, .int ((Int16.ofInt 1029).toInt32)), (2, .int w), (3, .int (nI k))] [am_rf (h.2.2.1 154 22)] h from ⟨ex_154 hP, ?_⟩)
    rw [show am_rf (h.2.2.1 154 22) = .ref 168 from congrArg am_rf (ex_r154_22 hP)]
    refine am_goX 5 (show am_rc h 154 11 ∧ 2 ≤ 8 ∧ h.2.2.2.2 + am_al 223 ≤ 175 ∧ am_call am_cod 4 223 [.ref 154, .int ((Int16.ofInt 1029).toInt32), .int (nI k)] h (fun vv h' => pz_S 8 (some .int) am_r234 4 Q 38 [(0, .ref 154), (1, .int ((Int16.ofInt 1029).toInt32)), (2, .int w), (3, .int (nI k))] (vv.toList ++ [.int (Int32.ofInt 0), .ref 168]) h') from ⟨Or.inl ⟨by decide, ex_154 hP⟩, by decide, ex_lim hP rfl, am_call.up (d_223_r1029 hP hI hT hO hN hS (by omega) ?_) (by decide)⟩)
    refine am_goX 1 (show ∃ jj nn : Nat, am_so h 168 = some (13, nn) ∧ jj < nn ∧ Int32.ofInt 0 = nI jj ∧ pz_S 8 (some .int) am_r234 4 Q 39 [(0, .ref 154), (1, .int ((Int16.ofInt 1029).toInt32)), (2, .int w), (3, .int (nI k))] [] (am_wI h 168 jj (d_223 C s k)) from ⟨0, 4, ex_w168 hP, (by omega), rfl, ?_⟩)
    have f255 : ex_P (am_wI h 168 0 (d_223 C s k)) := hP
    have f256 : cI C := hI
    have f257 : tR C (am_wI h 168 0 (d_223 C s k)) := tR_w (by omega) hT
    have f258 : ∀ e, e < dE C → (am_wI h 168 0 (d_223 C s k)).1 172 e = dW V e := on_w (by omega) hO
    have f259 : sR 0 (dP C) u (am_wI h 168 0 (d_223 C s k)) := sR_o (by omega) hN
    have f260 : sR 1029 (dP C) s (am_wI h 168 0 (d_223 C s k)) := sR_o (by omega) hS
    have f261 : (am_wI h 168 0 (d_223 C s k)).1 154 28 = gg := (em_wn _ _ (by omega)).trans hG
    have f262 : (am_wI h 168 0 (d_223 C s k)).1 168 0 = (d_223 C s k) ∧ (am_wI h 168 0 (d_223 C s k)).1 168 1 = (h.1 168 1) ∧ (am_wI h 168 0 (d_223 C s k)).1 168 2 = (h.1 168 2) ∧ (am_wI h 168 0 (d_223 C s k)).1 168 3 = (h.1 168 3) := fa_w0 hA
    generalize am_wI h 168 0 (d_223 C s k) = h254 at f255 f256 f257 f258 f259 f260 f261 f262 ⊢
    refine am_goX 2 (show am_sh h254 154 = some (11, 0) ∧ pz_S 8 (some .int) am_r234 4 Q 43 [(0, .ref 154), (1, .int ((Int16.ofInt 1029).toInt32)), (2, .int w), (3, .int (nI k))] [am_rf (h254.2.2.1 154 22)] h254 from ⟨ex_154 f255, ?_⟩)
    rw [show am_rf (h254.2.2.1 154 22) = .ref 168 from congrArg am_rf (ex_r154_22 f255)]
    refine am_goX 3 (show am_sh h254 154 = some (11, 0) ∧ pz_S 8 (some .int) am_r234 4 Q 48 [(0, .ref 154), (1, .int ((Int16.ofInt 1029).toInt32)), (2, .int w), (3, .int (nI k))] [am_rf (h254.2.2.1 154 24), .int (Int32.ofInt 1), .ref 168] h254 from ⟨ex_154 f255, ?_⟩)
    rw [show am_rf (h254.2.2.1 154 24) = .ref 170 from congrArg am_rf (ex_r154_24 f255)]
    refine am_goX 4 (show ∃ jj nn : Nat, am_sh h254 170 = some (13, nn) ∧ jj < nn ∧ ((Int16.ofInt 1029).toInt32) + (Int32.ofInt 0) = nI jj ∧ pz_S 8 (some .int) am_r234 4 Q 52 [(0, .ref 154), (1, .int ((Int16.ofInt 1029).toInt32)), (2, .int w), (3, .int (nI k))] [.int (h254.1 170 jj), .int (Int32.ofInt 1), .ref 168] h254 from ⟨1029, 1127, ex_170 f255, (by omega), (dn_a (show (Int16.ofInt 1029).toInt32 = nI 1029 by decide) rfl), ?_⟩)
    rw [show h254.1 170 1029 = s.1 from f260.1.1]
    refine am_goX 3 (show ¬ ((Int8.ofInt 7).toInt32) = 0 ∧ ∃ jj nn : Nat, am_so h254 168 = some (13, nn) ∧ jj < nn ∧ Int32.ofInt 1 = nI jj ∧ pz_S 8 (some .int) am_r234 4 Q 56 [(0, .ref 154), (1, .int ((Int16.ofInt 1029).toInt32)), (2, .int w), (3, .int (nI k))] [] (am_wI h254 168 jj (s.1 / ((Int8.ofInt 7).toInt32))) from ⟨by decide, 1, 4, ex_w168 f255, (by omega), rfl, ?_⟩)
    have f264 : ex_P (am_wI h254 168 1 (s.1 / ((Int8.ofInt 7).toInt32))) := f255
    have f265 : cI C := f256
    have f266 : tR C (am_wI h254 168 1 (s.1 / ((Int8.ofInt 7).toInt32))) := tR_w (by omega) f257
    have f267 : ∀ e, e < dE C → (am_wI h254 168 1 (s.1 / ((Int8.ofInt 7).toInt32))).1 172 e = dW V e := on_w (by omega) f258
    have f268 : sR 0 (dP C) u (am_wI h254 168 1 (s.1 / ((Int8.ofInt 7).toInt32))) := sR_o (by omega) f259
    have f269 : sR 1029 (dP C) s (am_wI h254 168 1 (s.1 / ((Int8.ofInt 7).toInt32))) := sR_o (by omega) f260
    have f270 : (am_wI h254 168 1 (s.1 / ((Int8.ofInt 7).toInt32))).1 154 28 = gg := (em_wn _ _ (by omega)).trans f261
    have f271 : (am_wI h254 168 1 (s.1 / ((Int8.ofInt 7).toInt32))).1 168 0 = (d_223 C s k) ∧ (am_wI h254 168 1 (s.1 / ((Int8.ofInt 7).toInt32))).1 168 1 = (s.1 / ((Int8.ofInt 7).toInt32)) ∧ (am_wI h254 168 1 (s.1 / ((Int8.ofInt 7).toInt32))).1 168 2 = (h.1 168 2) ∧ (am_wI h254 168 1 (s.1 / ((Int8.ofInt 7).toInt32))).1 168 3 = (h.1 168 3) := fa_w1 f262
    generalize am_wI h254 168 1 (s.1 / ((Int8.ofInt 7).toInt32)) = h263 at f264 f265 f266 f267 f268 f269 f270 f271 ⊢
    refine am_goX 2 (show am_sh h263 154 = some (11, 0) ∧ pz_S 8 (some .int) am_r234 4 Q 60 [(0, .ref 154), (1, .int ((Int16.ofInt 1029).toInt32)), (2, .int w), (3, .int (nI k))] [am_rf (h263.2.2.1 154 22)] h263 from ⟨ex_154 f264, ?_⟩)
    rw [show am_rf (h263.2.2.1 154 22) = .ref 168 from congrArg am_rf (ex_r154_22 f264)]
    refine am_goX 3 (show am_sh h263 154 = some (11, 0) ∧ pz_S 8 (some .int) am_r234 4 Q 65 [(0, .ref 154), (1, .int ((Int16.ofInt 1029).toInt32)), (2, .int w), (3, .int (nI k))] [am_rf (h263.2.2.1 154 24), .int (Int32.ofInt 2), .ref 168] h263 from ⟨ex_154 f264, ?_⟩)
    rw [show am_rf (h263.2.2.1 154 24) = .ref 170 from congrArg am_rf (ex_r154_24 f264)]
    refine am_goX 6 (show ∃ jj nn : Nat, am_sh h263 170 = some (13, nn) ∧ jj < nn ∧ (((Int16.ofInt 1029).toInt32) + ((Int8.ofInt 8).toInt32)) + (nI k) = nI jj ∧ pz_S 8 (some .int) am_r234 4 Q 72 [(0, .ref 154), (1, .int ((Int16.ofInt 1029).toInt32)), (2, .int w), (3, .int (nI k))] [.int (h263.1 170 jj), .int (Int32.ofInt 2), .ref 168] h263 from ⟨(1037 + k), 1127, ex_170 f264, (by omega), (dn_a (dn_a (show (Int16.ofInt 1029).toInt32 = nI 1029 by decide) (show (Int8.ofInt 8).toInt32 = nI 8 by decide)) rfl), ?_⟩)
    rw [show h263.1 170 (1037 + k) = s.2.2.2.1 k from (by rw [show (1037 + k) = 1029 + 8 + k by omega]; exact f269.2.2.1 k (by omega))]
    refine am_goX 1 (show 2 ≤ 8 ∧ h263.2.2.2.2 + am_al 235 ≤ 175 ∧ am_call am_cod 4 235 [.int (s.2.2.2.1 k)] h263 (fun vv h' => pz_S 8 (some .int) am_r234 4 Q 75 [(0, .ref 154), (1, .int ((Int16.ofInt 1029).toInt32)), (2, .int w), (3, .int (nI k))] (vv.toList ++ [.int (Int32.ofInt 2), .ref 168]) h') from ⟨by decide, ex_lim f264 rfl, am_call.up (d_235_w f264 ?_) (by decide)⟩)
    refine am_goX 1 (show ∃ jj nn : Nat, am_so h263 168 = some (13, nn) ∧ jj < nn ∧ Int32.ofInt 2 = nI jj ∧ pz_S 8 (some .int) am_r234 4 Q 76 [(0, .ref 154), (1, .int ((Int16.ofInt 1029).toInt32)), (2, .int w), (3, .int (nI k))] [] (am_wI h263 168 jj (d_235 (s.2.2.2.1 k))) from ⟨2, 4, ex_w168 f264, (by omega), rfl, ?_⟩)
    have f273 : ex_P (am_wI h263 168 2 (d_235 (s.2.2.2.1 k))) := f264
    have f274 : cI C := f265
    have f275 : tR C (am_wI h263 168 2 (d_235 (s.2.2.2.1 k))) := tR_w (by omega) f266
    have f276 : ∀ e, e < dE C → (am_wI h263 168 2 (d_235 (s.2.2.2.1 k))).1 172 e = dW V e := on_w (by omega) f267
    have f277 : sR 0 (dP C) u (am_wI h263 168 2 (d_235 (s.2.2.2.1 k))) := sR_o (by omega) f268
    have f278 : sR 1029 (dP C) s (am_wI h263 168 2 (d_235 (s.2.2.2.1 k))) := sR_o (by omega) f269
    have f279 : (am_wI h263 168 2 (d_235 (s.2.2.2.1 k))).1 154 28 = gg := (em_wn _ _ (by omega)).trans f270
    have f280 : (am_wI h263 168 2 (d_235 (s.2.2.2.1 k))).1 168 0 = (d_223 C s k) ∧ (am_wI h263 168 2 (d_235 (s.2.2.2.1 k))).1 168 1 = (s.1 / ((Int8.ofInt 7).toInt32)) ∧ (am_wI h263 168 2 (d_235 (s.2.2.2.1 k))).1 168 2 = (d_235 (s.2.2.2.1 k)) ∧ (am_wI h263 168 2 (d_235 (s.2.2.2.1 k))).1 168 3 = (h.1 168 3) := fa_w2 f271
    generalize am_wI h263 168 2 (d_235 (s.2.2.2.1 k)) = h272 at f273 f274 f275 f276 f277 f278 f279 f280 ⊢
    refine am_goX 2 (show am_sh h272 154 = some (11, 0) ∧ pz_S 8 (some .int) am_r234 4 Q 80 [(0, .ref 154), (1, .int ((Int16.ofInt 1029).toInt32)), (2, .int w), (3, .int (nI k))] [am_rf (h272.2.2.1 154 22)] h272 from ⟨ex_154 f273, ?_⟩)
    rw [show am_rf (h272.2.2.1 154 22) = .ref 168 from congrArg am_rf (ex_r154_22 f273)]
    refine am_goX 3 (show ∃ jj nn : Nat, am_so h272 168 = some (13, nn) ∧ jj < nn ∧ Int32.ofInt 3 = nI jj ∧ pz_S 8 (some .int) am_r234 4 Q 83 [(0, .ref 154), (1, .int ((Int16.ofInt 1029).toInt32)), (2, .int w), (3, .int (nI k))] [] (am_wI h272 168 jj w) from ⟨3, 4, ex_w168 f273, (by omega), rfl, ?_⟩)
    have f282 : ex_P (am_wI h272 168 3 w) := f273
    have f283 : cI C := f274
    have f284 : tR C (am_wI h272 168 3 w) := tR_w (by omega) f275
    have f285 : ∀ e, e < dE C → (am_wI h272 168 3 w).1 172 e = dW V e := on_w (by omega) f276
    have f286 : sR 0 (dP C) u (am_wI h272 168 3 w) := sR_o (by omega) f277
    have f287 : sR 1029 (dP C) s (am_wI h272 168 3 w) := sR_o (by omega) f278
    have f288 : (am_wI h272 168 3 w).1 154 28 = gg := (em_wn _ _ (by omega)).trans f279
    have f289 : (am_wI h272 168 3 w).1 168 0 = (d_223 C s k) ∧ (am_wI h272 168 3 w).1 168 1 = (s.1 / ((Int8.ofInt 7).toInt32)) ∧ (am_wI h272 168 3 w).1 168 2 = (d_235 (s.2.2.2.1 k)) ∧ (am_wI h272 168 3 w).1 168 3 = w := fa_w3 f280
    generalize am_wI h272 168 3 w = h281 at f282 f283 f284 f285 f286 f287 f288 f289 ⊢
    refine am_goX 3 (show (Value.ref 154).category = 1 ∧ am_sh h281 154 = some (11, 0) ∧ pz_S 8 (some .int) am_r234 4 Q 88 [(0, .ref 154), (1, .int ((Int16.ofInt 1029).toInt32)), (2, .int w), (3, .int (nI k))] [.int (h281.1 154 28), .ref 154] h281 from ⟨rfl, ex_154 f282, ?_⟩)
    rw [show h281.1 154 28 = gg from f288]
    refine am_goX 2 (show am_sh h281 154 = some (11, 0) ∧ pz_S 8 (some .int) am_r234 4 Q 92 [(0, .ref 154), (1, .int ((Int16.ofInt 1029).toInt32)), (2, .int w), (3, .int (nI k))] [am_rf (h281.2.2.1 154 10), .int gg, .ref 154] h281 from ⟨ex_154 f282, ?_⟩)
    rw [show am_rf (h281.2.2.1 154 10) = .ref 160 from congrArg am_rf (ex_r154_10 f282)]
    refine am_goX 2 (show ∃ jj nn : Nat, am_sh h281 160 = some (13, nn) ∧ jj < nn ∧ Int32.ofInt 3 = nI jj ∧ pz_S 8 (some .int) am_r234 4 Q 94 [(0, .ref 154), (1, .int ((Int16.ofInt 1029).toInt32)), (2, .int w), (3, .int (nI k))] [.int (h281.1 160 jj), .int gg, .ref 154] h281 from ⟨3, 80, ex_160 f282, (by omega), rfl, ?_⟩)
    rw [show h281.1 160 3 = dQ C from f284.2.2.2.2.2.2.2.2]
    refine am_goX 1 (show ((dQ C) < 0 → pz_S 8 (some .int) am_r234 4 Q 110 [(0, .ref 154), (1, .int ((Int16.ofInt 1029).toInt32)), (2, .int w), (3, .int (nI k))] [.int gg, .ref 154] h281) ∧ (¬ ((dQ C) < 0) → pz_S 8 (some .int) am_r234 4 Q 97 [(0, .ref 154), (1, .int ((Int16.ofInt 1029).toInt32)), (2, .int w), (3, .int (nI k))] [.int gg, .ref 154] h281) from ⟨fun c290 => ?_, fun c290 => ?_⟩)
    · refine am_goX 6 (show am_sh h281 154 = some (11, 0) ∧ narrow (am_fty 11 28) (.int (gg ||| ((Int32.ofInt 1) <<< ((nI k) &&& 31)))) = .int (gg ||| ((Int32.ofInt 1) <<< ((nI k) &&& 31))) ∧ fits (am_fty 11 28) (.int (gg ||| ((Int32.ofInt 1) <<< ((nI k) &&& 31)))) = true ∧ pz_S 8 (some .int) am_r234 4 Q 121 [(0, .ref 154), (1, .int ((Int16.ofInt 1029).toInt32)), (2, .int w), (3, .int (nI k))] [] (am_wI h281 154 28 (gg ||| ((Int32.ofInt 1) <<< ((nI k) &&& 31)))) from ⟨ex_154 f282, rfl, rfl, ?_⟩)
      have f292 : ex_P (am_wI h281 154 28 (gg ||| ((Int32.ofInt 1) <<< ((nI k) &&& 31)))) := f282
      have f293 : cI C := f283
      have f294 : tR C (am_wI h281 154 28 (gg ||| ((Int32.ofInt 1) <<< ((nI k) &&& 31)))) := tR_w (by omega) f284
      have f295 : ∀ e, e < dE C → (am_wI h281 154 28 (gg ||| ((Int32.ofInt 1) <<< ((nI k) &&& 31)))).1 172 e = dW V e := on_w (by omega) f285
      have f296 : sR 0 (dP C) u (am_wI h281 154 28 (gg ||| ((Int32.ofInt 1) <<< ((nI k) &&& 31)))) := sR_o (by omega) f286
      have f297 : sR 1029 (dP C) s (am_wI h281 154 28 (gg ||| ((Int32.ofInt 1) <<< ((nI k) &&& 31)))) := sR_o (by omega) f287
      have f298 : (am_wI h281 154 28 (gg ||| ((Int32.ofInt 1) <<< ((nI k) &&& 31)))).1 154 28 = (gg ||| ((Int32.ofInt 1) <<< ((nI k) &&& 31))) := em_we _ _ _ _
      have f299 : (am_wI h281 154 28 (gg ||| ((Int32.ofInt 1) <<< ((nI k) &&& 31)))).1 168 0 = (d_223 C s k) ∧ (am_wI h281 154 28 (gg ||| ((Int32.ofInt 1) <<< ((nI k) &&& 31)))).1 168 1 = (s.1 / ((Int8.ofInt 7).toInt32)) ∧ (am_wI h281 154 28 (gg ||| ((Int32.ofInt 1) <<< ((nI k) &&& 31)))).1 168 2 = (d_235 (s.2.2.2.1 k)) ∧ (am_wI h281 154 28 (gg ||| ((Int32.ofInt 1) <<< ((nI k) &&& 31)))).1 168 3 = w := fo_w (by omega) f289
      generalize am_wI h281 154 28 (gg ||| ((Int32.ofInt 1) <<< ((nI k) &&& 31))) = h291 at f292 f293 f294 f295 f296 f297 f298 f299 ⊢
      refine am_goX 2 (show 3 < 8 ∧ pz_S 8 (some .int) am_r234 4 Q 19 [(3, .int ((nI k) + (Int32.ofInt 1))), (0, .ref 154), (1, .int ((Int16.ofInt 1029).toInt32)), (2, .int w)] [] h291 from ⟨by decide, ?_⟩)
      rw [show d_234_19 C w (m + 1) k s gg = d_234_19 C w m (k + 1) s (gg ||| ((Int32.ofInt 1) <<< ((nI k) &&& 31))) from if_pos c290] at hZ
      rw [show (nI k) + (Int32.ofInt 1) = nI (k + 1) from (dn_a rfl rfl)]
      exact sv_S2 sv2_234 (by intro q hq; simp only [List.mem_cons, List.not_mem_nil, or_false] at hq; rcases hq with rfl | rfl | rfl | rfl <;> rfl) (ih (k + 1) s (gg ||| ((Int32.ofInt 1) <<< ((nI k) &&& 31))) _ (by omega) f292 f293 f294 f295 f296 f297 f298 hZ)
    · refine am_goX 3 (show am_sh h281 154 = some (11, 0) ∧ pz_S 8 (some .int) am_r234 4 Q 102 [(0, .ref 154), (1, .int ((Int16.ofInt 1029).toInt32)), (2, .int w), (3, .int (nI k))] [am_rf (h281.2.2.1 154 10), .ref 154, .int gg, .ref 154] h281 from ⟨ex_154 f282, ?_⟩)
      rw [show am_rf (h281.2.2.1 154 10) = .ref 160 from congrArg am_rf (ex_r154_10 f282)]
      refine am_goX 2 (show ∃ jj nn : Nat, am_sh h281 160 = some (13, nn) ∧ jj < nn ∧ Int32.ofInt 3 = nI jj ∧ pz_S 8 (some .int) am_r234 4 Q 104 [(0, .ref 154), (1, .int ((Int16.ofInt 1029).toInt32)), (2, .int w), (3, .int (nI k))] [.int (h281.1 160 jj), .ref 154, .int gg, .ref 154] h281 from ⟨3, 80, ex_160 f282, (by omega), rfl, ?_⟩)
      rw [show h281.1 160 3 = dQ C from f284.2.2.2.2.2.2.2.2]
      refine am_goX 1 (show am_rc h281 154 11 ∧ 2 ≤ 8 ∧ h281.2.2.2.2 + am_al 236 ≤ 175 ∧ am_call am_cod 4 236 [.ref 154, .int (dQ C)] h281 (fun vv h' => pz_S 8 (some .int) am_r234 4 Q 107 [(0, .ref 154), (1, .int ((Int16.ofInt 1029).toInt32)), (2, .int w), (3, .int (nI k))] (vv.toList ++ [.int gg, .ref 154]) h') from ⟨Or.inl ⟨by decide, ex_154 f282⟩, by decide, ex_lim f282 rfl, am_call.up (q_236 (a := (d_223 C s k)) (b := (s.1 / ((Int8.ofInt 7).toInt32))) (c := (d_235 (s.2.2.2.1 k))) (d := w) f282 f283 f284 f289 c290 (fun h300 l301 => ?_)) (by decide)⟩)
      have f302 : ex_P h300 := lfr_P l301 f282
      have f303 : cI C := f283
      have f304 : tR C h300 := lfr_r l301 f284
      have f305 : ∀ e, e < dE C → h300.1 172 e = dW V e := lfr_on l301 f285
      have f306 : sR 0 (dP C) u h300 := lfr_sR l301 (by omega) f286
      have f307 : sR 1029 (dP C) s h300 := lfr_sR l301 (by omega) f287
      have f308 : h300.1 154 28 = gg := (l301.2 _ _ (by decide)).trans f288
      have f309 : h300.1 168 0 = (d_223 C s k) ∧ h300.1 168 1 = (s.1 / ((Int8.ofInt 7).toInt32)) ∧ h300.1 168 2 = (d_235 (s.2.2.2.1 k)) ∧ h300.1 168 3 = w := ⟨(l301.2 _ _ (by decide)).trans f289.1, (l301.2 _ _ (by decide)).trans f289.2.1, (l301.2 _ _ (by decide)).trans f289.2.2.1, (l301.2 _ _ (by decide)).trans f289.2.2.2⟩
      refine am_goX 1 (show ((dlaw C (d_223 C s k) (s.1 / ((Int8.ofInt 7).toInt32)) (d_235 (s.2.2.2.1 k)) w) = 0 → pz_S 8 (some .int) am_r234 4 Q 116 [(0, .ref 154), (1, .int ((Int16.ofInt 1029).toInt32)), (2, .int w), (3, .int (nI k))] [.int gg, .ref 154] h300) ∧ (¬ ((dlaw C (d_223 C s k) (s.1 / ((Int8.ofInt 7).toInt32)) (d_235 (s.2.2.2.1 k)) w) = 0) → pz_S 8 (some .int) am_r234 4 Q 110 [(0, .ref 154), (1, .int ((Int16.ofInt 1029).toInt32)), (2, .int w), (3, .int (nI k))] [.int gg, .ref 154] h300) from ⟨fun c310 => ?_, fun c310 => ?_⟩)
      · refine am_goX 3 (show am_sh h300 154 = some (11, 0) ∧ narrow (am_fty 11 28) (.int (gg ||| (Int32.ofInt 0))) = .int (gg ||| (Int32.ofInt 0)) ∧ fits (am_fty 11 28) (.int (gg ||| (Int32.ofInt 0))) = true ∧ pz_S 8 (some .int) am_r234 4 Q 121 [(0, .ref 154), (1, .int ((Int16.ofInt 1029).toInt32)), (2, .int w), (3, .int (nI k))] [] (am_wI h300 154 28 (gg ||| (Int32.ofInt 0))) from ⟨ex_154 f302, rfl, rfl, ?_⟩)
        have f312 : ex_P (am_wI h300 154 28 (gg ||| (Int32.ofInt 0))) := f302
        have f313 : cI C := f303
        have f314 : tR C (am_wI h300 154 28 (gg ||| (Int32.ofInt 0))) := tR_w (by omega) f304
        have f315 : ∀ e, e < dE C → (am_wI h300 154 28 (gg ||| (Int32.ofInt 0))).1 172 e = dW V e := on_w (by omega) f305
        have f316 : sR 0 (dP C) u (am_wI h300 154 28 (gg ||| (Int32.ofInt 0))) := sR_o (by omega) f306
        have f317 : sR 1029 (dP C) s (am_wI h300 154 28 (gg ||| (Int32.ofInt 0))) := sR_o (by omega) f307
        have f318 : (am_wI h300 154 28 (gg ||| (Int32.ofInt 0))).1 154 28 = (gg ||| (Int32.ofInt 0)) := em_we _ _ _ _
        have f319 : (am_wI h300 154 28 (gg ||| (Int32.ofInt 0))).1 168 0 = (d_223 C s k) ∧ (am_wI h300 154 28 (gg ||| (Int32.ofInt 0))).1 168 1 = (s.1 / ((Int8.ofInt 7).toInt32)) ∧ (am_wI h300 154 28 (gg ||| (Int32.ofInt 0))).1 168 2 = (d_235 (s.2.2.2.1 k)) ∧ (am_wI h300 154 28 (gg ||| (Int32.ofInt 0))).1 168 3 = w := fo_w (by omega) f309
        generalize am_wI h300 154 28 (gg ||| (Int32.ofInt 0)) = h311 at f312 f313 f314 f315 f316 f317 f318 f319 ⊢
        refine am_goX 2 (show 3 < 8 ∧ pz_S 8 (some .int) am_r234 4 Q 19 [(3, .int ((nI k) + (Int32.ofInt 1))), (0, .ref 154), (1, .int ((Int16.ofInt 1029).toInt32)), (2, .int w)] [] h311 from ⟨by decide, ?_⟩)
        rw [show d_234_19 C w (m + 1) k s gg = d_234_19 C w m (k + 1) s (gg ||| (Int32.ofInt 0)) from (if_neg c290).trans (if_pos c310)] at hZ
        rw [show (nI k) + (Int32.ofInt 1) = nI (k + 1) from (dn_a rfl rfl)]
        exact sv_S2 sv2_234 (by intro q hq; simp only [List.mem_cons, List.not_mem_nil, or_false] at hq; rcases hq with rfl | rfl | rfl | rfl <;> rfl) (ih (k + 1) s (gg ||| (Int32.ofInt 0)) _ (by omega) f312 f313 f314 f315 f316 f317 f318 hZ)
      · refine am_goX 6 (show am_sh h300 154 = some (11, 0) ∧ narrow (am_fty 11 28) (.int (gg ||| ((Int32.ofInt 1) <<< ((nI k) &&& 31)))) = .int (gg ||| ((Int32.ofInt 1) <<< ((nI k) &&& 31))) ∧ fits (am_fty 11 28) (.int (gg ||| ((Int32.ofInt 1) <<< ((nI k) &&& 31)))) = true ∧ pz_S 8 (some .int) am_r234 4 Q 121 [(0, .ref 154), (1, .int ((Int16.ofInt 1029).toInt32)), (2, .int w), (3, .int (nI k))] [] (am_wI h300 154 28 (gg ||| ((Int32.ofInt 1) <<< ((nI k) &&& 31)))) from ⟨ex_154 f302, rfl, rfl, ?_⟩)
        have f321 : ex_P (am_wI h300 154 28 (gg ||| ((Int32.ofInt 1) <<< ((nI k) &&& 31)))) := f302
        have f322 : cI C := f303
        have f323 : tR C (am_wI h300 154 28 (gg ||| ((Int32.ofInt 1) <<< ((nI k) &&& 31)))) := tR_w (by omega) f304
        have f324 : ∀ e, e < dE C → (am_wI h300 154 28 (gg ||| ((Int32.ofInt 1) <<< ((nI k) &&& 31)))).1 172 e = dW V e := on_w (by omega) f305
        have f325 : sR 0 (dP C) u (am_wI h300 154 28 (gg ||| ((Int32.ofInt 1) <<< ((nI k) &&& 31)))) := sR_o (by omega) f306
        have f326 : sR 1029 (dP C) s (am_wI h300 154 28 (gg ||| ((Int32.ofInt 1) <<< ((nI k) &&& 31)))) := sR_o (by omega) f307
        have f327 : (am_wI h300 154 28 (gg ||| ((Int32.ofInt 1) <<< ((nI k) &&& 31)))).1 154 28 = (gg ||| ((Int32.ofInt 1) <<< ((nI k) &&& 31))) := em_we _ _ _ _
        have f328 : (am_wI h300 154 28 (gg ||| ((Int32.ofInt 1) <<< ((nI k) &&& 31)))).1 168 0 = (d_223 C s k) ∧ (am_wI h300 154 28 (gg ||| ((Int32.ofInt 1) <<< ((nI k) &&& 31)))).1 168 1 = (s.1 / ((Int8.ofInt 7).toInt32)) ∧ (am_wI h300 154 28 (gg ||| ((Int32.ofInt 1) <<< ((nI k) &&& 31)))).1 168 2 = (d_235 (s.2.2.2.1 k)) ∧ (am_wI h300 154 28 (gg ||| ((Int32.ofInt 1) <<< ((nI k) &&& 31)))).1 168 3 = w := fo_w (by omega) f309
        generalize am_wI h300 154 28 (gg ||| ((Int32.ofInt 1) <<< ((nI k) &&& 31))) = h320 at f321 f322 f323 f324 f325 f326 f327 f328 ⊢
        refine am_goX 2 (show 3 < 8 ∧ pz_S 8 (some .int) am_r234 4 Q 19 [(3, .int ((nI k) + (Int32.ofInt 1))), (0, .ref 154), (1, .int ((Int16.ofInt 1029).toInt32)), (2, .int w)] [] h320 from ⟨by decide, ?_⟩)
        rw [show d_234_19 C w (m + 1) k s gg = d_234_19 C w m (k + 1) s (gg ||| ((Int32.ofInt 1) <<< ((nI k) &&& 31))) from (if_neg c290).trans (if_neg c310)] at hZ
        rw [show (nI k) + (Int32.ofInt 1) = nI (k + 1) from (dn_a rfl rfl)]
        exact sv_S2 sv2_234 (by intro q hq; simp only [List.mem_cons, List.not_mem_nil, or_false] at hq; rcases hq with rfl | rfl | rfl | rfl <;> rfl) (ih (k + 1) s (gg ||| ((Int32.ofInt 1) <<< ((nI k) &&& 31))) _ (by omega) f321 f322 f323 f324 f325 f326 f327 hZ)
theorem d_234_147_g1029 (x3 : Int32) (n4 : Nat) (hP : ex_P h) (hI : cI C) (hT : tR C h) (hO : ∀ e, e < dE C → h.1 172 e = dW V e) (hN : sR 0 (dP C) u h) (hS : sR 1029 (dP C) s h) (hG : h.1 154 28 = gg) (he : n4 < dE C) : ∀ (m k : Nat) (a5 : Int32), k + m = dP C → (pz_S 8 (some .int) am_r234 4 Q 201 [(0, .ref 154), (1, .int ((Int16.ofInt 1029).toInt32)), (2, .int w), (3, .int x3), (4, .int (nI n4)), (5, .int (d_234_147 C V s gg w n4 m k a5))] [] h) → pz_S 8 (some .int) am_r234 4 Q 147 [(0, .ref 154), (1, .int ((Int16.ofInt 1029).toInt32)), (2, .int w), (3, .int x3), (4, .int (nI n4)), (5, .int a5), (6, .int (nI k))] [] h := by
  intro m
  induction m with
  | zero =>
    intro k a5 hk hZ
    have h6 := hT.1.2.1
    have h5 := hT.2.1.2.1
    refine am_goX 3 (show am_rc h 154 11 ∧ 1 ≤ 8 ∧ h.2.2.2.2 + am_al 186 ≤ 175 ∧ am_call am_cod 4 186 [.ref 154] h (fun vv h' => pz_S 8 (some .int) am_r234 4 Q 153 [(0, .ref 154), (1, .int ((Int16.ofInt 1029).toInt32)), (2, .int w), (3, .int x3), (4, .int (nI n4)), (5, .int a5), (6, .int (nI k))] (vv.toList ++ [.int (nI k)]) h') from ⟨Or.inl ⟨by decide, ex_154 hP⟩, by decide, ex_lim hP rfl, am_call.up (d_186_r hP hT ?_) (by decide)⟩)
    refine am_goX 1 (show ((nI (dP C)) ≤ (nI k) → pz_S 8 (some .int) am_r234 4 Q 201 [(0, .ref 154), (1, .int ((Int16.ofInt 1029).toInt32)), (2, .int w), (3, .int x3), (4, .int (nI n4)), (5, .int a5), (6, .int (nI k))] [] h) ∧ (¬ ((nI (dP C)) ≤ (nI k)) → pz_S 8 (some .int) am_r234 4 Q 156 [(0, .ref 154), (1, .int ((Int16.ofInt 1029).toInt32)), (2, .int w), (3, .int x3), (4, .int (nI n4)), (5, .int a5), (6, .int (nI k))] [] h) from ⟨fun _ => ?_, fun hz => absurd (show nI (dP C) ≤ nI k from nI_le (by omega) (by omega)) hz⟩)
    exact sv_S2 sv2_234 (by intro q hq; simp only [List.mem_cons, List.not_mem_nil, or_false] at hq; rcases hq with rfl | rfl | rfl | rfl | rfl | rfl <;> rfl) (hZ)
  | succ m ih =>
    intro k a5 hk hZ
    have h6 := hT.1.2.1
    have h5 := hT.2.1.2.1
    refine am_goX 3 (show am_rc h 154 11 ∧ 1 ≤ 8 ∧ h.2.2.2.2 + am_al 186 ≤ 175 ∧ am_call am_cod 4 186 [.ref 154] h (fun vv h' => pz_S 8 (some .int) am_r234 4 Q 153 [(0, .ref 154), (1, .int ((Int16.ofInt 1029).toInt32)), (2, .int w), (3, .int x3), (4, .int (nI n4)), (5, .int a5), (6, .int (nI k))] (vv.toList ++ [.int (nI k)]) h') from ⟨Or.inl ⟨by decide, ex_154 hP⟩, by decide, ex_lim hP rfl, am_call.up (d_186_r hP hT ?_) (by decide)⟩)
    refine am_goX 1 (show ((nI (dP C)) ≤ (nI k) → pz_S 8 (some .int) am_r234 4 Q 201 [(0, .ref 154), (1, .int ((Int16.ofInt 1029).toInt32)), (2, .int w), (3, .int x3), (4, .int (nI n4)), (5, .int a5), (6, .int (nI k))] [] h) ∧ (¬ ((nI (dP C)) ≤ (nI k)) → pz_S 8 (some .int) am_r234 4 Q 156 [(0, .ref 154), (1, .int ((Int16.ofInt 1029).toInt32)), (2, .int w), (3, .int x3), (4, .int (nI n4)), (5, .int a5), (6, .int (nI k))] [] h) from ⟨fun hz => absurd hz (show ¬ (nI (dP C) ≤ nI k) by rw [nI_leI (by omega) (by omega)]; omega), fun _ => ?_⟩)
    refine am_goX 3 (show am_sh h 154 = some (11, 0) ∧ pz_S 8 (some .int) am_r234 4 Q 162 [(0, .ref 154), (1, .int ((Int16.ofInt 1029).toInt32)), (2, .int w), (3, .int x3), (4, .int (nI n4)), (5, .int a5), (6, .int (nI k))] [.int (h.1 154 28), .int a5] h from ⟨ex_154 hP, ?_⟩)
    rw [show h.1 154 28 = gg from hG]
    suffices key : ∀ (v338 : Int32), v338 = (if ¬ ((gg >>> ((nI k) &&& 31)) &&& (Int32.ofInt 1)) = (Int32.ofInt 1) then Int32.ofInt 0 else (if (d_238 C V s k n4 w) = 0 then Int32.ofInt 0 else (Int32.ofInt 1) <<< ((nI k) &&& 31))) → pz_S 8 (some .int) am_r234 4 Q 192 [(0, .ref 154), (1, .int ((Int16.ofInt 1029).toInt32)), (2, .int w), (3, .int x3), (4, .int (nI n4)), (6, .int (nI k))] [.int v338, .int a5] h by
      refine am_goX 6 (show (¬ ((gg >>> ((nI k) &&& 31)) &&& (Int32.ofInt 1)) = (Int32.ofInt 1) → pz_S 8 (some .int) am_r234 4 Q 191 [(0, .ref 154), (1, .int ((Int16.ofInt 1029).toInt32)), (2, .int w), (3, .int x3), (4, .int (nI n4)), (5, .int a5), (6, .int (nI k))] [.int a5] h) ∧ (¬ ¬ ((gg >>> ((nI k) &&& 31)) &&& (Int32.ofInt 1)) = (Int32.ofInt 1) → pz_S 8 (some .int) am_r234 4 Q 171 [(0, .ref 154), (1, .int ((Int16.ofInt 1029).toInt32)), (2, .int w), (3, .int x3), (4, .int (nI n4)), (5, .int a5), (6, .int (nI k))] [.int a5] h) from ⟨fun c337 => ?_, fun c337 => ?_⟩)
      · refine am_goX 1 (show pz_S 8 (some .int) am_r234 4 Q 192 [(0, .ref 154), (1, .int ((Int16.ofInt 1029).toInt32)), (2, .int w), (3, .int x3), (4, .int (nI n4)), (5, .int a5), (6, .int (nI k))] [.int (Int32.ofInt 0), .int a5] h from ?_)
        exact sv_S2 sv2_234 (by intro q hq; simp only [List.mem_cons, List.not_mem_nil, or_false] at hq; rcases hq with rfl | rfl | rfl | rfl | rfl | rfl <;> rfl) (key _ (if_pos c337).symm)
      · refine am_goX 6 (show am_rc h 154 11 ∧ 1 ≤ 8 ∧ h.2.2.2.2 + am_al 238 ≤ 175 ∧ am_call am_cod 4 238 [.ref 154, .int ((Int16.ofInt 1029).toInt32), .int (nI k), .int (nI n4), .int w] h (fun vv h' => pz_S 8 (some .int) am_r234 4 Q 181 [(0, .ref 154), (1, .int ((Int16.ofInt 1029).toInt32)), (2, .int w), (3, .int x3), (4, .int (nI n4)), (5, .int a5), (6, .int (nI k))] (vv.toList ++ [.int a5]) h') from ⟨Or.inl ⟨by decide, ex_154 hP⟩, by decide, ex_lim hP rfl, am_call.up (d_238_r1029 hP hI hT hO hN hS (by omega) (by omega) ?_) (by decide)⟩)
        suffices key : ∀ (v340 : Int32), v340 = (if (d_238 C V s k n4 w) = 0 then Int32.ofInt 0 else (Int32.ofInt 1) <<< ((nI k) &&& 31)) → pz_S 8 (some .int) am_r234 4 Q 192 [(0, .ref 154), (1, .int ((Int16.ofInt 1029).toInt32)), (2, .int w), (3, .int x3), (4, .int (nI n4)), (6, .int (nI k))] [.int v340, .int a5] h by
          refine am_goX 1 (show ((d_238 C V s k n4 w) = 0 → pz_S 8 (some .int) am_r234 4 Q 191 [(0, .ref 154), (1, .int ((Int16.ofInt 1029).toInt32)), (2, .int w), (3, .int x3), (4, .int (nI n4)), (5, .int a5), (6, .int (nI k))] [.int a5] h) ∧ (¬ ((d_238 C V s k n4 w) = 0) → pz_S 8 (some .int) am_r234 4 Q 184 [(0, .ref 154), (1, .int ((Int16.ofInt 1029).toInt32)), (2, .int w), (3, .int x3), (4, .int (nI n4)), (5, .int a5), (6, .int (nI k))] [.int a5] h) from ⟨fun c339 => ?_, fun c339 => ?_⟩)
          · refine am_goX 1 (show pz_S 8 (some .int) am_r234 4 Q 192 [(0, .ref 154), (1, .int ((Int16.ofInt 1029).toInt32)), (2, .int w), (3, .int x3), (4, .int (nI n4)), (5, .int a5), (6, .int (nI k))] [.int (Int32.ofInt 0), .int a5] h from ?_)
            exact sv_S2 sv2_234 (by intro q hq; simp only [List.mem_cons, List.not_mem_nil, or_false] at hq; rcases hq with rfl | rfl | rfl | rfl | rfl | rfl <;> rfl) (key _ (if_pos c339).symm)
          · refine am_goX 4 (show pz_S 8 (some .int) am_r234 4 Q 192 [(0, .ref 154), (1, .int ((Int16.ofInt 1029).toInt32)), (2, .int w), (3, .int x3), (4, .int (nI n4)), (5, .int a5), (6, .int (nI k))] [.int ((Int32.ofInt 1) <<< ((nI k) &&& 31)), .int a5] h from ?_)
            exact sv_S2 sv2_234 (by intro q hq; simp only [List.mem_cons, List.not_mem_nil, or_false] at hq; rcases hq with rfl | rfl | rfl | rfl | rfl | rfl <;> rfl) (key _ (if_neg c339).symm)
        intro v340 e341
        subst e341
        exact sv_S2 sv2_234 (by intro q hq; simp only [List.mem_cons, List.not_mem_nil, or_false] at hq; rcases hq with rfl | rfl | rfl | rfl | rfl | rfl <;> rfl) (key _ (if_neg c337).symm)
    intro v338 e342
    subst e342
    refine am_goX 4 (show 5 < 8 ∧ 6 < 8 ∧ pz_S 8 (some .int) am_r234 4 Q 147 [(6, .int ((nI k) + (Int32.ofInt 1))), (5, .int (a5 ||| (if ¬ ((gg >>> ((nI k) &&& 31)) &&& (Int32.ofInt 1)) = (Int32.ofInt 1) then Int32.ofInt 0 else (if (d_238 C V s k n4 w) = 0 then Int32.ofInt 0 else (Int32.ofInt 1) <<< ((nI k) &&& 31))))), (0, .ref 154), (1, .int ((Int16.ofInt 1029).toInt32)), (2, .int w), (3, .int x3), (4, .int (nI n4))] [] h from ⟨by decide, by decide, ?_⟩)
    rw [show (nI k) + (Int32.ofInt 1) = nI (k + 1) from (dn_a rfl rfl)]
    exact sv_S2 sv2_234 (by intro q hq; simp only [List.mem_cons, List.not_mem_nil, or_false] at hq; rcases hq with rfl | rfl | rfl | rfl | rfl | rfl | rfl <;> rfl) (ih (k + 1) (a5 ||| (if ¬ ((gg >>> ((nI k) &&& 31)) &&& (Int32.ofInt 1)) = (Int32.ofInt 1) then Int32.ofInt 0 else (if (d_238 C V s k n4 w) = 0 then Int32.ofInt 0 else (Int32.ofInt 1) <<< ((nI k) &&& 31)))) (by omega) hZ)
theorem d_234_281_g1029 (x3 : Int32) (n4 : Nat) (x5 : Int32) : ∀ (m k : Nat) (s : dS) (h : am_H), k + m = dP C → (ex_P h) → (cI C) → (tR C h) → (∀ e, e < dE C → h.1 172 e = dW V e) → (sR 0 (dP C) u h) → (sR 1029 (dP C) s h) → (h.1 154 28 = gg) → (∀ h1, (ex_P h1) → (cI C) → (tR C h1) → (∀ e, e < dE C → h1.1 172 e = dW V e) → (sR 0 (dP C) u h1) → (sR 1029 (dP C) (d_234_281 C x5 m k s) h1) → (h1.1 154 28 = gg) → pz_S 8 (some .int) am_r234 4 Q 335 [(0, .ref 154), (1, .int ((Int16.ofInt 1029).toInt32)), (2, .int w), (3, .int x3), (4, .int (nI n4))] [] h1) → pz_S 8 (some .int) am_r234 4 Q 281 [(0, .ref 154), (1, .int ((Int16.ofInt 1029).toInt32)), (2, .int w), (3, .int x3), (4, .int (nI n4)), (5, .int x5), (7, .int (nI k))] [] h := by
  intro m
  induction m with
  | zero =>
    intro k s h hk hP hI hT hO hN hS hG hZ
    have h6 := hT.1.2.1
    have h5 := hT.2.1.2.1
    refine am_goX 3 (show am_rc h 154 11 ∧ 1 ≤ 8 ∧ h.2.2.2.2 + am_al 186 ≤ 175 ∧ am_call am_cod 4 186 [.ref 154] h (fun vv h' => pz_S 8 (some .int) am_r234 4 Q 287 [(0, .ref 154), (1, .int ((Int16.ofInt 1029).toInt32)), (2, .int w), (3, .int x3), (4, .int (nI n4)), (5, .int x5), (7, .int (nI k))] (vv.toList ++ [.int (nI k)]) h') from ⟨Or.inl ⟨by decide, ex_154 hP⟩, by decide, ex_lim hP rfl, am_call.up (d_186_r hP hT ?_) (by decide)⟩)
    refine am_goX 1 (show ((nI (dP C)) ≤ (nI k) → pz_S 8 (some .int) am_r234 4 Q 335 [(0, .ref 154), (1, .int ((Int16.ofInt 1029).toInt32)), (2, .int w), (3, .int x3), (4, .int (nI n4)), (5, .int x5), (7, .int (nI k))] [] h) ∧ (¬ ((nI (dP C)) ≤ (nI k)) → pz_S 8 (some .int) am_r234 4 Q 290 [(0, .ref 154), (1, .int ((Int16.ofInt 1029).toInt32)), (2, .int w), (3, .int x3), (4, .int (nI n4)), (5, .int x5), (7, .int (nI k))] [] h) from ⟨fun _ => ?_, fun hz => absurd (show nI (dP C) ≤ nI k from nI_le (by omega) (by omega)) hz⟩)
    exact sv_S2 sv2_234 (by intro q hq; simp only [List.mem_cons, List.not_mem_nil, or_false] at hq; rcases hq with rfl | rfl | rfl | rfl | rfl <;> rfl) (hZ _ hP hI hT hO hN hS hG)
  | succ m ih =>
    intro k s h hk hP hI hT hO hN hS hG hZ
    have h6 := hT.1.2.1
    have h5 := hT.2.1.2.1
    refine am_goX 3 (show am_rc h 154 11 ∧ 1 ≤ 8 ∧ h.2.2.2.2 + am_al 186 ≤ 175 ∧ am_call am_cod 4 186 [.ref 154] h (fun vv h' => pz_S 8 (some .int) am_r234 4 Q 287 [(0, .ref 154), (1, .int ((Int16.ofInt 1029).toInt32)), (2, .int w), (3, .int x3), (4, .int (nI n4)), (5, .int x5), (7, .int (nI k))] (vv.toList ++ [.int (nI k)]) h') from ⟨Or.inl ⟨by decide, ex_154 hP⟩, by decide, ex_lim hP rfl, am_call.up (d_186_r hP hT ?_) (by decide)⟩)
    refine am_goX 1 (show ((nI (dP C)) ≤ (nI k) → pz_S 8 (some .int) am_r234 4 Q 335 [(0, .ref 154), (1, .int ((Int16.ofInt 1029).toInt32)), (2, .int w), (3, .int x3), (4, .int (nI n4)), (5, .int x5), (7, .int (nI k))] [] h) ∧ (¬ ((nI (dP C)) ≤ (nI k)) → pz_S 8 (some .int) am_r234 4 Q 290 [(0, .ref 154), (1, .int ((Int16.ofInt 1029).toInt32)), (2, .int w), (3, .int x3), (4, .int (nI n4)), (5, .int x5), (7, .int (nI k))] [] h) from ⟨fun hz => absurd hz (show ¬ (nI (dP C) ≤ nI k) by rw [nI_leI (by omega) (by omega)]; omega), fun _ => ?_⟩)
    refine am_goX 2 (show am_sh h 154 = some (11, 0) ∧ pz_S 8 (some .int) am_r234 4 Q 294 [(0, .ref 154), (1, .int ((Int16.ofInt 1029).toInt32)), (2, .int w), (3, .int x3), (4, .int (nI n4)), (5, .int x5), (7, .int (nI k))] [am_rf (h.2.2.1 154 24)] h from ⟨ex_154 hP, ?_⟩)
    rw [show am_rf (h.2.2.1 154 24) = .ref 170 from congrArg am_rf (ex_r154_24 hP)]
    refine am_goX 7 (show (Value.int ((((Int16.ofInt 1029).toInt32) + ((Int8.ofInt 8).toInt32)) + (nI k))).category = 1 ∧ (Value.ref 170).category = 1 ∧ ∃ jj nn : Nat, am_sh h 170 = some (13, nn) ∧ jj < nn ∧ (((Int16.ofInt 1029).toInt32) + ((Int8.ofInt 8).toInt32)) + (nI k) = nI jj ∧ pz_S 8 (some .int) am_r234 4 Q 303 [(0, .ref 154), (1, .int ((Int16.ofInt 1029).toInt32)), (2, .int w), (3, .int x3), (4, .int (nI n4)), (5, .int x5), (7, .int (nI k))] [.int (h.1 170 jj), .int ((((Int16.ofInt 1029).toInt32) + ((Int8.ofInt 8).toInt32)) + (nI k)), .ref 170] h from ⟨rfl, rfl, ⟨(1037 + k), 1127, ex_170 hP, (by omega), (dn_a (dn_a (show (Int16.ofInt 1029).toInt32 = nI 1029 by decide) (show (Int8.ofInt 8).toInt32 = nI 8 by decide)) rfl), ?_⟩⟩)
    rw [show h.1 170 (1037 + k) = s.2.2.2.1 k from (by rw [show (1037 + k) = 1029 + 8 + k by omega]; exact hS.2.2.1 k (by omega))]
    suffices key : ∀ (v369 : Int32), v369 = (if ¬ ((x5 >>> ((nI k) &&& 31)) &&& (Int32.ofInt 1)) = (Int32.ofInt 1) then Int32.ofInt 0 else x5 &&& (((Int32.ofInt 1) <<< ((nI k) &&& 31)) ^^^ (Int32.ofInt (-1)))) → pz_S 8 (some .int) am_r234 4 Q 327 [(0, .ref 154), (1, .int ((Int16.ofInt 1029).toInt32)), (2, .int w), (3, .int x3), (4, .int (nI n4)), (5, .int x5), (7, .int (nI k))] [.int v369, .int (s.2.2.2.1 k), .int ((((Int16.ofInt 1029).toInt32) + ((Int8.ofInt 8).toInt32)) + (nI k)), .ref 170] h by
      refine am_goX 7 (show (¬ ((x5 >>> ((nI k) &&& 31)) &&& (Int32.ofInt 1)) = (Int32.ofInt 1) → pz_S 8 (some .int) am_r234 4 Q 326 [(0, .ref 154), (1, .int ((Int16.ofInt 1029).toInt32)), (2, .int w), (3, .int x3), (4, .int (nI n4)), (5, .int x5), (7, .int (nI k))] [.int (s.2.2.2.1 k), .int ((((Int16.ofInt 1029).toInt32) + ((Int8.ofInt 8).toInt32)) + (nI k)), .ref 170] h) ∧ (¬ ¬ ((x5 >>> ((nI k) &&& 31)) &&& (Int32.ofInt 1)) = (Int32.ofInt 1) → pz_S 8 (some .int) am_r234 4 Q 314 [(0, .ref 154), (1, .int ((Int16.ofInt 1029).toInt32)), (2, .int w), (3, .int x3), (4, .int (nI n4)), (5, .int x5), (7, .int (nI k))] [.int (s.2.2.2.1 k), .int ((((Int16.ofInt 1029).toInt32) + ((Int8.ofInt 8).toInt32)) + (nI k)), .ref 170] h) from ⟨fun c368 => ?_, fun c368 => ?_⟩)
      · refine am_goX 1 (show pz_S 8 (some .int) am_r234 4 Q 327 [(0, .ref 154), (1, .int ((Int16.ofInt 1029).toInt32)), (2, .int w), (3, .int x3), (4, .int (nI n4)), (5, .int x5), (7, .int (nI k))] [.int (Int32.ofInt 0), .int (s.2.2.2.1 k), .int ((((Int16.ofInt 1029).toInt32) + ((Int8.ofInt 8).toInt32)) + (nI k)), .ref 170] h from ?_)
        exact sv_S2 sv2_234 (by intro q hq; simp only [List.mem_cons, List.not_mem_nil, or_false] at hq; rcases hq with rfl | rfl | rfl | rfl | rfl | rfl | rfl <;> rfl) (key _ (if_pos c368).symm)
      · refine am_goX 8 (show pz_S 8 (some .int) am_r234 4 Q 327 [(0, .ref 154), (1, .int ((Int16.ofInt 1029).toInt32)), (2, .int w), (3, .int x3), (4, .int (nI n4)), (5, .int x5), (7, .int (nI k))] [.int (x5 &&& (((Int32.ofInt 1) <<< ((nI k) &&& 31)) ^^^ (Int32.ofInt (-1)))), .int (s.2.2.2.1 k), .int ((((Int16.ofInt 1029).toInt32) + ((Int8.ofInt 8).toInt32)) + (nI k)), .ref 170] h from ?_)
        exact sv_S2 sv2_234 (by intro q hq; simp only [List.mem_cons, List.not_mem_nil, or_false] at hq; rcases hq with rfl | rfl | rfl | rfl | rfl | rfl | rfl <;> rfl) (key _ (if_neg c368).symm)
    intro v369 e370
    subst e370
    refine am_goX 2 (show ∃ jj nn : Nat, am_so h 170 = some (13, nn) ∧ jj < nn ∧ (((Int16.ofInt 1029).toInt32) + ((Int8.ofInt 8).toInt32)) + (nI k) = nI jj ∧ pz_S 8 (some .int) am_r234 4 Q 329 [(0, .ref 154), (1, .int ((Int16.ofInt 1029).toInt32)), (2, .int w), (3, .int x3), (4, .int (nI n4)), (5, .int x5), (7, .int (nI k))] [] (am_wI h 170 jj ((s.2.2.2.1 k) ||| (if ¬ ((x5 >>> ((nI k) &&& 31)) &&& (Int32.ofInt 1)) = (Int32.ofInt 1) then Int32.ofInt 0 else x5 &&& (((Int32.ofInt 1) <<< ((nI k) &&& 31)) ^^^ (Int32.ofInt (-1)))))) from ⟨(1037 + k), 1127, ex_w170 hP, (by omega), (dn_a (dn_a (show (Int16.ofInt 1029).toInt32 = nI 1029 by decide) (show (Int8.ofInt 8).toInt32 = nI 8 by decide)) rfl), ?_⟩)
    have f372 : ex_P (am_wI h 170 (1037 + k) ((s.2.2.2.1 k) ||| (if ¬ ((x5 >>> ((nI k) &&& 31)) &&& (Int32.ofInt 1)) = (Int32.ofInt 1) then Int32.ofInt 0 else x5 &&& (((Int32.ofInt 1) <<< ((nI k) &&& 31)) ^^^ (Int32.ofInt (-1)))))) := hP
    have f373 : cI C := hI
    have f374 : tR C (am_wI h 170 (1037 + k) ((s.2.2.2.1 k) ||| (if ¬ ((x5 >>> ((nI k) &&& 31)) &&& (Int32.ofInt 1)) = (Int32.ofInt 1) then Int32.ofInt 0 else x5 &&& (((Int32.ofInt 1) <<< ((nI k) &&& 31)) ^^^ (Int32.ofInt (-1)))))) := tR_w (by omega) hT
    have f375 : ∀ e, e < dE C → (am_wI h 170 (1037 + k) ((s.2.2.2.1 k) ||| (if ¬ ((x5 >>> ((nI k) &&& 31)) &&& (Int32.ofInt 1)) = (Int32.ofInt 1) then Int32.ofInt 0 else x5 &&& (((Int32.ofInt 1) <<< ((nI k) &&& 31)) ^^^ (Int32.ofInt (-1)))))).1 172 e = dW V e := on_w (by omega) hO
    have f376 : sR 0 (dP C) u (am_wI h 170 (1037 + k) ((s.2.2.2.1 k) ||| (if ¬ ((x5 >>> ((nI k) &&& 31)) &&& (Int32.ofInt 1)) = (Int32.ofInt 1) then Int32.ofInt 0 else x5 &&& (((Int32.ofInt 1) <<< ((nI k) &&& 31)) ^^^ (Int32.ofInt (-1)))))) := sR_q (by omega) hN
    have f377 : sR 1029 (dP C) (sSM s k ((s.2.2.2.1 k) ||| (if ¬ ((x5 >>> ((nI k) &&& 31)) &&& (Int32.ofInt 1)) = (Int32.ofInt 1) then Int32.ofInt 0 else x5 &&& (((Int32.ofInt 1) <<< ((nI k) &&& 31)) ^^^ (Int32.ofInt (-1)))))) (am_wI h 170 (1037 + k) ((s.2.2.2.1 k) ||| (if ¬ ((x5 >>> ((nI k) &&& 31)) &&& (Int32.ofInt 1)) = (Int32.ofInt 1) then Int32.ofInt 0 else x5 &&& (((Int32.ofInt 1) <<< ((nI k) &&& 31)) ^^^ (Int32.ofInt (-1)))))) := sR_wM (i := k) (by omega) (by omega) hS
    have f378 : (am_wI h 170 (1037 + k) ((s.2.2.2.1 k) ||| (if ¬ ((x5 >>> ((nI k) &&& 31)) &&& (Int32.ofInt 1)) = (Int32.ofInt 1) then Int32.ofInt 0 else x5 &&& (((Int32.ofInt 1) <<< ((nI k) &&& 31)) ^^^ (Int32.ofInt (-1)))))).1 154 28 = gg := (em_wn _ _ (by omega)).trans hG
    generalize am_wI h 170 (1037 + k) ((s.2.2.2.1 k) ||| (if ¬ ((x5 >>> ((nI k) &&& 31)) &&& (Int32.ofInt 1)) = (Int32.ofInt 1) then Int32.ofInt 0 else x5 &&& (((Int32.ofInt 1) <<< ((nI k) &&& 31)) ^^^ (Int32.ofInt (-1))))) = h371 at f372 f373 f374 f375 f376 f377 f378 ⊢
    refine am_goX 2 (show 7 < 8 ∧ pz_S 8 (some .int) am_r234 4 Q 281 [(7, .int ((nI k) + (Int32.ofInt 1))), (0, .ref 154), (1, .int ((Int16.ofInt 1029).toInt32)), (2, .int w), (3, .int x3), (4, .int (nI n4)), (5, .int x5)] [] h371 from ⟨by decide, ?_⟩)
    rw [show (nI k) + (Int32.ofInt 1) = nI (k + 1) from (dn_a rfl rfl)]
    exact sv_S2 sv2_234 (by intro q hq; simp only [List.mem_cons, List.not_mem_nil, or_false] at hq; rcases hq with rfl | rfl | rfl | rfl | rfl | rfl | rfl <;> rfl) (ih (k + 1) (sSM s k ((s.2.2.2.1 k) ||| (if ¬ ((x5 >>> ((nI k) &&& 31)) &&& (Int32.ofInt 1)) = (Int32.ofInt 1) then Int32.ofInt 0 else x5 &&& (((Int32.ofInt 1) <<< ((nI k) &&& 31)) ^^^ (Int32.ofInt (-1)))))) _ (by omega) f372 f373 f374 f375 f376 f377 f378 hZ)
theorem d_234_132_g1029 : ∀ (m k : Nat) (a3 : Int32) (s : dS) (h : am_H), k + m = dE C → (ex_P h) → (cI C) → (tR C h) → (∀ e, e < dE C → h.1 172 e = dW V e) → (sR 0 (dP C) u h) → (sR 1029 (dP C) s h) → (h.1 154 28 = gg) → (∀ h1, (ex_P h1) → (cI C) → (tR C h1) → (∀ e, e < dE C → h1.1 172 e = dW V e) → (sR 0 (dP C) u h1) → (sR 1029 (dP C) ((d_234_132 C V gg w m k a3 s).2) h1) → (h1.1 154 28 = gg) → pz_S 8 (some .int) am_r234 4 Q 341 [(3, .int ((d_234_132 C V gg w m k a3 s).1))] [] h1) → pz_S 8 (some .int) am_r234 4 Q 132 [(0, .ref 154), (1, .int ((Int16.ofInt 1029).toInt32)), (2, .int w), (3, .int a3), (4, .int (nI k))] [] h := by
  intro m
  induction m with
  | zero =>
    intro k a3 s h hk hP hI hT hO hN hS hG hZ
    have h6 := hT.1.2.1
    have h5 := hT.2.1.2.1
    refine am_goX 3 (show am_rc h 154 11 ∧ 1 ≤ 8 ∧ h.2.2.2.2 + am_al 183 ≤ 175 ∧ am_call am_cod 4 183 [.ref 154] h (fun vv h' => pz_S 8 (some .int) am_r234 4 Q 138 [(0, .ref 154), (1, .int ((Int16.ofInt 1029).toInt32)), (2, .int w), (3, .int a3), (4, .int (nI k))] (vv.toList ++ [.int (nI k)]) h') from ⟨Or.inl ⟨by decide, ex_154 hP⟩, by decide, ex_lim hP rfl, am_call.up (d_183_r hP hT ?_) (by decide)⟩)
    refine am_goX 1 (show ((nI (dE C)) ≤ (nI k) → pz_S 8 (some .int) am_r234 4 Q 341 [(0, .ref 154), (1, .int ((Int16.ofInt 1029).toInt32)), (2, .int w), (3, .int a3), (4, .int (nI k))] [] h) ∧ (¬ ((nI (dE C)) ≤ (nI k)) → pz_S 8 (some .int) am_r234 4 Q 141 [(0, .ref 154), (1, .int ((Int16.ofInt 1029).toInt32)), (2, .int w), (3, .int a3), (4, .int (nI k))] [] h) from ⟨fun _ => ?_, fun hz => absurd (show nI (dE C) ≤ nI k from nI_le (by omega) (by omega)) hz⟩)
    exact sv_S2 sv2_234 (by intro q hq; simp only [List.mem_cons, List.not_mem_nil, or_false] at hq; rcases hq with rfl <;> rfl) (hZ _ hP hI hT hO hN hS hG)
  | succ m ih =>
    intro k a3 s h hk hP hI hT hO hN hS hG hZ
    have h6 := hT.1.2.1
    have h5 := hT.2.1.2.1
    refine am_goX 3 (show am_rc h 154 11 ∧ 1 ≤ 8 ∧ h.2.2.2.2 + am_al 183 ≤ 175 ∧ am_call am_cod 4 183 [.ref 154] h (fun vv h' => pz_S 8 (some .int) am_r234 4 Q 138 [(0, .ref 154), (1, .int ((Int16.ofInt 1029).toInt32)), (2, .int w), (3, .int a3), (4, .int (nI k))] (vv.toList ++ [.int (nI k)]) h') from ⟨Or.inl ⟨by decide, ex_154 hP⟩, by decide, ex_lim hP rfl, am_call.up (d_183_r hP hT ?_) (by decide)⟩)
    refine am_goX 1 (show ((nI (dE C)) ≤ (nI k) → pz_S 8 (some .int) am_r234 4 Q 341 [(0, .ref 154), (1, .int ((Int16.ofInt 1029).toInt32)), (2, .int w), (3, .int a3), (4, .int (nI k))] [] h) ∧ (¬ ((nI (dE C)) ≤ (nI k)) → pz_S 8 (some .int) am_r234 4 Q 141 [(0, .ref 154), (1, .int ((Int16.ofInt 1029).toInt32)), (2, .int w), (3, .int a3), (4, .int (nI k))] [] h) from ⟨fun hz => absurd hz (show ¬ (nI (dE C) ≤ nI k) by rw [nI_leI (by omega) (by omega)]; omega), fun _ => ?_⟩)
    refine am_goX 4 (show 5 < 8 ∧ 6 < 8 ∧ pz_S 8 (some .int) am_r234 4 Q 147 [(6, .int (Int32.ofInt 0)), (5, .int (Int32.ofInt 0)), (0, .ref 154), (1, .int ((Int16.ofInt 1029).toInt32)), (2, .int w), (3, .int a3), (4, .int (nI k))] [] h from ⟨by decide, by decide, ?_⟩)
    refine sv_S2 sv2_234 (by intro q hq; simp only [List.mem_cons, List.not_mem_nil, or_false] at hq; rcases hq with rfl | rfl | rfl | rfl | rfl | rfl | rfl <;> rfl) (d_234_147_g1029 a3 k hP hI hT hO hN hS hG (by omega) (dP C) 0 (Int32.ofInt 0) (by omega) ?_)
    refine am_goX 2 (show am_sh h 154 = some (11, 0) ∧ pz_S 8 (some .int) am_r234 4 Q 205 [(0, .ref 154), (1, .int ((Int16.ofInt 1029).toInt32)), (2, .int w), (3, .int a3), (4, .int (nI k)), (5, .int (d_234_147 C V s gg w k (dP C) 0 (Int32.ofInt 0)))] [am_rf (h.2.2.1 154 24)] h from ⟨ex_154 hP, ?_⟩)
    rw [show am_rf (h.2.2.1 154 24) = .ref 170 from congrArg am_rf (ex_r154_24 hP)]
    refine am_goX 7 (show ∃ jj nn : Nat, am_so h 170 = some (13, nn) ∧ jj < nn ∧ (((Int16.ofInt 1029).toInt32) + ((Int8.ofInt 19).toInt32)) + (nI k) = nI jj ∧ pz_S 8 (some .int) am_r234 4 Q 215 [(0, .ref 154), (1, .int ((Int16.ofInt 1029).toInt32)), (2, .int w), (3, .int a3), (4, .int (nI k)), (5, .int (d_234_147 C V s gg w k (dP C) 0 (Int32.ofInt 0)))] [] (am_wI h 170 jj (d_234_147 C V s gg w k (dP C) 0 (Int32.ofInt 0))) from ⟨(1048 + k), 1127, ex_w170 hP, (by omega), (dn_a (dn_a (show (Int16.ofInt 1029).toInt32 = nI 1029 by decide) (show (Int8.ofInt 19).toInt32 = nI 19 by decide)) rfl), ?_⟩)
    have f338 : ex_P (am_wI h 170 (1048 + k) (d_234_147 C V s gg w k (dP C) 0 (Int32.ofInt 0))) := hP
    have f339 : cI C := hI
    have f340 : tR C (am_wI h 170 (1048 + k) (d_234_147 C V s gg w k (dP C) 0 (Int32.ofInt 0))) := tR_w (by omega) hT
    have f341 : ∀ e, e < dE C → (am_wI h 170 (1048 + k) (d_234_147 C V s gg w k (dP C) 0 (Int32.ofInt 0))).1 172 e = dW V e := on_w (by omega) hO
    have f342 : sR 0 (dP C) u (am_wI h 170 (1048 + k) (d_234_147 C V s gg w k (dP C) 0 (Int32.ofInt 0))) := sR_q (by omega) hN
    have f343 : sR 1029 (dP C) (sSA s k (d_234_147 C V s gg w k (dP C) 0 (Int32.ofInt 0))) (am_wI h 170 (1048 + k) (d_234_147 C V s gg w k (dP C) 0 (Int32.ofInt 0))) := sR_wA (i := k) (by omega) (by omega) hS
    have f344 : (am_wI h 170 (1048 + k) (d_234_147 C V s gg w k (dP C) 0 (Int32.ofInt 0))).1 154 28 = gg := (em_wn _ _ (by omega)).trans hG
    generalize am_wI h 170 (1048 + k) (d_234_147 C V s gg w k (dP C) 0 (Int32.ofInt 0)) = h337 at f338 f339 f340 f341 f342 f343 f344 ⊢
    refine am_goX 2 (show 0 ≤ 8 ∧ h337.2.2.2.2 + am_al 235 ≤ 175 ∧ am_call am_cod 4 235 [.int (d_234_147 C V s gg w k (dP C) 0 (Int32.ofInt 0))] h337 (fun vv h' => pz_S 8 (some .int) am_r234 4 Q 220 [(0, .ref 154), (1, .int ((Int16.ofInt 1029).toInt32)), (2, .int w), (3, .int a3), (4, .int (nI k)), (5, .int (d_234_147 C V s gg w k (dP C) 0 (Int32.ofInt 0)))] (vv.toList ++ []) h') from ⟨by decide, ex_lim f338 rfl, am_call.up (d_235_w f338 ?_) (by decide)⟩)
    refine am_goX 4 (show am_rc h337 154 11 ∧ 1 ≤ 8 ∧ h337.2.2.2.2 + am_al 184 ≤ 175 ∧ am_call am_cod 4 184 [.ref 154, .int (nI k), .int (Int32.ofInt 1)] h337 (fun vv h' => pz_S 8 (some .int) am_r234 4 Q 227 [(0, .ref 154), (1, .int ((Int16.ofInt 1029).toInt32)), (2, .int w), (3, .int a3), (4, .int (nI k)), (5, .int (d_234_147 C V s gg w k (dP C) 0 (Int32.ofInt 0)))] (vv.toList ++ [.int (d_235 (d_234_147 C V s gg w k (dP C) 0 (Int32.ofInt 0)))]) h') from ⟨Or.inl ⟨by decide, ex_154 f338⟩, by decide, ex_lim f338 rfl, am_call.up (d_184_r1 f338 f340 (by omega) ?_) (by decide)⟩)
    suffices key : ∀ (v346 : Int32), v346 = (if (d_235 (d_234_147 C V s gg w k (dP C) 0 (Int32.ofInt 0))) < (dN C k) then Int32.ofInt 0 else Int32.ofInt 1) → pz_S 8 (some .int) am_r234 4 Q 235 [(0, .ref 154), (1, .int ((Int16.ofInt 1029).toInt32)), (2, .int w), (3, .int a3), (4, .int (nI k)), (5, .int (d_234_147 C V s gg w k (dP C) 0 (Int32.ofInt 0)))] [.int v346] h337 by
      refine am_goX 1 (show ((d_235 (d_234_147 C V s gg w k (dP C) 0 (Int32.ofInt 0))) < (dN C k) → pz_S 8 (some .int) am_r234 4 Q 234 [(0, .ref 154), (1, .int ((Int16.ofInt 1029).toInt32)), (2, .int w), (3, .int a3), (4, .int (nI k)), (5, .int (d_234_147 C V s gg w k (dP C) 0 (Int32.ofInt 0)))] [] h337) ∧ (¬ ((d_235 (d_234_147 C V s gg w k (dP C) 0 (Int32.ofInt 0))) < (dN C k)) → pz_S 8 (some .int) am_r234 4 Q 230 [(0, .ref 154), (1, .int ((Int16.ofInt 1029).toInt32)), (2, .int w), (3, .int a3), (4, .int (nI k)), (5, .int (d_234_147 C V s gg w k (dP C) 0 (Int32.ofInt 0)))] [] h337) from ⟨fun c345 => ?_, fun c345 => ?_⟩)
      · refine am_goX 1 (show pz_S 8 (some .int) am_r234 4 Q 235 [(0, .ref 154), (1, .int ((Int16.ofInt 1029).toInt32)), (2, .int w), (3, .int a3), (4, .int (nI k)), (5, .int (d_234_147 C V s gg w k (dP C) 0 (Int32.ofInt 0)))] [.int (Int32.ofInt 0)] h337 from ?_)
        exact sv_S2 sv2_234 (by intro q hq; simp only [List.mem_cons, List.not_mem_nil, or_false] at hq; rcases hq with rfl | rfl | rfl | rfl | rfl | rfl <;> rfl) (key _ (if_pos c345).symm)
      · refine am_goX 2 (show pz_S 8 (some .int) am_r234 4 Q 235 [(0, .ref 154), (1, .int ((Int16.ofInt 1029).toInt32)), (2, .int w), (3, .int a3), (4, .int (nI k)), (5, .int (d_234_147 C V s gg w k (dP C) 0 (Int32.ofInt 0)))] [.int (Int32.ofInt 1)] h337 from ?_)
        exact sv_S2 sv2_234 (by intro q hq; simp only [List.mem_cons, List.not_mem_nil, or_false] at hq; rcases hq with rfl | rfl | rfl | rfl | rfl | rfl <;> rfl) (key _ (if_neg c345).symm)
    intro v346 e347
    subst e347
    refine am_goX 3 (show 6 < 8 ∧ am_sh h337 154 = some (11, 0) ∧ pz_S 8 (some .int) am_r234 4 Q 241 [(6, .int (if (d_235 (d_234_147 C V s gg w k (dP C) 0 (Int32.ofInt 0))) < (dN C k) then Int32.ofInt 0 else Int32.ofInt 1)), (0, .ref 154), (1, .int ((Int16.ofInt 1029).toInt32)), (2, .int w), (3, .int a3), (4, .int (nI k)), (5, .int (d_234_147 C V s gg w k (dP C) 0 (Int32.ofInt 0)))] [am_rf (h337.2.2.1 154 24)] h337 from ⟨by decide, ex_154 f338, ?_⟩)
    rw [show am_rf (h337.2.2.1 154 24) = .ref 170 from congrArg am_rf (ex_r154_24 f338)]
    refine am_goX 7 (show (Value.int ((((Int16.ofInt 1029).toInt32) + ((Int8.ofInt 14).toInt32)) + (nI k))).category = 1 ∧ (Value.ref 170).category = 1 ∧ ∃ jj nn : Nat, am_sh h337 170 = some (13, nn) ∧ jj < nn ∧ (((Int16.ofInt 1029).toInt32) + ((Int8.ofInt 14).toInt32)) + (nI k) = nI jj ∧ pz_S 8 (some .int) am_r234 4 Q 250 [(6, .int (if (d_235 (d_234_147 C V s gg w k (dP C) 0 (Int32.ofInt 0))) < (dN C k) then Int32.ofInt 0 else Int32.ofInt 1)), (0, .ref 154), (1, .int ((Int16.ofInt 1029).toInt32)), (2, .int w), (3, .int a3), (4, .int (nI k)), (5, .int (d_234_147 C V s gg w k (dP C) 0 (Int32.ofInt 0)))] [.int (h337.1 170 jj), .int ((((Int16.ofInt 1029).toInt32) + ((Int8.ofInt 14).toInt32)) + (nI k)), .ref 170] h337 from ⟨rfl, rfl, ⟨(1043 + k), 1127, ex_170 f338, (by omega), (dn_a (dn_a (show (Int16.ofInt 1029).toInt32 = nI 1029 by decide) (show (Int8.ofInt 14).toInt32 = nI 14 by decide)) rfl), ?_⟩⟩)
    rw [show h337.1 170 (1043 + k) = (sSA s k (d_234_147 C V s gg w k (dP C) 0 (Int32.ofInt 0))).2.2.2.2.1 k from (by rw [show (1043 + k) = 1029 + 14 + k by omega]; exact (f343.2.2.2 k (by omega)).1)]
    suffices key : ∀ (v349 : Int32), v349 = (if (if (d_235 (d_234_147 C V s gg w k (dP C) 0 (Int32.ofInt 0))) < (dN C k) then Int32.ofInt 0 else Int32.ofInt 1) = 0 then Int32.ofInt 0 else Int32.ofInt 1) → pz_S 8 (some .int) am_r234 4 Q 260 [(0, .ref 154), (1, .int ((Int16.ofInt 1029).toInt32)), (2, .int w), (3, .int a3), (4, .int (nI k)), (5, .int (d_234_147 C V s gg w k (dP C) 0 (Int32.ofInt 0))), (6, .int (if (d_235 (d_234_147 C V s gg w k (dP C) 0 (Int32.ofInt 0))) < (dN C k) then Int32.ofInt 0 else Int32.ofInt 1))] [.int v349, .int ((sSA s k (d_234_147 C V s gg w k (dP C) 0 (Int32.ofInt 0))).2.2.2.2.1 k), .int ((((Int16.ofInt 1029).toInt32) + ((Int8.ofInt 14).toInt32)) + (nI k)), .ref 170] h337 by
      refine am_goX 2 (show ((if (d_235 (d_234_147 C V s gg w k (dP C) 0 (Int32.ofInt 0))) < (dN C k) then Int32.ofInt 0 else Int32.ofInt 1) = 0 → pz_S 8 (some .int) am_r234 4 Q 259 [(6, .int (if (d_235 (d_234_147 C V s gg w k (dP C) 0 (Int32.ofInt 0))) < (dN C k) then Int32.ofInt 0 else Int32.ofInt 1)), (0, .ref 154), (1, .int ((Int16.ofInt 1029).toInt32)), (2, .int w), (3, .int a3), (4, .int (nI k)), (5, .int (d_234_147 C V s gg w k (dP C) 0 (Int32.ofInt 0)))] [.int ((sSA s k (d_234_147 C V s gg w k (dP C) 0 (Int32.ofInt 0))).2.2.2.2.1 k), .int ((((Int16.ofInt 1029).toInt32) + ((Int8.ofInt 14).toInt32)) + (nI k)), .ref 170] h337) ∧ (¬ ((if (d_235 (d_234_147 C V s gg w k (dP C) 0 (Int32.ofInt 0))) < (dN C k) then Int32.ofInt 0 else Int32.ofInt 1) = 0) → pz_S 8 (some .int) am_r234 4 Q 255 [(6, .int (if (d_235 (d_234_147 C V s gg w k (dP C) 0 (Int32.ofInt 0))) < (dN C k) then Int32.ofInt 0 else Int32.ofInt 1)), (0, .ref 154), (1, .int ((Int16.ofInt 1029).toInt32)), (2, .int w), (3, .int a3), (4, .int (nI k)), (5, .int (d_234_147 C V s gg w k (dP C) 0 (Int32.ofInt 0)))] [.int ((sSA s k (d_234_147 C V s gg w k (dP C) 0 (Int32.ofInt 0))).2.2.2.2.1 k), .int ((((Int16.ofInt 1029).toInt32) + ((Int8.ofInt 14).toInt32)) + (nI k)), .ref 170] h337) from ⟨fun c348 => ?_, fun c348 => ?_⟩)
      · refine am_goX 1 (show pz_S 8 (some .int) am_r234 4 Q 260 [(6, .int (if (d_235 (d_234_147 C V s gg w k (dP C) 0 (Int32.ofInt 0))) < (dN C k) then Int32.ofInt 0 else Int32.ofInt 1)), (0, .ref 154), (1, .int ((Int16.ofInt 1029).toInt32)), (2, .int w), (3, .int a3), (4, .int (nI k)), (5, .int (d_234_147 C V s gg w k (dP C) 0 (Int32.ofInt 0)))] [.int (Int32.ofInt 0), .int ((sSA s k (d_234_147 C V s gg w k (dP C) 0 (Int32.ofInt 0))).2.2.2.2.1 k), .int ((((Int16.ofInt 1029).toInt32) + ((Int8.ofInt 14).toInt32)) + (nI k)), .ref 170] h337 from ?_)
        exact sv_S2 sv2_234 (by intro q hq; simp only [List.mem_cons, List.not_mem_nil, or_false] at hq; rcases hq with rfl | rfl | rfl | rfl | rfl | rfl | rfl <;> rfl) (key _ (if_pos c348).symm)
      · refine am_goX 2 (show pz_S 8 (some .int) am_r234 4 Q 260 [(6, .int (if (d_235 (d_234_147 C V s gg w k (dP C) 0 (Int32.ofInt 0))) < (dN C k) then Int32.ofInt 0 else Int32.ofInt 1)), (0, .ref 154), (1, .int ((Int16.ofInt 1029).toInt32)), (2, .int w), (3, .int a3), (4, .int (nI k)), (5, .int (d_234_147 C V s gg w k (dP C) 0 (Int32.ofInt 0)))] [.int (Int32.ofInt 1), .int ((sSA s k (d_234_147 C V s gg w k (dP C) 0 (Int32.ofInt 0))).2.2.2.2.1 k), .int ((((Int16.ofInt 1029).toInt32) + ((Int8.ofInt 14).toInt32)) + (nI k)), .ref 170] h337 from ?_)
        exact sv_S2 sv2_234 (by intro q hq; simp only [List.mem_cons, List.not_mem_nil, or_false] at hq; rcases hq with rfl | rfl | rfl | rfl | rfl | rfl | rfl <;> rfl) (key _ (if_neg c348).symm)
    intro v349 e350
    subst e350
    refine am_goX 2 (show ∃ jj nn : Nat, am_so h337 170 = some (13, nn) ∧ jj < nn ∧ (((Int16.ofInt 1029).toInt32) + ((Int8.ofInt 14).toInt32)) + (nI k) = nI jj ∧ pz_S 8 (some .int) am_r234 4 Q 262 [(0, .ref 154), (1, .int ((Int16.ofInt 1029).toInt32)), (2, .int w), (3, .int a3), (4, .int (nI k)), (5, .int (d_234_147 C V s gg w k (dP C) 0 (Int32.ofInt 0))), (6, .int (if (d_235 (d_234_147 C V s gg w k (dP C) 0 (Int32.ofInt 0))) < (dN C k) then Int32.ofInt 0 else Int32.ofInt 1))] [] (am_wI h337 170 jj (((sSA s k (d_234_147 C V s gg w k (dP C) 0 (Int32.ofInt 0))).2.2.2.2.1 k) + (if (if (d_235 (d_234_147 C V s gg w k (dP C) 0 (Int32.ofInt 0))) < (dN C k) then Int32.ofInt 0 else Int32.ofInt 1) = 0 then Int32.ofInt 0 else Int32.ofInt 1))) from ⟨(1043 + k), 1127, ex_w170 f338, (by omega), (dn_a (dn_a (show (Int16.ofInt 1029).toInt32 = nI 1029 by decide) (show (Int8.ofInt 14).toInt32 = nI 14 by decide)) rfl), ?_⟩)
    have f352 : ex_P (am_wI h337 170 (1043 + k) (((sSA s k (d_234_147 C V s gg w k (dP C) 0 (Int32.ofInt 0))).2.2.2.2.1 k) + (if (if (d_235 (d_234_147 C V s gg w k (dP C) 0 (Int32.ofInt 0))) < (dN C k) then Int32.ofInt 0 else Int32.ofInt 1) = 0 then Int32.ofInt 0 else Int32.ofInt 1))) := f338
    have f353 : cI C := f339
    have f354 : tR C (am_wI h337 170 (1043 + k) (((sSA s k (d_234_147 C V s gg w k (dP C) 0 (Int32.ofInt 0))).2.2.2.2.1 k) + (if (if (d_235 (d_234_147 C V s gg w k (dP C) 0 (Int32.ofInt 0))) < (dN C k) then Int32.ofInt 0 else Int32.ofInt 1) = 0 then Int32.ofInt 0 else Int32.ofInt 1))) := tR_w (by omega) f340
    have f355 : ∀ e, e < dE C → (am_wI h337 170 (1043 + k) (((sSA s k (d_234_147 C V s gg w k (dP C) 0 (Int32.ofInt 0))).2.2.2.2.1 k) + (if (if (d_235 (d_234_147 C V s gg w k (dP C) 0 (Int32.ofInt 0))) < (dN C k) then Int32.ofInt 0 else Int32.ofInt 1) = 0 then Int32.ofInt 0 else Int32.ofInt 1))).1 172 e = dW V e := on_w (by omega) f341
    have f356 : sR 0 (dP C) u (am_wI h337 170 (1043 + k) (((sSA s k (d_234_147 C V s gg w k (dP C) 0 (Int32.ofInt 0))).2.2.2.2.1 k) + (if (if (d_235 (d_234_147 C V s gg w k (dP C) 0 (Int32.ofInt 0))) < (dN C k) then Int32.ofInt 0 else Int32.ofInt 1) = 0 then Int32.ofInt 0 else Int32.ofInt 1))) := sR_q (by omega) f342
    have f357 : sR 1029 (dP C) (sSH (sSA s k (d_234_147 C V s gg w k (dP C) 0 (Int32.ofInt 0))) k (((sSA s k (d_234_147 C V s gg w k (dP C) 0 (Int32.ofInt 0))).2.2.2.2.1 k) + (if (if (d_235 (d_234_147 C V s gg w k (dP C) 0 (Int32.ofInt 0))) < (dN C k) then Int32.ofInt 0 else Int32.ofInt 1) = 0 then Int32.ofInt 0 else Int32.ofInt 1))) (am_wI h337 170 (1043 + k) (((sSA s k (d_234_147 C V s gg w k (dP C) 0 (Int32.ofInt 0))).2.2.2.2.1 k) + (if (if (d_235 (d_234_147 C V s gg w k (dP C) 0 (Int32.ofInt 0))) < (dN C k) then Int32.ofInt 0 else Int32.ofInt 1) = 0 then Int32.ofInt 0 else Int32.ofInt 1))) := sR_wH (i := k) (by omega) (by omega) f343
    have f358 : (am_wI h337 170 (1043 + k) (((sSA s k (d_234_147 C V s gg w k (dP C) 0 (Int32.ofInt 0))).2.2.2.2.1 k) + (if (if (d_235 (d_234_147 C V s gg w k (dP C) 0 (Int32.ofInt 0))) < (dN C k) then Int32.ofInt 0 else Int32.ofInt 1) = 0 then Int32.ofInt 0 else Int32.ofInt 1))).1 154 28 = gg := (em_wn _ _ (by omega)).trans f344
    generalize am_wI h337 170 (1043 + k) (((sSA s k (d_234_147 C V s gg w k (dP C) 0 (Int32.ofInt 0))).2.2.2.2.1 k) + (if (if (d_235 (d_234_147 C V s gg w k (dP C) 0 (Int32.ofInt 0))) < (dN C k) then Int32.ofInt 0 else Int32.ofInt 1) = 0 then Int32.ofInt 0 else Int32.ofInt 1)) = h351 at f352 f353 f354 f355 f356 f357 f358 ⊢
    suffices key : ∀ (v360 : Int32), v360 = (if (if (d_235 (d_234_147 C V s gg w k (dP C) 0 (Int32.ofInt 0))) < (dN C k) then Int32.ofInt 0 else Int32.ofInt 1) = 0 then Int32.ofInt 0 else (Int32.ofInt 1) <<< ((nI k) &&& 31)) → pz_S 8 (some .int) am_r234 4 Q 276 [(0, .ref 154), (1, .int ((Int16.ofInt 1029).toInt32)), (2, .int w), (4, .int (nI k)), (5, .int (d_234_147 C V s gg w k (dP C) 0 (Int32.ofInt 0)))] [.int v360, .int a3] h351 by
      refine am_goX 3 (show ((if (d_235 (d_234_147 C V s gg w k (dP C) 0 (Int32.ofInt 0))) < (dN C k) then Int32.ofInt 0 else Int32.ofInt 1) = 0 → pz_S 8 (some .int) am_r234 4 Q 275 [(0, .ref 154), (1, .int ((Int16.ofInt 1029).toInt32)), (2, .int w), (3, .int a3), (4, .int (nI k)), (5, .int (d_234_147 C V s gg w k (dP C) 0 (Int32.ofInt 0))), (6, .int (if (d_235 (d_234_147 C V s gg w k (dP C) 0 (Int32.ofInt 0))) < (dN C k) then Int32.ofInt 0 else Int32.ofInt 1))] [.int a3] h351) ∧ (¬ ((if (d_235 (d_234_147 C V s gg w k (dP C) 0 (Int32.ofInt 0))) < (dN C k) then Int32.ofInt 0 else Int32.ofInt 1) = 0) → pz_S 8 (some .int) am_r234 4 Q 268 [(0, .ref 154), (1, .int ((Int16.ofInt 1029).toInt32)), (2, .int w), (3, .int a3), (4, .int (nI k)), (5, .int (d_234_147 C V s gg w k (dP C) 0 (Int32.ofInt 0))), (6, .int (if (d_235 (d_234_147 C V s gg w k (dP C) 0 (Int32.ofInt 0))) < (dN C k) then Int32.ofInt 0 else Int32.ofInt 1))] [.int a3] h351) from ⟨fun c359 => ?_, fun c359 => ?_⟩)
      · refine am_goX 1 (show pz_S 8 (some .int) am_r234 4 Q 276 [(0, .ref 154), (1, .int ((Int16.ofInt 1029).toInt32)), (2, .int w), (3, .int a3), (4, .int (nI k)), (5, .int (d_234_147 C V s gg w k (dP C) 0 (Int32.ofInt 0))), (6, .int (if (d_235 (d_234_147 C V s gg w k (dP C) 0 (Int32.ofInt 0))) < (dN C k) then Int32.ofInt 0 else Int32.ofInt 1))] [.int (Int32.ofInt 0), .int a3] h351 from ?_)
        exact sv_S2 sv2_234 (by intro q hq; simp only [List.mem_cons, List.not_mem_nil, or_false] at hq; rcases hq with rfl | rfl | rfl | rfl | rfl <;> rfl) (key _ (if_pos c359).symm)
      · refine am_goX 4 (show pz_S 8 (some .int) am_r234 4 Q 276 [(0, .ref 154), (1, .int ((Int16.ofInt 1029).toInt32)), (2, .int w), (3, .int a3), (4, .int (nI k)), (5, .int (d_234_147 C V s gg w k (dP C) 0 (Int32.ofInt 0))), (6, .int (if (d_235 (d_234_147 C V s gg w k (dP C) 0 (Int32.ofInt 0))) < (dN C k) then Int32.ofInt 0 else Int32.ofInt 1))] [.int ((Int32.ofInt 1) <<< ((nI k) &&& 31)), .int a3] h351 from ?_)
        exact sv_S2 sv2_234 (by intro q hq; simp only [List.mem_cons, List.not_mem_nil, or_false] at hq; rcases hq with rfl | rfl | rfl | rfl | rfl <;> rfl) (key _ (if_neg c359).symm)
    intro v360 e361
    subst e361
    refine am_goX 4 (show 3 < 8 ∧ 7 < 8 ∧ pz_S 8 (some .int) am_r234 4 Q 281 [(7, .int (Int32.ofInt 0)), (3, .int (a3 ||| (if (if (d_235 (d_234_147 C V s gg w k (dP C) 0 (Int32.ofInt 0))) < (dN C k) then Int32.ofInt 0 else Int32.ofInt 1) = 0 then Int32.ofInt 0 else (Int32.ofInt 1) <<< ((nI k) &&& 31)))), (0, .ref 154), (1, .int ((Int16.ofInt 1029).toInt32)), (2, .int w), (4, .int (nI k)), (5, .int (d_234_147 C V s gg w k (dP C) 0 (Int32.ofInt 0)))] [] h351 from ⟨by decide, by decide, ?_⟩)
    refine sv_S2 sv2_234 (by intro q hq; simp only [List.mem_cons, List.not_mem_nil, or_false] at hq; rcases hq with rfl | rfl | rfl | rfl | rfl | rfl | rfl <;> rfl) (d_234_281_g1029 (a3 ||| (if (if (d_235 (d_234_147 C V s gg w k (dP C) 0 (Int32.ofInt 0))) < (dN C k) then Int32.ofInt 0 else Int32.ofInt 1) = 0 then Int32.ofInt 0 else (Int32.ofInt 1) <<< ((nI k) &&& 31))) k (d_234_147 C V s gg w k (dP C) 0 (Int32.ofInt 0)) (dP C) 0 (sSH (sSA s k (d_234_147 C V s gg w k (dP C) 0 (Int32.ofInt 0))) k (((sSA s k (d_234_147 C V s gg w k (dP C) 0 (Int32.ofInt 0))).2.2.2.2.1 k) + (if (if (d_235 (d_234_147 C V s gg w k (dP C) 0 (Int32.ofInt 0))) < (dN C k) then Int32.ofInt 0 else Int32.ofInt 1) = 0 then Int32.ofInt 0 else Int32.ofInt 1))) _ (by omega) f352 f353 f354 f355 f356 f357 f358 (fun h362 f363 f364 f365 f366 f367 f368 f369 => ?_))
    refine am_goX 2 (show 4 < 8 ∧ pz_S 8 (some .int) am_r234 4 Q 132 [(4, .int ((nI k) + (Int32.ofInt 1))), (0, .ref 154), (1, .int ((Int16.ofInt 1029).toInt32)), (2, .int w), (3, .int (a3 ||| (if (if (d_235 (d_234_147 C V s gg w k (dP C) 0 (Int32.ofInt 0))) < (dN C k) then Int32.ofInt 0 else Int32.ofInt 1) = 0 then Int32.ofInt 0 else (Int32.ofInt 1) <<< ((nI k) &&& 31))))] [] h362 from ⟨by decide, ?_⟩)
    rw [show (nI k) + (Int32.ofInt 1) = nI (k + 1) from (dn_a rfl rfl)]
    exact sv_S2 sv2_234 (by intro q hq; simp only [List.mem_cons, List.not_mem_nil, or_false] at hq; rcases hq with rfl | rfl | rfl | rfl | rfl <;> rfl) (ih (k + 1) (a3 ||| (if (if (d_235 (d_234_147 C V s gg w k (dP C) 0 (Int32.ofInt 0))) < (dN C k) then Int32.ofInt 0 else Int32.ofInt 1) = 0 then Int32.ofInt 0 else (Int32.ofInt 1) <<< ((nI k) &&& 31))) (d_234_281 C (d_234_147 C V s gg w k (dP C) 0 (Int32.ofInt 0)) (dP C) 0 (sSH (sSA s k (d_234_147 C V s gg w k (dP C) 0 (Int32.ofInt 0))) k (((sSA s k (d_234_147 C V s gg w k (dP C) 0 (Int32.ofInt 0))).2.2.2.2.1 k) + (if (if (d_235 (d_234_147 C V s gg w k (dP C) 0 (Int32.ofInt 0))) < (dN C k) then Int32.ofInt 0 else Int32.ofInt 1) = 0 then Int32.ofInt 0 else Int32.ofInt 1)))) _ (by omega) f363 f364 f365 f366 f367 f368 f369 hZ)
theorem d_234_g1029 (hP : ex_P h) (hI : cI C) (hT : tR C h) (hO : ∀ e, e < dE C → h.1 172 e = dW V e) (hN : sR 0 (dP C) u h) (hS : sR 1029 (dP C) s h) (hG : h.1 154 28 = gg)  (hQ : ∀ h1, (ex_P h1) → (cI C) → (tR C h1) → (∀ e, e < dE C → h1.1 172 e = dW V e) → (sR 0 (dP C) u h1) → (sR 1029 (dP C) (d_234_s C V s w) h1) → (h1.1 154 28 = (d_234_gg C V s w)) → Q (some (.int (d_234 C V s w))) h1) : am_call am_cod 5 234 [.ref 154, .int ((Int16.ofInt 1029).toInt32), .int w] h Q := by
  have h6 := hT.1.2.1
  have h5 := hT.2.1.2.1
  refine pz_call (n := 234) (nL := 8) (rt := (some .int)) (rows := am_r234) (d := 4) (by decide +kernel) (by decide +kernel) rfl (by funext pc; rfl) (ex_175 hP) (by exact Nat.le_of_ble_eq_true rfl) ?_
  refine am_goX 2 (show am_sh h 154 = some (11, 0) ∧ pz_S 8 (some .int) am_r234 4 Q 4 [(0, .ref 154), (1, .int ((Int16.ofInt 1029).toInt32)), (2, .int w)] [am_rf (h.2.2.1 154 24)] h from ⟨ex_154 hP, ?_⟩)
  rw [show am_rf (h.2.2.1 154 24) = .ref 170 from congrArg am_rf (ex_r154_24 hP)]
  refine am_goX 5 (show (Value.int (((Int16.ofInt 1029).toInt32) + (Int32.ofInt 0))).category = 1 ∧ (Value.ref 170).category = 1 ∧ ∃ jj nn : Nat, am_sh h 170 = some (13, nn) ∧ jj < nn ∧ ((Int16.ofInt 1029).toInt32) + (Int32.ofInt 0) = nI jj ∧ pz_S 8 (some .int) am_r234 4 Q 9 [(0, .ref 154), (1, .int ((Int16.ofInt 1029).toInt32)), (2, .int w)] [.int (h.1 170 jj), .int (((Int16.ofInt 1029).toInt32) + (Int32.ofInt 0)), .ref 170] h from ⟨rfl, rfl, ⟨1029, 1127, ex_170 hP, (by omega), (dn_a (show (Int16.ofInt 1029).toInt32 = nI 1029 by decide) rfl), ?_⟩⟩)
  rw [show h.1 170 1029 = s.1 from hS.1.1]
  refine am_goX 3 (show ∃ jj nn : Nat, am_so h 170 = some (13, nn) ∧ jj < nn ∧ ((Int16.ofInt 1029).toInt32) + (Int32.ofInt 0) = nI jj ∧ pz_S 8 (some .int) am_r234 4 Q 12 [(0, .ref 154), (1, .int ((Int16.ofInt 1029).toInt32)), (2, .int w)] [] (am_wI h 170 jj (s.1 + (Int32.ofInt 1))) from ⟨1029, 1127, ex_w170 hP, (by omega), (dn_a (show (Int16.ofInt 1029).toInt32 = nI 1029 by decide) rfl), ?_⟩)
  have f239 : ex_P (am_wI h 170 1029 (s.1 + (Int32.ofInt 1))) := hP
  have f240 : cI C := hI
  have f241 : tR C (am_wI h 170 1029 (s.1 + (Int32.ofInt 1))) := tR_w (by omega) hT
  have f242 : ∀ e, e < dE C → (am_wI h 170 1029 (s.1 + (Int32.ofInt 1))).1 172 e = dW V e := on_w (by omega) hO
  have f243 : sR 0 (dP C) u (am_wI h 170 1029 (s.1 + (Int32.ofInt 1))) := sR_q (by omega) hN
  have f244 : sR 1029 (dP C) (sSD s (s.1 + (Int32.ofInt 1))) (am_wI h 170 1029 (s.1 + (Int32.ofInt 1))) := sR_wD (by omega) hS
  have f245 : (am_wI h 170 1029 (s.1 + (Int32.ofInt 1))).1 154 28 = gg := (em_wn _ _ (by omega)).trans hG
  generalize am_wI h 170 1029 (s.1 + (Int32.ofInt 1)) = h238 at f239 f240 f241 f242 f243 f244 f245 ⊢
  refine am_goX 3 (show am_sh h238 154 = some (11, 0) ∧ narrow (am_fty 11 28) (.int (Int32.ofInt 0)) = .int (Int32.ofInt 0) ∧ fits (am_fty 11 28) (.int (Int32.ofInt 0)) = true ∧ pz_S 8 (some .int) am_r234 4 Q 17 [(0, .ref 154), (1, .int ((Int16.ofInt 1029).toInt32)), (2, .int w)] [] (am_wI h238 154 28 (Int32.ofInt 0)) from ⟨ex_154 f239, rfl, rfl, ?_⟩)
  have f247 : ex_P (am_wI h238 154 28 (Int32.ofInt 0)) := f239
  have f248 : cI C := f240
  have f249 : tR C (am_wI h238 154 28 (Int32.ofInt 0)) := tR_w (by omega) f241
  have f250 : ∀ e, e < dE C → (am_wI h238 154 28 (Int32.ofInt 0)).1 172 e = dW V e := on_w (by omega) f242
  have f251 : sR 0 (dP C) u (am_wI h238 154 28 (Int32.ofInt 0)) := sR_o (by omega) f243
  have f252 : sR 1029 (dP C) (sSD s (s.1 + (Int32.ofInt 1))) (am_wI h238 154 28 (Int32.ofInt 0)) := sR_o (by omega) f244
  have f253 : (am_wI h238 154 28 (Int32.ofInt 0)).1 154 28 = (Int32.ofInt 0) := em_we _ _ _ _
  generalize am_wI h238 154 28 (Int32.ofInt 0) = h246 at f247 f248 f249 f250 f251 f252 f253 ⊢
  refine am_goX 2 (show 3 < 8 ∧ pz_S 8 (some .int) am_r234 4 Q 19 [(3, .int (Int32.ofInt 0)), (0, .ref 154), (1, .int ((Int16.ofInt 1029).toInt32)), (2, .int w)] [] h246 from ⟨by decide, ?_⟩)
  refine sv_S2 sv2_234 (by intro q hq; simp only [List.mem_cons, List.not_mem_nil, or_false] at hq; rcases hq with rfl | rfl | rfl | rfl <;> rfl) (d_234_19_g1029 (dP C) 0 (sSD s (s.1 + (Int32.ofInt 1))) (Int32.ofInt 0) _ (by omega) f247 f248 f249 f250 f251 f252 f253 (fun h329 f330 f331 f332 f333 f334 f335 f336 => ?_))
  refine am_goX 4 (show 3 < 8 ∧ 4 < 8 ∧ pz_S 8 (some .int) am_r234 4 Q 132 [(4, .int (Int32.ofInt 0)), (3, .int (Int32.ofInt 0)), (0, .ref 154), (1, .int ((Int16.ofInt 1029).toInt32)), (2, .int w)] [] h329 from ⟨by decide, by decide, ?_⟩)
  refine sv_S2 sv2_234 (by intro q hq; simp only [List.mem_cons, List.not_mem_nil, or_false] at hq; rcases hq with rfl | rfl | rfl | rfl | rfl <;> rfl) (d_234_132_g1029 (dE C) 0 (Int32.ofInt 0) ((d_234_19 C w (dP C) 0 (sSD s (s.1 + (Int32.ofInt 1))) (Int32.ofInt 0)).1) _ (by omega) f330 f331 f332 f333 f334 f335 f336 (fun h370 f371 f372 f373 f374 f375 f376 f377 => ?_))
  exact am_goX 2 (show (∃ ty, (some .int) = some ty ∧ narrow ty (.int ((d_234_132 C V ((d_234_19 C w (dP C) 0 (sSD s (s.1 + (Int32.ofInt 1))) (Int32.ofInt 0)).2) w (dE C) 0 (Int32.ofInt 0) ((d_234_19 C w (dP C) 0 (sSD s (s.1 + (Int32.ofInt 1))) (Int32.ofInt 0)).1)).1)) = .int ((d_234_132 C V ((d_234_19 C w (dP C) 0 (sSD s (s.1 + (Int32.ofInt 1))) (Int32.ofInt 0)).2) w (dE C) 0 (Int32.ofInt 0) ((d_234_19 C w (dP C) 0 (sSD s (s.1 + (Int32.ofInt 1))) (Int32.ofInt 0)).1)).1)) ∧ h370.2.2.2.2 = 175 ∧ _ from ⟨⟨.int, rfl, rfl⟩, ex_175 f371, hQ _ f371 f372 f373 f374 f375 f376 f377⟩)
theorem q_234_r1029 (hP : ex_P h) (hI : cI C) (hT : tR C h) (hO : ∀ e, e < dE C → h.1 172 e = dW V e) (hN : sR 0 (dP C) u h) (hS : sR 1029 (dP C) s h) (hQ : ∀ h1, (ex_P h1) → (cI C) → (tR C h1) → (∀ e, e < dE C → h1.1 172 e = dW V e) → (sR 0 (dP C) u h1) → (sR 1029 (dP C) (d_234_s C V s w) h1) → Q (some (.int (d_234 C V s w))) h1) : am_call am_cod 5 234 [.ref 154, .int ((Int16.ofInt 1029).toInt32), .int w] h Q :=
  d_234_g1029 (gg := h.1 154 28) hP hI hT hO hN hS rfl (fun h1 khP khI khT khO khN khS _ => hQ h1 khP khI khT khO khN khS)
theorem d_233_r1029 (hP : ex_P h) (hI : cI C) (hT : tR C h) (hO : ∀ e, e < dE C → h.1 172 e = dW V e) (hN : sR 0 (dP C) u h) (hS : sR 1029 (dP C) s h)  (hQ : ∀ h1, (ex_P h1) → (cI C) → (tR C h1) → (∀ e, e < dE C → h1.1 172 e = dW V e) → (sR 0 (dP C) u h1) → (sR 1029 (dP C) (d_233_s C V s) h1) → Q (some (.int (d_233 C V s))) h1) : am_call am_cod 6 233 [.ref 154, .int ((Int16.ofInt 1029).toInt32)] h Q := by
  have h6 := hT.1.2.1
  have h5 := hT.2.1.2.1
  refine pz_call (n := 233) (nL := 2) (rt := (some .int)) (rows := am_r233) (d := 5) (by decide +kernel) (by decide +kernel) rfl (by funext pc; rfl) (ex_175 hP) (by exact Nat.le_of_ble_eq_true rfl) ?_
  refine am_goX 5 (show am_sh h 154 = some (11, 0) ∧ pz_S 2 (some .int) am_r233 5 Q 7 [(0, .ref 154), (1, .int ((Int16.ofInt 1029).toInt32))] [am_rf (h.2.2.1 154 24), .ref 154, .int ((Int16.ofInt 1029).toInt32), .ref 154] h from ⟨ex_154 hP, ?_⟩)
  rw [show am_rf (h.2.2.1 154 24) = .ref 170 from congrArg am_rf (ex_r154_24 hP)]
  refine am_goX 4 (show ∃ jj nn : Nat, am_sh h 170 = some (13, nn) ∧ jj < nn ∧ ((Int16.ofInt 1029).toInt32) + (Int32.ofInt 0) = nI jj ∧ pz_S 2 (some .int) am_r233 5 Q 11 [(0, .ref 154), (1, .int ((Int16.ofInt 1029).toInt32))] [.int (h.1 170 jj), .ref 154, .int ((Int16.ofInt 1029).toInt32), .ref 154] h from ⟨1029, 1127, ex_170 hP, (by omega), (dn_a (show (Int16.ofInt 1029).toInt32 = nI 1029 by decide) rfl), ?_⟩)
  rw [show h.1 170 1029 = s.1 from hS.1.1]
  refine am_goX 3 (show am_rc h 154 11 ∧ 2 ≤ 8 ∧ h.2.2.2.2 + am_al 224 ≤ 175 ∧ am_call am_cod 5 224 [.ref 154, .int (s.1 + (Int32.ofInt 1))] h (fun vv h' => pz_S 2 (some .int) am_r233 5 Q 16 [(0, .ref 154), (1, .int ((Int16.ofInt 1029).toInt32))] (vv.toList ++ [.int ((Int16.ofInt 1029).toInt32), .ref 154]) h') from ⟨Or.inl ⟨by decide, ex_154 hP⟩, by decide, ex_lim hP rfl, am_call.up (d_224_r hP hT ?_) (by decide)⟩)
  refine am_goX 1 (show am_rc h 154 11 ∧ 0 ≤ 8 ∧ h.2.2.2.2 + am_al 234 ≤ 175 ∧ am_call am_cod 5 234 [.ref 154, .int ((Int16.ofInt 1029).toInt32), .int (d_224 C (s.1 + (Int32.ofInt 1)))] h (fun vv h' => pz_S 2 (some .int) am_r233 5 Q 19 [(0, .ref 154), (1, .int ((Int16.ofInt 1029).toInt32))] (vv.toList ++ []) h') from ⟨Or.inl ⟨by decide, ex_154 hP⟩, by decide, ex_lim hP rfl, am_call.up (q_234_r1029 hP hI hT hO hN hS (fun h378 f379 f380 f381 f382 f383 f384 => ?_)) (by decide)⟩)
  exact am_goX 1 (show (∃ ty, (some .int) = some ty ∧ narrow ty (.int (d_234 C V s (d_224 C (s.1 + (Int32.ofInt 1))))) = .int (d_234 C V s (d_224 C (s.1 + (Int32.ofInt 1))))) ∧ h378.2.2.2.2 = 175 ∧ _ from ⟨⟨.int, rfl, rfl⟩, ex_175 f379, hQ _ f379 f380 f381 f382 f383 f384⟩)
theorem d_234_19_g1078 : ∀ (m k : Nat) (s : dS) (gg : Int32) (h : am_H), k + m = dP C → (ex_P h) → (cI C) → (tR C h) → (∀ e, e < dE C → h.1 172 e = dW V e) → (sR 0 (dP C) u h) → (sR 1078 (dP C) s h) → (h.1 154 28 = gg) → (∀ h1, (ex_P h1) → (cI C) → (tR C h1) → (∀ e, e < dE C → h1.1 172 e = dW V e) → (sR 0 (dP C) u h1) → (sR 1078 (dP C) ((d_234_19 C w m k s gg).1) h1) → (h1.1 154 28 = ((d_234_19 C w m k s gg).2)) → pz_S 8 (some .int) am_r234 4 Q 127 [(0, .ref 154), (1, .int ((Int16.ofInt 1078).toInt32)), (2, .int w)] [] h1) → pz_S 8 (some .int) am_r234 4 Q 19 [(0, .ref 154), (1, .int ((Int16.ofInt 1078).toInt32)), (2, .int w), (3, .int (nI k))] [] h := by
  intro m
  induction m with
  | zero =>
    intro k s gg h hk hP hI hT hO hN hS hG hZ
    have h6 := hT.1.2.1
    have h5 := hT.2.1.2.1
    have hA : h.1 168 0 = (h.1 168 0) ∧ h.1 168 1 = (h.1 168 1) ∧ h.1 168 2 = (h.1 168 2) ∧ h.1 168 3 = (h.1 168 3) := ⟨rfl, rfl, rfl, rfl⟩
    refine am_goX 3 (show am_rc h 154 11 ∧ 1 ≤ 8 ∧ h.2.2.2.2 + am_al 186 ≤ 175 ∧ am_call am_cod 4 186 [.ref 154] h (fun vv h' => pz_S 8 (some .int) am_r234 4 Q 24 [(0, .ref 154), (1, .int ((Int16.ofInt 1078).toInt32)), (2, .int w), (3, .int (nI k))] (vv.toList ++ [.int (nI k)]) h') from ⟨Or.inl ⟨by decide, ex_154 hP⟩, by decide, ex_lim hP rfl, am_call.up (d_186_r hP hT ?_) (by decide)⟩)
    refine am_goX 1 (show ((nI (dP C)) ≤ (nI k) → pz_S 8 (some .int) am_r234 4 Q 127 [(0, .ref 154), (1, .int ((Int16.ofInt 1078).toInt32)), (2, .int w), (3, .int (nI k))] [] h) ∧ (¬ ((nI (dP C)) ≤ (nI k)) → pz_S 8 (some .int) am_r234 4 Q 27 [(0, .ref 154), (1, .int ((Int16.ofInt 1078).toInt32)), (2, .int w), (3, .int (nI k))] [] h) from ⟨fun _ => ?_, fun hz => absurd (show nI (dP C) ≤ nI k from nI_le (by omega) (by omega)) hz⟩)
    exact sv_S2 sv2_234 (by intro q hq; simp only [List.mem_cons, List.not_mem_nil, or_false] at hq; rcases hq with rfl | rfl | rfl <;> rfl) (hZ _ hP hI hT hO hN hS hG)
  | succ m ih =>
    intro k s gg h hk hP hI hT hO hN hS hG hZ
    have h6 := hT.1.2.1
    have h5 := hT.2.1.2.1
    have hA : h.1 168 0 = (h.1 168 0) ∧ h.1 168 1 = (h.1 168 1) ∧ h.1 168 2 = (h.1 168 2) ∧ h.1 168 3 = (h.1 168 3) := ⟨rfl, rfl, rfl, rfl⟩
    refine am_goX 3 (show am_rc h 154 11 ∧ 1 ≤ 8 ∧ h.2.2.2.2 + am_al 186 ≤ 175 ∧ am_call am_cod 4 186 [.ref 154] h (fun vv h' => pz_S 8 (some .int) am_r234 4 Q 24 [(0, .ref 154), (1, .int ((Int16.ofInt 1078).toInt32)), (2, .int w), (3, .int (nI k))] (vv.toList ++ [.int (nI k)]) h') from ⟨Or.inl ⟨by decide, ex_154 hP⟩, by decide, ex_lim hP rfl, am_call.up (d_186_r hP hT ?_) (by decide)⟩)
    refine am_goX 1 (show ((nI (dP C)) ≤ (nI k) → pz_S 8 (some .int) am_r234 4 Q 127 [(0, .ref 154), (1, .int ((Int16.ofInt 1078).toInt32)), (2, .int w), (3, .int (nI k))] [] h) ∧ (¬ ((nI (dP C)) ≤ (nI k)) → pz_S 8 (some .int) am_r234 4 Q 27 [(0, .ref 154), (1, .int ((Int16.ofInt 1078).toInt32)), (2, .int w), (3, .int (nI k))] [] h) from ⟨fun hz => absurd hz (show ¬ (nI (dP C) ≤ nI k) by rw [nI_leI (by omega) (by omega)]; omega), fun _ => ?_⟩)
    refine am_goX 2 (show am_sh h 154 = some (11, 0) ∧ pz_S 8 (some .int) am_r234 4 Q 31 [(0, .ref 154), (1, .int ((Int16.ofInt 1078).toInt32)), (2, .int w), (3, .int (nI k))] [am_rf (h.2.2.1 154 22)] h from ⟨ex_154 hP, ?_⟩)
    rw [show am_rf (h.2.2.1 154 22) = .ref 168 from congrArg am_rf (ex_r154_22 hP)]
    refine am_goX 5 (show am_rc h 154 11 ∧ 2 ≤ 8 ∧ h.2.2.2.2 + am_al 223 ≤ 175 ∧ am_call am_cod 4 223 [.ref 154, .int ((Int16.ofInt 1078).toInt32), .int (nI k)] h (fun vv h' => pz_S 8 (some .int) am_r234 4 Q 38 [(0, .ref 154), (1, .int ((Int16.ofInt 1078).toInt32)), (2, .int w), (3, .int (nI k))] (vv.toList ++ [.int (Int32.ofInt 0), .ref 168]) h') from ⟨Or.inl ⟨by decide, ex_154 hP⟩, by decide, ex_lim hP rfl, am_call.up (d_223_r1078 hP hI hT hO hN hS (by omega) ?_) (by decide)⟩)
    refine am_goX 1 (show ∃ jj nn : Nat, am_so h 168 = some (13, nn) ∧ jj < nn ∧ Int32.ofInt 0 = nI jj ∧ pz_S 8 (some .int) am_r234 4 Q 39 [(0, .ref 154), (1, .int ((Int16.ofInt 1078).toInt32)), (2, .int w), (3, .int (nI k))] [] (am_wI h 168 jj (d_223 C s k)) from ⟨0, 4, ex_w168 hP, (by omega), rfl, ?_⟩)
    have f402 : ex_P (am_wI h 168 0 (d_223 C s k)) := hP
    have f403 : cI C := hI
    have f404 : tR C (am_wI h 168 0 (d_223 C s k)) := tR_w (by omega) hT
    have f405 : ∀ e, e < dE C → (am_wI h 168 0 (d_223 C s k)).1 172 e = dW V e := on_w (by omega) hO
    have f406 : sR 0 (dP C) u (am_wI h 168 0 (d_223 C s k)) := sR_o (by omega) hN
    have f407 : sR 1078 (dP C) s (am_wI h 168 0 (d_223 C s k)) := sR_o (by omega) hS
    have f408 : (am_wI h 168 0 (d_223 C s k)).1 154 28 = gg := (em_wn _ _ (by omega)).trans hG
    have f409 : (am_wI h 168 0 (d_223 C s k)).1 168 0 = (d_223 C s k) ∧ (am_wI h 168 0 (d_223 C s k)).1 168 1 = (h.1 168 1) ∧ (am_wI h 168 0 (d_223 C s k)).1 168 2 = (h.1 168 2) ∧ (am_wI h 168 0 (d_223 C s k)).1 168 3 = (h.1 168 3) := fa_w0 hA
    generalize am_wI h 168 0 (d_223 C s k) = h401 at f402 f403 f404 f405 f406 f407 f408 f409 ⊢
    refine am_goX 2 (show am_sh h401 154 = some (11, 0) ∧ pz_S 8 (some .int) am_r234 4 Q 43 [(0, .ref 154), (1, .int ((Int16.ofInt 1078).toInt32)), (2, .int w), (3, .int (nI k))] [am_rf (h401.2.2.1 154 22)] h401 from ⟨ex_154 f402, ?_⟩)
    rw [show am_rf (h401.2.2.1 154 22) = .ref 168 from congrArg am_rf (ex_r154_22 f402)]
    refine am_goX 3 (show am_sh h401 154 = some (11, 0) ∧ pz_S 8 (some .int) am_r234 4 Q 48 [(0, .ref 154), (1, .int ((Int16.ofInt 1078).toInt32)), (2, .int w), (3, .int (nI k))] [am_rf (h401.2.2.1 154 24), .int (Int32.ofInt 1), .ref 168] h401 from ⟨ex_154 f402, ?_⟩)
    rw [show am_rf (h401.2.2.1 154 24) = .ref 170 from congrArg am_rf (ex_r154_24 f402)]
    refine am_goX 4 (show ∃ jj nn : Nat, am_sh h401 170 = some (13, nn) ∧ jj < nn ∧ ((Int16.ofInt 1078).toInt32) + (Int32.ofInt 0) = nI jj ∧ pz_S 8 (some .int) am_r234 4 Q 52 [(0, .ref 154), (1, .int ((Int16.ofInt 1078).toInt32)), (2, .int w), (3, .int (nI k))] [.int (h401.1 170 jj), .int (Int32.ofInt 1), .ref 168] h401 from ⟨1078, 1127, ex_170 f402, (by omega), (dn_a (show (Int16.ofInt 1078).toInt32 = nI 1078 by decide) rfl), ?_⟩)
    rw [show h401.1 170 1078 = s.1 from f407.1.1]
    refine am_goX 3 (show ¬ ((Int8.ofInt 7).toInt32) = 0 ∧ ∃ jj nn : Nat, am_so h401 168 = some (13, nn) ∧ jj < nn ∧ Int32.ofInt 1 = nI jj ∧ pz_S 8 (some .int) am_r234 4 Q 56 [(0, .ref 154), (1, .int ((Int16.ofInt 1078).toInt32)), (2, .int w), (3, .int (nI k))] [] (am_wI h401 168 jj (s.1 / ((Int8.ofInt 7).toInt32))) from ⟨by decide, 1, 4, ex_w168 f402, (by omega), rfl, ?_⟩)
    have f411 : ex_P (am_wI h401 168 1 (s.1 / ((Int8.ofInt 7).toInt32))) := f402
    have f412 : cI C := f403
    have f413 : tR C (am_wI h401 168 1 (s.1 / ((Int8.ofInt 7).toInt32))) := tR_w (by omega) f404
    have f414 : ∀ e, e < dE C → (am_wI h401 168 1 (s.1 / ((Int8.ofInt 7).toInt32))).1 172 e = dW V e := on_w (by omega) f405
    have f415 : sR 0 (dP C) u (am_wI h401 168 1 (s.1 / ((Int8.ofInt 7).toInt32))) := sR_o (by omega) f406
    have f416 : sR 1078 (dP C) s (am_wI h401 168 1 (s.1 / ((Int8.ofInt 7).toInt32))) := sR_o (by omega) f407
    have f417 : (am_wI h401 168 1 (s.1 / ((Int8.ofInt 7).toInt32))).1 154 28 = gg := (em_wn _ _ (by omega)).trans f408
    have f418 : (am_wI h401 168 1 (s.1 / ((Int8.ofInt 7).toInt32))).1 168 0 = (d_223 C s k) ∧ (am_wI h401 168 1 (s.1 / ((Int8.ofInt 7).toInt32))).1 168 1 = (s.1 / ((Int8.ofInt 7).toInt32)) ∧ (am_wI h401 168 1 (s.1 / ((Int8.ofInt 7).toInt32))).1 168 2 = (h.1 168 2) ∧ (am_wI h401 168 1 (s.1 / ((Int8.ofInt 7).toInt32))).1 168 3 = (h.1 168 3) := fa_w1 f409
    generalize am_wI h401 168 1 (s.1 / ((Int8.ofInt 7).toInt32)) = h410 at f411 f412 f413 f414 f415 f416 f417 f418 ⊢
    refine am_goX 2 (show am_sh h410 154 = some (11, 0) ∧ pz_S 8 (some .int) am_r234 4 Q 60 [(0, .ref 154), (1, .int ((Int16.ofInt 1078).toInt32)), (2, .int w), (3, .int (nI k))] [am_rf (h410.2.2.1 154 22)] h410 from ⟨ex_154 f411, ?_⟩)
    rw [show am_rf (h410.2.2.1 154 22) = .ref 168 from congrArg am_rf (ex_r154_22 f411)]
    refine am_goX 3 (show am_sh h410 154 = some (11, 0) ∧ pz_S 8 (some .int) am_r234 4 Q 65 [(0, .ref 154), (1, .int ((Int16.ofInt 1078).toInt32)), (2, .int w), (3, .int (nI k))] [am_rf (h410.2.2.1 154 24), .int (Int32.ofInt 2), .ref 168] h410 from ⟨ex_154 f411, ?_⟩)
    rw [show am_rf (h410.2.2.1 154 24) = .ref 170 from congrArg am_rf (ex_r154_24 f411)]
    refine am_goX 6 (show ∃ jj nn : Nat, am_sh h410 170 = some (13, nn) ∧ jj < nn ∧ (((Int16.ofInt 1078).toInt32) + ((Int8.ofInt 8).toInt32)) + (nI k) = nI jj ∧ pz_S 8 (some .int) am_r234 4 Q 72 [(0, .ref 154), (1, .int ((Int16.ofInt 1078).toInt32)), (2, .int w), (3, .int (nI k))] [.int (h410.1 170 jj), .int (Int32.ofInt 2), .ref 168] h410 from ⟨(1086 + k), 1127, ex_170 f411, (by omega), (dn_a (dn_a (show (Int16.ofInt 1078).toInt32 = nI 1078 by decide) (show (Int8.ofInt 8).toInt32 = nI 8 by decide)) rfl), ?_⟩)
    rw [show h410.1 170 (1086 + k) = s.2.2.2.1 k from (by rw [show (1086 + k) = 1078 + 8 + k by omega]; exact f416.2.2.1 k (by omega))]
    refine am_goX 1 (show 2 ≤ 8 ∧ h410.2.2.2.2 + am_al 235 ≤ 175 ∧ am_call am_cod 4 235 [.int (s.2.2.2.1 k)] h410 (fun vv h' => pz_S 8 (some .int) am_r234 4 Q 75 [(0, .ref 154), (1, .int ((Int16.ofInt 1078).toInt32)), (2, .int w), (3, .int (nI k))] (vv.toList ++ [.int (Int32.ofInt 2), .ref 168]) h') from ⟨by decide, ex_lim f411 rfl, am_call.up (d_235_w f411 ?_) (by decide)⟩)
    refine am_goX 1 (show ∃ jj nn : Nat, am_so h410 168 = some (13, nn) ∧ jj < nn ∧ Int32.ofInt 2 = nI jj ∧ pz_S 8 (some .int) am_r234 4 Q 76 [(0, .ref 154), (1, .int ((Int16.ofInt 1078).toInt32)), (2, .int w), (3, .int (nI k))] [] (am_wI h410 168 jj (d_235 (s.2.2.2.1 k))) from ⟨2, 4, ex_w168 f411, (by omega), rfl, ?_⟩)
    have f420 : ex_P (am_wI h410 168 2 (d_235 (s.2.2.2.1 k))) := f411
    have f421 : cI C := f412
    have f422 : tR C (am_wI h410 168 2 (d_235 (s.2.2.2.1 k))) := tR_w (by omega) f413
    have f423 : ∀ e, e < dE C → (am_wI h410 168 2 (d_235 (s.2.2.2.1 k))).1 172 e = dW V e := on_w (by omega) f414
    have f424 : sR 0 (dP C) u (am_wI h410 168 2 (d_235 (s.2.2.2.1 k))) := sR_o (by omega) f415
    have f425 : sR 1078 (dP C) s (am_wI h410 168 2 (d_235 (s.2.2.2.1 k))) := sR_o (by omega) f416
    have f426 : (am_wI h410 168 2 (d_235 (s.2.2.2.1 k))).1 154 28 = gg := (em_wn _ _ (by omega)).trans f417
    have f427 : (am_wI h410 168 2 (d_235 (s.2.2.2.1 k))).1 168 0 = (d_223 C s k) ∧ (am_wI h410 168 2 (d_235 (s.2.2.2.1 k))).1 168 1 = (s.1 / ((Int8.ofInt 7).toInt32)) ∧ (am_wI h410 168 2 (d_235 (s.2.2.2.1 k))).1 168 2 = (d_235 (s.2.2.2.1 k)) ∧ (am_wI h410 168 2 (d_235 (s.2.2.2.1 k))).1 168 3 = (h.1 168 3) := fa_w2 f418
    generalize am_wI h410 168 2 (d_235 (s.2.2.2.1 k)) = h419 at f420 f421 f422 f423 f424 f425 f426 f427 ⊢
    refine am_goX 2 (show am_sh h419 154 = some (11, 0) ∧ pz_S 8 (some .int) am_r234 4 Q 80 [(0, .ref 154), (1, .int ((Int16.ofInt 1078).toInt32)), (2, .int w), (3, .int (nI k))] [am_rf (h419.2.2.1 154 22)] h419 from ⟨ex_154 f420, ?_⟩)
    rw [show am_rf (h419.2.2.1 154 22) = .ref 168 from congrArg am_rf (ex_r154_22 f420)]
    refine am_goX 3 (show ∃ jj nn : Nat, am_so h419 168 = some (13, nn) ∧ jj < nn ∧ Int32.ofInt 3 = nI jj ∧ pz_S 8 (some .int) am_r234 4 Q 83 [(0, .ref 154), (1, .int ((Int16.ofInt 1078).toInt32)), (2, .int w), (3, .int (nI k))] [] (am_wI h419 168 jj w) from ⟨3, 4, ex_w168 f420, (by omega), rfl, ?_⟩)
    have f429 : ex_P (am_wI h419 168 3 w) := f420
    have f430 : cI C := f421
    have f431 : tR C (am_wI h419 168 3 w) := tR_w (by omega) f422
    have f432 : ∀ e, e < dE C → (am_wI h419 168 3 w).1 172 e = dW V e := on_w (by omega) f423
    have f433 : sR 0 (dP C) u (am_wI h419 168 3 w) := sR_o (by omega) f424
    have f434 : sR 1078 (dP C) s (am_wI h419 168 3 w) := sR_o (by omega) f425
    have f435 : (am_wI h419 168 3 w).1 154 28 = gg := (em_wn _ _ (by omega)).trans f426
    have f436 : (am_wI h419 168 3 w).1 168 0 = (d_223 C s k) ∧ (am_wI h419 168 3 w).1 168 1 = (s.1 / ((Int8.ofInt 7).toInt32)) ∧ (am_wI h419 168 3 w).1 168 2 = (d_235 (s.2.2.2.1 k)) ∧ (am_wI h419 168 3 w).1 168 3 = w := fa_w3 f427
    generalize am_wI h419 168 3 w = h428 at f429 f430 f431 f432 f433 f434 f435 f436 ⊢
    refine am_goX 3 (show (Value.ref 154).category = 1 ∧ am_sh h428 154 = some (11, 0) ∧ pz_S 8 (some .int) am_r234 4 Q 88 [(0, .ref 154), (1, .int ((Int16.ofInt 1078).toInt32)), (2, .int w), (3, .int (nI k))] [.int (h428.1 154 28), .ref 154] h428 from ⟨rfl, ex_154 f429, ?_⟩)
    rw [show h428.1 154 28 = gg from f435]
    refine am_goX 2 (show am_sh h428 154 = some (11, 0) ∧ pz_S 8 (some .int) am_r234 4 Q 92 [(0, .ref 154), (1, .int ((Int16.ofInt 1078).toInt32)), (2, .int w), (3, .int (nI k))] [am_rf (h428.2.2.1 154 10), .int gg, .ref 154] h428 from ⟨ex_154 f429, ?_⟩)
    rw [show am_rf (h428.2.2.1 154 10) = .ref 160 from congrArg am_rf (ex_r154_10 f429)]
    refine am_goX 2 (show ∃ jj nn : Nat, am_sh h428 160 = some (13, nn) ∧ jj < nn ∧ Int32.ofInt 3 = nI jj ∧ pz_S 8 (some .int) am_r234 4 Q 94 [(0, .ref 154), (1, .int ((Int16.ofInt 1078).toInt32)), (2, .int w), (3, .int (nI k))] [.int (h428.1 160 jj), .int gg, .ref 154] h428 from ⟨3, 80, ex_160 f429, (by omega), rfl, ?_⟩)
    rw [show h428.1 160 3 = dQ C from f431.2.2.2.2.2.2.2.2]
    refine am_goX 1 (show ((dQ C) < 0 → pz_S 8 (some .int) am_r234 4 Q 110 [(0, .ref 154), (1, .int ((Int16.ofInt 1078).toInt32)), (2, .int w), (3, .int (nI k))] [.int gg, .ref 154] h428) ∧ (¬ ((dQ C) < 0) → pz_S 8 (some .int) am_r234 4 Q 97 [(0, .ref 154), (1, .int ((Int16.ofInt 1078).toInt32)), (2, .int w), (3, .int (nI k))] [.int gg, .ref 154] h428) from ⟨fun c437 => ?_, fun c437 => ?_⟩)
    · refine am_goX 6 (show am_sh h428 154 = some (11, 0) ∧ narrow (am_fty 11 28) (.int (gg ||| ((Int32.ofInt 1) <<< ((nI k) &&& 31)))) = .int (gg ||| ((Int32.ofInt 1) <<< ((nI k) &&& 31))) ∧ fits (am_fty 11 28) (.int (gg ||| ((Int32.ofInt 1) <<< ((nI k) &&& 31)))) = true ∧ pz_S 8 (some .int) am_r234 4 Q 121 [(0, .ref 154), (1, .int ((Int16.ofInt 1078).toInt32)), (2, .int w), (3, .int (nI k))] [] (am_wI h428 154 28 (gg ||| ((Int32.ofInt 1) <<< ((nI k) &&& 31)))) from ⟨ex_154 f429, rfl, rfl, ?_⟩)
      have f439 : ex_P (am_wI h428 154 28 (gg ||| ((Int32.ofInt 1) <<< ((nI k) &&& 31)))) := f429
      have f440 : cI C := f430
      have f441 : tR C (am_wI h428 154 28 (gg ||| ((Int32.ofInt 1) <<< ((nI k) &&& 31)))) := tR_w (by omega) f431
      have f442 : ∀ e, e < dE C → (am_wI h428 154 28 (gg ||| ((Int32.ofInt 1) <<< ((nI k) &&& 31)))).1 172 e = dW V e := on_w (by omega) f432
      have f443 : sR 0 (dP C) u (am_wI h428 154 28 (gg ||| ((Int32.ofInt 1) <<< ((nI k) &&& 31)))) := sR_o (by omega) f433
      have f444 : sR 1078 (dP C) s (am_wI h428 154 28 (gg ||| ((Int32.ofInt 1) <<< ((nI k) &&& 31)))) := sR_o (by omega) f434
      have f445 : (am_wI h428 154 28 (gg ||| ((Int32.ofInt 1) <<< ((nI k) &&& 31)))).1 154 28 = (gg ||| ((Int32.ofInt 1) <<< ((nI k) &&& 31))) := em_we _ _ _ _
      have f446 : (am_wI h428 154 28 (gg ||| ((Int32.ofInt 1) <<< ((nI k) &&& 31)))).1 168 0 = (d_223 C s k) ∧ (am_wI h428 154 28 (gg ||| ((Int32.ofInt 1) <<< ((nI k) &&& 31)))).1 168 1 = (s.1 / ((Int8.ofInt 7).toInt32)) ∧ (am_wI h428 154 28 (gg ||| ((Int32.ofInt 1) <<< ((nI k) &&& 31)))).1 168 2 = (d_235 (s.2.2.2.1 k)) ∧ (am_wI h428 154 28 (gg ||| ((Int32.ofInt 1) <<< ((nI k) &&& 31)))).1 168 3 = w := fo_w (by omega) f436
      generalize am_wI h428 154 28 (gg ||| ((Int32.ofInt 1) <<< ((nI k) &&& 31))) = h438 at f439 f440 f441 f442 f443 f444 f445 f446 ⊢
      refine am_goX 2 (show 3 < 8 ∧ pz_S 8 (some .int) am_r234 4 Q 19 [(3, .int ((nI k) + (Int32.ofInt 1))), (0, .ref 154), (1, .int ((Int16.ofInt 1078).toInt32)), (2, .int w)] [] h438 from ⟨by decide, ?_⟩)
      rw [show d_234_19 C w (m + 1) k s gg = d_234_19 C w m (k + 1) s (gg ||| ((Int32.ofInt 1) <<< ((nI k) &&& 31))) from if_pos c437] at hZ
      rw [show (nI k) + (Int32.ofInt 1) = nI (k + 1) from (dn_a rfl rfl)]
      exact sv_S2 sv2_234 (by intro q hq; simp only [List.mem_cons, List.not_mem_nil, or_false] at hq; rcases hq with rfl | rfl | rfl | rfl <;> rfl) (ih (k + 1) s (gg ||| ((Int32.ofInt 1) <<< ((nI k) &&& 31))) _ (by omega) f439 f440 f441 f442 f443 f444 f445 hZ)
    · refine am_goX 3 (show am_sh h428 154 = some (11, 0) ∧ pz_S 8 (some .int) am_r234 4 Q 102 [(0, .ref 154), (1, .int ((Int16.ofInt 1078).toInt32)), (2, .int w), (3, .int (nI k))] [am_rf (h428.2.2.1 154 10), .ref 154, .int gg, .ref 154] h428 from ⟨ex_154 f429, ?_⟩)
      rw [show am_rf (h428.2.2.1 154 10) = .ref 160 from congrArg am_rf (ex_r154_10 f429)]
      refine am_goX 2 (show ∃ jj nn : Nat, am_sh h428 160 = some (13, nn) ∧ jj < nn ∧ Int32.ofInt 3 = nI jj ∧ pz_S 8 (some .int) am_r234 4 Q 104 [(0, .ref 154), (1, .int ((Int16.ofInt 1078).toInt32)), (2, .int w), (3, .int (nI k))] [.int (h428.1 160 jj), .ref 154, .int gg, .ref 154] h428 from ⟨3, 80, ex_160 f429, (by omega), rfl, ?_⟩)
      rw [show h428.1 160 3 = dQ C from f431.2.2.2.2.2.2.2.2]
      refine am_goX 1 (show am_rc h428 154 11 ∧ 2 ≤ 8 ∧ h428.2.2.2.2 + am_al 236 ≤ 175 ∧ am_call am_cod 4 236 [.ref 154, .int (dQ C)] h428 (fun vv h' => pz_S 8 (some .int) am_r234 4 Q 107 [(0, .ref 154), (1, .int ((Int16.ofInt 1078).toInt32)), (2, .int w), (3, .int (nI k))] (vv.toList ++ [.int gg, .ref 154]) h') from ⟨Or.inl ⟨by decide, ex_154 f429⟩, by decide, ex_lim f429 rfl, am_call.up (q_236 (a := (d_223 C s k)) (b := (s.1 / ((Int8.ofInt 7).toInt32))) (c := (d_235 (s.2.2.2.1 k))) (d := w) f429 f430 f431 f436 c437 (fun h447 l448 => ?_)) (by decide)⟩)
      have f449 : ex_P h447 := lfr_P l448 f429
      have f450 : cI C := f430
      have f451 : tR C h447 := lfr_r l448 f431
      have f452 : ∀ e, e < dE C → h447.1 172 e = dW V e := lfr_on l448 f432
      have f453 : sR 0 (dP C) u h447 := lfr_sR l448 (by omega) f433
      have f454 : sR 1078 (dP C) s h447 := lfr_sR l448 (by omega) f434
      have f455 : h447.1 154 28 = gg := (l448.2 _ _ (by decide)).trans f435
      have f456 : h447.1 168 0 = (d_223 C s k) ∧ h447.1 168 1 = (s.1 / ((Int8.ofInt 7).toInt32)) ∧ h447.1 168 2 = (d_235 (s.2.2.2.1 k)) ∧ h447.1 168 3 = w := ⟨(l448.2 _ _ (by decide)).trans f436.1, (l448.2 _ _ (by decide)).trans f436.2.1, (l448.2 _ _ (by decide)).trans f436.2.2.1, (l448.2 _ _ (by decide)).trans f436.2.2.2⟩
      refine am_goX 1 (show ((dlaw C (d_223 C s k) (s.1 / ((Int8.ofInt 7).toInt32)) (d_235 (s.2.2.2.1 k)) w) = 0 → pz_S 8 (some .int) am_r234 4 Q 116 [(0, .ref 154), (1, .int ((Int16.ofInt 1078).toInt32)), (2, .int w), (3, .int (nI k))] [.int gg, .ref 154] h447) ∧ (¬ ((dlaw C (d_223 C s k) (s.1 / ((Int8.ofInt 7).toInt32)) (d_235 (s.2.2.2.1 k)) w) = 0) → pz_S 8 (some .int) am_r234 4 Q 110 [(0, .ref 154), (1, .int ((Int16.ofInt 1078).toInt32)), (2, .int w), (3, .int (nI k))] [.int gg, .ref 154] h447) from ⟨fun c457 => ?_, fun c457 => ?_⟩)
      · refine am_goX 3 (show am_sh h447 154 = some (11, 0) ∧ narrow (am_fty 11 28) (.int (gg ||| (Int32.ofInt 0))) = .int (gg ||| (Int32.ofInt 0)) ∧ fits (am_fty 11 28) (.int (gg ||| (Int32.ofInt 0))) = true ∧ pz_S 8 (some .int) am_r234 4 Q 121 [(0, .ref 154), (1, .int ((Int16.ofInt 1078).toInt32)), (2, .int w), (3, .int (nI k))] [] (am_wI h447 154 28 (gg ||| (Int32.ofInt 0))) from ⟨ex_154 f449, rfl, rfl, ?_⟩)
        have f459 : ex_P (am_wI h447 154 28 (gg ||| (Int32.ofInt 0))) := f449
        have f460 : cI C := f450
        have f461 : tR C (am_wI h447 154 28 (gg ||| (Int32.ofInt 0))) := tR_w (by omega) f451
        have f462 : ∀ e, e < dE C → (am_wI h447 154 28 (gg ||| (Int32.ofInt 0))).1 172 e = dW V e := on_w (by omega) f452
        have f463 : sR 0 (dP C) u (am_wI h447 154 28 (gg ||| (Int32.ofInt 0))) := sR_o (by omega) f453
        have f464 : sR 1078 (dP C) s (am_wI h447 154 28 (gg ||| (Int32.ofInt 0))) := sR_o (by omega) f454
        have f465 : (am_wI h447 154 28 (gg ||| (Int32.ofInt 0))).1 154 28 = (gg ||| (Int32.ofInt 0)) := em_we _ _ _ _
        have f466 : (am_wI h447 154 28 (gg ||| (Int32.ofInt 0))).1 168 0 = (d_223 C s k) ∧ (am_wI h447 154 28 (gg ||| (Int32.ofInt 0))).1 168 1 = (s.1 / ((Int8.ofInt 7).toInt32)) ∧ (am_wI h447 154 28 (gg ||| (Int32.ofInt 0))).1 168 2 = (d_235 (s.2.2.2.1 k)) ∧ (am_wI h447 154 28 (gg ||| (Int32.ofInt 0))).1 168 3 = w := fo_w (by omega) f456
        generalize am_wI h447 154 28 (gg ||| (Int32.ofInt 0)) = h458 at f459 f460 f461 f462 f463 f464 f465 f466 ⊢
        refine am_goX 2 (show 3 < 8 ∧ pz_S 8 (some .int) am_r234 4 Q 19 [(3, .int ((nI k) + (Int32.ofInt 1))), (0, .ref 154), (1, .int ((Int16.ofInt 1078).toInt32)), (2, .int w)] [] h458 from ⟨by decide, ?_⟩)
        rw [show d_234_19 C w (m + 1) k s gg = d_234_19 C w m (k + 1) s (gg ||| (Int32.ofInt 0)) from (if_neg c437).trans (if_pos c457)] at hZ
        rw [show (nI k) + (Int32.ofInt 1) = nI (k + 1) from (dn_a rfl rfl)]
        exact sv_S2 sv2_234 (by intro q hq; simp only [List.mem_cons, List.not_mem_nil, or_false] at hq; rcases hq with rfl | rfl | rfl | rfl <;> rfl) (ih (k + 1) s (gg ||| (Int32.ofInt 0)) _ (by omega) f459 f460 f461 f462 f463 f464 f465 hZ)
      · refine am_goX 6 (show am_sh h447 154 = some (11, 0) ∧ narrow (am_fty 11 28) (.int (gg ||| ((Int32.ofInt 1) <<< ((nI k) &&& 31)))) = .int (gg ||| ((Int32.ofInt 1) <<< ((nI k) &&& 31))) ∧ fits (am_fty 11 28) (.int (gg ||| ((Int32.ofInt 1) <<< ((nI k) &&& 31)))) = true ∧ pz_S 8 (some .int) am_r234 4 Q 121 [(0, .ref 154), (1, .int ((Int16.ofInt 1078).toInt32)), (2, .int w), (3, .int (nI k))] [] (am_wI h447 154 28 (gg ||| ((Int32.ofInt 1) <<< ((nI k) &&& 31)))) from ⟨ex_154 f449, rfl, rfl, ?_⟩)
        have f468 : ex_P (am_wI h447 154 28 (gg ||| ((Int32.ofInt 1) <<< ((nI k) &&& 31)))) := f449
        have f469 : cI C := f450
        have f470 : tR C (am_wI h447 154 28 (gg ||| ((Int32.ofInt 1) <<< ((nI k) &&& 31)))) := tR_w (by omega) f451
        have f471 : ∀ e, e < dE C → (am_wI h447 154 28 (gg ||| ((Int32.ofInt 1) <<< ((nI k) &&& 31)))).1 172 e = dW V e := on_w (by omega) f452
        have f472 : sR 0 (dP C) u (am_wI h447 154 28 (gg ||| ((Int32.ofInt 1) <<< ((nI k) &&& 31)))) := sR_o (by omega) f453
        have f473 : sR 1078 (dP C) s (am_wI h447 154 28 (gg ||| ((Int32.ofInt 1) <<< ((nI k) &&& 31)))) := sR_o (by omega) f454
        have f474 : (am_wI h447 154 28 (gg ||| ((Int32.ofInt 1) <<< ((nI k) &&& 31)))).1 154 28 = (gg ||| ((Int32.ofInt 1) <<< ((nI k) &&& 31))) := em_we _ _ _ _
        have f475 : (am_wI h447 154 28 (gg ||| ((Int32.ofInt 1) <<< ((nI k) &&& 31)))).1 168 0 = (d_223 C s k) ∧ (am_wI h447 154 28 (gg ||| ((Int32.ofInt 1) <<< ((nI k) &&& 31)))).1 168 1 = (s.1 / ((Int8.ofInt 7).toInt32)) ∧ (am_wI h447 154 28 (gg ||| ((Int32.ofInt 1) <<< ((nI k) &&& 31)))).1 168 2 = (d_235 (s.2.2.2.1 k)) ∧ (am_wI h447 154 28 (gg ||| ((Int32.ofInt 1) <<< ((nI k) &&& 31)))).1 168 3 = w := fo_w (by omega) f456
        generalize am_wI h447 154 28 (gg ||| ((Int32.ofInt 1) <<< ((nI k) &&& 31))) = h467 at f468 f469 f470 f471 f472 f473 f474 f475 ⊢
        refine am_goX 2 (show 3 < 8 ∧ pz_S 8 (some .int) am_r234 4 Q 19 [(3, .int ((nI k) + (Int32.ofInt 1))), (0, .ref 154), (1, .int ((Int16.ofInt 1078).toInt32)), (2, .int w)] [] h467 from ⟨by decide, ?_⟩)
        rw [show d_234_19 C w (m + 1) k s gg = d_234_19 C w m (k + 1) s (gg ||| ((Int32.ofInt 1) <<< ((nI k) &&& 31))) from (if_neg c437).trans (if_neg c457)] at hZ
        rw [show (nI k) + (Int32.ofInt 1) = nI (k + 1) from (dn_a rfl rfl)]
        exact sv_S2 sv2_234 (by intro q hq; simp only [List.mem_cons, List.not_mem_nil, or_false] at hq; rcases hq with rfl | rfl | rfl | rfl <;> rfl) (ih (k + 1) s (gg ||| ((Int32.ofInt 1) <<< ((nI k) &&& 31))) _ (by omega) f468 f469 f470 f471 f472 f473 f474 hZ)
theorem d_234_147_g1078 (x3 : Int32) (n4 : Nat) (hP : ex_P h) (hI : cI C) (hT : tR C h) (hO : ∀ e, e < dE C → h.1 172 e = dW V e) (hN : sR 0 (dP C) u h) (hS : sR 1078 (dP C) s h) (hG : h.1 154 28 = gg) (he : n4 < dE C) : ∀ (m k : Nat) (a5 : Int32), k + m = dP C → (pz_S 8 (some .int) am_r234 4 Q 201 [(0, .ref 154), (1, .int ((Int16.ofInt 1078).toInt32)), (2, .int w), (3, .int x3), (4, .int (nI n4)), (5, .int (d_234_147 C V s gg w n4 m k a5))] [] h) → pz_S 8 (some .int) am_r234 4 Q 147 [(0, .ref 154), (1, .int ((Int16.ofInt 1078).toInt32)), (2, .int w), (3, .int x3), (4, .int (nI n4)), (5, .int a5), (6, .int (nI k))] [] h := by
  intro m
  induction m with
  | zero =>
    intro k a5 hk hZ
    have h6 := hT.1.2.1
    have h5 := hT.2.1.2.1
    refine am_goX 3 (show am_rc h 154 11 ∧ 1 ≤ 8 ∧ h.2.2.2.2 + am_al 186 ≤ 175 ∧ am_call am_cod 4 186 [.ref 154] h (fun vv h' => pz_S 8 (some .int) am_r234 4 Q 153 [(0, .ref 154), (1, .int ((Int16.ofInt 1078).toInt32)), (2, .int w), (3, .int x3), (4, .int (nI n4)), (5, .int a5), (6, .int (nI k))] (vv.toList ++ [.int (nI k)]) h') from ⟨Or.inl ⟨by decide, ex_154 hP⟩, by decide, ex_lim hP rfl, am_call.up (d_186_r hP hT ?_) (by decide)⟩)
    refine am_goX 1 (show ((nI (dP C)) ≤ (nI k) → pz_S 8 (some .int) am_r234 4 Q 201 [(0, .ref 154), (1, .int ((Int16.ofInt 1078).toInt32)), (2, .int w), (3, .int x3), (4, .int (nI n4)), (5, .int a5), (6, .int (nI k))] [] h) ∧ (¬ ((nI (dP C)) ≤ (nI k)) → pz_S 8 (some .int) am_r234 4 Q 156 [(0, .ref 154), (1, .int ((Int16.ofInt 1078).toInt32)), (2, .int w), (3, .int x3), (4, .int (nI n4)), (5, .int a5), (6, .int (nI k))] [] h) from ⟨fun _ => ?_, fun hz => absurd (show nI (dP C) ≤ nI k from nI_le (by omega) (by omega)) hz⟩)
    exact sv_S2 sv2_234 (by intro q hq; simp only [List.mem_cons, List.not_mem_nil, or_false] at hq; rcases hq with rfl | rfl | rfl | rfl | rfl | rfl <;> rfl) (hZ)
  | succ m ih =>
    intro k a5 hk hZ
    have h6 := hT.1.2.1
    have h5 := hT.2.1.2.1
    refine am_goX 3 (show am_rc h 154 11 ∧ 1 ≤ 8 ∧ h.2.2.2.2 + am_al 186 ≤ 175 ∧ am_call am_cod 4 186 [.ref 154] h (fun vv h' => pz_S 8 (some .int) am_r234 4 Q 153 [(0, .ref 154), (1, .int ((Int16.ofInt 1078).toInt32)), (2, .int w), (3, .int x3), (4, .int (nI n4)), (5, .int a5), (6, .int (nI k))] (vv.toList ++ [.int (nI k)]) h') from ⟨Or.inl ⟨by decide, ex_154 hP⟩, by decide, ex_lim hP rfl, am_call.up (d_186_r hP hT ?_) (by decide)⟩)
    refine am_goX 1 (show ((nI (dP C)) ≤ (nI k) → pz_S 8 (some .int) am_r234 4 Q 201 [(0, .ref 154), (1, .int ((Int16.ofInt 1078).toInt32)), (2, .int w), (3, .int x3), (4, .int (nI n4)), (5, .int a5), (6, .int (nI k))] [] h) ∧ (¬ ((nI (dP C)) ≤ (nI k)) → pz_S 8 (some .int) am_r234 4 Q 156 [(0, .ref 154), (1, .int ((Int16.ofInt 1078).toInt32)), (2, .int w), (3, .int x3), (4, .int (nI n4)), (5, .int a5), (6, .int (nI k))] [] h) from ⟨fun hz => absurd hz (show ¬ (nI (dP C) ≤ nI k) by rw [nI_leI (by omega) (by omega)]; omega), fun _ => ?_⟩)
    refine am_goX 3 (show am_sh h 154 = some (11, 0) ∧ pz_S 8 (some .int) am_r234 4 Q 162 [(0, .ref 154), (1, .int ((Int16.ofInt 1078).toInt32)), (2, .int w), (3, .int x3), (4, .int (nI n4)), (5, .int a5), (6, .int (nI k))] [.int (h.1 154 28), .int a5] h from ⟨ex_154 hP, ?_⟩)
    rw [show h.1 154 28 = gg from hG]
    suffices key : ∀ (v485 : Int32), v485 = (if ¬ ((gg >>> ((nI k) &&& 31)) &&& (Int32.ofInt 1)) = (Int32.ofInt 1) then Int32.ofInt 0 else (if (d_238 C V s k n4 w) = 0 then Int32.ofInt 0 else (Int32.ofInt 1) <<< ((nI k) &&& 31))) → pz_S 8 (some .int) am_r234 4 Q 192 [(0, .ref 154), (1, .int ((Int16.ofInt 1078).toInt32)), (2, .int w), (3, .int x3), (4, .int (nI n4)), (6, .int (nI k))] [.int v485, .int a5] h by
      refine am_goX 6 (show (¬ ((gg >>> ((nI k) &&& 31)) &&& (Int32.ofInt 1)) = (Int32.ofInt 1) → pz_S 8 (some .int) am_r234 4 Q 191 [(0, .ref 154), (1, .int ((Int16.ofInt 1078).toInt32)), (2, .int w), (3, .int x3), (4, .int (nI n4)), (5, .int a5), (6, .int (nI k))] [.int a5] h) ∧ (¬ ¬ ((gg >>> ((nI k) &&& 31)) &&& (Int32.ofInt 1)) = (Int32.ofInt 1) → pz_S 8 (some .int) am_r234 4 Q 171 [(0, .ref 154), (1, .int ((Int16.ofInt 1078).toInt32)), (2, .int w), (3, .int x3), (4, .int (nI n4)), (5, .int a5), (6, .int (nI k))] [.int a5] h) from ⟨fun c484 => ?_, fun c484 => ?_⟩)
      · refine am_goX 1 (show pz_S 8 (some .int) am_r234 4 Q 192 [(0, .ref 154), (1, .int ((Int16.ofInt 1078).toInt32)), (2, .int w), (3, .int x3), (4, .int (nI n4)), (5, .int a5), (6, .int (nI k))] [.int (Int32.ofInt 0), .int a5] h from ?_)
        exact sv_S2 sv2_234 (by intro q hq; simp only [List.mem_cons, List.not_mem_nil, or_false] at hq; rcases hq with rfl | rfl | rfl | rfl | rfl | rfl <;> rfl) (key _ (if_pos c484).symm)
      · refine am_goX 6 (show am_rc h 154 11 ∧ 1 ≤ 8 ∧ h.2.2.2.2 + am_al 238 ≤ 175 ∧ am_call am_cod 4 238 [.ref 154, .int ((Int16.ofInt 1078).toInt32), .int (nI k), .int (nI n4), .int w] h (fun vv h' => pz_S 8 (some .int) am_r234 4 Q 181 [(0, .ref 154), (1, .int ((Int16.ofInt 1078).toInt32)), (2, .int w), (3, .int x3), (4, .int (nI n4)), (5, .int a5), (6, .int (nI k))] (vv.toList ++ [.int a5]) h') from ⟨Or.inl ⟨by decide, ex_154 hP⟩, by decide, ex_lim hP rfl, am_call.up (d_238_r1078 hP hI hT hO hN hS (by omega) (by omega) ?_) (by decide)⟩)
        suffices key : ∀ (v487 : Int32), v487 = (if (d_238 C V s k n4 w) = 0 then Int32.ofInt 0 else (Int32.ofInt 1) <<< ((nI k) &&& 31)) → pz_S 8 (some .int) am_r234 4 Q 192 [(0, .ref 154), (1, .int ((Int16.ofInt 1078).toInt32)), (2, .int w), (3, .int x3), (4, .int (nI n4)), (6, .int (nI k))] [.int v487, .int a5] h by
          refine am_goX 1 (show ((d_238 C V s k n4 w) = 0 → pz_S 8 (some .int) am_r234 4 Q 191 [(0, .ref 154), (1, .int ((Int16.ofInt 1078).toInt32)), (2, .int w), (3, .int x3), (4, .int (nI n4)), (5, .int a5), (6, .int (nI k))] [.int a5] h) ∧ (¬ ((d_238 C V s k n4 w) = 0) → pz_S 8 (some .int) am_r234 4 Q 184 [(0, .ref 154), (1, .int ((Int16.ofInt 1078).toInt32)), (2, .int w), (3, .int x3), (4, .int (nI n4)), (5, .int a5), (6, .int (nI k))] [.int a5] h) from ⟨fun c486 => ?_, fun c486 => ?_⟩)
          · refine am_goX 1 (show pz_S 8 (some .int) am_r234 4 Q 192 [(0, .ref 154), (1, .int ((Int16.ofInt 1078).toInt32)), (2, .int w), (3, .int x3), (4, .int (nI n4)), (5, .int a5), (6, .int (nI k))] [.int (Int32.ofInt 0), .int a5] h from ?_)
            exact sv_S2 sv2_234 (by intro q hq; simp only [List.mem_cons, List.not_mem_nil, or_false] at hq; rcases hq with rfl | rfl | rfl | rfl | rfl | rfl <;> rfl) (key _ (if_pos c486).symm)
          · refine am_goX 4 (show pz_S 8 (some .int) am_r234 4 Q 192 [(0, .ref 154), (1, .int ((Int16.ofInt 1078).toInt32)), (2, .int w), (3, .int x3), (4, .int (nI n4)), (5, .int a5), (6, .int (nI k))] [.int ((Int32.ofInt 1) <<< ((nI k) &&& 31)), .int a5] h from ?_)
            exact sv_S2 sv2_234 (by intro q hq; simp only [List.mem_cons, List.not_mem_nil, or_false] at hq; rcases hq with rfl | rfl | rfl | rfl | rfl | rfl <;> rfl) (key _ (if_neg c486).symm)
        intro v487 e488
        subst e488
        exact sv_S2 sv2_234 (by intro q hq; simp only [List.mem_cons, List.not_mem_nil, or_false] at hq; rcases hq with rfl | rfl | rfl | rfl | rfl | rfl <;> rfl) (key _ (if_neg c484).symm)
    intro v485 e489
    subst e489
    refine am_goX 4 (show 5 < 8 ∧ 6 < 8 ∧ pz_S 8 (some .int) am_r234 4 Q 147 [(6, .int ((nI k) + (Int32.ofInt 1))), (5, .int (a5 ||| (if ¬ ((gg >>> ((nI k) &&& 31)) &&& (Int32.ofInt 1)) = (Int32.ofInt 1) then Int32.ofInt 0 else (if (d_238 C V s k n4 w) = 0 then Int32.ofInt 0 else (Int32.ofInt 1) <<< ((nI k) &&& 31))))), (0, .ref 154), (1, .int ((Int16.ofInt 1078).toInt32)), (2, .int w), (3, .int x3), (4, .int (nI n4))] [] h from ⟨by decide, by decide, ?_⟩)
    rw [show (nI k) + (Int32.ofInt 1) = nI (k + 1) from (dn_a rfl rfl)]
    exact sv_S2 sv2_234 (by intro q hq; simp only [List.mem_cons, List.not_mem_nil, or_false] at hq; rcases hq with rfl | rfl | rfl | rfl | rfl | rfl | rfl <;> rfl) (ih (k + 1) (a5 ||| (if ¬ ((gg >>> ((nI k) &&& 31)) &&& (Int32.ofInt 1)) = (Int32.ofInt 1) then Int32.ofInt 0 else (if (d_238 C V s k n4 w) = 0 then Int32.ofInt 0 else (Int32.ofInt 1) <<< ((nI k) &&& 31)))) (by omega) hZ)
theorem d_234_281_g1078 (x3 : Int32) (n4 : Nat) (x5 : Int32) : ∀ (m k : Nat) (s : dS) (h : am_H), k + m = dP C → (ex_P h) → (cI C) → (tR C h) → (∀ e, e < dE C → h.1 172 e = dW V e) → (sR 0 (dP C) u h) → (sR 1078 (dP C) s h) → (h.1 154 28 = gg) → (∀ h1, (ex_P h1) → (cI C) → (tR C h1) → (∀ e, e < dE C → h1.1 172 e = dW V e) → (sR 0 (dP C) u h1) → (sR 1078 (dP C) (d_234_281 C x5 m k s) h1) → (h1.1 154 28 = gg) → pz_S 8 (some .int) am_r234 4 Q 335 [(0, .ref 154), (1, .int ((Int16.ofInt 1078).toInt32)), (2, .int w), (3, .int x3), (4, .int (nI n4))] [] h1) → pz_S 8 (some .int) am_r234 4 Q 281 [(0, .ref 154), (1, .int ((Int16.ofInt 1078).toInt32)), (2, .int w), (3, .int x3), (4, .int (nI n4)), (5, .int x5), (7, .int (nI k))] [] h := by
  intro m
  induction m with
  | zero =>
    intro k s h hk hP hI hT hO hN hS hG hZ
    have h6 := hT.1.2.1
    have h5 := hT.2.1.2.1
    refine am_goX 3 (show am_rc h 154 11 ∧ 1 ≤ 8 ∧ h.2.2.2.2 + am_al 186 ≤ 175 ∧ am_call am_cod 4 186 [.ref 154] h (fun vv h' => pz_S 8 (some .int) am_r234 4 Q 287 [(0, .ref 154), (1, .int ((Int16.ofInt 1078).toInt32)), (2, .int w), (3, .int x3), (4, .int (nI n4)), (5, .int x5), (7, .int (nI k))] (vv.toList ++ [.int (nI k)]) h') from ⟨Or.inl ⟨by decide, ex_154 hP⟩, by decide, ex_lim hP rfl, am_call.up (d_186_r hP hT ?_) (by decide)⟩)
    refine am_goX 1 (show ((nI (dP C)) ≤ (nI k) → pz_S 8 (some .int) am_r234 4 Q 335 [(0, .ref 154), (1, .int ((Int16.ofInt 1078).toInt32)), (2, .int w), (3, .int x3), (4, .int (nI n4)), (5, .int x5), (7, .int (nI k))] [] h) ∧ (¬ ((nI (dP C)) ≤ (nI k)) → pz_S 8 (some .int) am_r234 4 Q 290 [(0, .ref 154), (1, .int ((Int16.ofInt 1078).toInt32)), (2, .int w), (3, .int x3), (4, .int (nI n4)), (5, .int x5), (7, .int (nI k))] [] h) from ⟨fun _ => ?_, fun hz => absurd (show nI (dP C) ≤ nI k from nI_le (by omega) (by omega)) hz⟩)
    exact sv_S2 sv2_234 (by intro q hq; simp only [List.mem_cons, List.not_mem_nil, or_false] at hq; rcases hq with rfl | rfl | rfl | rfl | rfl <;> rfl) (hZ _ hP hI hT hO hN hS hG)
  | succ m ih =>
    intro k s h hk hP hI hT hO hN hS hG hZ
    have h6 := hT.1.2.1
    have h5 := hT.2.1.2.1
    refine am_goX 3 (show am_rc h 154 11 ∧ 1 ≤ 8 ∧ h.2.2.2.2 + am_al 186 ≤ 175 ∧ am_call am_cod 4 186 [.ref 154] h (fun vv h' => pz_S 8 (some .int) am_r234 4 Q 287 [(0, .ref 154), (1, .int ((Int16.ofInt 1078).toInt32)), (2, .int w), (3, .int x3), (4, .int (nI n4)), (5, .int x5), (7, .int (nI k))] (vv.toList ++ [.int (nI k)]) h') from ⟨Or.inl ⟨by decide, ex_154 hP⟩, by decide, ex_lim hP rfl, am_call.up (d_186_r hP hT ?_) (by decide)⟩)
    refine am_goX 1 (show ((nI (dP C)) ≤ (nI k) → pz_S 8 (some .int) am_r234 4 Q 335 [(0, .ref 154), (1, .int ((Int16.ofInt 1078).toInt32)), (2, .int w), (3, .int x3), (4, .int (nI n4)), (5, .int x5), (7, .int (nI k))] [] h) ∧ (¬ ((nI (dP C)) ≤ (nI k)) → pz_S 8 (some .int) am_r234 4 Q 290 [(0, .ref 154), (1, .int ((Int16.ofInt 1078).toInt32)), (2, .int w), (3, .int x3), (4, .int (nI n4)), (5, .int x5), (7, .int (nI k))] [] h) from ⟨fun hz => absurd hz (show ¬ (nI (dP C) ≤ nI k) by rw [nI_leI (by omega) (by omega)]; omega), fun _ => ?_⟩)
    refine am_goX 2 (show am_sh h 154 = some (11, 0) ∧ pz_S 8 (some .int) am_r234 4 Q 294 [(0, .ref 154), (1, .int ((Int16.ofInt 1078).toInt32)), (2, .int w), (3, .int x3), (4, .int (nI n4)), (5, .int x5), (7, .int (nI k))] [am_rf (h.2.2.1 154 24)] h from ⟨ex_154 hP, ?_⟩)
    rw [show am_rf (h.2.2.1 154 24) = .ref 170 from congrArg am_rf (ex_r154_24 hP)]
    refine am_goX 7 (show (Value.int ((((Int16.ofInt 1078).toInt32) + ((Int8.ofInt 8).toInt32)) + (nI k))).category = 1 ∧ (Value.ref 170).category = 1 ∧ ∃ jj nn : Nat, am_sh h 170 = some (13, nn) ∧ jj < nn ∧ (((Int16.ofInt 1078).toInt32) + ((Int8.ofInt 8).toInt32)) + (nI k) = nI jj ∧ pz_S 8 (some .int) am_r234 4 Q 303 [(0, .ref 154), (1, .int ((Int16.ofInt 1078).toInt32)), (2, .int w), (3, .int x3), (4, .int (nI n4)), (5, .int x5), (7, .int (nI k))] [.int (h.1 170 jj), .int ((((Int16.ofInt 1078).toInt32) + ((Int8.ofInt 8).toInt32)) + (nI k)), .ref 170] h from ⟨rfl, rfl, ⟨(1086 + k), 1127, ex_170 hP, (by omega), (dn_a (dn_a (show (Int16.ofInt 1078).toInt32 = nI 1078 by decide) (show (Int8.ofInt 8).toInt32 = nI 8 by decide)) rfl), ?_⟩⟩)
    rw [show h.1 170 (1086 + k) = s.2.2.2.1 k from (by rw [show (1086 + k) = 1078 + 8 + k by omega]; exact hS.2.2.1 k (by omega))]
    suffices key : ∀ (v516 : Int32), v516 = (if ¬ ((x5 >>> ((nI k) &&& 31)) &&& (Int32.ofInt 1)) = (Int32.ofInt 1) then Int32.ofInt 0 else x5 &&& (((Int32.ofInt 1) <<< ((nI k) &&& 31)) ^^^ (Int32.ofInt (-1)))) → pz_S 8 (some .int) am_r234 4 Q 327 [(0, .ref 154), (1, .int ((Int16.ofInt 1078).toInt32)), (2, .int w), (3, .int x3), (4, .int (nI n4)), (5, .int x5), (7, .int (nI k))] [.int v516, .int (s.2.2.2.1 k), .int ((((Int16.ofInt 1078).toInt32) + ((Int8.ofInt 8).toInt32)) + (nI k)), .ref 170] h by
      refine am_goX 7 (show (¬ ((x5 >>> ((nI k) &&& 31)) &&& (Int32.ofInt 1)) = (Int32.ofInt 1) → pz_S 8 (some .int) am_r234 4 Q 326 [(0, .ref 154), (1, .int ((Int16.ofInt 1078).toInt32)), (2, .int w), (3, .int x3), (4, .int (nI n4)), (5, .int x5), (7, .int (nI k))] [.int (s.2.2.2.1 k), .int ((((Int16.ofInt 1078).toInt32) + ((Int8.ofInt 8).toInt32)) + (nI k)), .ref 170] h) ∧ (¬ ¬ ((x5 >>> ((nI k) &&& 31)) &&& (Int32.ofInt 1)) = (Int32.ofInt 1) → pz_S 8 (some .int) am_r234 4 Q 314 [(0, .ref 154), (1, .int ((Int16.ofInt 1078).toInt32)), (2, .int w), (3, .int x3), (4, .int (nI n4)), (5, .int x5), (7, .int (nI k))] [.int (s.2.2.2.1 k), .int ((((Int16.ofInt 1078).toInt32) + ((Int8.ofInt 8).toInt32)) + (nI k)), .ref 170] h) from ⟨fun c515 => ?_, fun c515 => ?_⟩)
      · refine am_goX 1 (show pz_S 8 (some .int) am_r234 4 Q 327 [(0, .ref 154), (1, .int ((Int16.ofInt 1078).toInt32)), (2, .int w), (3, .int x3), (4, .int (nI n4)), (5, .int x5), (7, .int (nI k))] [.int (Int32.ofInt 0), .int (s.2.2.2.1 k), .int ((((Int16.ofInt 1078).toInt32) + ((Int8.ofInt 8).toInt32)) + (nI k)), .ref 170] h from ?_)
        exact sv_S2 sv2_234 (by intro q hq; simp only [List.mem_cons, List.not_mem_nil, or_false] at hq; rcases hq with rfl | rfl | rfl | rfl | rfl | rfl | rfl <;> rfl) (key _ (if_pos c515).symm)
      · refine am_goX 8 (show pz_S 8 (some .int) am_r234 4 Q 327 [(0, .ref 154), (1, .int ((Int16.ofInt 1078).toInt32)), (2, .int w), (3, .int x3), (4, .int (nI n4)), (5, .int x5), (7, .int (nI k))] [.int (x5 &&& (((Int32.ofInt 1) <<< ((nI k) &&& 31)) ^^^ (Int32.ofInt (-1)))), .int (s.2.2.2.1 k), .int ((((Int16.ofInt 1078).toInt32) + ((Int8.ofInt 8).toInt32)) + (nI k)), .ref 170] h from ?_)
        exact sv_S2 sv2_234 (by intro q hq; simp only [List.mem_cons, List.not_mem_nil, or_false] at hq; rcases hq with rfl | rfl | rfl | rfl | rfl | rfl | rfl <;> rfl) (key _ (if_neg c515).symm)
    intro v516 e517
    subst e517
    refine am_goX 2 (show ∃ jj nn : Nat, am_so h 170 = some (13, nn) ∧ jj < nn ∧ (((Int16.ofInt 1078).toInt32) + ((Int8.ofInt 8).toInt32)) + (nI k) = nI jj ∧ pz_S 8 (some .int) am_r234 4 Q 329 [(0, .ref 154), (1, .int ((Int16.ofInt 1078).toInt32)), (2, .int w), (3, .int x3), (4, .int (nI n4)), (5, .int x5), (7, .int (nI k))] [] (am_wI h 170 jj ((s.2.2.2.1 k) ||| (if ¬ ((x5 >>> ((nI k) &&& 31)) &&& (Int32.ofInt 1)) = (Int32.ofInt 1) then Int32.ofInt 0 else x5 &&& (((Int32.ofInt 1) <<< ((nI k) &&& 31)) ^^^ (Int32.ofInt (-1)))))) from ⟨(1086 + k), 1127, ex_w170 hP, (by omega), (dn_a (dn_a (show (Int16.ofInt 1078).toInt32 = nI 1078 by decide) (show (Int8.ofInt 8).toInt32 = nI 8 by decide)) rfl), ?_⟩)
    have f519 : ex_P (am_wI h 170 (1086 + k) ((s.2.2.2.1 k) ||| (if ¬ ((x5 >>> ((nI k) &&& 31)) &&& (Int32.ofInt 1)) = (Int32.ofInt 1) then Int32.ofInt 0 else x5 &&& (((Int32.ofInt 1) <<< ((nI k) &&& 31)) ^^^ (Int32.ofInt (-1)))))) := hP
    have f520 : cI C := hI
    have f521 : tR C (am_wI h 170 (1086 + k) ((s.2.2.2.1 k) ||| (if ¬ ((x5 >>> ((nI k) &&& 31)) &&& (Int32.ofInt 1)) = (Int32.ofInt 1) then Int32.ofInt 0 else x5 &&& (((Int32.ofInt 1) <<< ((nI k) &&& 31)) ^^^ (Int32.ofInt (-1)))))) := tR_w (by omega) hT
    have f522 : ∀ e, e < dE C → (am_wI h 170 (1086 + k) ((s.2.2.2.1 k) ||| (if ¬ ((x5 >>> ((nI k) &&& 31)) &&& (Int32.ofInt 1)) = (Int32.ofInt 1) then Int32.ofInt 0 else x5 &&& (((Int32.ofInt 1) <<< ((nI k) &&& 31)) ^^^ (Int32.ofInt (-1)))))).1 172 e = dW V e := on_w (by omega) hO
    have f523 : sR 0 (dP C) u (am_wI h 170 (1086 + k) ((s.2.2.2.1 k) ||| (if ¬ ((x5 >>> ((nI k) &&& 31)) &&& (Int32.ofInt 1)) = (Int32.ofInt 1) then Int32.ofInt 0 else x5 &&& (((Int32.ofInt 1) <<< ((nI k) &&& 31)) ^^^ (Int32.ofInt (-1)))))) := sR_q (by omega) hN
    have f524 : sR 1078 (dP C) (sSM s k ((s.2.2.2.1 k) ||| (if ¬ ((x5 >>> ((nI k) &&& 31)) &&& (Int32.ofInt 1)) = (Int32.ofInt 1) then Int32.ofInt 0 else x5 &&& (((Int32.ofInt 1) <<< ((nI k) &&& 31)) ^^^ (Int32.ofInt (-1)))))) (am_wI h 170 (1086 + k) ((s.2.2.2.1 k) ||| (if ¬ ((x5 >>> ((nI k) &&& 31)) &&& (Int32.ofInt 1)) = (Int32.ofInt 1) then Int32.ofInt 0 else x5 &&& (((Int32.ofInt 1) <<< ((nI k) &&& 31)) ^^^ (Int32.ofInt (-1)))))) := sR_wM (i := k) (by omega) (by omega) hS
    have f525 : (am_wI h 170 (1086 + k) ((s.2.2.2.1 k) ||| (if ¬ ((x5 >>> ((nI k) &&& 31)) &&& (Int32.ofInt 1)) = (Int32.ofInt 1) then Int32.ofInt 0 else x5 &&& (((Int32.ofInt 1) <<< ((nI k) &&& 31)) ^^^ (Int32.ofInt (-1)))))).1 154 28 = gg := (em_wn _ _ (by omega)).trans hG
    generalize am_wI h 170 (1086 + k) ((s.2.2.2.1 k) ||| (if ¬ ((x5 >>> ((nI k) &&& 31)) &&& (Int32.ofInt 1)) = (Int32.ofInt 1) then Int32.ofInt 0 else x5 &&& (((Int32.ofInt 1) <<< ((nI k) &&& 31)) ^^^ (Int32.ofInt (-1))))) = h518 at f519 f520 f521 f522 f523 f524 f525 ⊢
    refine am_goX 2 (show 7 < 8 ∧ pz_S 8 (some .int) am_r234 4 Q 281 [(7, .int ((nI k) + (Int32.ofInt 1))), (0, .ref 154), (1, .int ((Int16.ofInt 1078).toInt32)), (2, .int w), (3, .int x3), (4, .int (nI n4)), (5, .int x5)] [] h518 from ⟨by decide, ?_⟩)
    rw [show (nI k) + (Int32.ofInt 1) = nI (k + 1) from (dn_a rfl rfl)]
    exact sv_S2 sv2_234 (by intro q hq; simp only [List.mem_cons, List.not_mem_nil, or_false] at hq; rcases hq with rfl | rfl | rfl | rfl | rfl | rfl | rfl <;> rfl) (ih (k + 1) (sSM s k ((s.2.2.2.1 k) ||| (if ¬ ((x5 >>> ((nI k) &&& 31)) &&& (Int32.ofInt 1)) = (Int32.ofInt 1) then Int32.ofInt 0 else x5 &&& (((Int32.ofInt 1) <<< ((nI k) &&& 31)) ^^^ (Int32.ofInt (-1)))))) _ (by omega) f519 f520 f521 f522 f523 f524 f525 hZ)
theorem d_234_132_g1078 : ∀ (m k : Nat) (a3 : Int32) (s : dS) (h : am_H), k + m = dE C → (ex_P h) → (cI C) → (tR C h) → (∀ e, e < dE C → h.1 172 e = dW V e) → (sR 0 (dP C) u h) → (sR 1078 (dP C) s h) → (h.1 154 28 = gg) → (∀ h1, (ex_P h1) → (cI C) → (tR C h1) → (∀ e, e < dE C → h1.1 172 e = dW V e) → (sR 0 (dP C) u h1) → (sR 1078 (dP C) ((d_234_132 C V gg w m k a3 s).2) h1) → (h1.1 154 28 = gg) → pz_S 8 (some .int) am_r234 4 Q 341 [(3, .int ((d_234_132 C V gg w m k a3 s).1))] [] h1) → pz_S 8 (some .int) am_r234 4 Q 132 [(0, .ref 154), (1, .int ((Int16.ofInt 1078).toInt32)), (2, .int w), (3, .int a3), (4, .int (nI k))] [] h := by
  intro m
  induction m with
  | zero =>
    intro k a3 s h hk hP hI hT hO hN hS hG hZ
    have h6 := hT.1.2.1
    have h5 := hT.2.1.2.1
    refine am_goX 3 (show am_rc h 154 11 ∧ 1 ≤ 8 ∧ h.2.2.2.2 + am_al 183 ≤ 175 ∧ am_call am_cod 4 183 [.ref 154] h (fun vv h' => pz_S 8 (some .int) am_r234 4 Q 138 [(0, .ref 154), (1, .int ((Int16.ofInt 1078).toInt32)), (2, .int w), (3, .int a3), (4, .int (nI k))] (vv.toList ++ [.int (nI k)]) h') from ⟨Or.inl ⟨by decide, ex_154 hP⟩, by decide, ex_lim hP rfl, am_call.up (d_183_r hP hT ?_) (by decide)⟩)
    refine am_goX 1 (show ((nI (dE C)) ≤ (nI k) → pz_S 8 (some .int) am_r234 4 Q 341 [(0, .ref 154), (1, .int ((Int16.ofInt 1078).toInt32)), (2, .int w), (3, .int a3), (4, .int (nI k))] [] h) ∧ (¬ ((nI (dE C)) ≤ (nI k)) → pz_S 8 (some .int) am_r234 4 Q 141 [(0, .ref 154), (1, .int ((Int16.ofInt 1078).toInt32)), (2, .int w), (3, .int a3), (4, .int (nI k))] [] h) from ⟨fun _ => ?_, fun hz => absurd (show nI (dE C) ≤ nI k from nI_le (by omega) (by omega)) hz⟩)
    exact sv_S2 sv2_234 (by intro q hq; simp only [List.mem_cons, List.not_mem_nil, or_false] at hq; rcases hq with rfl <;> rfl) (hZ _ hP hI hT hO hN hS hG)
  | succ m ih =>
    intro k a3 s h hk hP hI hT hO hN hS hG hZ
    have h6 := hT.1.2.1
    have h5 := hT.2.1.2.1
    refine am_goX 3 (show am_rc h 154 11 ∧ 1 ≤ 8 ∧ h.2.2.2.2 + am_al 183 ≤ 175 ∧ am_call am_cod 4 183 [.ref 154] h (fun vv h' => pz_S 8 (some .int) am_r234 4 Q 138 [(0, .ref 154), (1, .int ((Int16.ofInt 1078).toInt32)), (2, .int w), (3, .int a3), (4, .int (nI k))] (vv.toList ++ [.int (nI k)]) h') from ⟨Or.inl ⟨by decide, ex_154 hP⟩, by decide, ex_lim hP rfl, am_call.up (d_183_r hP hT ?_) (by decide)⟩)
    refine am_goX 1 (show ((nI (dE C)) ≤ (nI k) → pz_S 8 (some .int) am_r234 4 Q 341 [(0, .ref 154), (1, .int ((Int16.ofInt 1078).toInt32)), (2, .int w), (3, .int a3), (4, .int (nI k))] [] h) ∧ (¬ ((nI (dE C)) ≤ (nI k)) → pz_S 8 (some .int) am_r234 4 Q 141 [(0, .ref 154), (1, .int ((Int16.ofInt 1078).toInt32)), (2, .int w), (3, .int a3), (4, .int (nI k))] [] h) from ⟨fun hz => absurd hz (show ¬ (nI (dE C) ≤ nI k) by rw [nI_leI (by omega) (by omega)]; omega), fun _ => ?_⟩)
    refine am_goX 4 (show 5 < 8 ∧ 6 < 8 ∧ pz_S 8 (some .int) am_r234 4 Q 147 [(6, .int (Int32.ofInt 0)), (5, .int (Int32.ofInt 0)), (0, .ref 154), (1, .int ((Int16.ofInt 1078).toInt32)), (2, .int w), (3, .int a3), (4, .int (nI k))] [] h from ⟨by decide, by decide, ?_⟩)
    refine sv_S2 sv2_234 (by intro q hq; simp only [List.mem_cons, List.not_mem_nil, or_false] at hq; rcases hq with rfl | rfl | rfl | rfl | rfl | rfl | rfl <;> rfl) (d_234_147_g1078 a3 k hP hI hT hO hN hS hG (by omega) (dP C) 0 (Int32.ofInt 0) (by omega) ?_)
    refine am_goX 2 (show am_sh h 154 = some (11, 0) ∧ pz_S 8 (some .int) am_r234 4 Q 205 [(0, .ref 154), (1, .int ((Int16.ofInt 1078).toInt32)), (2, .int w), (3, .int a3), (4, .int (nI k)), (5, .int (d_234_147 C V s gg w k (dP C) 0 (Int32.ofInt 0)))] [am_rf (h.2.2.1 154 24)] h from ⟨ex_154 hP, ?_⟩)
    rw [show am_rf (h.2.2.1 154 24) = .ref 170 from congrArg am_rf (ex_r154_24 hP)]
    refine am_goX 7 (show ∃ jj nn : Nat, am_so h 170 = some (13, nn) ∧ jj < nn ∧ (((Int16.ofInt 1078).toInt32) + ((Int8.ofInt 19).toInt32)) + (nI k) = nI jj ∧ pz_S 8 (some .int) am_r234 4 Q 215 [(0, .ref 154), (1, .int ((Int16.ofInt 1078).toInt32)), (2, .int w), (3, .int a3), (4, .int (nI k)), (5, .int (d_234_147 C V s gg w k (dP C) 0 (Int32.ofInt 0)))] [] (am_wI h 170 jj (d_234_147 C V s gg w k (dP C) 0 (Int32.ofInt 0))) from ⟨(1097 + k), 1127, ex_w170 hP, (by omega), (dn_a (dn_a (show (Int16.ofInt 1078).toInt32 = nI 1078 by decide) (show (Int8.ofInt 19).toInt32 = nI 19 by decide)) rfl), ?_⟩)
    have f485 : ex_P (am_wI h 170 (1097 + k) (d_234_147 C V s gg w k (dP C) 0 (Int32.ofInt 0))) := hP
    have f486 : cI C := hI
    have f487 : tR C (am_wI h 170 (1097 + k) (d_234_147 C V s gg w k (dP C) 0 (Int32.ofInt 0))) := tR_w (by omega) hT
    have f488 : ∀ e, e < dE C → (am_wI h 170 (1097 + k) (d_234_147 C V s gg w k (dP C) 0 (Int32.ofInt 0))).1 172 e = dW V e := on_w (by omega) hO
    have f489 : sR 0 (dP C) u (am_wI h 170 (1097 + k) (d_234_147 C V s gg w k (dP C) 0 (Int32.ofInt 0))) := sR_q (by omega) hN
    have f490 : sR 1078 (dP C) (sSA s k (d_234_147 C V s gg w k (dP C) 0 (Int32.ofInt 0))) (am_wI h 170 (1097 + k) (d_234_147 C V s gg w k (dP C) 0 (Int32.ofInt 0))) := sR_wA (i := k) (by omega) (by omega) hS
    have f491 : (am_wI h 170 (1097 + k) (d_234_147 C V s gg w k (dP C) 0 (Int32.ofInt 0))).1 154 28 = gg := (em_wn _ _ (by omega)).trans hG
    generalize am_wI h 170 (1097 + k) (d_234_147 C V s gg w k (dP C) 0 (Int32.ofInt 0)) = h484 at f485 f486 f487 f488 f489 f490 f491 ⊢
    refine am_goX 2 (show 0 ≤ 8 ∧ h484.2.2.2.2 + am_al 235 ≤ 175 ∧ am_call am_cod 4 235 [.int (d_234_147 C V s gg w k (dP C) 0 (Int32.ofInt 0))] h484 (fun vv h' => pz_S 8 (some .int) am_r234 4 Q 220 [(0, .ref 154), (1, .int ((Int16.ofInt 1078).toInt32)), (2, .int w), (3, .int a3), (4, .int (nI k)), (5, .int (d_234_147 C V s gg w k (dP C) 0 (Int32.ofInt 0)))] (vv.toList ++ []) h') from ⟨by decide, ex_lim f485 rfl, am_call.up (d_235_w f485 ?_) (by decide)⟩)
    refine am_goX 4 (show am_rc h484 154 11 ∧ 1 ≤ 8 ∧ h484.2.2.2.2 + am_al 184 ≤ 175 ∧ am_call am_cod 4 184 [.ref 154, .int (nI k), .int (Int32.ofInt 1)] h484 (fun vv h' => pz_S 8 (some .int) am_r234 4 Q 227 [(0, .ref 154), (1, .int ((Int16.ofInt 1078).toInt32)), (2, .int w), (3, .int a3), (4, .int (nI k)), (5, .int (d_234_147 C V s gg w k (dP C) 0 (Int32.ofInt 0)))] (vv.toList ++ [.int (d_235 (d_234_147 C V s gg w k (dP C) 0 (Int32.ofInt 0)))]) h') from ⟨Or.inl ⟨by decide, ex_154 f485⟩, by decide, ex_lim f485 rfl, am_call.up (d_184_r1 f485 f487 (by omega) ?_) (by decide)⟩)
    suffices key : ∀ (v493 : Int32), v493 = (if (d_235 (d_234_147 C V s gg w k (dP C) 0 (Int32.ofInt 0))) < (dN C k) then Int32.ofInt 0 else Int32.ofInt 1) → pz_S 8 (some .int) am_r234 4 Q 235 [(0, .ref 154), (1, .int ((Int16.ofInt 1078).toInt32)), (2, .int w), (3, .int a3), (4, .int (nI k)), (5, .int (d_234_147 C V s gg w k (dP C) 0 (Int32.ofInt 0)))] [.int v493] h484 by
      refine am_goX 1 (show ((d_235 (d_234_147 C V s gg w k (dP C) 0 (Int32.ofInt 0))) < (dN C k) → pz_S 8 (some .int) am_r234 4 Q 234 [(0, .ref 154), (1, .int ((Int16.ofInt 1078).toInt32)), (2, .int w), (3, .int a3), (4, .int (nI k)), (5, .int (d_234_147 C V s gg w k (dP C) 0 (Int32.ofInt 0)))] [] h484) ∧ (¬ ((d_235 (d_234_147 C V s gg w k (dP C) 0 (Int32.ofInt 0))) < (dN C k)) → pz_S 8 (some .int) am_r234 4 Q 230 [(0, .ref 154), (1, .int ((Int16.ofInt 1078).toInt32)), (2, .int w), (3, .int a3), (4, .int (nI k)), (5, .int (d_234_147 C V s gg w k (dP C) 0 (Int32.ofInt 0)))] [] h484) from ⟨fun c492 => ?_, fun c492 => ?_⟩)
      · refine am_goX 1 (show pz_S 8 (some .int) am_r234 4 Q 235 [(0, .ref 154), (1, .int ((Int16.ofInt 1078).toInt32)), (2, .int w), (3, .int a3), (4, .int (nI k)), (5, .int (d_234_147 C V s gg w k (dP C) 0 (Int32.ofInt 0)))] [.int (Int32.ofInt 0)] h484 from ?_)
        exact sv_S2 sv2_234 (by intro q hq; simp only [List.mem_cons, List.not_mem_nil, or_false] at hq; rcases hq with rfl | rfl | rfl | rfl | rfl | rfl <;> rfl) (key _ (if_pos c492).symm)
      · refine am_goX 2 (show pz_S 8 (some .int) am_r234 4 Q 235 [(0, .ref 154), (1, .int ((Int16.ofInt 1078).toInt32)), (2, .int w), (3, .int a3), (4, .int (nI k)), (5, .int (d_234_147 C V s gg w k (dP C) 0 (Int32.ofInt 0)))] [.int (Int32.ofInt 1)] h484 from ?_)
        exact sv_S2 sv2_234 (by intro q hq; simp only [List.mem_cons, List.not_mem_nil, or_false] at hq; rcases hq with rfl | rfl | rfl | rfl | rfl | rfl <;> rfl) (key _ (if_neg c492).symm)
    intro v493 e494
    subst e494
    refine am_goX 3 (show 6 < 8 ∧ am_sh h484 154 = some (11, 0) ∧ pz_S 8 (some .int) am_r234 4 Q 241 [(6, .int (if (d_235 (d_234_147 C V s gg w k (dP C) 0 (Int32.ofInt 0))) < (dN C k) then Int32.ofInt 0 else Int32.ofInt 1)), (0, .ref 154), (1, .int ((Int16.ofInt 1078).toInt32)), (2, .int w), (3, .int a3), (4, .int (nI k)), (5, .int (d_234_147 C V s gg w k (dP C) 0 (Int32.ofInt 0)))] [am_rf (h484.2.2.1 154 24)] h484 from ⟨by decide, ex_154 f485, ?_⟩)
    rw [show am_rf (h484.2.2.1 154 24) = .ref 170 from congrArg am_rf (ex_r154_24 f485)]
    refine am_goX 7 (show (Value.int ((((Int16.ofInt 1078).toInt32) + ((Int8.ofInt 14).toInt32)) + (nI k))).category = 1 ∧ (Value.ref 170).category = 1 ∧ ∃ jj nn : Nat, am_sh h484 170 = some (13, nn) ∧ jj < nn ∧ (((Int16.ofInt 1078).toInt32) + ((Int8.ofInt 14).toInt32)) + (nI k) = nI jj ∧ pz_S 8 (some .int) am_r234 4 Q 250 [(6, .int (if (d_235 (d_234_147 C V s gg w k (dP C) 0 (Int32.ofInt 0))) < (dN C k) then Int32.ofInt 0 else Int32.ofInt 1)), (0, .ref 154), (1, .int ((Int16.ofInt 1078).toInt32)), (2, .int w), (3, .int a3), (4, .int (nI k)), (5, .int (d_234_147 C V s gg w k (dP C) 0 (Int32.ofInt 0)))] [.int (h484.1 170 jj), .int ((((Int16.ofInt 1078).toInt32) + ((Int8.ofInt 14).toInt32)) + (nI k)), .ref 170] h484 from ⟨rfl, rfl, ⟨(1092 + k), 1127, ex_170 f485, (by omega), (dn_a (dn_a (show (Int16.ofInt 1078).toInt32 = nI 1078 by decide) (show (Int8.ofInt 14).toInt32 = nI 14 by decide)) rfl), ?_⟩⟩)
    rw [show h484.1 170 (1092 + k) = (sSA s k (d_234_147 C V s gg w k (dP C) 0 (Int32.ofInt 0))).2.2.2.2.1 k from (by rw [show (1092 + k) = 1078 + 14 + k by omega]; exact (f490.2.2.2 k (by omega)).1)]
    suffices key : ∀ (v496 : Int32), v496 = (if (if (d_235 (d_234_147 C V s gg w k (dP C) 0 (Int32.ofInt 0))) < (dN C k) then Int32.ofInt 0 else Int32.ofInt 1) = 0 then Int32.ofInt 0 else Int32.ofInt 1) → pz_S 8 (some .int) am_r234 4 Q 260 [(0, .ref 154), (1, .int ((Int16.ofInt 1078).toInt32)), (2, .int w), (3, .int a3), (4, .int (nI k)), (5, .int (d_234_147 C V s gg w k (dP C) 0 (Int32.ofInt 0))), (6, .int (if (d_235 (d_234_147 C V s gg w k (dP C) 0 (Int32.ofInt 0))) < (dN C k) then Int32.ofInt 0 else Int32.ofInt 1))] [.int v496, .int ((sSA s k (d_234_147 C V s gg w k (dP C) 0 (Int32.ofInt 0))).2.2.2.2.1 k), .int ((((Int16.ofInt 1078).toInt32) + ((Int8.ofInt 14).toInt32)) + (nI k)), .ref 170] h484 by
      refine am_goX 2 (show ((if (d_235 (d_234_147 C V s gg w k (dP C) 0 (Int32.ofInt 0))) < (dN C k) then Int32.ofInt 0 else Int32.ofInt 1) = 0 → pz_S 8 (some .int) am_r234 4 Q 259 [(6, .int (if (d_235 (d_234_147 C V s gg w k (dP C) 0 (Int32.ofInt 0))) < (dN C k) then Int32.ofInt 0 else Int32.ofInt 1)), (0, .ref 154), (1, .int ((Int16.ofInt 1078).toInt32)), (2, .int w), (3, .int a3), (4, .int (nI k)), (5, .int (d_234_147 C V s gg w k (dP C) 0 (Int32.ofInt 0)))] [.int ((sSA s k (d_234_147 C V s gg w k (dP C) 0 (Int32.ofInt 0))).2.2.2.2.1 k), .int ((((Int16.ofInt 1078).toInt32) + ((Int8.ofInt 14).toInt32)) + (nI k)), .ref 170] h484) ∧ (¬ ((if (d_235 (d_234_147 C V s gg w k (dP C) 0 (Int32.ofInt 0))) < (dN C k) then Int32.ofInt 0 else Int32.ofInt 1) = 0) → pz_S 8 (some .int) am_r234 4 Q 255 [(6, .int (if (d_235 (d_234_147 C V s gg w k (dP C) 0 (Int32.ofInt 0))) < (dN C k) then Int32.ofInt 0 else Int32.ofInt 1)), (0, .ref 154), (1, .int ((Int16.ofInt 1078).toInt32)), (2, .int w), (3, .int a3), (4, .int (nI k)), (5, .int (d_234_147 C V s gg w k (dP C) 0 (Int32.ofInt 0)))] [.int ((sSA s k (d_234_147 C V s gg w k (dP C) 0 (Int32.ofInt 0))).2.2.2.2.1 k), .int ((((Int16.ofInt 1078).toInt32) + ((Int8.ofInt 14).toInt32)) + (nI k)), .ref 170] h484) from ⟨fun c495 => ?_, fun c495 => ?_⟩)
      · refine am_goX 1 (show pz_S 8 (some .int) am_r234 4 Q 260 [(6, .int (if (d_235 (d_234_147 C V s gg w k (dP C) 0 (Int32.ofInt 0))) < (dN C k) then Int32.ofInt 0 else Int32.ofInt 1)), (0, .ref 154), (1, .int ((Int16.ofInt 1078).toInt32)), (2, .int w), (3, .int a3), (4, .int (nI k)), (5, .int (d_234_147 C V s gg w k (dP C) 0 (Int32.ofInt 0)))] [.int (Int32.ofInt 0), .int ((sSA s k (d_234_147 C V s gg w k (dP C) 0 (Int32.ofInt 0))).2.2.2.2.1 k), .int ((((Int16.ofInt 1078).toInt32) + ((Int8.ofInt 14).toInt32)) + (nI k)), .ref 170] h484 from ?_)
        exact sv_S2 sv2_234 (by intro q hq; simp only [List.mem_cons, List.not_mem_nil, or_false] at hq; rcases hq with rfl | rfl | rfl | rfl | rfl | rfl | rfl <;> rfl) (key _ (if_pos c495).symm)
      · refine am_goX 2 (show pz_S 8 (some .int) am_r234 4 Q 260 [(6, .int (if (d_235 (d_234_147 C V s gg w k (dP C) 0 (Int32.ofInt 0))) < (dN C k) then Int32.ofInt 0 else Int32.ofInt 1)), (0, .ref 154), (1, .int ((Int16.ofInt 1078).toInt32)), (2, .int w), (3, .int a3), (4, .int (nI k)), (5, .int (d_234_147 C V s gg w k (dP C) 0 (Int32.ofInt 0)))] [.int (Int32.ofInt 1), .int ((sSA s k (d_234_147 C V s gg w k (dP C) 0 (Int32.ofInt 0))).2.2.2.2.1 k), .int ((((Int16.ofInt 1078).toInt32) + ((Int8.ofInt 14).toInt32)) + (nI k)), .ref 170] h484 from ?_)
        exact sv_S2 sv2_234 (by intro q hq; simp only [List.mem_cons, List.not_mem_nil, or_false] at hq; rcases hq with rfl | rfl | rfl | rfl | rfl | rfl | rfl <;> rfl) (key _ (if_neg c495).symm)
    intro v496 e497
    subst e497
    refine am_goX 2 (show ∃ jj nn : Nat, am_so h484 170 = some (13, nn) ∧ jj < nn ∧ (((Int16.ofInt 1078).toInt32) + ((Int8.ofInt 14).toInt32)) + (nI k) = nI jj ∧ pz_S 8 (some .int) am_r234 4 Q 262 [(0, .ref 154), (1, .int ((Int16.ofInt 1078).toInt32)), (2, .int w), (3, .int a3), (4, .int (nI k)), (5, .int (d_234_147 C V s gg w k (dP C) 0 (Int32.ofInt 0))), (6, .int (if (d_235 (d_234_147 C V s gg w k (dP C) 0 (Int32.ofInt 0))) < (dN C k) then Int32.ofInt 0 else Int32.ofInt 1))] [] (am_wI h484 170 jj (((sSA s k (d_234_147 C V s gg w k (dP C) 0 (Int32.ofInt 0))).2.2.2.2.1 k) + (if (if (d_235 (d_234_147 C V s gg w k (dP C) 0 (Int32.ofInt 0))) < (dN C k) then Int32.ofInt 0 else Int32.ofInt 1) = 0 then Int32.ofInt 0 else Int32.ofInt 1))) from ⟨(1092 + k), 1127, ex_w170 f485, (by omega), (dn_a (dn_a (show (Int16.ofInt 1078).toInt32 = nI 1078 by decide) (show (Int8.ofInt 14).toInt32 = nI 14 by decide)) rfl), ?_⟩)
    have f499 : ex_P (am_wI h484 170 (1092 + k) (((sSA s k (d_234_147 C V s gg w k (dP C) 0 (Int32.ofInt 0))).2.2.2.2.1 k) + (if (if (d_235 (d_234_147 C V s gg w k (dP C) 0 (Int32.ofInt 0))) < (dN C k) then Int32.ofInt 0 else Int32.ofInt 1) = 0 then Int32.ofInt 0 else Int32.ofInt 1))) := f485
    have f500 : cI C := f486
    have f501 : tR C (am_wI h484 170 (1092 + k) (((sSA s k (d_234_147 C V s gg w k (dP C) 0 (Int32.ofInt 0))).2.2.2.2.1 k) + (if (if (d_235 (d_234_147 C V s gg w k (dP C) 0 (Int32.ofInt 0))) < (dN C k) then Int32.ofInt 0 else Int32.ofInt 1) = 0 then Int32.ofInt 0 else Int32.ofInt 1))) := tR_w (by omega) f487
    have f502 : ∀ e, e < dE C → (am_wI h484 170 (1092 + k) (((sSA s k (d_234_147 C V s gg w k (dP C) 0 (Int32.ofInt 0))).2.2.2.2.1 k) + (if (if (d_235 (d_234_147 C V s gg w k (dP C) 0 (Int32.ofInt 0))) < (dN C k) then Int32.ofInt 0 else Int32.ofInt 1) = 0 then Int32.ofInt 0 else Int32.ofInt 1))).1 172 e = dW V e := on_w (by omega) f488
    have f503 : sR 0 (dP C) u (am_wI h484 170 (1092 + k) (((sSA s k (d_234_147 C V s gg w k (dP C) 0 (Int32.ofInt 0))).2.2.2.2.1 k) + (if (if (d_235 (d_234_147 C V s gg w k (dP C) 0 (Int32.ofInt 0))) < (dN C k) then Int32.ofInt 0 else Int32.ofInt 1) = 0 then Int32.ofInt 0 else Int32.ofInt 1))) := sR_q (by omega) f489
    have f504 : sR 1078 (dP C) (sSH (sSA s k (d_234_147 C V s gg w k (dP C) 0 (Int32.ofInt 0))) k (((sSA s k (d_234_147 C V s gg w k (dP C) 0 (Int32.ofInt 0))).2.2.2.2.1 k) + (if (if (d_235 (d_234_147 C V s gg w k (dP C) 0 (Int32.ofInt 0))) < (dN C k) then Int32.ofInt 0 else Int32.ofInt 1) = 0 then Int32.ofInt 0 else Int32.ofInt 1))) (am_wI h484 170 (1092 + k) (((sSA s k (d_234_147 C V s gg w k (dP C) 0 (Int32.ofInt 0))).2.2.2.2.1 k) + (if (if (d_235 (d_234_147 C V s gg w k (dP C) 0 (Int32.ofInt 0))) < (dN C k) then Int32.ofInt 0 else Int32.ofInt 1) = 0 then Int32.ofInt 0 else Int32.ofInt 1))) := sR_wH (i := k) (by omega) (by omega) f490
    have f505 : (am_wI h484 170 (1092 + k) (((sSA s k (d_234_147 C V s gg w k (dP C) 0 (Int32.ofInt 0))).2.2.2.2.1 k) + (if (if (d_235 (d_234_147 C V s gg w k (dP C) 0 (Int32.ofInt 0))) < (dN C k) then Int32.ofInt 0 else Int32.ofInt 1) = 0 then Int32.ofInt 0 else Int32.ofInt 1))).1 154 28 = gg := (em_wn _ _ (by omega)).trans f491
    generalize am_wI h484 170 (1092 + k) (((sSA s k (d_234_147 C V s gg w k (dP C) 0 (Int32.ofInt 0))).2.2.2.2.1 k) + (if (if (d_235 (d_234_147 C V s gg w k (dP C) 0 (Int32.ofInt 0))) < (dN C k) then Int32.ofInt 0 else Int32.ofInt 1) = 0 then Int32.ofInt 0 else Int32.ofInt 1)) = h498 at f499 f500 f501 f502 f503 f504 f505 ⊢
    suffices key : ∀ (v507 : Int32), v507 = (if (if (d_235 (d_234_147 C V s gg w k (dP C) 0 (Int32.ofInt 0))) < (dN C k) then Int32.ofInt 0 else Int32.ofInt 1) = 0 then Int32.ofInt 0 else (Int32.ofInt 1) <<< ((nI k) &&& 31)) → pz_S 8 (some .int) am_r234 4 Q 276 [(0, .ref 154), (1, .int ((Int16.ofInt 1078).toInt32)), (2, .int w), (4, .int (nI k)), (5, .int (d_234_147 C V s gg w k (dP C) 0 (Int32.ofInt 0)))] [.int v507, .int a3] h498 by
      refine am_goX 3 (show ((if (d_235 (d_234_147 C V s gg w k (dP C) 0 (Int32.ofInt 0))) < (dN C k) then Int32.ofInt 0 else Int32.ofInt 1) = 0 → pz_S 8 (some .int) am_r234 4 Q 275 [(0, .ref 154), (1, .int ((Int16.ofInt 1078).toInt32)), (2, .int w), (3, .int a3), (4, .int (nI k)), (5, .int (d_234_147 C V s gg w k (dP C) 0 (Int32.ofInt 0))), (6, .int (if (d_235 (d_234_147 C V s gg w k (dP C) 0 (Int32.ofInt 0))) < (dN C k) then Int32.ofInt 0 else Int32.ofInt 1))] [.int a3] h498) ∧ (¬ ((if (d_235 (d_234_147 C V s gg w k (dP C) 0 (Int32.ofInt 0))) < (dN C k) then Int32.ofInt 0 else Int32.ofInt 1) = 0) → pz_S 8 (some .int) am_r234 4 Q 268 [(0, .ref 154), (1, .int ((Int16.ofInt 1078).toInt32)), (2, .int w), (3, .int a3), (4, .int (nI k)), (5, .int (d_234_147 C V s gg w k (dP C) 0 (Int32.ofInt 0))), (6, .int (if (d_235 (d_234_147 C V s gg w k (dP C) 0 (Int32.ofInt 0))) < (dN C k) then Int32.ofInt 0 else Int32.ofInt 1))] [.int a3] h498) from ⟨fun c506 => ?_, fun c506 => ?_⟩)
      · refine am_goX 1 (show pz_S 8 (some .int) am_r234 4 Q 276 [(0, .ref 154), (1, .int ((Int16.ofInt 1078).toInt32)), (2, .int w), (3, .int a3), (4, .int (nI k)), (5, .int (d_234_147 C V s gg w k (dP C) 0 (Int32.ofInt 0))), (6, .int (if (d_235 (d_234_147 C V s gg w k (dP C) 0 (Int32.ofInt 0))) < (dN C k) then Int32.ofInt 0 else Int32.ofInt 1))] [.int (Int32.ofInt 0), .int a3] h498 from ?_)
        exact sv_S2 sv2_234 (by intro q hq; simp only [List.mem_cons, List.not_mem_nil, or_false] at hq; rcases hq with rfl | rfl | rfl | rfl | rfl <;> rfl) (key _ (if_pos c506).symm)
      · refine am_goX 4 (show pz_S 8 (some .int) am_r234 4 Q 276 [(0, .ref 154), (1, .int ((Int16.ofInt 1078).toInt32)), (2, .int w), (3, .int a3), (4, .int (nI k)), (5, .int (d_234_147 C V s gg w k (dP C) 0 (Int32.ofInt 0))), (6, .int (if (d_235 (d_234_147 C V s gg w k (dP C) 0 (Int32.ofInt 0))) < (dN C k) then Int32.ofInt 0 else Int32.ofInt 1))] [.int ((Int32.ofInt 1) <<< ((nI k) &&& 31)), .int a3] h498 from ?_)
        exact sv_S2 sv2_234 (by intro q hq; simp only [List.mem_cons, List.not_mem_nil, or_false] at hq; rcases hq with rfl | rfl | rfl | rfl | rfl <;> rfl) (key _ (if_neg c506).symm)
    intro v507 e508
    subst e508
    refine am_goX 4 (show 3 < 8 ∧ 7 < 8 ∧ pz_S 8 (some .int) am_r234 4 Q 281 [(7, .int (Int32.ofInt 0)), (3, .int (a3 ||| (if (if (d_235 (d_234_147 C V s gg w k (dP C) 0 (Int32.ofInt 0))) < (dN C k) then Int32.ofInt 0 else Int32.ofInt 1) = 0 then Int32.ofInt 0 else (Int32.ofInt 1) <<< ((nI k) &&& 31)))), (0, .ref 154), (1, .int ((Int16.ofInt 1078).toInt32)), (2, .int w), (4, .int (nI k)), (5, .int (d_234_147 C V s gg w k (dP C) 0 (Int32.ofInt 0)))] [] h498 from ⟨by decide, by decide, ?_⟩)
    refine sv_S2 sv2_234 (by intro q hq; simp only [List.mem_cons, List.not_mem_nil, or_false] at hq; rcases hq with rfl | rfl | rfl | rfl | rfl | rfl | rfl <;> rfl) (d_234_281_g1078 (a3 ||| (if (if (d_235 (d_234_147 C V s gg w k (dP C) 0 (Int32.ofInt 0))) < (dN C k) then Int32.ofInt 0 else Int32.ofInt 1) = 0 then Int32.ofInt 0 else (Int32.ofInt 1) <<< ((nI k) &&& 31))) k (d_234_147 C V s gg w k (dP C) 0 (Int32.ofInt 0)) (dP C) 0 (sSH (sSA s k (d_234_147 C V s gg w k (dP C) 0 (Int32.ofInt 0))) k (((sSA s k (d_234_147 C V s gg w k (dP C) 0 (Int32.ofInt 0))).2.2.2.2.1 k) + (if (if (d_235 (d_234_147 C V s gg w k (dP C) 0 (Int32.ofInt 0))) < (dN C k) then Int32.ofInt 0 else Int32.ofInt 1) = 0 then Int32.ofInt 0 else Int32.ofInt 1))) _ (by omega) f499 f500 f501 f502 f503 f504 f505 (fun h509 f510 f511 f512 f513 f514 f515 f516 => ?_))
    refine am_goX 2 (show 4 < 8 ∧ pz_S 8 (some .int) am_r234 4 Q 132 [(4, .int ((nI k) + (Int32.ofInt 1))), (0, .ref 154), (1, .int ((Int16.ofInt 1078).toInt32)), (2, .int w), (3, .int (a3 ||| (if (if (d_235 (d_234_147 C V s gg w k (dP C) 0 (Int32.ofInt 0))) < (dN C k) then Int32.ofInt 0 else Int32.ofInt 1) = 0 then Int32.ofInt 0 else (Int32.ofInt 1) <<< ((nI k) &&& 31))))] [] h509 from ⟨by decide, ?_⟩)
    rw [show (nI k) + (Int32.ofInt 1) = nI (k + 1) from (dn_a rfl rfl)]
    exact sv_S2 sv2_234 (by intro q hq; simp only [List.mem_cons, List.not_mem_nil, or_false] at hq; rcases hq with rfl | rfl | rfl | rfl | rfl <;> rfl) (ih (k + 1) (a3 ||| (if (if (d_235 (d_234_147 C V s gg w k (dP C) 0 (Int32.ofInt 0))) < (dN C k) then Int32.ofInt 0 else Int32.ofInt 1) = 0 then Int32.ofInt 0 else (Int32.ofInt 1) <<< ((nI k) &&& 31))) (d_234_281 C (d_234_147 C V s gg w k (dP C) 0 (Int32.ofInt 0)) (dP C) 0 (sSH (sSA s k (d_234_147 C V s gg w k (dP C) 0 (Int32.ofInt 0))) k (((sSA s k (d_234_147 C V s gg w k (dP C) 0 (Int32.ofInt 0))).2.2.2.2.1 k) + (if (if (d_235 (d_234_147 C V s gg w k (dP C) 0 (Int32.ofInt 0))) < (dN C k) then Int32.ofInt 0 else Int32.ofInt 1) = 0 then Int32.ofInt 0 else Int32.ofInt 1)))) _ (by omega) f510 f511 f512 f513 f514 f515 f516 hZ)
theorem d_234_g1078 (hP : ex_P h) (hI : cI C) (hT : tR C h) (hO : ∀ e, e < dE C → h.1 172 e = dW V e) (hN : sR 0 (dP C) u h) (hS : sR 1078 (dP C) s h) (hG : h.1 154 28 = gg)  (hQ : ∀ h1, (ex_P h1) → (cI C) → (tR C h1) → (∀ e, e < dE C → h1.1 172 e = dW V e) → (sR 0 (dP C) u h1) → (sR 1078 (dP C) (d_234_s C V s w) h1) → (h1.1 154 28 = (d_234_gg C V s w)) → Q (some (.int (d_234 C V s w))) h1) : am_call am_cod 5 234 [.ref 154, .int ((Int16.ofInt 1078).toInt32), .int w] h Q := by
  have h6 := hT.1.2.1
  have h5 := hT.2.1.2.1
  refine pz_call (n := 234) (nL := 8) (rt := (some .int)) (rows := am_r234) (d := 4) (by decide +kernel) (by decide +kernel) rfl (by funext pc; rfl) (ex_175 hP) (by exact Nat.le_of_ble_eq_true rfl) ?_
  refine am_goX 2 (show am_sh h 154 = some (11, 0) ∧ pz_S 8 (some .int) am_r234 4 Q 4 [(0, .ref 154), (1, .int ((Int16.ofInt 1078).toInt32)), (2, .int w)] [am_rf (h.2.2.1 154 24)] h from ⟨ex_154 hP, ?_⟩)
  rw [show am_rf (h.2.2.1 154 24) = .ref 170 from congrArg am_rf (ex_r154_24 hP)]
  refine am_goX 5 (show (Value.int (((Int16.ofInt 1078).toInt32) + (Int32.ofInt 0))).category = 1 ∧ (Value.ref 170).category = 1 ∧ ∃ jj nn : Nat, am_sh h 170 = some (13, nn) ∧ jj < nn ∧ ((Int16.ofInt 1078).toInt32) + (Int32.ofInt 0) = nI jj ∧ pz_S 8 (some .int) am_r234 4 Q 9 [(0, .ref 154), (1, .int ((Int16.ofInt 1078).toInt32)), (2, .int w)] [.int (h.1 170 jj), .int (((Int16.ofInt 1078).toInt32) + (Int32.ofInt 0)), .ref 170] h from ⟨rfl, rfl, ⟨1078, 1127, ex_170 hP, (by omega), (dn_a (show (Int16.ofInt 1078).toInt32 = nI 1078 by decide) rfl), ?_⟩⟩)
  rw [show h.1 170 1078 = s.1 from hS.1.1]
  refine am_goX 3 (show ∃ jj nn : Nat, am_so h 170 = some (13, nn) ∧ jj < nn ∧ ((Int16.ofInt 1078).toInt32) + (Int32.ofInt 0) = nI jj ∧ pz_S 8 (some .int) am_r234 4 Q 12 [(0, .ref 154), (1, .int ((Int16.ofInt 1078).toInt32)), (2, .int w)] [] (am_wI h 170 jj (s.1 + (Int32.ofInt 1))) from ⟨1078, 1127, ex_w170 hP, (by omega), (dn_a (show (Int16.ofInt 1078).toInt32 = nI 1078 by decide) rfl), ?_⟩)
  have f386 : ex_P (am_wI h 170 1078 (s.1 + (Int32.ofInt 1))) := hP
  have f387 : cI C := hI
  have f388 : tR C (am_wI h 170 1078 (s.1 + (Int32.ofInt 1))) := tR_w (by omega) hT
  have f389 : ∀ e, e < dE C → (am_wI h 170 1078 (s.1 + (Int32.ofInt 1))).1 172 e = dW V e := on_w (by omega) hO
  have f390 : sR 0 (dP C) u (am_wI h 170 1078 (s.1 + (Int32.ofInt 1))) := sR_q (by omega) hN
  have f391 : sR 1078 (dP C) (sSD s (s.1 + (Int32.ofInt 1))) (am_wI h 170 1078 (s.1 + (Int32.ofInt 1))) := sR_wD (by omega) hS
  have f392 : (am_wI h 170 1078 (s.1 + (Int32.ofInt 1))).1 154 28 = gg := (em_wn _ _ (by omega)).trans hG
  generalize am_wI h 170 1078 (s.1 + (Int32.ofInt 1)) = h385 at f386 f387 f388 f389 f390 f391 f392 ⊢
  refine am_goX 3 (show am_sh h385 154 = some (11, 0) ∧ narrow (am_fty 11 28) (.int (Int32.ofInt 0)) = .int (Int32.ofInt 0) ∧ fits (am_fty 11 28) (.int (Int32.ofInt 0)) = true ∧ pz_S 8 (some .int) am_r234 4 Q 17 [(0, .ref 154), (1, .int ((Int16.ofInt 1078).toInt32)), (2, .int w)] [] (am_wI h385 154 28 (Int32.ofInt 0)) from ⟨ex_154 f386, rfl, rfl, ?_⟩)
  have f394 : ex_P (am_wI h385 154 28 (Int32.ofInt 0)) := f386
  have f395 : cI C := f387
  have f396 : tR C (am_wI h385 154 28 (Int32.ofInt 0)) := tR_w (by omega) f388
  have f397 : ∀ e, e < dE C → (am_wI h385 154 28 (Int32.ofInt 0)).1 172 e = dW V e := on_w (by omega) f389
  have f398 : sR 0 (dP C) u (am_wI h385 154 28 (Int32.ofInt 0)) := sR_o (by omega) f390
  have f399 : sR 1078 (dP C) (sSD s (s.1 + (Int32.ofInt 1))) (am_wI h385 154 28 (Int32.ofInt 0)) := sR_o (by omega) f391
  have f400 : (am_wI h385 154 28 (Int32.ofInt 0)).1 154 28 = (Int32.ofInt 0) := em_we _ _ _ _
  generalize am_wI h385 154 28 (Int32.ofInt 0) = h393 at f394 f395 f396 f397 f398 f399 f400 ⊢
  refine am_goX 2 (show 3 < 8 ∧ pz_S 8 (some .int) am_r234 4 Q 19 [(3, .int (Int32.ofInt 0)), (0, .ref 154), (1, .int ((Int16.ofInt 1078).toInt32)), (2, .int w)] [] h393 from ⟨by decide, ?_⟩)
  refine sv_S2 sv2_234 (by intro q hq; simp only [List.mem_cons, List.not_mem_nil, or_false] at hq; rcases hq with rfl | rfl | rfl | rfl <;> rfl) (d_234_19_g1078 (dP C) 0 (sSD s (s.1 + (Int32.ofInt 1))) (Int32.ofInt 0) _ (by omega) f394 f395 f396 f397 f398 f399 f400 (fun h476 f477 f478 f479 f480 f481 f482 f483 => ?_))
  refine am_goX 4 (show 3 < 8 ∧ 4 < 8 ∧ pz_S 8 (some .int) am_r234 4 Q 132 [(4, .int (Int32.ofInt 0)), (3, .int (Int32.ofInt 0)), (0, .ref 154), (1, .int ((Int16.ofInt 1078).toInt32)), (2, .int w)] [] h476 from ⟨by decide, by decide, ?_⟩)
  refine sv_S2 sv2_234 (by intro q hq; simp only [List.mem_cons, List.not_mem_nil, or_false] at hq; rcases hq with rfl | rfl | rfl | rfl | rfl <;> rfl) (d_234_132_g1078 (dE C) 0 (Int32.ofInt 0) ((d_234_19 C w (dP C) 0 (sSD s (s.1 + (Int32.ofInt 1))) (Int32.ofInt 0)).1) _ (by omega) f477 f478 f479 f480 f481 f482 f483 (fun h517 f518 f519 f520 f521 f522 f523 f524 => ?_))
  exact am_goX 2 (show (∃ ty, (some .int) = some ty ∧ narrow ty (.int ((d_234_132 C V ((d_234_19 C w (dP C) 0 (sSD s (s.1 + (Int32.ofInt 1))) (Int32.ofInt 0)).2) w (dE C) 0 (Int32.ofInt 0) ((d_234_19 C w (dP C) 0 (sSD s (s.1 + (Int32.ofInt 1))) (Int32.ofInt 0)).1)).1)) = .int ((d_234_132 C V ((d_234_19 C w (dP C) 0 (sSD s (s.1 + (Int32.ofInt 1))) (Int32.ofInt 0)).2) w (dE C) 0 (Int32.ofInt 0) ((d_234_19 C w (dP C) 0 (sSD s (s.1 + (Int32.ofInt 1))) (Int32.ofInt 0)).1)).1)) ∧ h517.2.2.2.2 = 175 ∧ _ from ⟨⟨.int, rfl, rfl⟩, ex_175 f518, hQ _ f518 f519 f520 f521 f522 f523 f524⟩)
theorem q_234_r1078 (hP : ex_P h) (hI : cI C) (hT : tR C h) (hO : ∀ e, e < dE C → h.1 172 e = dW V e) (hN : sR 0 (dP C) u h) (hS : sR 1078 (dP C) s h) (hQ : ∀ h1, (ex_P h1) → (cI C) → (tR C h1) → (∀ e, e < dE C → h1.1 172 e = dW V e) → (sR 0 (dP C) u h1) → (sR 1078 (dP C) (d_234_s C V s w) h1) → Q (some (.int (d_234 C V s w))) h1) : am_call am_cod 5 234 [.ref 154, .int ((Int16.ofInt 1078).toInt32), .int w] h Q :=
  d_234_g1078 (gg := h.1 154 28) hP hI hT hO hN hS rfl (fun h1 khP khI khT khO khN khS _ => hQ h1 khP khI khT khO khN khS)
theorem d_233_r1078 (hP : ex_P h) (hI : cI C) (hT : tR C h) (hO : ∀ e, e < dE C → h.1 172 e = dW V e) (hN : sR 0 (dP C) u h) (hS : sR 1078 (dP C) s h)  (hQ : ∀ h1, (ex_P h1) → (cI C) → (tR C h1) → (∀ e, e < dE C → h1.1 172 e = dW V e) → (sR 0 (dP C) u h1) → (sR 1078 (dP C) (d_233_s C V s) h1) → Q (some (.int (d_233 C V s))) h1) : am_call am_cod 6 233 [.ref 154, .int ((Int16.ofInt 1078).toInt32)] h Q := by
  have h6 := hT.1.2.1
  have h5 := hT.2.1.2.1
  refine pz_call (n := 233) (nL := 2) (rt := (some .int)) (rows := am_r233) (d := 5) (by decide +kernel) (by decide +kernel) rfl (by funext pc; rfl) (ex_175 hP) (by exact Nat.le_of_ble_eq_true rfl) ?_
  refine am_goX 5 (show am_sh h 154 = some (11, 0) ∧ pz_S 2 (some .int) am_r233 5 Q 7 [(0, .ref 154), (1, .int ((Int16.ofInt 1078).toInt32))] [am_rf (h.2.2.1 154 24), .ref 154, .int ((Int16.ofInt 1078).toInt32), .ref 154] h from ⟨ex_154 hP, ?_⟩)
  rw [show am_rf (h.2.2.1 154 24) = .ref 170 from congrArg am_rf (ex_r154_24 hP)]
  refine am_goX 4 (show ∃ jj nn : Nat, am_sh h 170 = some (13, nn) ∧ jj < nn ∧ ((Int16.ofInt 1078).toInt32) + (Int32.ofInt 0) = nI jj ∧ pz_S 2 (some .int) am_r233 5 Q 11 [(0, .ref 154), (1, .int ((Int16.ofInt 1078).toInt32))] [.int (h.1 170 jj), .ref 154, .int ((Int16.ofInt 1078).toInt32), .ref 154] h from ⟨1078, 1127, ex_170 hP, (by omega), (dn_a (show (Int16.ofInt 1078).toInt32 = nI 1078 by decide) rfl), ?_⟩)
  rw [show h.1 170 1078 = s.1 from hS.1.1]
  refine am_goX 3 (show am_rc h 154 11 ∧ 2 ≤ 8 ∧ h.2.2.2.2 + am_al 224 ≤ 175 ∧ am_call am_cod 5 224 [.ref 154, .int (s.1 + (Int32.ofInt 1))] h (fun vv h' => pz_S 2 (some .int) am_r233 5 Q 16 [(0, .ref 154), (1, .int ((Int16.ofInt 1078).toInt32))] (vv.toList ++ [.int ((Int16.ofInt 1078).toInt32), .ref 154]) h') from ⟨Or.inl ⟨by decide, ex_154 hP⟩, by decide, ex_lim hP rfl, am_call.up (d_224_r hP hT ?_) (by decide)⟩)
  refine am_goX 1 (show am_rc h 154 11 ∧ 0 ≤ 8 ∧ h.2.2.2.2 + am_al 234 ≤ 175 ∧ am_call am_cod 5 234 [.ref 154, .int ((Int16.ofInt 1078).toInt32), .int (d_224 C (s.1 + (Int32.ofInt 1)))] h (fun vv h' => pz_S 2 (some .int) am_r233 5 Q 19 [(0, .ref 154), (1, .int ((Int16.ofInt 1078).toInt32))] (vv.toList ++ []) h') from ⟨Or.inl ⟨by decide, ex_154 hP⟩, by decide, ex_lim hP rfl, am_call.up (q_234_r1078 hP hI hT hO hN hS (fun h525 f526 f527 f528 f529 f530 f531 => ?_)) (by decide)⟩)
  exact am_goX 1 (show (∃ ty, (some .int) = some ty ∧ narrow ty (.int (d_234 C V s (d_224 C (s.1 + (Int32.ofInt 1))))) = .int (d_234 C V s (d_224 C (s.1 + (Int32.ofInt 1))))) ∧ h525.2.2.2.2 = 175 ∧ _ from ⟨⟨.int, rfl, rfl⟩, ex_175 f526, hQ _ f526 f527 f528 f529 f530 f531⟩)
