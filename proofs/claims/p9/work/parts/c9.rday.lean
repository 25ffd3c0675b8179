/-! WALKS: the reference's day -/
theorem on_w {ob k : Nat} {v : Int32} {E : Nat} {f : Nat → Int32} {h : am_H} (hn : ¬ ob = 172) (l : ∀ e, e < E → h.1 172 e = f e) : ∀ e, e < E → (am_wI h ob k v).1 172 e = f e := fun e he => by
  rw [em_wn _ _ (by omega)]
  exact l e he
theorem sR_x {b P : Nat} {s : dS} {h g : am_H} (e : ∀ j, b ≤ j → j < b + 24 → g.1 170 j = h.1 170 j) (hP : P ≤ 6) (l : sR b P s h) : sR b P s g := by
  obtain ⟨⟨a1, a2⟩, a3, a4, a5⟩ := l
  refine ⟨⟨?_, ?_⟩, fun i hi => ?_, fun i hi => ?_, fun i hi => ⟨?_, ?_⟩⟩
  · rw [e _ (by omega) (by omega)]; exact a1
  · rw [e _ (by omega) (by omega)]; exact a2
  · rw [e _ (by omega) (by omega)]; exact a3 i hi
  · rw [e _ (by omega) (by omega)]; exact a4 i hi
  · rw [e _ (by omega) (by omega)]; exact (a5 i hi).1
  · rw [e _ (by omega) (by omega)]; exact (a5 i hi).2
theorem sR_o {b P ob k : Nat} {v : Int32} {s : dS} {h : am_H} (hn : ¬ ob = 170) (l : sR b P s h) : sR b P s (am_wI h ob k v) := by
  have e : ∀ j, (am_wI h ob k v).1 170 j = h.1 170 j := fun j => em_wn _ _ (by omega)
  obtain ⟨⟨a1, a2⟩, a3, a4, a5⟩ := l
  refine ⟨⟨?_, ?_⟩, fun i hi => ?_, fun i hi => ?_, fun i hi => ⟨?_, ?_⟩⟩ <;> rw [e]
  · exact a1
  · exact a2
  · exact a3 i hi
  · exact a4 i hi
  · exact (a5 i hi).1
  · exact (a5 i hi).2
theorem sR_q {b P j : Nat} {v : Int32} {s : dS} {h : am_H} (hn : (¬ (b ≤ j ∧ j < b + 24)) ∧ P ≤ 6) (l : sR b P s h) : sR b P s (am_wI h 170 j v) :=
  sR_x (fun i h1 h2 => em_wn _ _ (by omega)) hn.2 l
theorem sR_wD {b P j : Nat} {v : Int32} {s : dS} {h : am_H} (hj : j = b ∧ P ≤ 6) (l : sR b P s h) : sR b P (sSD s v) (am_wI h 170 j v) := by
  obtain ⟨⟨a1, a2⟩, a3, a4, a5⟩ := l
  obtain ⟨rfl, hP⟩ := hj
  refine ⟨⟨em_we _ _ _ _, ?_⟩, fun i hi => ?_, fun i hi => ?_, fun i hi => ⟨?_, ?_⟩⟩ <;> rw [em_wn _ _ (by omega)]
  · exact a2
  · exact a3 i hi
  · exact a4 i hi
  · exact (a5 i hi).1
  · exact (a5 i hi).2
theorem sR_wX {b P j : Nat} {v : Int32} {s : dS} {h : am_H} (hj : j = b + 1 ∧ P ≤ 6) (l : sR b P s h) : sR b P (sSX s v) (am_wI h 170 j v) := by
  obtain ⟨⟨a1, a2⟩, a3, a4, a5⟩ := l
  obtain ⟨rfl, hP⟩ := hj
  refine ⟨⟨?_, em_we _ _ _ _⟩, fun i hi => ?_, fun i hi => ?_, fun i hi => ⟨?_, ?_⟩⟩ <;> rw [em_wn _ _ (by omega)]
  · exact a1
  · exact a3 i hi
  · exact a4 i hi
  · exact (a5 i hi).1
  · exact (a5 i hi).2

theorem sR_wL {b P j i : Nat} {v : Int32} {s : dS} {h : am_H} (hj : j = b + 2 + i) (hi0 : i < P ∧ P ≤ 6) (l : sR b P s h) : sR b P (sSL s i v) (am_wI h 170 j v) := by
  obtain ⟨⟨a1, a2⟩, a3, a4, a5⟩ := l
  refine ⟨⟨?_, ?_⟩, fun i_ hi => ?_, fun i_ hi => ?_, fun i_ hi => ⟨?_, ?_⟩⟩
  · rw [em_wn _ _ (by omega)]; exact a1
  · rw [em_wn _ _ (by omega)]; exact a2
  · rw [em_u]; show (if _ = _ then v else _) = (if i_ = i then v else _); by_cases e : i_ = i
    · rw [if_pos (by omega), if_pos e]
    · rw [if_neg (by omega), if_neg e]; exact a3 i_ hi
  · rw [em_wn _ _ (by omega)]; exact a4 i_ hi
  · rw [em_wn _ _ (by omega)]; exact (a5 i_ hi).1
  · rw [em_wn _ _ (by omega)]; exact (a5 i_ hi).2
theorem sR_wM {b P j i : Nat} {v : Int32} {s : dS} {h : am_H} (hj : j = b + 8 + i) (hi0 : i < 6 ∧ P ≤ 6) (l : sR b P s h) : sR b P (sSM s i v) (am_wI h 170 j v) := by
  obtain ⟨⟨a1, a2⟩, a3, a4, a5⟩ := l
  refine ⟨⟨?_, ?_⟩, fun i_ hi => ?_, fun i_ hi => ?_, fun i_ hi => ⟨?_, ?_⟩⟩
  · rw [em_wn _ _ (by omega)]; exact a1
  · rw [em_wn _ _ (by omega)]; exact a2
  · rw [em_wn _ _ (by omega)]; exact a3 i_ hi
  · rw [em_u]; show (if _ = _ then v else _) = (if i_ = i then v else _); by_cases e : i_ = i
    · rw [if_pos (by omega), if_pos e]
    · rw [if_neg (by omega), if_neg e]; exact a4 i_ hi
  · rw [em_wn _ _ (by omega)]; exact (a5 i_ hi).1
  · rw [em_wn _ _ (by omega)]; exact (a5 i_ hi).2
theorem sR_wH {b P j i : Nat} {v : Int32} {s : dS} {h : am_H} (hj : j = b + 14 + i) (hi0 : i < 5 ∧ P ≤ 6) (l : sR b P s h) : sR b P (sSH s i v) (am_wI h 170 j v) := by
  obtain ⟨⟨a1, a2⟩, a3, a4, a5⟩ := l
  refine ⟨⟨?_, ?_⟩, fun i_ hi => ?_, fun i_ hi => ?_, fun i_ hi => ⟨?_, ?_⟩⟩
  · rw [em_wn _ _ (by omega)]; exact a1
  · rw [em_wn _ _ (by omega)]; exact a2
  · rw [em_wn _ _ (by omega)]; exact a3 i_ hi
  · rw [em_wn _ _ (by omega)]; exact a4 i_ hi
  · rw [em_u]; show (if _ = _ then v else _) = (if i_ = i then v else _); by_cases e : i_ = i
    · rw [if_pos (by omega), if_pos e]
    · rw [if_neg (by omega), if_neg e]; exact (a5 i_ hi).1
  · rw [em_wn _ _ (by omega)]; exact (a5 i_ hi).2
theorem sR_wA {b P j i : Nat} {v : Int32} {s : dS} {h : am_H} (hj : j = b + 19 + i) (hi0 : i < 5 ∧ P ≤ 6) (l : sR b P s h) : sR b P (sSA s i v) (am_wI h 170 j v) := by
  obtain ⟨⟨a1, a2⟩, a3, a4, a5⟩ := l
  refine ⟨⟨?_, ?_⟩, fun i_ hi => ?_, fun i_ hi => ?_, fun i_ hi => ⟨?_, ?_⟩⟩
  · rw [em_wn _ _ (by omega)]; exact a1
  · rw [em_wn _ _ (by omega)]; exact a2
  · rw [em_wn _ _ (by omega)]; exact a3 i_ hi
  · rw [em_wn _ _ (by omega)]; exact a4 i_ hi
  · rw [em_wn _ _ (by omega)]; exact (a5 i_ hi).1
  · rw [em_u]; show (if _ = _ then v else _) = (if i_ = i then v else _); by_cases e : i_ = i
    · rw [if_pos (by omega), if_pos e]
    · rw [if_neg (by omega), if_neg e]; exact (a5 i_ hi).2
theorem lfr_r {C : sp_C} {h0 h : am_H} (l : lfr 169 h0 h) (t : tR C h0) : tR C h := by
  obtain ⟨⟨a1, a2, a3⟩, ⟨b1, b2, b3⟩, c3, ⟨d1, d2⟩, e1, e2, e3, e4, e5⟩ := t
  have w : ∀ a q, ¬ a = 169 → h.1 a q = h0.1 a q := l.2
  refine ⟨⟨?_, a2, fun i hi => ?_⟩, ⟨?_, b2, fun i hi => ?_⟩, fun p q hp hq => ?_, ⟨?_, d2⟩, e1, fun j hj => ?_, fun w => ?_, e4, ?_⟩
  · rw [w _ _ (by omega)]; exact a1
  · rw [w _ _ (by omega), w _ _ (by omega)]; exact a3 i hi
  · rw [w _ _ (by omega)]; exact b1
  · rw [w _ _ (by omega), w _ _ (by omega)]; exact b3 i hi
  · rw [w _ _ (by omega)]; exact c3 p q hp hq
  · rw [w _ _ (by omega)]; exact d1
  · rw [w _ _ (by omega), w _ _ (by omega)]; exact e2 j hj
  · rw [l.2 _ _ (by omega)]; exact e3 w
  · rw [w _ _ (by omega)]; exact e5
theorem lfr_sR {b P : Nat} {s : dS} {h0 h : am_H} (l : lfr 169 h0 h) (hP : P ≤ 6) (t : sR b P s h0) : sR b P s h := sR_x (fun j _ _ => l.2 _ _ (by omega)) hP t
theorem lfr_on {E : Nat} {f : Nat → Int32} {h0 h : am_H} (l : lfr 169 h0 h) (t : ∀ e, e < E → h0.1 172 e = f e) : ∀ e, e < E → h.1 172 e = f e := fun e he => (l.2 _ _ (by omega)).trans (t e he)
/-- what the reference's day leaves: all but the state at 0, facts, pile and goers -/
def fR (h0 h : am_H) : Prop := h.2 = h0.2 ∧ ∀ o k, ¬ (o = 170 ∧ k < 24) → ¬ o = 168 → ¬ o = 169 → ¬ (o = 154 ∧ k = 28) → h.1 o k = h0.1 o k
theorem fR_0 {h : am_H} : fR h h := ⟨rfl, fun _ _ _ _ _ _ => rfl⟩
theorem fR_w {o k : Nat} {v : Int32} {h0 h : am_H} (ho : (o = 170 ∧ k < 24) ∨ o = 168 ∨ o = 169 ∨ (o = 154 ∧ k = 28)) (l : fR h0 h) : fR h0 (am_wI h o k v) := ⟨l.1, fun a j h1 h2 h3 h4 => (em_wn _ _ (by omega)).trans (l.2 a j h1 h2 h3 h4)⟩
theorem fR_l {h0 h h1 : am_H} (l : lfr 169 h h1) (x : fR h0 h) : fR h0 h1 := ⟨l.1.trans x.1, fun a j n1 n2 n3 n4 => (l.2 a j n3).trans (x.2 a j n1 n2 n3 n4)⟩
/-- both laws are worth the same -/
theorem law_e {C : sp_C} {a b c d : Int32} : ∀ (m k n : Nat) (f g : Nat → Int32), k + m = dM C → n ≤ 32 → lst ((dTL C).drop k) n = some 1 → (∀ j, j < n → f j = g j) → (d_105_6 C a b c d m k n f).1 = 1 ∧ (d_236_4 C a b c d m k n g).2 0 = (d_105_6 C a b c d m k n f).2 0 := by
  intro m
  induction m with
  | zero =>
    intro k n f g hk hn hw hf
    have e : (dTL C).drop k = [] := List.drop_eq_nil_of_le (by
      unfold dTL
      rw [List.length_map, List.length_range]
      omega)
    rw [e] at hw
    have hn1 : n = 1 := Option.some.inj hw
    exact ⟨hn1, (hf 0 (by omega)).symm⟩
  | succ m ih =>
    intro k n f g hk hn hw hf
    have l4 : ∀ x : Int32, (-4 : Int32) ≤ x ↔ ¬ x < (Int8.ofInt (-4)).toInt32 := fun x => by
      rw [Int32.le_iff_toInt_le, Int32.lt_iff_toInt_lt]
      have e4 : (-4 : Int32).toInt = -4 := by decide
      have e5 : ((Int8.ofInt (-4)).toInt32).toInt = -4 := by decide
      omega
    have l5 : ∀ x : Int32, ¬ (-4 : Int32) ≤ x → ¬ x = -5 → ¬ (Int8.ofInt (-5)).toInt32 ≤ x := fun x h1 h2 w => by
      rw [Int32.le_iff_toInt_le] at h1 w
      have e4 : (-4 : Int32).toInt = -4 := by decide
      have e5 : ((Int8.ofInt (-5)).toInt32).toInt = -5 := by decide
      exact h2 (Int32.toInt_inj.mp (by rw [show (-5 : Int32).toInt = -5 by decide]; omega))
    rcases wf_s (by omega) hw with ⟨w1, w2, w3⟩ | ⟨w1, w2, w3⟩ | ⟨w1, w2, w3, w4⟩
    · have hA : ¬ dT C k < (Int8.ofInt (-4)).toInt32 := (l4 _).mp w1
      have hF : ¬ (Int8.ofInt 32).toInt32 ≤ nI n := by
        show ¬ nI 32 ≤ nI n
        rw [nI_leI (by omega) (by omega)]
        omega
      have up : ∀ v w, v = w → ∀ j, j < n + 1 → sp_uI f n v j = sp_uI g n w j := fun v w e j hj => by
        show (if j = n then v else f j) = (if j = n then w else g j)
        by_cases ej : j = n
        · rw [if_pos ej, if_pos ej, e]
        · rw [if_neg ej, if_neg ej, hf j (by omega)]
      by_cases h0 : 0 ≤ dT C k
      · have r1 := rbo_1.mpr h0
        have ra : rb_a (dT C k) = dT C k := by
          unfold rb_a
          rw [decide_eq_true h0]
          rfl
        have hl : ¬ dT C k < 0 := Int32.not_lt.mpr h0
        simp only [d_105_6, d_236_4, hA, hF, r1, if_true, if_false, hl]
        exact ih _ _ _ _ (by omega) (by omega) w3 (up _ _ ra.symm)
      · have r1 : ¬ rb_o (dT C k) = Int32.ofInt 1 := fun w => h0 (rbo_1.mp w)
        have r2 : rb_o (dT C k) = Int32.ofInt 2 := (rbo_v.mpr w1).resolve_left r1
        have hl : dT C k < 0 := Int32.not_le.mp h0
        simp only [d_105_6, d_236_4, hA, hF, r1, r2, if_true, if_false, hl, not_true_eq_false, not_false_eq_true, show ¬ Int32.ofInt 2 = Int32.ofInt 1 by decide]
        exact ih _ _ _ _ (by omega) (by omega) w3 (up _ _ (fsel_e _ _ _ _))
    · have hA : dT C k < (Int8.ofInt (-4)).toInt32 := by rw [w1]; decide
      have h4 : ¬ (-4 : Int32) ≤ dT C k := by rw [w1]; decide
      have r3 : rb_o (dT C k) = Int32.ofInt 3 := (rbo_5 h4).mpr w1
      have hE : ¬ nI n ≤ 0 := nI_nle w2 (by omega)
      have ut : ∀ i v w, v = w → ∀ j, j < n → sp_uI f i v j = sp_uI g i w j := fun i v w e j hj => by
        show (if j = i then v else f j) = (if j = i then w else g j)
        by_cases ej : j = i
        · rw [if_pos ej, if_pos ej, e]
        · rw [if_neg ej, if_neg ej, hf j hj]
      have w5 : dT C k = (Int8.ofInt (-5)).toInt32 := w1
      have q1 : ¬ rb_o (dT C k) = Int32.ofInt 1 := by rw [r3]; decide
      have q2 : ¬ rb_o (dT C k) = Int32.ofInt 2 := by rw [r3]; decide
      rw [show d_105_6 C a b c d (m + 1) k n f = d_105_6 C a b c d m (k + 1) n (sp_uI f (n - 1) (if ¬ (f (n - 1)) = 0 then Int32.ofInt 0 else Int32.ofInt 1)) from by
        rw [d_105_6, if_pos hA, if_neg (fun z => z w5), if_neg hE]]
      rw [show d_236_4 C a b c d (m + 1) k n g = d_236_4 C a b c d m (k + 1) n (sp_uI g (n - 1) (if ¬ (g (n - 1)) = 0 then Int32.ofInt 0 else Int32.ofInt 1)) from by
        rw [d_236_4, if_neg q1, if_pos q2, if_neg (fun z => z r3)]]
      refine ih _ _ _ _ (by omega) hn w3 (ut _ _ _ ?_)
      rw [hf (n - 1) (by omega)]
    · have hA : dT C k < (Int8.ofInt (-4)).toInt32 := by
        by_cases z : dT C k < (Int8.ofInt (-4)).toInt32
        · exact z
        · exact absurd ((l4 _).mpr z) w1
      have q1 : ¬ rb_o (dT C k) = Int32.ofInt 1 := fun z => w1 (rbo_v.mp (Or.inl z))
      have q2 : ¬ rb_o (dT C k) = Int32.ofInt 2 := fun z => w1 (rbo_v.mp (Or.inr z))
      have q3 : ¬ rb_o (dT C k) = Int32.ofInt 3 := fun z => w2 ((rbo_5 w1).mp z)
      have hD : ¬ nI n ≤ Int32.ofInt 1 := by
        show ¬ nI n ≤ nI 1
        rw [nI_leI (by omega) (by omega)]
        omega
      have ut : ∀ i v w, v = w → ∀ j, j < n → sp_uI f i v j = sp_uI g i w j := fun i v w e j hj => by
        show (if j = i then v else f j) = (if j = i then w else g j)
        by_cases ej : j = i
        · rw [if_pos ej, if_pos ej, e]
        · rw [if_neg ej, if_neg ej, hf j hj]
      rw [show d_105_6 C a b c d (m + 1) k n f = d_105_6 C a b c d m (k + 1) (n - 1) (sp_uI f ((n - 1) - 1) (d_107 (dT C k) (f ((n - 1) - 1)) (f (n - 1)))) from by
        rw [d_105_6, if_pos hA, if_pos (show ¬ dT C k = (Int8.ofInt (-5)).toInt32 from w2), if_neg (l5 _ w1 w2), if_neg hD]]
      rw [show d_236_4 C a b c d (m + 1) k n g = d_236_4 C a b c d m (k + 1) (n - 1) (sp_uI g ((n - 1) - 1) (d_237 (rb_o (dT C k)) (g ((n - 1) - 1)) (g (n - 1)))) from by
        rw [d_236_4, if_neg q1, if_pos q2, if_pos q3]]
      refine ih _ _ _ _ (by omega) (by omega) w4 (fun j hj => ut _ _ _ ?_ j (by omega))
      rw [d_237_e w1 w2, hf (n - 1 - 1) (by omega), hf (n - 1) (by omega)]
theorem dlaw_e {C : sp_C} {a b c d : Int32} (hc : cIL C) (ht : C.2.2.2.1 = true) (f : Nat → Int32) : lst ((dTL C).drop 0) 0 = some 1 ∧ d_236 C a b c d f = dlaw C a b c d := by
  have hw : lst ((dTL C).drop 0) 0 = some 1 := by
    rcases hc with w | w
    · rw [ht] at w
      cases w.1
    · exact w.2
  refine ⟨hw, ?_⟩
  obtain ⟨e1, e2⟩ := law_e (C := C) (a := a) (b := b) (c := c) (d := d) (dM C) 0 0 (fun _ => 0) f (by omega) (by decide) hw (fun j hj => absurd hj (Nat.not_lt_zero j))
  unfold d_236 dlaw d_105
  rw [e1, if_neg (by decide)]
  exact e2
theorem dlaw_0 {C : sp_C} {a b c d : Int32} (hM : dM C = 0) : dlaw C a b c d = Int32.ofInt 1 := by
  unfold dlaw d_105
  rw [hM]
  rfl
theorem dQ_t {C : sp_C} (h : ¬ dQ C < 0) : C.2.2.2.1 = true ∧ dQ C = nI 0 := by
  cases e : C.2.2.2.1 with
  | true => exact ⟨rfl, by show (bif C.2.2.2.1 then nI 0 else Int32.ofInt (-1)) = _; rw [e]; rfl⟩
  | false =>
    refine absurd ?_ h
    show (bif C.2.2.2.1 then nI 0 else Int32.ofInt (-1)) < 0
    rw [e]
    decide
theorem dQ_f {C : sp_C} (h : dQ C < 0) : C.2.2.2.1 = false := by
  cases e : C.2.2.2.1 with
  | false => rfl
  | true =>
    refine absurd h ?_
    show ¬ (bif C.2.2.2.1 then nI 0 else Int32.ofInt (-1)) < 0
    rw [e]
    decide
variable {h : am_H} {Q : am_Q} {C V : sp_C} {x y w a b c d : Int32} {p q e : Nat} {s u : dS} {h0 : am_H} {f fc : Nat → Int32} {gg : Int32}
theorem q_236 (hP : ex_P h) (hI : cI C) (hT : tR C h) (hA : h.1 168 0 = a ∧ h.1 168 1 = b ∧ h.1 168 2 = c ∧ h.1 168 3 = d) (hd : ¬ dQ C < 0) (hQ : ∀ h1, lfr 169 h h1 → Q (some (.int (dlaw C a b c d))) h1) : am_call am_cod 2 236 [.ref 154, .int (dQ C)] h Q := by
  obtain ⟨ht, e⟩ := dQ_t hd
  rw [e]
  obtain ⟨hw, e2⟩ := dlaw_e (a := a) (b := b) (c := c) (d := d) hI.2.2.2 ht (fun j => h.1 169 j)
  exact d_236_r (h0 := h) (f := fun j => h.1 169 j) hP hT hA lfr_0 (fun _ _ => rfl) ht hw (fun h1 _ _ _ l _ => by
    rw [e2]
    exact hQ h1 l)
theorem sv2_223 : am_r223.all (fun q => sv2_ok q.2) = true := by decide +kernel
theorem sv2_225 : am_r225.all (fun q => sv2_ok q.2) = true := by decide +kernel
theorem sv2_228 : am_r228.all (fun q => sv2_ok q.2) = true := by decide +kernel
theorem sv2_229 : am_r229.all (fun q => sv2_ok q.2) = true := by decide +kernel
theorem sv2_234 : am_r234.all (fun q => sv2_ok q.2) = true := by decide +kernel
theorem sv2_238 : am_r238.all (fun q => sv2_ok q.2) = true := by decide +kernel
def d_225 (x y w : Int32) : Int32 := (if ¬ w = (Int32.ofInt 1) then ((x + y) + ((Int8.ofInt 7).toInt32)) - ((x + y) + ((Int8.ofInt 7).toInt32)) / ((Int8.ofInt 7).toInt32) * ((Int8.ofInt 7).toInt32) else x - x / ((Int8.ofInt 7).toInt32) * ((Int8.ofInt 7).toInt32))
theorem d_225_w (hP : ex_P h)  (hQ : Q (some (.int (d_225 x y w))) h) : am_call am_cod 1 225 [.int x, .int y, .int w] h Q := by
  refine pz_call (n := 225) (nL := 3) (rt := (some .int)) (rows := am_r225) (d := 0) (by decide +kernel) (by decide +kernel) rfl (by funext pc; rfl) (ex_175 hP) (by exact Nat.le_of_ble_eq_true rfl) ?_
  suffices key : ∀ (v2 : Int32), v2 = (if ¬ w = (Int32.ofInt 1) then ((x + y) + ((Int8.ofInt 7).toInt32)) - ((x + y) + ((Int8.ofInt 7).toInt32)) / ((Int8.ofInt 7).toInt32) * ((Int8.ofInt 7).toInt32) else x - x / ((Int8.ofInt 7).toInt32) * ((Int8.ofInt 7).toInt32)) → pz_S 3 (some .int) am_r225 0 Q 21 [] [.int v2] h by
    refine am_goX 3 (show (¬ w = (Int32.ofInt 1) → pz_S 3 (some .int) am_r225 0 Q 12 [(0, .int x), (1, .int y), (2, .int w)] [] h) ∧ (¬ ¬ w = (Int32.ofInt 1) → pz_S 3 (some .int) am_r225 0 Q 5 [(0, .int x), (1, .int y), (2, .int w)] [] h) from ⟨fun c1 => ?_, fun c1 => ?_⟩)
    · refine am_goX 7 (show ¬ ((Int8.ofInt 7).toInt32) = 0 ∧ pz_S 3 (some .int) am_r225 0 Q 21 [(0, .int x), (1, .int y), (2, .int w)] [.int (((x + y) + ((Int8.ofInt 7).toInt32)) - ((x + y) + ((Int8.ofInt 7).toInt32)) / ((Int8.ofInt 7).toInt32) * ((Int8.ofInt 7).toInt32))] h from ⟨by decide, ?_⟩)
      exact sv_S2 sv2_225 (fun q hq => absurd hq List.not_mem_nil) (key _ (if_pos c1).symm)
    · refine am_goX 4 (show ¬ ((Int8.ofInt 7).toInt32) = 0 ∧ pz_S 3 (some .int) am_r225 0 Q 21 [(0, .int x), (1, .int y), (2, .int w)] [.int (x - x / ((Int8.ofInt 7).toInt32) * ((Int8.ofInt 7).toInt32))] h from ⟨by decide, ?_⟩)
      exact sv_S2 sv2_225 (fun q hq => absurd hq List.not_mem_nil) (key _ (if_neg c1).symm)
  intro v2 e3
  subst e3
  exact am_goX 1 (show (∃ ty, (some .int) = some ty ∧ narrow ty (.int (if ¬ w = (Int32.ofInt 1) then ((x + y) + ((Int8.ofInt 7).toInt32)) - ((x + y) + ((Int8.ofInt 7).toInt32)) / ((Int8.ofInt 7).toInt32) * ((Int8.ofInt 7).toInt32) else x - x / ((Int8.ofInt 7).toInt32) * ((Int8.ofInt 7).toInt32))) = .int (if ¬ w = (Int32.ofInt 1) then ((x + y) + ((Int8.ofInt 7).toInt32)) - ((x + y) + ((Int8.ofInt 7).toInt32)) / ((Int8.ofInt 7).toInt32) * ((Int8.ofInt 7).toInt32) else x - x / ((Int8.ofInt 7).toInt32) * ((Int8.ofInt 7).toInt32))) ∧ h.2.2.2.2 = 175 ∧ _ from ⟨⟨.int, rfl, rfl⟩, ex_175 hP, hQ⟩)
def d_224 (C : sp_C) (x : Int32) : Int32 := ((dO C) >>> ((x - x / ((Int8.ofInt 28).toInt32) * ((Int8.ofInt 28).toInt32)) &&& 31)) &&& (Int32.ofInt 1)
theorem d_224_r (hP : ex_P h) (hT : tR C h)  (hQ : Q (some (.int (d_224 C x))) h) : am_call am_cod 1 224 [.ref 154, .int x] h Q := by
  have h6 := hT.1.2.1
  have h5 := hT.2.1.2.1
  refine pz_call (n := 224) (nL := 2) (rt := (some .int)) (rows := am_r224) (d := 0) (by decide +kernel) (by decide +kernel) rfl (by funext pc; rfl) (ex_175 hP) (by exact Nat.le_of_ble_eq_true rfl) ?_
  refine am_goX 2 (show am_sh h 154 = some (11, 0) ∧ pz_S 2 (some .int) am_r224 0 Q 4 [(0, .ref 154), (1, .int x)] [am_rf (h.2.2.1 154 10)] h from ⟨ex_154 hP, ?_⟩)
  rw [show am_rf (h.2.2.1 154 10) = .ref 160 from congrArg am_rf (ex_r154_10 hP)]
  refine am_goX 2 (show ∃ jj nn : Nat, am_sh h 160 = some (13, nn) ∧ jj < nn ∧ Int32.ofInt 2 = nI jj ∧ pz_S 2 (some .int) am_r224 0 Q 6 [(0, .ref 154), (1, .int x)] [.int (h.1 160 jj)] h from ⟨2, 80, ex_160 hP, (by omega), rfl, ?_⟩)
  rw [show h.1 160 2 = dO C from hT.2.2.2.1.1]
  exact am_goX 7 (show ¬ ((Int8.ofInt 28).toInt32) = 0 ∧ (∃ ty, (some .int) = some ty ∧ narrow ty (.int (((dO C) >>> ((x - x / ((Int8.ofInt 28).toInt32) * ((Int8.ofInt 28).toInt32)) &&& 31)) &&& (Int32.ofInt 1))) = .int (((dO C) >>> ((x - x / ((Int8.ofInt 28).toInt32) * ((Int8.ofInt 28).toInt32)) &&& 31)) &&& (Int32.ofInt 1))) ∧ h.2.2.2.2 = 175 ∧ _ from ⟨by decide, ⟨.int, rfl, rfl⟩, ex_175 hP, hQ⟩)
def d_229 (C : sp_C) (p : Nat) (x : Int32) : Int32 := (if ¬ (((dB C p) >>> (x &&& 31)) &&& (Int32.ofInt 1)) = (Int32.ofInt 1) then Int32.ofInt 0 else Int32.ofInt 1)
theorem d_229_r (hP : ex_P h) (hT : tR C h) (hp : p < dP C) (hQ : Q (some (.int (d_229 C p x))) h) : am_call am_cod 2 229 [.ref 154, .int (nI p), .int x] h Q := by
  have h6 := hT.1.2.1
  have h5 := hT.2.1.2.1
  refine pz_call (n := 229) (nL := 3) (rt := (some .boolean)) (rows := am_r229) (d := 1) (by decide +kernel) (by decide +kernel) rfl (by funext pc; rfl) (ex_175 hP) (by exact Nat.le_of_ble_eq_true rfl) ?_
  refine am_goX 4 (show am_rc h 154 11 ∧ 0 ≤ 8 ∧ h.2.2.2.2 + am_al 187 ≤ 175 ∧ am_call am_cod 1 187 [.ref 154, .int (nI p), .int (Int32.ofInt 2)] h (fun vv h' => pz_S 3 (some .boolean) am_r229 1 Q 6 [(0, .ref 154), (1, .int (nI p)), (2, .int x)] (vv.toList ++ []) h') from ⟨Or.inl ⟨by decide, ex_154 hP⟩, by decide, ex_lim hP rfl, am_call.up (d_187_r2 hP hT (by omega) ?_) (by decide)⟩)
  suffices key : ∀ (v5 : Int32), v5 = (if ¬ (((dB C p) >>> (x &&& 31)) &&& (Int32.ofInt 1)) = (Int32.ofInt 1) then Int32.ofInt 0 else Int32.ofInt 1) → pz_S 3 (some .boolean) am_r229 1 Q 19 [] [.int v5] h by
    refine am_goX 6 (show (¬ (((dB C p) >>> (x &&& 31)) &&& (Int32.ofInt 1)) = (Int32.ofInt 1) → pz_S 3 (some .boolean) am_r229 1 Q 18 [(0, .ref 154), (1, .int (nI p)), (2, .int x)] [] h) ∧ (¬ ¬ (((dB C p) >>> (x &&& 31)) &&& (Int32.ofInt 1)) = (Int32.ofInt 1) → pz_S 3 (some .boolean) am_r229 1 Q 14 [(0, .ref 154), (1, .int (nI p)), (2, .int x)] [] h) from ⟨fun c4 => ?_, fun c4 => ?_⟩)
    · refine am_goX 1 (show pz_S 3 (some .boolean) am_r229 1 Q 19 [(0, .ref 154), (1, .int (nI p)), (2, .int x)] [.int (Int32.ofInt 0)] h from ?_)
      exact sv_S2 sv2_229 (fun q hq => absurd hq List.not_mem_nil) (key _ (if_pos c4).symm)
    · refine am_goX 2 (show pz_S 3 (some .boolean) am_r229 1 Q 19 [(0, .ref 154), (1, .int (nI p)), (2, .int x)] [.int (Int32.ofInt 1)] h from ?_)
      exact sv_S2 sv2_229 (fun q hq => absurd hq List.not_mem_nil) (key _ (if_neg c4).symm)
  intro v5 e6
  subst e6
  exact am_goX 1 (show (∃ ty, (some .boolean) = some ty ∧ narrow ty (.int (if ¬ (((dB C p) >>> (x &&& 31)) &&& (Int32.ofInt 1)) = (Int32.ofInt 1) then Int32.ofInt 0 else Int32.ofInt 1)) = .int (if ¬ (((dB C p) >>> (x &&& 31)) &&& (Int32.ofInt 1)) = (Int32.ofInt 1) then Int32.ofInt 0 else Int32.ofInt 1)) ∧ h.2.2.2.2 = 175 ∧ _ from ⟨⟨.boolean, rfl, (by (repeat' split) <;> rfl)⟩, ex_175 hP, hQ⟩)
def d_228_4 (C : sp_C) (x : Int32) : Nat → Nat → Int32 → Int32
  | 0, _, a2 => a2
  | m + 1, k, a2 => d_228_4 C x m (k + 1) (a2 ||| (if (d_229 C k x) = 0 then Int32.ofInt 0 else (Int32.ofInt 1) <<< ((nI k) &&& 31)))
theorem d_228_4_r (hP : ex_P h) (hT : tR C h) : ∀ (m k : Nat) (a2 : Int32), k + m = dP C → (pz_S 4 (some .int) am_r228 2 Q 37 [(2, .int (d_228_4 C x m k a2))] [] h) → pz_S 4 (some .int) am_r228 2 Q 4 [(0, .ref 154), (1, .int x), (2, .int a2), (3, .int (nI k))] [] h := by
  intro m
  induction m with
  | zero =>
    intro k a2 hk hZ
    have h6 := hT.1.2.1
    have h5 := hT.2.1.2.1
    refine am_goX 3 (show am_rc h 154 11 ∧ 1 ≤ 8 ∧ h.2.2.2.2 + am_al 186 ≤ 175 ∧ am_call am_cod 2 186 [.ref 154] h (fun vv h' => pz_S 4 (some .int) am_r228 2 Q 9 [(0, .ref 154), (1, .int x), (2, .int a2), (3, .int (nI k))] (vv.toList ++ [.int (nI k)]) h') from ⟨Or.inl ⟨by decide, ex_154 hP⟩, by decide, ex_lim hP rfl, am_call.up (d_186_r hP hT ?_) (by decide)⟩)
    refine am_goX 1 (show ((nI (dP C)) ≤ (nI k) → pz_S 4 (some .int) am_r228 2 Q 37 [(0, .ref 154), (1, .int x), (2, .int a2), (3, .int (nI k))] [] h) ∧ (¬ ((nI (dP C)) ≤ (nI k)) → pz_S 4 (some .int) am_r228 2 Q 12 [(0, .ref 154), (1, .int x), (2, .int a2), (3, .int (nI k))] [] h) from ⟨fun _ => ?_, fun hz => absurd (show nI (dP C) ≤ nI k from nI_le (by omega) (by omega)) hz⟩)
    exact sv_S2 sv2_228 (by intro q hq; simp only [List.mem_cons, List.not_mem_nil, or_false] at hq; rcases hq with rfl <;> rfl) (hZ)
  | succ m ih =>
    intro k a2 hk hZ
    have h6 := hT.1.2.1
    have h5 := hT.2.1.2.1
    refine am_goX 3 (show am_rc h 154 11 ∧ 1 ≤ 8 ∧ h.2.2.2.2 + am_al 186 ≤ 175 ∧ am_call am_cod 2 186 [.ref 154] h (fun vv h' => pz_S 4 (some .int) am_r228 2 Q 9 [(0, .ref 154), (1, .int x), (2, .int a2), (3, .int (nI k))] (vv.toList ++ [.int (nI k)]) h') from ⟨Or.inl ⟨by decide, ex_154 hP⟩, by decide, ex_lim hP rfl, am_call.up (d_186_r hP hT ?_) (by decide)⟩)
    refine am_goX 1 (show ((nI (dP C)) ≤ (nI k) → pz_S 4 (some .int) am_r228 2 Q 37 [(0, .ref 154), (1, .int x), (2, .int a2), (3, .int (nI k))] [] h) ∧ (¬ ((nI (dP C)) ≤ (nI k)) → pz_S 4 (some .int) am_r228 2 Q 12 [(0, .ref 154), (1, .int x), (2, .int a2), (3, .int (nI k))] [] h) from ⟨fun hz => absurd hz (show ¬ (nI (dP C) ≤ nI k) by rw [nI_leI (by omega) (by omega)]; omega), fun _ => ?_⟩)
    refine am_goX 5 (show am_rc h 154 11 ∧ 1 ≤ 8 ∧ h.2.2.2.2 + am_al 229 ≤ 175 ∧ am_call am_cod 2 229 [.ref 154, .int (nI k), .int x] h (fun vv h' => pz_S 4 (some .int) am_r228 2 Q 19 [(0, .ref 154), (1, .int x), (2, .int a2), (3, .int (nI k))] (vv.toList ++ [.int a2]) h') from ⟨Or.inl ⟨by decide, ex_154 hP⟩, by decide, ex_lim hP rfl, am_call.up (d_229_r hP hT (by omega) ?_) (by decide)⟩)
    suffices key : ∀ (v8 : Int32), v8 = (if (d_229 C k x) = 0 then Int32.ofInt 0 else (Int32.ofInt 1) <<< ((nI k) &&& 31)) → pz_S 4 (some .int) am_r228 2 Q 29 [(0, .ref 154), (1, .int x), (3, .int (nI k))] [.int v8, .int a2] h by
      refine am_goX 1 (show ((d_229 C k x) = 0 → pz_S 4 (some .int) am_r228 2 Q 28 [(0, .ref 154), (1, .int x), (2, .int a2), (3, .int (nI k))] [.int a2] h) ∧ (¬ ((d_229 C k x) = 0) → pz_S 4 (some .int) am_r228 2 Q 22 [(0, .ref 154), (1, .int x), (2, .int a2), (3, .int (nI k))] [.int a2] h) from ⟨fun c7 => ?_, fun c7 => ?_⟩)
      · refine am_goX 1 (show pz_S 4 (some .int) am_r228 2 Q 29 [(0, .ref 154), (1, .int x), (2, .int a2), (3, .int (nI k))] [.int (Int32.ofInt 0), .int a2] h from ?_)
        exact sv_S2 sv2_228 (by intro q hq; simp only [List.mem_cons, List.not_mem_nil, or_false] at hq; rcases hq with rfl | rfl | rfl <;> rfl) (key _ (if_pos c7).symm)
      · refine am_goX 4 (show pz_S 4 (some .int) am_r228 2 Q 29 [(0, .ref 154), (1, .int x), (2, .int a2), (3, .int (nI k))] [.int ((Int32.ofInt 1) <<< ((nI k) &&& 31)), .int a2] h from ?_)
        exact sv_S2 sv2_228 (by intro q hq; simp only [List.mem_cons, List.not_mem_nil, or_false] at hq; rcases hq with rfl | rfl | rfl <;> rfl) (key _ (if_neg c7).symm)
    intro v8 e9
    subst e9
    refine am_goX 4 (show 2 < 4 ∧ 3 < 4 ∧ pz_S 4 (some .int) am_r228 2 Q 4 [(3, .int ((nI k) + (Int32.ofInt 1))), (2, .int (a2 ||| (if (d_229 C k x) = 0 then Int32.ofInt 0 else (Int32.ofInt 1) <<< ((nI k) &&& 31)))), (0, .ref 154), (1, .int x)] [] h from ⟨by decide, by decide, ?_⟩)
    rw [show (nI k) + (Int32.ofInt 1) = nI (k + 1) from (dn_a rfl rfl)]
    exact sv_S2 sv2_228 (by intro q hq; simp only [List.mem_cons, List.not_mem_nil, or_false] at hq; rcases hq with rfl | rfl | rfl | rfl <;> rfl) (ih (k + 1) (a2 ||| (if (d_229 C k x) = 0 then Int32.ofInt 0 else (Int32.ofInt 1) <<< ((nI k) &&& 31))) (by omega) hZ)
def d_228 (C : sp_C) (x : Int32) : Int32 := d_228_4 C x (dP C) 0 (Int32.ofInt 0)
theorem d_228_r (hP : ex_P h) (hT : tR C h)  (hQ : Q (some (.int (d_228 C x))) h) : am_call am_cod 3 228 [.ref 154, .int x] h Q := by
  have h6 := hT.1.2.1
  have h5 := hT.2.1.2.1
  refine pz_call (n := 228) (nL := 4) (rt := (some .int)) (rows := am_r228) (d := 2) (by decide +kernel) (by decide +kernel) rfl (by funext pc; rfl) (ex_175 hP) (by exact Nat.le_of_ble_eq_true rfl) ?_
  refine am_goX 4 (show 2 < 4 ∧ 3 < 4 ∧ pz_S 4 (some .int) am_r228 2 Q 4 [(3, .int (Int32.ofInt 0)), (2, .int (Int32.ofInt 0)), (0, .ref 154), (1, .int x)] [] h from ⟨by decide, by decide, ?_⟩)
  refine sv_S2 sv2_228 (by intro q hq; simp only [List.mem_cons, List.not_mem_nil, or_false] at hq; rcases hq with rfl | rfl | rfl | rfl <;> rfl) (d_228_4_r hP hT (dP C) 0 (Int32.ofInt 0) (by omega) ?_)
  exact am_goX 2 (show (∃ ty, (some .int) = some ty ∧ narrow ty (.int (d_228_4 C x (dP C) 0 (Int32.ofInt 0))) = .int (d_228_4 C x (dP C) 0 (Int32.ofInt 0))) ∧ h.2.2.2.2 = 175 ∧ _ from ⟨⟨.int, rfl, rfl⟩, ex_175 hP, hQ⟩)
theorem fo_w {ob k : Nat} {v a b c d : Int32} {h : am_H} (hn : ¬ ob = 168) (l : h.1 168 0 = a ∧ h.1 168 1 = b ∧ h.1 168 2 = c ∧ h.1 168 3 = d) : (am_wI h ob k v).1 168 0 = a ∧ (am_wI h ob k v).1 168 1 = b ∧ (am_wI h ob k v).1 168 2 = c ∧ (am_wI h ob k v).1 168 3 = d := by
  rw [em_wn _ _ (by omega), em_wn _ _ (by omega), em_wn _ _ (by omega), em_wn _ _ (by omega)]
  exact l
theorem fa_w0 {v a b c d : Int32} {h : am_H} (l : h.1 168 0 = a ∧ h.1 168 1 = b ∧ h.1 168 2 = c ∧ h.1 168 3 = d) : (am_wI h 168 0 v).1 168 0 = v ∧ (am_wI h 168 0 v).1 168 1 = b ∧ (am_wI h 168 0 v).1 168 2 = c ∧ (am_wI h 168 0 v).1 168 3 = d := by
  refine ⟨?_, ?_, ?_, ?_⟩
  · exact em_we _ _ _ _
  · rw [em_wn _ _ (by omega)]; exact l.2.1
  · rw [em_wn _ _ (by omega)]; exact l.2.2.1
  · rw [em_wn _ _ (by omega)]; exact l.2.2.2
theorem fa_w1 {v a b c d : Int32} {h : am_H} (l : h.1 168 0 = a ∧ h.1 168 1 = b ∧ h.1 168 2 = c ∧ h.1 168 3 = d) : (am_wI h 168 1 v).1 168 0 = a ∧ (am_wI h 168 1 v).1 168 1 = v ∧ (am_wI h 168 1 v).1 168 2 = c ∧ (am_wI h 168 1 v).1 168 3 = d := by
  refine ⟨?_, ?_, ?_, ?_⟩
  · rw [em_wn _ _ (by omega)]; exact l.1
  · exact em_we _ _ _ _
  · rw [em_wn _ _ (by omega)]; exact l.2.2.1
  · rw [em_wn _ _ (by omega)]; exact l.2.2.2
theorem fa_w2 {v a b c d : Int32} {h : am_H} (l : h.1 168 0 = a ∧ h.1 168 1 = b ∧ h.1 168 2 = c ∧ h.1 168 3 = d) : (am_wI h 168 2 v).1 168 0 = a ∧ (am_wI h 168 2 v).1 168 1 = b ∧ (am_wI h 168 2 v).1 168 2 = v ∧ (am_wI h 168 2 v).1 168 3 = d := by
  refine ⟨?_, ?_, ?_, ?_⟩
  · rw [em_wn _ _ (by omega)]; exact l.1
  · rw [em_wn _ _ (by omega)]; exact l.2.1
  · exact em_we _ _ _ _
  · rw [em_wn _ _ (by omega)]; exact l.2.2.2
theorem fa_w3 {v a b c d : Int32} {h : am_H} (l : h.1 168 0 = a ∧ h.1 168 1 = b ∧ h.1 168 2 = c ∧ h.1 168 3 = d) : (am_wI h 168 3 v).1 168 0 = a ∧ (am_wI h 168 3 v).1 168 1 = b ∧ (am_wI h 168 3 v).1 168 2 = c ∧ (am_wI h 168 3 v).1 168 3 = v := by
  refine ⟨?_, ?_, ?_, ?_⟩
  · rw [em_wn _ _ (by omega)]; exact l.1
  · rw [em_wn _ _ (by omega)]; exact l.2.1
  · rw [em_wn _ _ (by omega)]; exact l.2.2.1
  · exact em_we _ _ _ _
def d_223 (C : sp_C) (s : dS) (p : Nat) : Int32 := (if ¬ (dK C p) = (Int32.ofInt 3) then (s.2.2.1 p) - (Int32.ofInt 2) else Int32.ofInt 0)
theorem d_223_r0 (hP : ex_P h) (hI : cI C) (hT : tR C h) (hO : ∀ e, e < dE C → h.1 172 e = dW V e) (hS : sR 0 (dP C) s h) (hX : fR h0 h) (hp : p < dP C) (hQ : Q (some (.int (d_223 C s p))) h) : am_call am_cod 2 223 [.ref 154, .int (Int32.ofInt 0), .int (nI p)] h Q := by
  have h6 := hT.1.2.1
  have h5 := hT.2.1.2.1
  refine pz_call (n := 223) (nL := 3) (rt := (some .int)) (rows := am_r223) (d := 1) (by decide +kernel) (by decide +kernel) rfl (by funext pc; rfl) (ex_175 hP) (by exact Nat.le_of_ble_eq_true rfl) ?_
  refine am_goX 4 (show am_rc h 154 11 ∧ 0 ≤ 8 ∧ h.2.2.2.2 + am_al 187 ≤ 175 ∧ am_call am_cod 1 187 [.ref 154, .int (nI p), .int (Int32.ofInt 0)] h (fun vv h' => pz_S 3 (some .int) am_r223 1 Q 6 [(0, .ref 154), (1, .int (Int32.ofInt 0)), (2, .int (nI p))] (vv.toList ++ []) h') from ⟨Or.inl ⟨by decide, ex_154 hP⟩, by decide, ex_lim hP rfl, am_call.up (d_187_r0 hP hT (by omega) ?_) (by decide)⟩)
  suffices key : ∀ (v11 : Int32), v11 = (if ¬ (dK C p) = (Int32.ofInt 3) then (s.2.2.1 p) - (Int32.ofInt 2) else Int32.ofInt 0) → pz_S 3 (some .int) am_r223 1 Q 26 [] [.int v11] h by
    refine am_goX 2 (show (¬ (dK C p) = (Int32.ofInt 3) → pz_S 3 (some .int) am_r223 1 Q 14 [(0, .ref 154), (1, .int (Int32.ofInt 0)), (2, .int (nI p))] [] h) ∧ (¬ ¬ (dK C p) = (Int32.ofInt 3) → pz_S 3 (some .int) am_r223 1 Q 10 [(0, .ref 154), (1, .int (Int32.ofInt 0)), (2, .int (nI p))] [] h) from ⟨fun c10 => ?_, fun c10 => ?_⟩)
    · refine am_goX 2 (show am_sh h 154 = some (11, 0) ∧ pz_S 3 (some .int) am_r223 1 Q 18 [(0, .ref 154), (1, .int (Int32.ofInt 0)), (2, .int (nI p))] [am_rf (h.2.2.1 154 24)] h from ⟨ex_154 hP, ?_⟩)
      rw [show am_rf (h.2.2.1 154 24) = .ref 170 from congrArg am_rf (ex_r154_24 hP)]
      refine am_goX 6 (show ∃ jj nn : Nat, am_sh h 170 = some (13, nn) ∧ jj < nn ∧ ((Int32.ofInt 0) + (Int32.ofInt 2)) + (nI p) = nI jj ∧ pz_S 3 (some .int) am_r223 1 Q 24 [(0, .ref 154), (1, .int (Int32.ofInt 0)), (2, .int (nI p))] [.int (h.1 170 jj)] h from ⟨(2 + p), 1127, ex_170 hP, (by omega), (dn_a (dn_a rfl rfl) rfl), ?_⟩)
      rw [show h.1 170 (2 + p) = s.2.2.1 p from (by rw [show (2 + p) = 0 + 2 + p by omega]; exact hS.2.1 p (by omega))]
      refine am_goX 2 (show pz_S 3 (some .int) am_r223 1 Q 26 [(0, .ref 154), (1, .int (Int32.ofInt 0)), (2, .int (nI p))] [.int ((s.2.2.1 p) - (Int32.ofInt 2))] h from ?_)
      exact sv_S2 sv2_223 (fun q hq => absurd hq List.not_mem_nil) (key _ (if_pos c10).symm)
    · refine am_goX 2 (show pz_S 3 (some .int) am_r223 1 Q 26 [(0, .ref 154), (1, .int (Int32.ofInt 0)), (2, .int (nI p))] [.int (Int32.ofInt 0)] h from ?_)
      exact sv_S2 sv2_223 (fun q hq => absurd hq List.not_mem_nil) (key _ (if_neg c10).symm)
  intro v11 e12
  subst e12
  exact am_goX 1 (show (∃ ty, (some .int) = some ty ∧ narrow ty (.int (if ¬ (dK C p) = (Int32.ofInt 3) then (s.2.2.1 p) - (Int32.ofInt 2) else Int32.ofInt 0)) = .int (if ¬ (dK C p) = (Int32.ofInt 3) then (s.2.2.1 p) - (Int32.ofInt 2) else Int32.ofInt 0)) ∧ h.2.2.2.2 = 175 ∧ _ from ⟨⟨.int, rfl, rfl⟩, ex_175 hP, hQ⟩)
def d_222 (C : sp_C) (s : dS) (p : Nat) : Int32 := d_225 s.1 (d_223 C s p) (d_224 C s.1)
theorem d_222_r0 (hP : ex_P h) (hI : cI C) (hT : tR C h) (hO : ∀ e, e < dE C → h.1 172 e = dW V e) (hS : sR 0 (dP C) s h) (hX : fR h0 h) (hp : p < dP C) (hQ : Q (some (.int (d_222 C s p))) h) : am_call am_cod 3 222 [.ref 154, .int (nI p)] h Q := by
  have h6 := hT.1.2.1
  have h5 := hT.2.1.2.1
  refine pz_call (n := 222) (nL := 2) (rt := (some .int)) (rows := am_r222) (d := 2) (by decide +kernel) (by decide +kernel) rfl (by funext pc; rfl) (ex_175 hP) (by exact Nat.le_of_ble_eq_true rfl) ?_
  refine am_goX 2 (show am_sh h 154 = some (11, 0) ∧ pz_S 2 (some .int) am_r222 2 Q 4 [(0, .ref 154), (1, .int (nI p))] [am_rf (h.2.2.1 154 24)] h from ⟨ex_154 hP, ?_⟩)
  rw [show am_rf (h.2.2.1 154 24) = .ref 170 from congrArg am_rf (ex_r154_24 hP)]
  refine am_goX 2 (show ∃ jj nn : Nat, am_sh h 170 = some (13, nn) ∧ jj < nn ∧ Int32.ofInt 0 = nI jj ∧ pz_S 2 (some .int) am_r222 2 Q 6 [(0, .ref 154), (1, .int (nI p))] [.int (h.1 170 jj)] h from ⟨0, 1127, ex_170 hP, (by omega), rfl, ?_⟩)
  rw [show h.1 170 0 = s.1 from hS.1.1]
  refine am_goX 4 (show am_rc h 154 11 ∧ 1 ≤ 8 ∧ h.2.2.2.2 + am_al 223 ≤ 175 ∧ am_call am_cod 2 223 [.ref 154, .int (Int32.ofInt 0), .int (nI p)] h (fun vv h' => pz_S 2 (some .int) am_r222 2 Q 12 [(0, .ref 154), (1, .int (nI p))] (vv.toList ++ [.int s.1]) h') from ⟨Or.inl ⟨by decide, ex_154 hP⟩, by decide, ex_lim hP rfl, am_call.up (d_223_r0 hP hI hT hO hS hX (by omega) ?_) (by decide)⟩)
  refine am_goX 3 (show am_sh h 154 = some (11, 0) ∧ pz_S 2 (some .int) am_r222 2 Q 17 [(0, .ref 154), (1, .int (nI p))] [am_rf (h.2.2.1 154 24), .ref 154, .int (d_223 C s p), .int s.1] h from ⟨ex_154 hP, ?_⟩)
  rw [show am_rf (h.2.2.1 154 24) = .ref 170 from congrArg am_rf (ex_r154_24 hP)]
  refine am_goX 2 (show ∃ jj nn : Nat, am_sh h 170 = some (13, nn) ∧ jj < nn ∧ Int32.ofInt 0 = nI jj ∧ pz_S 2 (some .int) am_r222 2 Q 19 [(0, .ref 154), (1, .int (nI p))] [.int (h.1 170 jj), .ref 154, .int (d_223 C s p), .int s.1] h from ⟨0, 1127, ex_170 hP, (by omega), rfl, ?_⟩)
  rw [show h.1 170 0 = s.1 from hS.1.1]
  refine am_goX 1 (show am_rc h 154 11 ∧ 2 ≤ 8 ∧ h.2.2.2.2 + am_al 224 ≤ 175 ∧ am_call am_cod 2 224 [.ref 154, .int s.1] h (fun vv h' => pz_S 2 (some .int) am_r222 2 Q 22 [(0, .ref 154), (1, .int (nI p))] (vv.toList ++ [.int (d_223 C s p), .int s.1]) h') from ⟨Or.inl ⟨by decide, ex_154 hP⟩, by decide, ex_lim hP rfl, am_call.up (d_224_r hP hT ?_) (by decide)⟩)
  refine am_goX 1 (show 0 ≤ 8 ∧ h.2.2.2.2 + am_al 225 ≤ 175 ∧ am_call am_cod 2 225 [.int s.1, .int (d_223 C s p), .int (d_224 C s.1)] h (fun vv h' => pz_S 2 (some .int) am_r222 2 Q 25 [(0, .ref 154), (1, .int (nI p))] (vv.toList ++ []) h') from ⟨by decide, ex_lim hP rfl, am_call.up (d_225_w hP ?_) (by decide)⟩)
  exact am_goX 1 (show (∃ ty, (some .int) = some ty ∧ narrow ty (.int (d_225 s.1 (d_223 C s p) (d_224 C s.1))) = .int (d_225 s.1 (d_223 C s p) (d_224 C s.1))) ∧ h.2.2.2.2 = 175 ∧ _ from ⟨⟨.int, rfl, rfl⟩, ex_175 hP, hQ⟩)
def d_238 (C V : sp_C) (s : dS) (p e : Nat) (w : Int32) : Int32 := (if (d_229 C p (nI e)) = 0 then Int32.ofInt 0 else (if (d_225 s.1 (d_223 C s p) w) = (dW V e) then (if ¬ (dK C p) = (Int32.ofInt 2) then Int32.ofInt 1 else (if ¬ (dW V e) = (Int32.ofInt 1) then Int32.ofInt 0 else Int32.ofInt 1)) else (if ¬ (dK C p) = (Int32.ofInt 1) then Int32.ofInt 0 else (if ¬ (d_225 s.1 (d_223 C s p) w) = (((dW V e) + (Int32.ofInt 1)) - ((dW V e) + (Int32.ofInt 1)) / ((Int8.ofInt 7).toInt32) * ((Int8.ofInt 7).toInt32)) then Int32.ofInt 0 else (if ¬ (dK C p) = (Int32.ofInt 2) then Int32.ofInt 1 else (if ¬ (dW V e) = (Int32.ofInt 1) then Int32.ofInt 0 else Int32.ofInt 1))))))
theorem d_238_r0 (hP : ex_P h) (hI : cI C) (hT : tR C h) (hO : ∀ e, e < dE C → h.1 172 e = dW V e) (hS : sR 0 (dP C) s h) (hX : fR h0 h) (hp : p < dP C) (he : e < dE C) (hQ : Q (some (.int (d_238 C V s p e w))) h) : am_call am_cod 3 238 [.ref 154, .int (Int32.ofInt 0), .int (nI p), .int (nI e), .int w] h Q := by
  have h6 := hT.1.2.1
  have h5 := hT.2.1.2.1
  refine pz_call (n := 238) (nL := 8) (rt := (some .boolean)) (rows := am_r238) (d := 2) (by decide +kernel) (by decide +kernel) rfl (by funext pc; rfl) (ex_175 hP) (by exact Nat.le_of_ble_eq_true rfl) ?_
  refine am_goX 4 (show am_rc h 154 11 ∧ 0 ≤ 8 ∧ h.2.2.2.2 + am_al 187 ≤ 175 ∧ am_call am_cod 2 187 [.ref 154, .int (nI p), .int (Int32.ofInt 0)] h (fun vv h' => pz_S 8 (some .boolean) am_r238 2 Q 6 [(0, .ref 154), (1, .int (Int32.ofInt 0)), (2, .int (nI p)), (3, .int (nI e)), (4, .int w)] (vv.toList ++ []) h') from ⟨Or.inl ⟨by decide, ex_154 hP⟩, by decide, ex_lim hP rfl, am_call.up (d_187_r0 hP hT (by omega) ?_) (by decide)⟩)
  refine am_goX 3 (show 5 < 8 ∧ am_sh h 154 = some (11, 0) ∧ pz_S 8 (some .boolean) am_r238 2 Q 12 [(5, .int (dK C p)), (0, .ref 154), (1, .int (Int32.ofInt 0)), (2, .int (nI p)), (3, .int (nI e)), (4, .int w)] [am_rf (h.2.2.1 154 27)] h from ⟨by decide, ex_154 hP, ?_⟩)
  rw [show am_rf (h.2.2.1 154 27) = .ref 172 from congrArg am_rf (ex_r154_27 hP)]
  refine am_goX 2 (show ∃ jj nn : Nat, am_sh h 172 = some (13, nn) ∧ jj < nn ∧ nI e = nI jj ∧ pz_S 8 (some .boolean) am_r238 2 Q 14 [(5, .int (dK C p)), (0, .ref 154), (1, .int (Int32.ofInt 0)), (2, .int (nI p)), (3, .int (nI e)), (4, .int w)] [.int (h.1 172 jj)] h from ⟨e, 5, ex_172 hP, (by omega), rfl, ?_⟩)
  rw [show h.1 172 e = dW V e from hO e (by omega)]
  refine am_goX 3 (show 6 < 8 ∧ am_sh h 154 = some (11, 0) ∧ pz_S 8 (some .boolean) am_r238 2 Q 20 [(6, .int (dW V e)), (5, .int (dK C p)), (0, .ref 154), (1, .int (Int32.ofInt 0)), (2, .int (nI p)), (3, .int (nI e)), (4, .int w)] [am_rf (h.2.2.1 154 24)] h from ⟨by decide, ex_154 hP, ?_⟩)
  rw [show am_rf (h.2.2.1 154 24) = .ref 170 from congrArg am_rf (ex_r154_24 hP)]
  refine am_goX 4 (show ∃ jj nn : Nat, am_sh h 170 = some (13, nn) ∧ jj < nn ∧ (Int32.ofInt 0) + (Int32.ofInt 0) = nI jj ∧ pz_S 8 (some .boolean) am_r238 2 Q 24 [(6, .int (dW V e)), (5, .int (dK C p)), (0, .ref 154), (1, .int (Int32.ofInt 0)), (2, .int (nI p)), (3, .int (nI e)), (4, .int w)] [.int (h.1 170 jj)] h from ⟨0, 1127, ex_170 hP, (by omega), (dn_a rfl rfl), ?_⟩)
  rw [show h.1 170 0 = s.1 from hS.1.1]
  refine am_goX 4 (show am_rc h 154 11 ∧ 1 ≤ 8 ∧ h.2.2.2.2 + am_al 223 ≤ 175 ∧ am_call am_cod 2 223 [.ref 154, .int (Int32.ofInt 0), .int (nI p)] h (fun vv h' => pz_S 8 (some .boolean) am_r238 2 Q 30 [(6, .int (dW V e)), (5, .int (dK C p)), (0, .ref 154), (1, .int (Int32.ofInt 0)), (2, .int (nI p)), (3, .int (nI e)), (4, .int w)] (vv.toList ++ [.int s.1]) h') from ⟨Or.inl ⟨by decide, ex_154 hP⟩, by decide, ex_lim hP rfl, am_call.up (d_223_r0 hP hI hT hO hS hX (by omega) ?_) (by decide)⟩)
  refine am_goX 2 (show 0 ≤ 8 ∧ h.2.2.2.2 + am_al 225 ≤ 175 ∧ am_call am_cod 2 225 [.int s.1, .int (d_223 C s p), .int w] h (fun vv h' => pz_S 8 (some .boolean) am_r238 2 Q 35 [(6, .int (dW V e)), (5, .int (dK C p)), (0, .ref 154), (1, .int (Int32.ofInt 0)), (2, .int (nI p)), (3, .int (nI e)), (4, .int w)] (vv.toList ++ []) h') from ⟨by decide, ex_lim hP rfl, am_call.up (d_225_w hP ?_) (by decide)⟩)
  refine am_goX 5 (show 7 < 8 ∧ am_rc h 154 11 ∧ 0 ≤ 8 ∧ h.2.2.2.2 + am_al 229 ≤ 175 ∧ am_call am_cod 2 229 [.ref 154, .int (nI p), .int (nI e)] h (fun vv h' => pz_S 8 (some .boolean) am_r238 2 Q 43 [(7, .int (d_225 s.1 (d_223 C s p) w)), (6, .int (dW V e)), (5, .int (dK C p)), (0, .ref 154), (1, .int (Int32.ofInt 0)), (2, .int (nI p)), (3, .int (nI e)), (4, .int w)] (vv.toList ++ []) h') from ⟨by decide, Or.inl ⟨by decide, ex_154 hP⟩, by decide, ex_lim hP rfl, am_call.up (d_229_r hP hT (by omega) ?_) (by decide)⟩)
  suffices key : ∀ (v14 : Int32), v14 = (if (d_229 C p (nI e)) = 0 then Int32.ofInt 0 else (if (d_225 s.1 (d_223 C s p) w) = (dW V e) then (if ¬ (dK C p) = (Int32.ofInt 2) then Int32.ofInt 1 else (if ¬ (dW V e) = (Int32.ofInt 1) then Int32.ofInt 0 else Int32.ofInt 1)) else (if ¬ (dK C p) = (Int32.ofInt 1) then Int32.ofInt 0 else (if ¬ (d_225 s.1 (d_223 C s p) w) = (((dW V e) + (Int32.ofInt 1)) - ((dW V e) + (Int32.ofInt 1)) / ((Int8.ofInt 7).toInt32) * ((Int8.ofInt 7).toInt32)) then Int32.ofInt 0 else (if ¬ (dK C p) = (Int32.ofInt 2) then Int32.ofInt 1 else (if ¬ (dW V e) = (Int32.ofInt 1) then Int32.ofInt 0 else Int32.ofInt 1)))))) → pz_S 8 (some .boolean) am_r238 2 Q 88 [] [.int v14] h by
    refine am_goX 1 (show ((d_229 C p (nI e)) = 0 → pz_S 8 (some .boolean) am_r238 2 Q 87 [(7, .int (d_225 s.1 (d_223 C s p) w)), (6, .int (dW V e)), (5, .int (dK C p)), (0, .ref 154), (1, .int (Int32.ofInt 0)), (2, .int (nI p)), (3, .int (nI e)), (4, .int w)] [] h) ∧ (¬ ((d_229 C p (nI e)) = 0) → pz_S 8 (some .boolean) am_r238 2 Q 46 [(7, .int (d_225 s.1 (d_223 C s p) w)), (6, .int (dW V e)), (5, .int (dK C p)), (0, .ref 154), (1, .int (Int32.ofInt 0)), (2, .int (nI p)), (3, .int (nI e)), (4, .int w)] [] h) from ⟨fun c13 => ?_, fun c13 => ?_⟩)
    · refine am_goX 1 (show pz_S 8 (some .boolean) am_r238 2 Q 88 [(7, .int (d_225 s.1 (d_223 C s p) w)), (6, .int (dW V e)), (5, .int (dK C p)), (0, .ref 154), (1, .int (Int32.ofInt 0)), (2, .int (nI p)), (3, .int (nI e)), (4, .int w)] [.int (Int32.ofInt 0)] h from ?_)
      exact sv_S2 sv2_238 (fun q hq => absurd hq List.not_mem_nil) (key _ (if_pos c13).symm)
    · suffices key : ∀ (v16 : Int32), v16 = (if (d_225 s.1 (d_223 C s p) w) = (dW V e) then (if ¬ (dK C p) = (Int32.ofInt 2) then Int32.ofInt 1 else (if ¬ (dW V e) = (Int32.ofInt 1) then Int32.ofInt 0 else Int32.ofInt 1)) else (if ¬ (dK C p) = (Int32.ofInt 1) then Int32.ofInt 0 else (if ¬ (d_225 s.1 (d_223 C s p) w) = (((dW V e) + (Int32.ofInt 1)) - ((dW V e) + (Int32.ofInt 1)) / ((Int8.ofInt 7).toInt32) * ((Int8.ofInt 7).toInt32)) then Int32.ofInt 0 else (if ¬ (dK C p) = (Int32.ofInt 2) then Int32.ofInt 1 else (if ¬ (dW V e) = (Int32.ofInt 1) then Int32.ofInt 0 else Int32.ofInt 1))))) → pz_S 8 (some .boolean) am_r238 2 Q 88 [] [.int v16] h by
        refine am_goX 3 (show ((d_225 s.1 (d_223 C s p) w) = (dW V e) → pz_S 8 (some .boolean) am_r238 2 Q 71 [(7, .int (d_225 s.1 (d_223 C s p) w)), (6, .int (dW V e)), (5, .int (dK C p)), (0, .ref 154), (1, .int (Int32.ofInt 0)), (2, .int (nI p)), (3, .int (nI e)), (4, .int w)] [] h) ∧ (¬ ((d_225 s.1 (d_223 C s p) w) = (dW V e)) → pz_S 8 (some .boolean) am_r238 2 Q 53 [(7, .int (d_225 s.1 (d_223 C s p) w)), (6, .int (dW V e)), (5, .int (dK C p)), (0, .ref 154), (1, .int (Int32.ofInt 0)), (2, .int (nI p)), (3, .int (nI e)), (4, .int w)] [] h) from ⟨fun c15 => ?_, fun c15 => ?_⟩)
        · suffices key : ∀ (v18 : Int32), v18 = (if ¬ (dK C p) = (Int32.ofInt 2) then Int32.ofInt 1 else (if ¬ (dW V e) = (Int32.ofInt 1) then Int32.ofInt 0 else Int32.ofInt 1)) → pz_S 8 (some .boolean) am_r238 2 Q 88 [] [.int v18] h by
            refine am_goX 3 (show (¬ (dK C p) = (Int32.ofInt 2) → pz_S 8 (some .boolean) am_r238 2 Q 83 [(7, .int (d_225 s.1 (d_223 C s p) w)), (6, .int (dW V e)), (5, .int (dK C p)), (0, .ref 154), (1, .int (Int32.ofInt 0)), (2, .int (nI p)), (3, .int (nI e)), (4, .int w)] [] h) ∧ (¬ ¬ (dK C p) = (Int32.ofInt 2) → pz_S 8 (some .boolean) am_r238 2 Q 77 [(7, .int (d_225 s.1 (d_223 C s p) w)), (6, .int (dW V e)), (5, .int (dK C p)), (0, .ref 154), (1, .int (Int32.ofInt 0)), (2, .int (nI p)), (3, .int (nI e)), (4, .int w)] [] h) from ⟨fun c17 => ?_, fun c17 => ?_⟩)
            · refine am_goX 2 (show pz_S 8 (some .boolean) am_r238 2 Q 88 [(7, .int (d_225 s.1 (d_223 C s p) w)), (6, .int (dW V e)), (5, .int (dK C p)), (0, .ref 154), (1, .int (Int32.ofInt 0)), (2, .int (nI p)), (3, .int (nI e)), (4, .int w)] [.int (Int32.ofInt 1)] h from ?_)
              exact sv_S2 sv2_238 (fun q hq => absurd hq List.not_mem_nil) (key _ (if_pos c17).symm)
            · suffices key : ∀ (v20 : Int32), v20 = (if ¬ (dW V e) = (Int32.ofInt 1) then Int32.ofInt 0 else Int32.ofInt 1) → pz_S 8 (some .boolean) am_r238 2 Q 88 [] [.int v20] h by
                refine am_goX 3 (show (¬ (dW V e) = (Int32.ofInt 1) → pz_S 8 (some .boolean) am_r238 2 Q 87 [(7, .int (d_225 s.1 (d_223 C s p) w)), (6, .int (dW V e)), (5, .int (dK C p)), (0, .ref 154), (1, .int (Int32.ofInt 0)), (2, .int (nI p)), (3, .int (nI e)), (4, .int w)] [] h) ∧ (¬ ¬ (dW V e) = (Int32.ofInt 1) → pz_S 8 (some .boolean) am_r238 2 Q 83 [(7, .int (d_225 s.1 (d_223 C s p) w)), (6, .int (dW V e)), (5, .int (dK C p)), (0, .ref 154), (1, .int (Int32.ofInt 0)), (2, .int (nI p)), (3, .int (nI e)), (4, .int w)] [] h) from ⟨fun c19 => ?_, fun c19 => ?_⟩)
                · refine am_goX 1 (show pz_S 8 (some .boolean) am_r238 2 Q 88 [(7, .int (d_225 s.1 (d_223 C s p) w)), (6, .int (dW V e)), (5, .int (dK C p)), (0, .ref 154), (1, .int (Int32.ofInt 0)), (2, .int (nI p)), (3, .int (nI e)), (4, .int w)] [.int (Int32.ofInt 0)] h from ?_)
                  exact sv_S2 sv2_238 (fun q hq => absurd hq List.not_mem_nil) (key _ (if_pos c19).symm)
                · refine am_goX 2 (show pz_S 8 (some .boolean) am_r238 2 Q 88 [(7, .int (d_225 s.1 (d_223 C s p) w)), (6, .int (dW V e)), (5, .int (dK C p)), (0, .ref 154), (1, .int (Int32.ofInt 0)), (2, .int (nI p)), (3, .int (nI e)), (4, .int w)] [.int (Int32.ofInt 1)] h from ?_)
                  exact sv_S2 sv2_238 (fun q hq => absurd hq List.not_mem_nil) (key _ (if_neg c19).symm)
              intro v20 e21
              subst e21
              exact sv_S2 sv2_238 (fun q hq => absurd hq List.not_mem_nil) (key _ (if_neg c17).symm)
          intro v18 e22
          subst e22
          exact sv_S2 sv2_238 (fun q hq => absurd hq List.not_mem_nil) (key _ (if_pos c15).symm)
        · suffices key : ∀ (v24 : Int32), v24 = (if ¬ (dK C p) = (Int32.ofInt 1) then Int32.ofInt 0 else (if ¬ (d_225 s.1 (d_223 C s p) w) = (((dW V e) + (Int32.ofInt 1)) - ((dW V e) + (Int32.ofInt 1)) / ((Int8.ofInt 7).toInt32) * ((Int8.ofInt 7).toInt32)) then Int32.ofInt 0 else (if ¬ (dK C p) = (Int32.ofInt 2) then Int32.ofInt 1 else (if ¬ (dW V e) = (Int32.ofInt 1) then Int32.ofInt 0 else Int32.ofInt 1)))) → pz_S 8 (some .boolean) am_r238 2 Q 88 [] [.int v24] h by
            refine am_goX 3 (show (¬ (dK C p) = (Int32.ofInt 1) → pz_S 8 (some .boolean) am_r238 2 Q 87 [(7, .int (d_225 s.1 (d_223 C s p) w)), (6, .int (dW V e)), (5, .int (dK C p)), (0, .ref 154), (1, .int (Int32.ofInt 0)), (2, .int (nI p)), (3, .int (nI e)), (4, .int w)] [] h) ∧ (¬ ¬ (dK C p) = (Int32.ofInt 1) → pz_S 8 (some .boolean) am_r238 2 Q 59 [(7, .int (d_225 s.1 (d_223 C s p) w)), (6, .int (dW V e)), (5, .int (dK C p)), (0, .ref 154), (1, .int (Int32.ofInt 0)), (2, .int (nI p)), (3, .int (nI e)), (4, .int w)] [] h) from ⟨fun c23 => ?_, fun c23 => ?_⟩)
            · refine am_goX 1 (show pz_S 8 (some .boolean) am_r238 2 Q 88 [(7, .int (d_225 s.1 (d_223 C s p) w)), (6, .int (dW V e)), (5, .int (dK C p)), (0, .ref 154), (1, .int (Int32.ofInt 0)), (2, .int (nI p)), (3, .int (nI e)), (4, .int w)] [.int (Int32.ofInt 0)] h from ?_)
              exact sv_S2 sv2_238 (fun q hq => absurd hq List.not_mem_nil) (key _ (if_pos c23).symm)
            · suffices key : ∀ (v26 : Int32), v26 = (if ¬ (d_225 s.1 (d_223 C s p) w) = (((dW V e) + (Int32.ofInt 1)) - ((dW V e) + (Int32.ofInt 1)) / ((Int8.ofInt 7).toInt32) * ((Int8.ofInt 7).toInt32)) then Int32.ofInt 0 else (if ¬ (dK C p) = (Int32.ofInt 2) then Int32.ofInt 1 else (if ¬ (dW V e) = (Int32.ofInt 1) then Int32.ofInt 0 else Int32.ofInt 1))) → pz_S 8 (some .boolean) am_r238 2 Q 88 [] [.int v26] h by
                refine am_goX 7 (show ¬ ((Int8.ofInt 7).toInt32) = 0 ∧ (¬ (d_225 s.1 (d_223 C s p) w) = (((dW V e) + (Int32.ofInt 1)) - ((dW V e) + (Int32.ofInt 1)) / ((Int8.ofInt 7).toInt32) * ((Int8.ofInt 7).toInt32)) → pz_S 8 (some .boolean) am_r238 2 Q 87 [(7, .int (d_225 s.1 (d_223 C s p) w)), (6, .int (dW V e)), (5, .int (dK C p)), (0, .ref 154), (1, .int (Int32.ofInt 0)), (2, .int (nI p)), (3, .int (nI e)), (4, .int w)] [] h) ∧ (¬ ¬ (d_225 s.1 (d_223 C s p) w) = (((dW V e) + (Int32.ofInt 1)) - ((dW V e) + (Int32.ofInt 1)) / ((Int8.ofInt 7).toInt32) * ((Int8.ofInt 7).toInt32)) → pz_S 8 (some .boolean) am_r238 2 Q 71 [(7, .int (d_225 s.1 (d_223 C s p) w)), (6, .int (dW V e)), (5, .int (dK C p)), (0, .ref 154), (1, .int (Int32.ofInt 0)), (2, .int (nI p)), (3, .int (nI e)), (4, .int w)] [] h) from ⟨by decide, fun c25 => ?_, fun c25 => ?_⟩)
                · refine am_goX 1 (show pz_S 8 (some .boolean) am_r238 2 Q 88 [(7, .int (d_225 s.1 (d_223 C s p) w)), (6, .int (dW V e)), (5, .int (dK C p)), (0, .ref 154), (1, .int (Int32.ofInt 0)), (2, .int (nI p)), (3, .int (nI e)), (4, .int w)] [.int (Int32.ofInt 0)] h from ?_)
                  exact sv_S2 sv2_238 (fun q hq => absurd hq List.not_mem_nil) (key _ (if_pos c25).symm)
                · suffices key : ∀ (v28 : Int32), v28 = (if ¬ (dK C p) = (Int32.ofInt 2) then Int32.ofInt 1 else (if ¬ (dW V e) = (Int32.ofInt 1) then Int32.ofInt 0 else Int32.ofInt 1)) → pz_S 8 (some .boolean) am_r238 2 Q 88 [] [.int v28] h by
                    refine am_goX 3 (show (¬ (dK C p) = (Int32.ofInt 2) → pz_S 8 (some .boolean) am_r238 2 Q 83 [(7, .int (d_225 s.1 (d_223 C s p) w)), (6, .int (dW V e)), (5, .int (dK C p)), (0, .ref 154), (1, .int (Int32.ofInt 0)), (2, .int (nI p)), (3, .int (nI e)), (4, .int w)] [] h) ∧ (¬ ¬ (dK C p) = (Int32.ofInt 2) → pz_S 8 (some .boolean) am_r238 2 Q 77 [(7, .int (d_225 s.1 (d_223 C s p) w)), (6, .int (dW V e)), (5, .int (dK C p)), (0, .ref 154), (1, .int (Int32.ofInt 0)), (2, .int (nI p)), (3, .int (nI e)), (4, .int w)] [] h) from ⟨fun c27 => ?_, fun c27 => ?_⟩)
                    · refine am_goX 2 (show pz_S 8 (some .boolean) am_r238 2 Q 88 [(7, .int (d_225 s.1 (d_223 C s p) w)), (6, .int (dW V e)), (5, .int (dK C p)), (0, .ref 154), (1, .int (Int32.ofInt 0)), (2, .int (nI p)), (3, .int (nI e)), (4, .int w)] [.int (Int32.ofInt 1)] h from ?_)
                      exact sv_S2 sv2_238 (fun q hq => absurd hq List.not_mem_nil) (key _ (if_pos c27).symm)
                    · suffices key : ∀ (v30 : Int32), v30 = (if ¬ (dW V e) = (Int32.ofInt 1) then Int32.ofInt 0 else Int32.ofInt 1) → pz_S 8 (some .boolean) am_r238 2 Q 88 [] [.int v30] h by
                        refine am_goX 3 (show (¬ (dW V e) = (Int32.ofInt 1) → pz_S 8 (some .boolean) am_r238 2 Q 87 [(7, .int (d_225 s.1 (d_223 C s p) w)), (6, .int (dW V e)), (5, .int (dK C p)), (0, .ref 154), (1, .int (Int32.ofInt 0)), (2, .int (nI p)), (3, .int (nI e)), (4, .int w)] [] h) ∧ (¬ ¬ (dW V e) = (Int32.ofInt 1) → pz_S 8 (some .boolean) am_r238 2 Q 83 [(7, .int (d_225 s.1 (d_223 C s p) w)), (6, .int (dW V e)), (5, .int (dK C p)), (0, .ref 154), (1, .int (Int32.ofInt 0)), (2, .int (nI p)), (3, .int (nI e)), (4, .int w)] [] h) from ⟨fun c29 => ?_, fun c29 => ?_⟩)
                        · refine am_goX 1 (show pz_S 8 (some .boolean) am_r238 2 Q 88 [(7, .int (d_225 s.1 (d_223 C s p) w)), (6, .int (dW V e)), (5, .int (dK C p)), (0, .ref 154), (1, .int (Int32.ofInt 0)), (2, .int (nI p)), (3, .int (nI e)), (4, .int w)] [.int (Int32.ofInt 0)] h from ?_)
                          exact sv_S2 sv2_238 (fun q hq => absurd hq List.not_mem_nil) (key _ (if_pos c29).symm)
                        · refine am_goX 2 (show pz_S 8 (some .boolean) am_r238 2 Q 88 [(7, .int (d_225 s.1 (d_223 C s p) w)), (6, .int (dW V e)), (5, .int (dK C p)), (0, .ref 154), (1, .int (Int32.ofInt 0)), (2, .int (nI p)), (3, .int (nI e)), (4, .int w)] [.int (Int32.ofInt 1)] h from ?_)
                          exact sv_S2 sv2_238 (fun q hq => absurd hq List.not_mem_nil) (key _ (if_neg c29).symm)
                      intro v30 e31
                      subst e31
                      exact sv_S2 sv2_238 (fun q hq => absurd hq List.not_mem_nil) (key _ (if_neg c27).symm)
                  intro v28 e32
                  subst e32
                  exact sv_S2 sv2_238 (fun q hq => absurd hq List.not_mem_nil) (key _ (if_neg c25).symm)
              intro v26 e33
              subst e33
              exact sv_S2 sv2_238 (fun q hq => absurd hq List.not_mem_nil) (key _ (if_neg c23).symm)
          intro v24 e34
          subst e34
          exact sv_S2 sv2_238 (fun q hq => absurd hq List.not_mem_nil) (key _ (if_neg c15).symm)
      intro v16 e35
      subst e35
      exact sv_S2 sv2_238 (fun q hq => absurd hq List.not_mem_nil) (key _ (if_neg c13).symm)
  intro v14 e36
  subst e36
  exact am_goX 1 (show (∃ ty, (some .boolean) = some ty ∧ narrow ty (.int (if (d_229 C p (nI e)) = 0 then Int32.ofInt 0 else (if (d_225 s.1 (d_223 C s p) w) = (dW V e) then (if ¬ (dK C p) = (Int32.ofInt 2) then Int32.ofInt 1 else (if ¬ (dW V e) = (Int32.ofInt 1) then Int32.ofInt 0 else Int32.ofInt 1)) else (if ¬ (dK C p) = (Int32.ofInt 1) then Int32.ofInt 0 else (if ¬ (d_225 s.1 (d_223 C s p) w) = (((dW V e) + (Int32.ofInt 1)) - ((dW V e) + (Int32.ofInt 1)) / ((Int8.ofInt 7).toInt32) * ((Int8.ofInt 7).toInt32)) then Int32.ofInt 0 else (if ¬ (dK C p) = (Int32.ofInt 2) then Int32.ofInt 1 else (if ¬ (dW V e) = (Int32.ofInt 1) then Int32.ofInt 0 else Int32.ofInt 1))))))) = .int (if (d_229 C p (nI e)) = 0 then Int32.ofInt 0 else (if (d_225 s.1 (d_223 C s p) w) = (dW V e) then (if ¬ (dK C p) = (Int32.ofInt 2) then Int32.ofInt 1 else (if ¬ (dW V e) = (Int32.ofInt 1) then Int32.ofInt 0 else Int32.ofInt 1)) else (if ¬ (dK C p) = (Int32.ofInt 1) then Int32.ofInt 0 else (if ¬ (d_225 s.1 (d_223 C s p) w) = (((dW V e) + (Int32.ofInt 1)) - ((dW V e) + (Int32.ofInt 1)) / ((Int8.ofInt 7).toInt32) * ((Int8.ofInt 7).toInt32)) then Int32.ofInt 0 else (if ¬ (dK C p) = (Int32.ofInt 2) then Int32.ofInt 1 else (if ¬ (dW V e) = (Int32.ofInt 1) then Int32.ofInt 0 else Int32.ofInt 1))))))) ∧ h.2.2.2.2 = 175 ∧ _ from ⟨⟨.boolean, rfl, (by (repeat' split) <;> rfl)⟩, ex_175 hP, hQ⟩)
theorem d_223_r1029 (hP : ex_P h) (hI : cI C) (hT : tR C h) (hO : ∀ e, e < dE C → h.1 172 e = dW V e) (hN : sR 0 (dP C) u h) (hS : sR 1029 (dP C) s h) (hp : p < dP C) (hQ : Q (some (.int (d_223 C s p))) h) : am_call am_cod 2 223 [.ref 154, .int ((Int16.ofInt 1029).toInt32), .int (nI p)] h Q := by
  have h6 := hT.1.2.1
  have h5 := hT.2.1.2.1
  refine pz_call (n := 223) (nL := 3) (rt := (some .int)) (rows := am_r223) (d := 1) (by decide +kernel) (by decide +kernel) rfl (by funext pc; rfl) (ex_175 hP) (by exact Nat.le_of_ble_eq_true rfl) ?_
  refine am_goX 4 (show am_rc h 154 11 ∧ 0 ≤ 8 ∧ h.2.2.2.2 + am_al 187 ≤ 175 ∧ am_call am_cod 1 187 [.ref 154, .int (nI p), .int (Int32.ofInt 0)] h (fun vv h' => pz_S 3 (some .int) am_r223 1 Q 6 [(0, .ref 154), (1, .int ((Int16.ofInt 1029).toInt32)), (2, .int (nI p))] (vv.toList ++ []) h') from ⟨Or.inl ⟨by decide, ex_154 hP⟩, by decide, ex_lim hP rfl, am_call.up (d_187_r0 hP hT (by omega) ?_) (by decide)⟩)
  suffices key : ∀ (v38 : Int32), v38 = (if ¬ (dK C p) = (Int32.ofInt 3) then (s.2.2.1 p) - (Int32.ofInt 2) else Int32.ofInt 0) → pz_S 3 (some .int) am_r223 1 Q 26 [] [.int v38] h by
    refine am_goX 2 (show (¬ (dK C p) = (Int32.ofInt 3) → pz_S 3 (some .int) am_r223 1 Q 14 [(0, .ref 154), (1, .int ((Int16.ofInt 1029).toInt32)), (2, .int (nI p))] [] h) ∧ (¬ ¬ (dK C p) = (Int32.ofInt 3) → pz_S 3 (some .int) am_r223 1 Q 10 [(0, .ref 154), (1, .int ((Int16.ofInt 1029).toInt32)), (2, .int (nI p))] [] h) from ⟨fun c37 => ?_, fun c37 => ?_⟩)
    · refine am_goX 2 (show am_sh h 154 = some (11, 0) ∧ pz_S 3 (some .int) am_r223 1 Q 18 [(0, .ref 154), (1, .int ((Int16.ofInt 1029).toInt32)), (2, .int (nI p))] [am_rf (h.2.2.1 154 24)] h from ⟨ex_154 hP, ?_⟩)
      rw [show am_rf (h.2.2.1 154 24) = .ref 170 from congrArg am_rf (ex_r154_24 hP)]
      refine am_goX 6 (show ∃ jj nn : Nat, am_sh h 170 = some (13, nn) ∧ jj < nn ∧ (((Int16.ofInt 1029).toInt32) + (Int32.ofInt 2)) + (nI p) = nI jj ∧ pz_S 3 (some .int) am_r223 1 Q 24 [(0, .ref 154), (1, .int ((Int16.ofInt 1029).toInt32)), (2, .int (nI p))] [.int (h.1 170 jj)] h from ⟨(1031 + p), 1127, ex_170 hP, (by omega), (dn_a (dn_a (show (Int16.ofInt 1029).toInt32 = nI 1029 by decide) rfl) rfl), ?_⟩)
      rw [show h.1 170 (1031 + p) = s.2.2.1 p from (by rw [show (1031 + p) = 1029 + 2 + p by omega]; exact hS.2.1 p (by omega))]
      refine am_goX 2 (show pz_S 3 (some .int) am_r223 1 Q 26 [(0, .ref 154), (1, .int ((Int16.ofInt 1029).toInt32)), (2, .int (nI p))] [.int ((s.2.2.1 p) - (Int32.ofInt 2))] h from ?_)
      exact sv_S2 sv2_223 (fun q hq => absurd hq List.not_mem_nil) (key _ (if_pos c37).symm)
    · refine am_goX 2 (show pz_S 3 (some .int) am_r223 1 Q 26 [(0, .ref 154), (1, .int ((Int16.ofInt 1029).toInt32)), (2, .int (nI p))] [.int (Int32.ofInt 0)] h from ?_)
      exact sv_S2 sv2_223 (fun q hq => absurd hq List.not_mem_nil) (key _ (if_neg c37).symm)
  intro v38 e39
  subst e39
  exact am_goX 1 (show (∃ ty, (some .int) = some ty ∧ narrow ty (.int (if ¬ (dK C p) = (Int32.ofInt 3) then (s.2.2.1 p) - (Int32.ofInt 2) else Int32.ofInt 0)) = .int (if ¬ (dK C p) = (Int32.ofInt 3) then (s.2.2.1 p) - (Int32.ofInt 2) else Int32.ofInt 0)) ∧ h.2.2.2.2 = 175 ∧ _ from ⟨⟨.int, rfl, rfl⟩, ex_175 hP, hQ⟩)
theorem d_238_r1029 (hP : ex_P h) (hI : cI C) (hT : tR C h) (hO : ∀ e, e < dE C → h.1 172 e = dW V e) (hN : sR 0 (dP C) u h) (hS : sR 1029 (dP C) s h) (hp : p < dP C) (he : e < dE C) (hQ : Q (some (.int (d_238 C V s p e w))) h) : am_call am_cod 3 238 [.ref 154, .int ((Int16.ofInt 1029).toInt32), .int (nI p), .int (nI e), .int w] h Q := by
  have h6 := hT.1.2.1
  have h5 := hT.2.1.2.1
  refine pz_call (n := 238) (nL := 8) (rt := (some .boolean)) (rows := am_r238) (d := 2) (by decide +kernel) (by decide +kernel) rfl (by funext pc; rfl) (ex_175 hP) (by exact Nat.le_of_ble_eq_true rfl) ?_
  refine am_goX 4 (show am_rc h 154 11 ∧ 0 ≤ 8 ∧ h.2.2.2.2 + am_al 187 ≤ 175 ∧ am_call am_cod 2 187 [.ref 154, .int (nI p), .int (Int32.ofInt 0)] h (fun vv h' => pz_S 8 (some .boolean) am_r238 2 Q 6 [(0, .ref 154), (1, .int ((Int16.ofInt 1029).toInt32)), (2, .int (nI p)), (3, .int (nI e)), (4, .int w)] (vv.toList ++ []) h') from ⟨Or.inl ⟨by decide, ex_154 hP⟩, by decide, ex_lim hP rfl, am_call.up (d_187_r0 hP hT (by omega) ?_) (by decide)⟩)
  refine am_goX 3 (show 5 < 8 ∧ am_sh h 154 = some (11, 0) ∧ pz_S 8 (some .boolean) am_r238 2 Q 12 [(5, .int (dK C p)), (0, .ref 154), (1, .int ((Int16.ofInt 1029).toInt32)), (2, .int (nI p)), (3, .int (nI e)), (4, .int w)] [am_rf (h.2.2.1 154 27)] h from ⟨by decide, ex_154 hP, ?_⟩)
  rw [show am_rf (h.2.2.1 154 27) = .ref 172 from congrArg am_rf (ex_r154_27 hP)]
  refine am_goX 2 (show ∃ jj nn : Nat, am_sh h 172 = some (13, nn) ∧ jj < nn ∧ nI e = nI jj ∧ pz_S 8 (some .boolean) am_r238 2 Q 14 [(5, .int (dK C p)), (0, .ref 154), (1, .int ((Int16.ofInt 1029).toInt32)), (2, .int (nI p)), (3, .int (nI e)), (4, .int w)] [.int (h.1 172 jj)] h from ⟨e, 5, ex_172 hP, (by omega), rfl, ?_⟩)
  rw [show h.1 172 e = dW V e from hO e (by omega)]
  refine am_goX 3 (show 6 < 8 ∧ am_sh h 154 = some (11, 0) ∧ pz_S 8 (some .boolean) am_r238 2 Q 20 [(6, .int (dW V e)), (5, .int (dK C p)), (0, .ref 154), (1, .int ((Int16.ofInt 1029).toInt32)), (2, .int (nI p)), (3, .int (nI e)), (4, .int w)] [am_rf (h.2.2.1 154 24)] h from ⟨by decide, ex_154 hP, ?_⟩)
  rw [show am_rf (h.2.2.1 154 24) = .ref 170 from congrArg am_rf (ex_r154_24 hP)]
  refine am_goX 4 (show ∃ jj nn : Nat, am_sh h 170 = some (13, nn) ∧ jj < nn ∧ ((Int16.ofInt 1029).toInt32) + (Int32.ofInt 0) = nI jj ∧ pz_S 8 (some .boolean) am_r238 2 Q 24 [(6, .int (dW V e)), (5, .int (dK C p)), (0, .ref 154), (1, .int ((Int16.ofInt 1029).toInt32)), (2, .int (nI p)), (3, .int (nI e)), (4, .int w)] [.int (h.1 170 jj)] h from ⟨1029, 1127, ex_170 hP, (by omega), (dn_a (show (Int16.ofInt 1029).toInt32 = nI 1029 by decide) rfl), ?_⟩)
  rw [show h.1 170 1029 = s.1 from hS.1.1]
  refine am_goX 4 (show am_rc h 154 11 ∧ 1 ≤ 8 ∧ h.2.2.2.2 + am_al 223 ≤ 175 ∧ am_call am_cod 2 223 [.ref 154, .int ((Int16.ofInt 1029).toInt32), .int (nI p)] h (fun vv h' => pz_S 8 (some .boolean) am_r238 2 Q 30 [(6, .int (dW V e)), (5, .int (dK C p)), (0, .ref 154), (1, .int ((Int16.ofInt 1029).toInt32)), (2, .int (nI p)), (3, .int (nI e)), (4, .int w)] (vv.toList ++ [.int s.1]) h') from ⟨Or.inl ⟨by decide, ex_154 hP⟩, by decide, ex_lim hP rfl, am_call.up (d_223_r1029 hP hI hT hO hN hS (by omega) ?_) (by decide)⟩)
  refine am_goX 2 (show 0 ≤ 8 ∧ h.2.2.2.2 + am_al 225 ≤ 175 ∧ am_call am_cod 2 225 [.int s.1, .int (d_223 C s p), .int w] h (fun vv h' => pz_S 8 (some .boolean) am_r238 2 Q 35 [(6, .int (dW V e)), (5, .int (dK C p)), (0, .ref 154), (1, .int ((Int16.ofInt 1029).toInt32)), (2, .int (nI p)), (3, .int (nI e)), (4, .int w)] (vv.toList ++ []) h') from ⟨by decide, ex_lim hP rfl, am_call.up (d_225_w hP ?_) (by decide)⟩)
  refine am_goX 5 (show 7 < 8 ∧ am_rc h 154 11 ∧ 0 ≤ 8 ∧ h.2.2.2.2 + am_al 229 ≤ 175 ∧ am_call am_cod 2 229 [.ref 154, .int (nI p), .int (nI e)] h (fun vv h' => pz_S 8 (some .boolean) am_r238 2 Q 43 [(7, .int (d_225 s.1 (d_223 C s p) w)), (6, .int (dW V e)), (5, .int (dK C p)), (0, .ref 154), (1, .int ((Int16.ofInt 1029).toInt32)), (2, .int (nI p)), (3, .int (nI e)), (4, .int w)] (vv.toList ++ []) h') from ⟨by decide, Or.inl ⟨by decide, ex_154 hP⟩, by decide, ex_lim hP rfl, am_call.up (d_229_r hP hT (by omega) ?_) (by decide)⟩)
  suffices key : ∀ (v41 : Int32), v41 = (if (d_229 C p (nI e)) = 0 then Int32.ofInt 0 else (if (d_225 s.1 (d_223 C s p) w) = (dW V e) then (if ¬ (dK C p) = (Int32.ofInt 2) then Int32.ofInt 1 else (if ¬ (dW V e) = (Int32.ofInt 1) then Int32.ofInt 0 else Int32.ofInt 1)) else (if ¬ (dK C p) = (Int32.ofInt 1) then Int32.ofInt 0 else (if ¬ (d_225 s.1 (d_223 C s p) w) = (((dW V e) + (Int32.ofInt 1)) - ((dW V e) + (Int32.ofInt 1)) / ((Int8.ofInt 7).toInt32) * ((Int8.ofInt 7).toInt32)) then Int32.ofInt 0 else (if ¬ (dK C p) = (Int32.ofInt 2) then Int32.ofInt 1 else (if ¬ (dW V e) = (Int32.ofInt 1) then Int32.ofInt 0 else Int32.ofInt 1)))))) → pz_S 8 (some .boolean) am_r238 2 Q 88 [] [.int v41] h by
    refine am_goX 1 (show ((d_229 C p (nI e)) = 0 → pz_S 8 (some .boolean) am_r238 2 Q 87 [(7, .int (d_225 s.1 (d_223 C s p) w)), (6, .int (dW V e)), (5, .int (dK C p)), (0, .ref 154), (1, .int ((Int16.ofInt 1029).toInt32)), (2, .int (nI p)), (3, .int (nI e)), (4, .int w)] [] h) ∧ (¬ ((d_229 C p (nI e)) = 0) → pz_S 8 (some .boolean) am_r238 2 Q 46 [(7, .int (d_225 s.1 (d_223 C s p) w)), (6, .int (dW V e)), (5, .int (dK C p)), (0, .ref 154), (1, .int ((Int16.ofInt 1029).toInt32)), (2, .int (nI p)), (3, .int (nI e)), (4, .int w)] [] h) from ⟨fun c40 => ?_, fun c40 => ?_⟩)
    · refine am_goX 1 (show pz_S 8 (some .boolean) am_r238 2 Q 88 [(7, .int (d_225 s.1 (d_223 C s p) w)), (6, .int (dW V e)), (5, .int (dK C p)), (0, .ref 154), (1, .int ((Int16.ofInt 1029).toInt32)), (2, .int (nI p)), (3, .int (nI e)), (4, .int w)] [.int (Int32.ofInt 0)] h from ?_)
      exact sv_S2 sv2_238 (fun q hq => absurd hq List.not_mem_nil) (key _ (if_pos c40).symm)
    · suffices key : ∀ (v43 : Int32), v43 = (if (d_225 s.1 (d_223 C s p) w) = (dW V e) then (if ¬ (dK C p) = (Int32.ofInt 2) then Int32.ofInt 1 else (if ¬ (dW V e) = (Int32.ofInt 1) then Int32.ofInt 0 else Int32.ofInt 1)) else (if ¬ (dK C p) = (Int32.ofInt 1) then Int32.ofInt 0 else (if ¬ (d_225 s.1 (d_223 C s p) w) = (((dW V e) + (Int32.ofInt 1)) - ((dW V e) + (Int32.ofInt 1)) / ((Int8.ofInt 7).toInt32) * ((Int8.ofInt 7).toInt32)) then Int32.ofInt 0 else (if ¬ (dK C p) = (Int32.ofInt 2) then Int32.ofInt 1 else (if ¬ (dW V e) = (Int32.ofInt 1) then Int32.ofInt 0 else Int32.ofInt 1))))) → pz_S 8 (some .boolean) am_r238 2 Q 88 [] [.int v43] h by
        refine am_goX 3 (show ((d_225 s.1 (d_223 C s p) w) = (dW V e) → pz_S 8 (some .boolean) am_r238 2 Q 71 [(7, .int (d_225 s.1 (d_223 C s p) w)), (6, .int (dW V e)), (5, .int (dK C p)), (0, .ref 154), (1, .int ((Int16.ofInt 1029).toInt32)), (2, .int (nI p)), (3, .int (nI e)), (4, .int w)] [] h) ∧ (¬ ((d_225 s.1 (d_223 C s p) w) = (dW V e)) → pz_S 8 (some .boolean) am_r238 2 Q 53 [(7, .int (d_225 s.1 (d_223 C s p) w)), (6, .int (dW V e)), (5, .int (dK C p)), (0, .ref 154), (1, .int ((Int16.ofInt 1029).toInt32)), (2, .int (nI p)), (3, .int (nI e)), (4, .int w)] [] h) from ⟨fun c42 => ?_, fun c42 => ?_⟩)
        · suffices key : ∀ (v45 : Int32), v45 = (if ¬ (dK C p) = (Int32.ofInt 2) then Int32.ofInt 1 else (if ¬ (dW V e) = (Int32.ofInt 1) then Int32.ofInt 0 else Int32.ofInt 1)) → pz_S 8 (some .boolean) am_r238 2 Q 88 [] [.int v45] h by
            refine am_goX 3 (show (¬ (dK C p) = (Int32.ofInt 2) → pz_S 8 (some .boolean) am_r238 2 Q 83 [(7, .int (d_225 s.1 (d_223 C s p) w)), (6, .int (dW V e)), (5, .int (dK C p)), (0, .ref 154), (1, .int ((Int16.ofInt 1029).toInt32)), (2, .int (nI p)), (3, .int (nI e)), (4, .int w)] [] h) ∧ (¬ ¬ (dK C p) = (Int32.ofInt 2) → pz_S 8 (some .boolean) am_r238 2 Q 77 [(7, .int (d_225 s.1 (d_223 C s p) w)), (6, .int (dW V e)), (5, .int (dK C p)), (0, .ref 154), (1, .int ((Int16.ofInt 1029).toInt32)), (2, .int (nI p)), (3, .int (nI e)), (4, .int w)] [] h) from ⟨fun c44 => ?_, fun c44 => ?_⟩)
            · refine am_goX 2 (show pz_S 8 (some .boolean) am_r238 2 Q 88 [(7, .int (d_225 s.1 (d_223 C s p) w)), (6, .int (dW V e)), (5, .int (dK C p)), (0, .ref 154), (1, .int ((Int16.ofInt 1029).toInt32)), (2, .int (nI p)), (3, .int (nI e)), (4, .int w)] [.int (Int32.ofInt 1)] h from ?_)
              exact sv_S2 sv2_238 (fun q hq => absurd hq List.not_mem_nil) (key _ (if_pos c44).symm)
            · suffices key : ∀ (v47 : Int32), v47 = (if ¬ (dW V e) = (Int32.ofInt 1) then Int32.ofInt 0 else Int32.ofInt 1) → pz_S 8 (some .boolean) am_r238 2 Q 88 [] [.int v47] h by
                refine am_goX 3 (show (¬ (dW V e) = (Int32.ofInt 1) → pz_S 8 (some .boolean) am_r238 2 Q 87 [(7, .int (d_225 s.1 (d_223 C s p) w)), (6, .int (dW V e)), (5, .int (dK C p)), (0, .ref 154), (1, .int ((Int16.ofInt 1029).toInt32)), (2, .int (nI p)), (3, .int (nI e)), (4, .int w)] [] h) ∧ (¬ ¬ (dW V e) = (Int32.ofInt 1) → pz_S 8 (some .boolean) am_r238 2 Q 83 [(7, .int (d_225 s.1 (d_223 C s p) w)), (6, .int (dW V e)), (5, .int (dK C p)), (0, .ref 154), (1, .int ((Int16.ofInt 1029).toInt32)), (2, .int (nI p)), (3, .int (nI e)), (4, .int w)] [] h) from ⟨fun c46 => ?_, fun c46 => ?_⟩)
                · refine am_goX 1 (show pz_S 8 (some .boolean) am_r238 2 Q 88 [(7, .int (d_225 s.1 (d_223 C s p) w)), (6, .int (dW V e)), (5, .int (dK C p)), (0, .ref 154), (1, .int ((Int16.ofInt 1029).toInt32)), (2, .int (nI p)), (3, .int (nI e)), (4, .int w)] [.int (Int32.ofInt 0)] h from ?_)
                  exact sv_S2 sv2_238 (fun q hq => absurd hq List.not_mem_nil) (key _ (if_pos c46).symm)
                · refine am_goX 2 (show pz_S 8 (some .boolean) am_r238 2 Q 88 [(7, .int (d_225 s.1 (d_223 C s p) w)), (6, .int (dW V e)), (5, .int (dK C p)), (0, .ref 154), (1, .int ((Int16.ofInt 1029).toInt32)), (2, .int (nI p)), (3, .int (nI e)), (4, .int w)] [.int (Int32.ofInt 1)] h from ?_)
                  exact sv_S2 sv2_238 (fun q hq => absurd hq List.not_mem_nil) (key _ (if_neg c46).symm)
              intro v47 e48
              subst e48
              exact sv_S2 sv2_238 (fun q hq => absurd hq List.not_mem_nil) (key _ (if_neg c44).symm)
          intro v45 e49
          subst e49
          exact sv_S2 sv2_238 (fun q hq => absurd hq List.not_mem_nil) (key _ (if_pos c42).symm)
        · suffices key : ∀ (v51 : Int32), v51 = (if ¬ (dK C p) = (Int32.ofInt 1) then Int32.ofInt 0 else (if ¬ (d_225 s.1 (d_223 C s p) w) = (((dW V e) + (Int32.ofInt 1)) - ((dW V e) + (Int32.ofInt 1)) / ((Int8.ofInt 7).toInt32) * ((Int8.ofInt 7).toInt32)) then Int32.ofInt 0 else (if ¬ (dK C p) = (Int32.ofInt 2) then Int32.ofInt 1 else (if ¬ (dW V e) = (Int32.ofInt 1) then Int32.ofInt 0 else Int32.ofInt 1)))) → pz_S 8 (some .boolean) am_r238 2 Q 88 [] [.int v51] h by
            refine am_goX 3 (show (¬ (dK C p) = (Int32.ofInt 1) → pz_S 8 (some .boolean) am_r238 2 Q 87 [(7, .int (d_225 s.1 (d_223 C s p) w)), (6, .int (dW V e)), (5, .int (dK C p)), (0, .ref 154), (1, .int ((Int16.ofInt 1029).toInt32)), (2, .int (nI p)), (3, .int (nI e)), (4, .int w)] [] h) ∧ (¬ ¬ (dK C p) = (Int32.ofInt 1) → pz_S 8 (some .boolean) am_r238 2 Q 59 [(7, .int (d_225 s.1 (d_223 C s p) w)), (6, .int (dW V e)), (5, .int (dK C p)), (0, .ref 154), (1, .int ((Int16.ofInt 1029).toInt32)), (2, .int (nI p)), (3, .int (nI e)), (4, .int w)] [] h) from ⟨fun c50 => ?_, fun c50 => ?_⟩)
            · refine am_goX 1 (show pz_S 8 (some .boolean) am_r238 2 Q 88 [(7, .int (d_225 s.1 (d_223 C s p) w)), (6, .int (dW V e)), (5, .int (dK C p)), (0, .ref 154), (1, .int ((Int16.ofInt 1029).toInt32)), (2, .int (nI p)), (3, .int (nI e)), (4, .int w)] [.int (Int32.ofInt 0)] h from ?_)
              exact sv_S2 sv2_238 (fun q hq => absurd hq List.not_mem_nil) (key _ (if_pos c50).symm)
            · suffices key : ∀ (v53 : Int32), v53 = (if ¬ (d_225 s.1 (d_223 C s p) w) = (((dW V e) + (Int32.ofInt 1)) - ((dW V e) + (Int32.ofInt 1)) / ((Int8.ofInt 7).toInt32) * ((Int8.ofInt 7).toInt32)) then Int32.ofInt 0 else (if ¬ (dK C p) = (Int32.ofInt 2) then Int32.ofInt 1 else (if ¬ (dW V e) = (Int32.ofInt 1) then Int32.ofInt 0 else Int32.ofInt 1))) → pz_S 8 (some .boolean) am_r238 2 Q 88 [] [.int v53] h by
                refine am_goX 7 (show ¬ ((Int8.ofInt 7).toInt32) = 0 ∧ (¬ (d_225 s.1 (d_223 C s p) w) = (((dW V e) + (Int32.ofInt 1)) - ((dW V e) + (Int32.ofInt 1)) / ((Int8.ofInt 7).toInt32) * ((Int8.ofInt 7).toInt32)) → pz_S 8 (some .boolean) am_r238 2 Q 87 [(7, .int (d_225 s.1 (d_223 C s p) w)), (6, .int (dW V e)), (5, .int (dK C p)), (0, .ref 154), (1, .int ((Int16.ofInt 1029).toInt32)), (2, .int (nI p)), (3, .int (nI e)), (4, .int w)] [] h) ∧ (¬ ¬ (d_225 s.1 (d_223 C s p) w) = (((dW V e) + (Int32.ofInt 1)) - ((dW V e) + (Int32.ofInt 1)) / ((Int8.ofInt 7).toInt32) * ((Int8.ofInt 7).toInt32)) → pz_S 8 (some .boolean) am_r238 2 Q 71 [(7, .int (d_225 s.1 (d_223 C s p) w)), (6, .int (dW V e)), (5, .int (dK C p)), (0, .ref 154), (1, .int ((Int16.ofInt 1029).toInt32)), (2, .int (nI p)), (3, .int (nI e)), (4, .int w)] [] h) from ⟨by decide, fun c52 => ?_, fun c52 => ?_⟩)
                · refine am_goX 1 (show pz_S 8 (some .boolean) am_r238 2 Q 88 [(7, .int (d_225 s.1 (d_223 C s p) w)), (6, .int (dW V e)), (5, .int (dK C p)), (0, .ref 154), (1, .int ((Int16.ofInt 1029).toInt32)), (2, .int (nI p)), (3, .int (nI e)), (4, .int w)] [.int (Int32.ofInt 0)] h from ?_)
                  exact sv_S2 sv2_238 (fun q hq => absurd hq List.not_mem_nil) (key _ (if_pos c52).symm)
                · suffices key : ∀ (v55 : Int32), v55 = (if ¬ (dK C p) = (Int32.ofInt 2) then Int32.ofInt 1 else (if ¬ (dW V e) = (Int32.ofInt 1) then Int32.ofInt 0 else Int32.ofInt 1)) → pz_S 8 (some .boolean) am_r238 2 Q 88 [] [.int v55] h by
                    refine am_goX 3 (show (¬ (dK C p) = (Int32.ofInt 2) → pz_S 8 (some .boolean) am_r238 2 Q 83 [(7, .int (d_225 s.1 (d_223 C s p) w)), (6, .int (dW V e)), (5, .int (dK C p)), (0, .ref 154), (1, .int ((Int16.ofInt 1029).toInt32)), (2, .int (nI p)), (3, .int (nI e)), (4, .int w)] [] h) ∧ (¬ ¬ (dK C p) = (Int32.ofInt 2) → pz_S 8 (some .boolean) am_r238 2 Q 77 [(7, .int (d_225 s.1 (d_223 C s p) w)), (6, .int (dW V e)), (5, .int (dK C p)), (0, .ref 154), (1, .int ((Int16.ofInt 1029).toInt32)), (2, .int (nI p)), (3, .int (nI e)), (4, .int w)] [] h) from ⟨fun c54 => ?_, fun c54 => ?_⟩)
                    · refine am_goX 2 (show pz_S 8 (some .boolean) am_r238 2 Q 88 [(7, .int (d_225 s.1 (d_223 C s p) w)), (6, .int (dW V e)), (5, .int (dK C p)), (0, .ref 154), (1, .int ((Int16.ofInt 1029).toInt32)), (2, .int (nI p)), (3, .int (nI e)), (4, .int w)] [.int (Int32.ofInt 1)] h from ?_)
                      exact sv_S2 sv2_238 (fun q hq => absurd hq List.not_mem_nil) (key _ (if_pos c54).symm)
                    · suffices key : ∀ (v57 : Int32), v57 = (if ¬ (dW V e) = (Int32.ofInt 1) then Int32.ofInt 0 else Int32.ofInt 1) → pz_S 8 (some .boolean) am_r238 2 Q 88 [] [.int v57] h by
                        refine am_goX 3 (show (¬ (dW V e) = (Int32.ofInt 1) → pz_S 8 (some .boolean) am_r238 2 Q 87 [(7, .int (d_225 s.1 (d_223 C s p) w)), (6, .int (dW V e)), (5, .int (dK C p)), (0, .ref 154), (1, .int ((Int16.ofInt 1029).toInt32)), (2, .int (nI p)), (3, .int (nI e)), (4, .int w)] [] h) ∧ (¬ ¬ (dW V e) = (Int32.ofInt 1) → pz_S 8 (some .boolean) am_r238 2 Q 83 [(7, .int (d_225 s.1 (d_223 C s p) w)), (6, .int (dW V e)), (5, .int (dK C p)), (0, .ref 154), (1, .int ((Int16.ofInt 1029).toInt32)), (2, .int (nI p)), (3, .int (nI e)), (4, .int w)] [] h) from ⟨fun c56 => ?_, fun c56 => ?_⟩)
                        · refine am_goX 1 (show pz_S 8 (some .boolean) am_r238 2 Q 88 [(7, .int (d_225 s.1 (d_223 C s p) w)), (6, .int (dW V e)), (5, .int (dK C p)), (0, .ref 154), (1, .int ((Int16.ofInt 1029).toInt32)), (2, .int (nI p)), (3, .int (nI e)), (4, .int w)] [.int (Int32.ofInt 0)] h from ?_)
                          exact sv_S2 sv2_238 (fun q hq => absurd hq List.not_mem_nil) (key _ (if_pos c56).symm)
                        · refine am_goX 2 (show pz_S 8 (some .boolean) am_r238 2 Q 88 [(7, .int (d_225 s.1 (d_223 C s p) w)), (6, .int (dW V e)), (5, .int (dK C p)), (0, .ref 154), (1, .int ((Int16.ofInt 1029).toInt32)), (2, .int (nI p)), (3, .int (nI e)), (4, .int w)] [.int (Int32.ofInt 1)] h from ?_)
                          exact sv_S2 sv2_238 (fun q hq => absurd hq List.not_mem_nil) (key _ (if_neg c56).symm)
                      intro v57 e58
                      subst e58
                      exact sv_S2 sv2_238 (fun q hq => absurd hq List.not_mem_nil) (key _ (if_neg c54).symm)
                  intro v55 e59
                  subst e59
                  exact sv_S2 sv2_238 (fun q hq => absurd hq List.not_mem_nil) (key _ (if_neg c52).symm)
              intro v53 e60
              subst e60
              exact sv_S2 sv2_238 (fun q hq => absurd hq List.not_mem_nil) (key _ (if_neg c50).symm)
          intro v51 e61
          subst e61
          exact sv_S2 sv2_238 (fun q hq => absurd hq List.not_mem_nil) (key _ (if_neg c42).symm)
      intro v43 e62
      subst e62
      exact sv_S2 sv2_238 (fun q hq => absurd hq List.not_mem_nil) (key _ (if_neg c40).symm)
  intro v41 e63
  subst e63
  exact am_goX 1 (show (∃ ty, (some .boolean) = some ty ∧ narrow ty (.int (if (d_229 C p (nI e)) = 0 then Int32.ofInt 0 else (if (d_225 s.1 (d_223 C s p) w) = (dW V e) then (if ¬ (dK C p) = (Int32.ofInt 2) then Int32.ofInt 1 else (if ¬ (dW V e) = (Int32.ofInt 1) then Int32.ofInt 0 else Int32.ofInt 1)) else (if ¬ (dK C p) = (Int32.ofInt 1) then Int32.ofInt 0 else (if ¬ (d_225 s.1 (d_223 C s p) w) = (((dW V e) + (Int32.ofInt 1)) - ((dW V e) + (Int32.ofInt 1)) / ((Int8.ofInt 7).toInt32) * ((Int8.ofInt 7).toInt32)) then Int32.ofInt 0 else (if ¬ (dK C p) = (Int32.ofInt 2) then Int32.ofInt 1 else (if ¬ (dW V e) = (Int32.ofInt 1) then Int32.ofInt 0 else Int32.ofInt 1))))))) = .int (if (d_229 C p (nI e)) = 0 then Int32.ofInt 0 else (if (d_225 s.1 (d_223 C s p) w) = (dW V e) then (if ¬ (dK C p) = (Int32.ofInt 2) then Int32.ofInt 1 else (if ¬ (dW V e) = (Int32.ofInt 1) then Int32.ofInt 0 else Int32.ofInt 1)) else (if ¬ (dK C p) = (Int32.ofInt 1) then Int32.ofInt 0 else (if ¬ (d_225 s.1 (d_223 C s p) w) = (((dW V e) + (Int32.ofInt 1)) - ((dW V e) + (Int32.ofInt 1)) / ((Int8.ofInt 7).toInt32) * ((Int8.ofInt 7).toInt32)) then Int32.ofInt 0 else (if ¬ (dK C p) = (Int32.ofInt 2) then Int32.ofInt 1 else (if ¬ (dW V e) = (Int32.ofInt 1) then Int32.ofInt 0 else Int32.ofInt 1))))))) ∧ h.2.2.2.2 = 175 ∧ _ from ⟨⟨.boolean, rfl, (by (repeat' split) <;> rfl)⟩, ex_175 hP, hQ⟩)
def d_234_19 (C : sp_C) (w : Int32) : Nat → Nat → dS → Int32 → dS × Int32
  | 0, _, s, gg => (s, gg)
  | m + 1, k, s, gg => (if (dQ C) < 0 then (d_234_19 C w m (k + 1) s (gg ||| ((Int32.ofInt 1) <<< ((nI k) &&& 31)))) else (if (dlaw C (d_223 C s k) (s.1 / ((Int8.ofInt 7).toInt32)) (d_235 (s.2.2.2.1 k)) w) = 0 then (d_234_19 C w m (k + 1) s (gg ||| (Int32.ofInt 0))) else (d_234_19 C w m (k + 1) s (gg ||| ((Int32.ofInt 1) <<< ((nI k) &&& 31))))))
theorem d_234_19_g0 : ∀ (m k : Nat) (s : dS) (gg : Int32) (h : am_H), k + m = dP C → (ex_P h) → (cI C) → (tR C h) → (∀ e, e < dE C → h.1 172 e = dW V e) → (sR 0 (dP C) s h) → (fR h0 h) → (h.1 154 28 = gg) → (∀ h1, (ex_P h1) → (cI C) → (tR C h1) → (∀ e, e < dE C → h1.1 172 e = dW V e) → (sR 0 (dP C) ((d_234_19 C w m k s gg).1) h1) → (fR h0 h1) → (h1.1 154 28 = ((d_234_19 C w m k s gg).2)) → pz_S 8 (some .int) am_r234 4 Q 127 [(0, .ref 154), (1, .int (Int32.ofInt 0)), (2, .int w)] [] h1) → pz_S 8 (some .int) am_r234 4 Q 19 [(0, .ref 154), (1, .int (Int32.ofInt 0)), (2, .int w), (3, .int (nI k))] [] h := by
  intro m
  induction m with
  | zero =>
    intro k s gg h hk hP hI hT hO hS hX hG hZ
    have h6 := hT.1.2.1
    have h5 := hT.2.1.2.1
    have hA : h.1 168 0 = (h.1 168 0) ∧ h.1 168 1 = (h.1 168 1) ∧ h.1 168 2 = (h.1 168 2) ∧ h.1 168 3 = (h.1 168 3) := ⟨rfl, rfl, rfl, rfl⟩
    refine am_goX 3 (show am_rc h 154 11 ∧ 1 ≤ 8 ∧ h.2.2.2.2 + am_al 186 ≤ 175 ∧ am_call am_cod 4 186 [.ref 154] h (fun vv h' => pz_S 8 (some .int) am_r234 4 Q 24 [(0, .ref 154), (1, .int (Int32.ofInt 0)), (2, .int w), (3, .int (nI k))] (vv.toList ++ [.int (nI k)]) h') from ⟨Or.inl ⟨by decide, ex_154 hP⟩, by decide, ex_lim hP rfl, am_call.up (d_186_r hP hT ?_) (by decide)⟩)
    refine am_goX 1 (show ((nI (dP C)) ≤ (nI k) → pz_S 8 (some .int) am_r234 4 Q 127 [(0, .ref 154), (1, .int (Int32.ofInt 0)), (2, .int w), (3, .int (nI k))] [] h) ∧ (¬ ((nI (dP C)) ≤ (nI k)) → pz_S 8 (some .int) am_r234 4 Q 27 [(0, .ref 154), (1, .int (Int32.ofInt 0)), (2, .int w), (3, .int (nI k))] [] h) from ⟨fun _ => ?_, fun hz => absurd (show nI (dP C) ≤ nI k from nI_le (by omega) (by omega)) hz⟩)
    exact sv_S2 sv2_234 (by intro q hq; simp only [List.mem_cons, List.not_mem_nil, or_false] at hq; rcases hq with rfl | rfl | rfl <;> rfl) (hZ _ hP hI hT hO hS hX hG)
  | succ m ih =>
    intro k s gg h hk hP hI hT hO hS hX hG hZ
    have h6 := hT.1.2.1
    have h5 := hT.2.1.2.1
    have hA : h.1 168 0 = (h.1 168 0) ∧ h.1 168 1 = (h.1 168 1) ∧ h.1 168 2 = (h.1 168 2) ∧ h.1 168 3 = (h.1 168 3) := ⟨rfl, rfl, rfl, rfl⟩
    refine am_goX 3 (show am_rc h 154 11 ∧ 1 ≤ 8 ∧ h.2.2.2.2 + am_al 186 ≤ 175 ∧ am_call am_cod 4 186 [.ref 154] h (fun vv h' => pz_S 8 (some .int) am_r234 4 Q 24 [(0, .ref 154), (1, .int (Int32.ofInt 0)), (2, .int w), (3, .int (nI k))] (vv.toList ++ [.int (nI k)]) h') from ⟨Or.inl ⟨by decide, ex_154 hP⟩, by decide, ex_lim hP rfl, am_call.up (d_186_r hP hT ?_) (by decide)⟩)
    refine am_goX 1 (show ((nI (dP C)) ≤ (nI k) → pz_S 8 (some .int) am_r234 4 Q 127 [(0, .ref 154), (1, .int (Int32.ofInt 0)), (2, .int w), (3, .int (nI k))] [] h) ∧ (¬ ((nI (dP C)) ≤ (nI k)) → pz_S 8 (some .int) am_r234 4 Q 27 [(0, .ref 154), (1, .int (Int32.ofInt 0)), (2, .int w), (3, .int (nI k))] [] h) from ⟨fun hz => absurd hz (show ¬ (nI (dP C) ≤ nI k) by rw [nI_leI (by omega) (by omega)]; omega), fun _ => ?_⟩)
    refine am_goX 2 (show am_sh h 154 = some (11, 0) ∧ pz_S 8 (some .int) am_r234 4 Q 31 [(0, .ref 154), (1, .int (Int32.ofInt 0)), (2, .int w), (3, .int (nI k))] [am_rf (h.2.2.1 154 22)] h from ⟨ex_154 hP, ?_⟩)
    rw [show am_rf (h.2.2.1 154 22) = .ref 168 from congrArg am_rf (ex_r154_22 hP)]
    refine am_goX 5 (show am_rc h 154 11 ∧ 2 ≤ 8 ∧ h.2.2.2.2 + am_al 223 ≤ 175 ∧ am_call am_cod 4 223 [.ref 154, .int (Int32.ofInt 0), .int (nI k)] h (fun vv h' => pz_S 8 (some .int) am_r234 4 Q 38 [(0, .ref 154), (1, .int (Int32.ofInt 0)), (2, .int w), (3, .int (nI k))] (vv.toList ++ [.int (Int32.ofInt 0), .ref 168]) h') from ⟨Or.inl ⟨by decide, ex_154 hP⟩, by decide, ex_lim hP rfl, am_call.up (d_223_r0 hP hI hT hO hS hX (by omega) ?_) (by decide)⟩)
    refine am_goX 1 (show ∃ jj nn : Nat, am_so h 168 = some (13, nn) ∧ jj < nn ∧ Int32.ofInt 0 = nI jj ∧ pz_S 8 (some .int) am_r234 4 Q 39 [(0, .ref 154), (1, .int (Int32.ofInt 0)), (2, .int w), (3, .int (nI k))] [] (am_wI h 168 jj (d_223 C s k)) from ⟨0, 4, ex_w168 hP, (by omega), rfl, ?_⟩)
    have f81 : ex_P (am_wI h 168 0 (d_223 C s k)) := hP
    have f82 : cI C := hI
    have f83 : tR C (am_wI h 168 0 (d_223 C s k)) := tR_w (by omega) hT
    have f84 : ∀ e, e < dE C → (am_wI h 168 0 (d_223 C s k)).1 172 e = dW V e := on_w (by omega) hO
    have f85 : sR 0 (dP C) s (am_wI h 168 0 (d_223 C s k)) := sR_o (by omega) hS
    have f86 : fR h0 (am_wI h 168 0 (d_223 C s k)) := fR_w (by omega) hX
    have f87 : (am_wI h 168 0 (d_223 C s k)).1 154 28 = gg := (em_wn _ _ (by omega)).trans hG
    have f88 : (am_wI h 168 0 (d_223 C s k)).1 168 0 = (d_223 C s k) ∧ (am_wI h 168 0 (d_223 C s k)).1 168 1 = (h.1 168 1) ∧ (am_wI h 168 0 (d_223 C s k)).1 168 2 = (h.1 168 2) ∧ (am_wI h 168 0 (d_223 C s k)).1 168 3 = (h.1 168 3) := fa_w0 hA
    generalize am_wI h 168 0 (d_223 C s k) = h80 at f81 f82 f83 f84 f85 f86 f87 f88 ⊢
    refine am_goX 2 (show am_sh h80 154 = some (11, 0) ∧ pz_S 8 (some .int) am_r234 4 Q 43 [(0, .ref 154), (1, .int (Int32.ofInt 0)), (2, .int w), (3, .int (nI k))] [am_rf (h80.2.2.1 154 22)] h80 from ⟨ex_154 f81, ?_⟩)
    rw [show am_rf (h80.2.2.1 154 22) = .ref 168 from congrArg am_rf (ex_r154_22 f81)]
    refine am_goX 3 (show am_sh h80 154 = some (11, 0) ∧ pz_S 8 (some .int) am_r234 4 Q 48 [(0, .ref 154), (1, .int (Int32.ofInt 0)), (2, .int w), (3, .int (nI k))] [am_rf (h80.2.2.1 154 24), .int (Int32.ofInt 1), .ref 168] h80 from ⟨ex_154 f81, ?_⟩)
    rw [show am_rf (h80.2.2.1 154 24) = .ref 170 from congrArg am_rf (ex_r154_24 f81)]
    refine am_goX 4 (show ∃ jj nn : Nat, am_sh h80 170 = some (13, nn) ∧ jj < nn ∧ (Int32.ofInt 0) + (Int32.ofInt 0) = nI jj ∧ pz_S 8 (some .int) am_r234 4 Q 52 [(0, .ref 154), (1, .int (Int32.ofInt 0)), (2, .int w), (3, .int (nI k))] [.int (h80.1 170 jj), .int (Int32.ofInt 1), .ref 168] h80 from ⟨0, 1127, ex_170 f81, (by omega), (dn_a rfl rfl), ?_⟩)
    rw [show h80.1 170 0 = s.1 from f85.1.1]
    refine am_goX 3 (show ¬ ((Int8.ofInt 7).toInt32) = 0 ∧ ∃ jj nn : Nat, am_so h80 168 = some (13, nn) ∧ jj < nn ∧ Int32.ofInt 1 = nI jj ∧ pz_S 8 (some .int) am_r234 4 Q 56 [(0, .ref 154), (1, .int (Int32.ofInt 0)), (2, .int w), (3, .int (nI k))] [] (am_wI h80 168 jj (s.1 / ((Int8.ofInt 7).toInt32))) from ⟨by decide, 1, 4, ex_w168 f81, (by omega), rfl, ?_⟩)
    have f90 : ex_P (am_wI h80 168 1 (s.1 / ((Int8.ofInt 7).toInt32))) := f81
    have f91 : cI C := f82
    have f92 : tR C (am_wI h80 168 1 (s.1 / ((Int8.ofInt 7).toInt32))) := tR_w (by omega) f83
    have f93 : ∀ e, e < dE C → (am_wI h80 168 1 (s.1 / ((Int8.ofInt 7).toInt32))).1 172 e = dW V e := on_w (by omega) f84
    have f94 : sR 0 (dP C) s (am_wI h80 168 1 (s.1 / ((Int8.ofInt 7).toInt32))) := sR_o (by omega) f85
    have f95 : fR h0 (am_wI h80 168 1 (s.1 / ((Int8.ofInt 7).toInt32))) := fR_w (by omega) f86
    have f96 : (am_wI h80 168 1 (s.1 / ((Int8.ofInt 7).toInt32))).1 154 28 = gg := (em_wn _ _ (by omega)).trans f87
    have f97 : (am_wI h80 168 1 (s.1 / ((Int8.ofInt 7).toInt32))).1 168 0 = (d_223 C s k) ∧ (am_wI h80 168 1 (s.1 / ((Int8.ofInt 7).toInt32))).1 168 1 = (s.1 / ((Int8.ofInt 7).toInt32)) ∧ (am_wI h80 168 1 (s.1 / ((Int8.ofInt 7).toInt32))).1 168 2 = (h.1 168 2) ∧ (am_wI h80 168 1 (s.1 / ((Int8.ofInt 7).toInt32))).1 168 3 = (h.1 168 3) := fa_w1 f88
    generalize am_wI h80 168 1 (s.1 / ((Int8.ofInt 7).toInt32)) = h89 at f90 f91 f92 f93 f94 f95 f96 f97 ⊢
    refine am_goX 2 (show am_sh h89 154 = some (11, 0) ∧ pz_S 8 (some .int) am_r234 4 Q 60 [(0, .ref 154), (1, .int (Int32.ofInt 0)), (2, .int w), (3, .int (nI k))] [am_rf (h89.2.2.1 154 22)] h89 from ⟨ex_154 f90, ?_⟩)
    rw [show am_rf (h89.2.2.1 154 22) = .ref 168 from congrArg am_rf (ex_r154_22 f90)]
    refine am_goX 3 (show am_sh h89 154 = some (11, 0) ∧ pz_S 8 (some .int) am_r234 4 Q 65 [(0, .ref 154), (1, .int (Int32.ofInt 0)), (2, .int w), (3, .int (nI k))] [am_rf (h89.2.2.1 154 24), .int (Int32.ofInt 2), .ref 168] h89 from ⟨ex_154 f90, ?_⟩)
    rw [show am_rf (h89.2.2.1 154 24) = .ref 170 from congrArg am_rf (ex_r154_24 f90)]
    refine am_goX 6 (show ∃ jj nn : Nat, am_sh h89 170 = some (13, nn) ∧ jj < nn ∧ ((Int32.ofInt 0) + ((Int8.ofInt 8).toInt32)) + (nI k) = nI jj ∧ pz_S 8 (some .int) am_r234 4 Q 72 [(0, .ref 154), (1, .int (Int32.ofInt 0)), (2, .int w), (3, .int (nI k))] [.int (h89.1 170 jj), .int (Int32.ofInt 2), .ref 168] h89 from ⟨(8 + k), 1127, ex_170 f90, (by omega), (dn_a (dn_a rfl (show (Int8.ofInt 8).toInt32 = nI 8 by decide)) rfl), ?_⟩)
    rw [show h89.1 170 (8 + k) = s.2.2.2.1 k from (by rw [show (8 + k) = 0 + 8 + k by omega]; exact f94.2.2.1 k (by omega))]
    refine am_goX 1 (show 2 ≤ 8 ∧ h89.2.2.2.2 + am_al 235 ≤ 175 ∧ am_call am_cod 4 235 [.int (s.2.2.2.1 k)] h89 (fun vv h' => pz_S 8 (some .int) am_r234 4 Q 75 [(0, .ref 154), (1, .int (Int32.ofInt 0)), (2, .int w), (3, .int (nI k))] (vv.toList ++ [.int (Int32.ofInt 2), .ref 168]) h') from ⟨by decide, ex_lim f90 rfl, am_call.up (d_235_w f90 ?_) (by decide)⟩)
    refine am_goX 1 (show ∃ jj nn : Nat, am_so h89 168 = some (13, nn) ∧ jj < nn ∧ Int32.ofInt 2 = nI jj ∧ pz_S 8 (some .int) am_r234 4 Q 76 [(0, .ref 154), (1, .int (Int32.ofInt 0)), (2, .int w), (3, .int (nI k))] [] (am_wI h89 168 jj (d_235 (s.2.2.2.1 k))) from ⟨2, 4, ex_w168 f90, (by omega), rfl, ?_⟩)
    have f99 : ex_P (am_wI h89 168 2 (d_235 (s.2.2.2.1 k))) := f90
    have f100 : cI C := f91
    have f101 : tR C (am_wI h89 168 2 (d_235 (s.2.2.2.1 k))) := tR_w (by omega) f92
    have f102 : ∀ e, e < dE C → (am_wI h89 168 2 (d_235 (s.2.2.2.1 k))).1 172 e = dW V e := on_w (by omega) f93
    have f103 : sR 0 (dP C) s (am_wI h89 168 2 (d_235 (s.2.2.2.1 k))) := sR_o (by omega) f94
    have f104 : fR h0 (am_wI h89 168 2 (d_235 (s.2.2.2.1 k))) := fR_w (by omega) f95
    have f105 : (am_wI h89 168 2 (d_235 (s.2.2.2.1 k))).1 154 28 = gg := (em_wn _ _ (by omega)).trans f96
    have f106 : (am_wI h89 168 2 (d_235 (s.2.2.2.1 k))).1 168 0 = (d_223 C s k) ∧ (am_wI h89 168 2 (d_235 (s.2.2.2.1 k))).1 168 1 = (s.1 / ((Int8.ofInt 7).toInt32)) ∧ (am_wI h89 168 2 (d_235 (s.2.2.2.1 k))).1 168 2 = (d_235 (s.2.2.2.1 k)) ∧ (am_wI h89 168 2 (d_235 (s.2.2.2.1 k))).1 168 3 = (h.1 168 3) := fa_w2 f97
    generalize am_wI h89 168 2 (d_235 (s.2.2.2.1 k)) = h98 at f99 f100 f101 f102 f103 f104 f105 f106 ⊢
    refine am_goX 2 (show am_sh h98 154 = some (11, 0) ∧ pz_S 8 (some .int) am_r234 4 Q 80 [(0, .ref 154), (1, .int (Int32.ofInt 0)), (2, .int w), (3, .int (nI k))] [am_rf (h98.2.2.1 154 22)] h98 from ⟨ex_154 f99, ?_⟩)
    rw [show am_rf (h98.2.2.1 154 22) = .ref 168 from congrArg am_rf (ex_r154_22 f99)]
    refine am_goX 3 (show ∃ jj nn : Nat, am_so h98 168 = some (13, nn) ∧ jj < nn ∧ Int32.ofInt 3 = nI jj ∧ pz_S 8 (some .int) am_r234 4 Q 83 [(0, .ref 154), (1, .int (Int32.ofInt 0)), (2, .int w), (3, .int (nI k))] [] (am_wI h98 168 jj w) from ⟨3, 4, ex_w168 f99, (by omega), rfl, ?_⟩)
    have f108 : ex_P (am_wI h98 168 3 w) := f99
    have f109 : cI C := f100
    have f110 : tR C (am_wI h98 168 3 w) := tR_w (by omega) f101
    have f111 : ∀ e, e < dE C → (am_wI h98 168 3 w).1 172 e = dW V e := on_w (by omega) f102
    have f112 : sR 0 (dP C) s (am_wI h98 168 3 w) := sR_o (by omega) f103
    have f113 : fR h0 (am_wI h98 168 3 w) := fR_w (by omega) f104
    have f114 : (am_wI h98 168 3 w).1 154 28 = gg := (em_wn _ _ (by omega)).trans f105
    have f115 : (am_wI h98 168 3 w).1 168 0 = (d_223 C s k) ∧ (am_wI h98 168 3 w).1 168 1 = (s.1 / ((Int8.ofInt 7).toInt32)) ∧ (am_wI h98 168 3 w).1 168 2 = (d_235 (s.2.2.2.1 k)) ∧ (am_wI h98 168 3 w).1 168 3 = w := fa_w3 f106
    generalize am_wI h98 168 3 w = h107 at f108 f109 f110 f111 f112 f113 f114 f115 ⊢
    refine am_goX 3 (show (Value.ref 154).category = 1 ∧ am_sh h107 154 = some (11, 0) ∧ pz_S 8 (some .int) am_r234 4 Q 88 [(0, .ref 154), (1, .int (Int32.ofInt 0)), (2, .int w), (3, .int (nI k))] [.int (h107.1 154 28), .ref 154] h107 from ⟨rfl, ex_154 f108, ?_⟩)
    rw [show h107.1 154 28 = gg from f114]
    refine am_goX 2 (show am_sh h107 154 = some (11, 0) ∧ pz_S 8 (some .int) am_r234 4 Q 92 [(0, .ref 154), (1, .int (Int32.ofInt 0)), (2, .int w), (3, .int (nI k))] [am_rf (h107.2.2.1 154 10), .int gg, .ref 154] h107 from ⟨ex_154 f108, ?_⟩)
    rw [show am_rf (h107.2.2.1 154 10) = .ref 160 from congrArg am_rf (ex_r154_10 f108)]
    refine am_goX 2 (show ∃ jj nn : Nat, am_sh h107 160 = some (13, nn) ∧ jj < nn ∧ Int32.ofInt 3 = nI jj ∧ pz_S 8 (some .int) am_r234 4 Q 94 [(0, .ref 154), (1, .int (Int32.ofInt 0)), (2, .int w), (3, .int (nI k))] [.int (h107.1 160 jj), .int gg, .ref 154] h107 from ⟨3, 80, ex_160 f108, (by omega), rfl, ?_⟩)
    rw [show h107.1 160 3 = dQ C from f110.2.2.2.2.2.2.2.2]
    refine am_goX 1 (show ((dQ C) < 0 → pz_S 8 (some .int) am_r234 4 Q 110 [(0, .ref 154), (1, .int (Int32.ofInt 0)), (2, .int w), (3, .int (nI k))] [.int gg, .ref 154] h107) ∧ (¬ ((dQ C) < 0) → pz_S 8 (some .int) am_r234 4 Q 97 [(0, .ref 154), (1, .int (Int32.ofInt 0)), (2, .int w), (3, .int (nI k))] [.int gg, .ref 154] h107) from ⟨fun c116 => ?_, fun c116 => ?_⟩)
    · refine am_goX 6 (show am_sh h107 154 = some (11, 0) ∧ narrow (am_fty 11 28) (.int (gg ||| ((Int32.ofInt 1) <<< ((nI k) &&& 31)))) = .int (gg ||| ((Int32.ofInt 1) <<< ((nI k) &&& 31))) ∧ fits (am_fty 11 28) (.int (gg ||| ((Int32.ofInt 1) <<< ((nI k) &&& 31)))) = true ∧ pz_S 8 (some .int) am_r234 4 Q 121 [(0, .ref 154), (1, .int (Int32.ofInt 0)), (2, .int w), (3, .int (nI k))] [] (am_wI h107 154 28 (gg ||| ((Int32.ofInt 1) <<< ((nI k) &&& 31)))) from ⟨ex_154 f108, rfl, rfl, ?_⟩)
      have f118 : ex_P (am_wI h107 154 28 (gg ||| ((Int32.ofInt 1) <<< ((nI k) &&& 31)))) := f108
      have f119 : cI C := f109
      have f120 : tR C (am_wI h107 154 28 (gg ||| ((Int32.ofInt 1) <<< ((nI k) &&& 31)))) := tR_w (by omega) f110
      have f121 : ∀ e, e < dE C → (am_wI h107 154 28 (gg ||| ((Int32.ofInt 1) <<< ((nI k) &&& 31)))).1 172 e = dW V e := on_w (by omega) f111
      have f122 : sR 0 (dP C) s (am_wI h107 154 28 (gg ||| ((Int32.ofInt 1) <<< ((nI k) &&& 31)))) := sR_o (by omega) f112
      have f123 : fR h0 (am_wI h107 154 28 (gg ||| ((Int32.ofInt 1) <<< ((nI k) &&& 31)))) := fR_w (by omega) f113
      have f124 : (am_wI h107 154 28 (gg ||| ((Int32.ofInt 1) <<< ((nI k) &&& 31)))).1 154 28 = (gg ||| ((Int32.ofInt 1) <<< ((nI k) &&& 31))) := em_we _ _ _ _
      have f125 : (am_wI h107 154 28 (gg ||| ((Int32.ofInt 1) <<< ((nI k) &&& 31)))).1 168 0 = (d_223 C s k) ∧ (am_wI h107 154 28 (gg ||| ((Int32.ofInt 1) <<< ((nI k) &&& 31)))).1 168 1 = (s.1 / ((Int8.ofInt 7).toInt32)) ∧ (am_wI h107 154 28 (gg ||| ((Int32.ofInt 1) <<< ((nI k) &&& 31)))).1 168 2 = (d_235 (s.2.2.2.1 k)) ∧ (am_wI h107 154 28 (gg ||| ((Int32.ofInt 1) <<< ((nI k) &&& 31)))).1 168 3 = w := fo_w (by omega) f115
      generalize am_wI h107 154 28 (gg ||| ((Int32.ofInt 1) <<< ((nI k) &&& 31))) = h117 at f118 f119 f120 f121 f122 f123 f124 f125 ⊢
      refine am_goX 2 (show 3 < 8 ∧ pz_S 8 (some .int) am_r234 4 Q 19 [(3, .int ((nI k) + (Int32.ofInt 1))), (0, .ref 154), (1, .int (Int32.ofInt 0)), (2, .int w)] [] h117 from ⟨by decide, ?_⟩)
      rw [show d_234_19 C w (m + 1) k s gg = d_234_19 C w m (k + 1) s (gg ||| ((Int32.ofInt 1) <<< ((nI k) &&& 31))) from if_pos c116] at hZ
      rw [show (nI k) + (Int32.ofInt 1) = nI (k + 1) from (dn_a rfl rfl)]
      exact sv_S2 sv2_234 (by intro q hq; simp only [List.mem_cons, List.not_mem_nil, or_false] at hq; rcases hq with rfl | rfl | rfl | rfl <;> rfl) (ih (k + 1) s (gg ||| ((Int32.ofInt 1) <<< ((nI k) &&& 31))) _ (by omega) f118 f119 f120 f121 f122 f123 f124 hZ)
    · refine am_goX 3 (show am_sh h107 154 = some (11, 0) ∧ pz_S 8 (some .int) am_r234 4 Q 102 [(0, .ref 154), (1, .int (Int32.ofInt 0)), (2, .int w), (3, .int (nI k))] [am_rf (h107.2.2.1 154 10), .ref 154, .int gg, .ref 154] h107 from ⟨ex_154 f108, ?_⟩)
      rw [show am_rf (h107.2.2.1 154 10) = .ref 160 from congrArg am_rf (ex_r154_10 f108)]
      refine am_goX 2 (show ∃ jj nn : Nat, am_sh h107 160 = some (13, nn) ∧ jj < nn ∧ Int32.ofInt 3 = nI jj ∧ pz_S 8 (some .int) am_r234 4 Q 104 [(0, .ref 154), (1, .int (Int32.ofInt 0)), (2, .int w), (3, .int (nI k))] [.int (h107.1 160 jj), .ref 154, .int gg, .ref 154] h107 from ⟨3, 80, ex_160 f108, (by omega), rfl, ?_⟩)
      rw [show h107.1 160 3 = dQ C from f110.2.2.2.2.2.2.2.2]
      refine am_goX 1 (show am_rc h107 154 11 ∧ 2 ≤ 8 ∧ h107.2.2.2.2 + am_al 236 ≤ 175 ∧ am_call am_cod 4 236 [.ref 154, .int (dQ C)] h107 (fun vv h' => pz_S 8 (some .int) am_r234 4 Q 107 [(0, .ref 154), (1, .int (Int32.ofInt 0)), (2, .int w), (3, .int (nI k))] (vv.toList ++ [.int gg, .ref 154]) h') from ⟨Or.inl ⟨by decide, ex_154 f108⟩, by decide, ex_lim f108 rfl, am_call.up (q_236 (a := (d_223 C s k)) (b := (s.1 / ((Int8.ofInt 7).toInt32))) (c := (d_235 (s.2.2.2.1 k))) (d := w) f108 f109 f110 f115 c116 (fun h126 l127 => ?_)) (by decide)⟩)
      have f128 : ex_P h126 := lfr_P l127 f108
      have f129 : cI C := f109
      have f130 : tR C h126 := lfr_r l127 f110
      have f131 : ∀ e, e < dE C → h126.1 172 e = dW V e := lfr_on l127 f111
      have f132 : sR 0 (dP C) s h126 := lfr_sR l127 (by omega) f112
      have f133 : fR h0 h126 := fR_l l127 f113
      have f134 : h126.1 154 28 = gg := (l127.2 _ _ (by decide)).trans f114
      have f135 : h126.1 168 0 = (d_223 C s k) ∧ h126.1 168 1 = (s.1 / ((Int8.ofInt 7).toInt32)) ∧ h126.1 168 2 = (d_235 (s.2.2.2.1 k)) ∧ h126.1 168 3 = w := ⟨(l127.2 _ _ (by decide)).trans f115.1, (l127.2 _ _ (by decide)).trans f115.2.1, (l127.2 _ _ (by decide)).trans f115.2.2.1, (l127.2 _ _ (by decide)).trans f115.2.2.2⟩
      refine am_goX 1 (show ((dlaw C (d_223 C s k) (s.1 / ((Int8.ofInt 7).toInt32)) (d_235 (s.2.2.2.1 k)) w) = 0 → pz_S 8 (some .int) am_r234 4 Q 116 [(0, .ref 154), (1, .int (Int32.ofInt 0)), (2, .int w), (3, .int (nI k))] [.int gg, .ref 154] h126) ∧ (¬ ((dlaw C (d_223 C s k) (s.1 / ((Int8.ofInt 7).toInt32)) (d_235 (s.2.2.2.1 k)) w) = 0) → pz_S 8 (some .int) am_r234 4 Q 110 [(0, .ref 154), (1, .int (Int32.ofInt 0)), (2, .int w), (3, .int (nI k))] [.int gg, .ref 154] h126) from ⟨fun c136 => ?_, fun c136 => ?_⟩)
      · refine am_goX 3 (show am_sh h126 154 = some (11, 0) ∧ narrow (am_fty 11 28) (.int (gg ||| (Int32.ofInt 0))) = .int (gg ||| (Int32.ofInt 0)) ∧ fits (am_fty 11 28) (.int (gg ||| (Int32.ofInt 0))) = true ∧ pz_S 8 (some .int) am_r234 4 Q 121 [(0, .ref 154), (1, .int (Int32.ofInt 0)), (2, .int w), (3, .int (nI k))] [] (am_wI h126 154 28 (gg ||| (Int32.ofInt 0))) from ⟨ex_154 f128, rfl, rfl, ?_⟩)
        have f138 : ex_P (am_wI h126 154 28 (gg ||| (Int32.ofInt 0))) := f128
        have f139 : cI C := f129
        have f140 : tR C (am_wI h126 154 28 (gg ||| (Int32.ofInt 0))) := tR_w (by omega) f130
        have f141 : ∀ e, e < dE C → (am_wI h126 154 28 (gg ||| (Int32.ofInt 0))).1 172 e = dW V e := on_w (by omega) f131
        have f142 : sR 0 (dP C) s (am_wI h126 154 28 (gg ||| (Int32.ofInt 0))) := sR_o (by omega) f132
        have f143 : fR h0 (am_wI h126 154 28 (gg ||| (Int32.ofInt 0))) := fR_w (by omega) f133
        have f144 : (am_wI h126 154 28 (gg ||| (Int32.ofInt 0))).1 154 28 = (gg ||| (Int32.ofInt 0)) := em_we _ _ _ _
        have f145 : (am_wI h126 154 28 (gg ||| (Int32.ofInt 0))).1 168 0 = (d_223 C s k) ∧ (am_wI h126 154 28 (gg ||| (Int32.ofInt 0))).1 168 1 = (s.1 / ((Int8.ofInt 7).toInt32)) ∧ (am_wI h126 154 28 (gg ||| (Int32.ofInt 0))).1 168 2 = (d_235 (s.2.2.2.1 k)) ∧ (am_wI h126 154 28 (gg ||| (Int32.ofInt 0))).1 168 3 = w := fo_w (by omega) f135
        generalize am_wI h126 154 28 (gg ||| (Int32.ofInt 0)) = h137 at f138 f139 f140 f141 f142 f143 f144 f145 ⊢
        refine am_goX 2 (show 3 < 8 ∧ pz_S 8 (some .int) am_r234 4 Q 19 [(3, .int ((nI k) + (Int32.ofInt 1))), (0, .ref 154), (1, .int (Int32.ofInt 0)), (2, .int w)] [] h137 from ⟨by decide, ?_⟩)
        rw [show d_234_19 C w (m + 1) k s gg = d_234_19 C w m (k + 1) s (gg ||| (Int32.ofInt 0)) from (if_neg c116).trans (if_pos c136)] at hZ
        rw [show (nI k) + (Int32.ofInt 1) = nI (k + 1) from (dn_a rfl rfl)]
        exact sv_S2 sv2_234 (by intro q hq; simp only [List.mem_cons, List.not_mem_nil, or_false] at hq; rcases hq with rfl | rfl | rfl | rfl <;> rfl) (ih (k + 1) s (gg ||| (Int32.ofInt 0)) _ (by omega) f138 f139 f140 f141 f142 f143 f144 hZ)
      · refine am_goX 6 (show am_sh h126 154 = some (11, 0) ∧ narrow (am_fty 11 28) (.int (gg ||| ((Int32.ofInt 1) <<< ((nI k) &&& 31)))) = .int (gg ||| ((Int32.ofInt 1) <<< ((nI k) &&& 31))) ∧ fits (am_fty 11 28) (.int (gg ||| ((Int32.ofInt 1) <<< ((nI k) &&& 31)))) = true ∧ pz_S 8 (some .int) am_r234 4 Q 121 [(0, .ref 154), (1, .int (Int32.ofInt 0)), (2, .int w), (3, .int (nI k))] [] (am_wI h126 154 28 (gg ||| ((Int32.ofInt 1) <<< ((nI k) &&& 31)))) from ⟨ex_154 f128, rfl, rfl, ?_⟩)
        have f147 : ex_P (am_wI h126 154 28 (gg ||| ((Int32.ofInt 1) <<< ((nI k) &&& 31)))) := f128
        have f148 : cI C := f129
        have f149 : tR C (am_wI h126 154 28 (gg ||| ((Int32.ofInt 1) <<< ((nI k) &&& 31)))) := tR_w (by omega) f130
        have f150 : ∀ e, e < dE C → (am_wI h126 154 28 (gg ||| ((Int32.ofInt 1) <<< ((nI k) &&& 31)))).1 172 e = dW V e := on_w (by omega) f131
        have f151 : sR 0 (dP C) s (am_wI h126 154 28 (gg ||| ((Int32.ofInt 1) <<< ((nI k) &&& 31)))) := sR_o (by omega) f132
        have f152 : fR h0 (am_wI h126 154 28 (gg ||| ((Int32.ofInt 1) <<< ((nI k) &&& 31)))) := fR_w (by omega) f133
        have f153 : (am_wI h126 154 28 (gg ||| ((Int32.ofInt 1) <<< ((nI k) &&& 31)))).1 154 28 = (gg ||| ((Int32.ofInt 1) <<< ((nI k) &&& 31))) := em_we _ _ _ _
        have f154 : (am_wI h126 154 28 (gg ||| ((Int32.ofInt 1) <<< ((nI k) &&& 31)))).1 168 0 = (d_223 C s k) ∧ (am_wI h126 154 28 (gg ||| ((Int32.ofInt 1) <<< ((nI k) &&& 31)))).1 168 1 = (s.1 / ((Int8.ofInt 7).toInt32)) ∧ (am_wI h126 154 28 (gg ||| ((Int32.ofInt 1) <<< ((nI k) &&& 31)))).1 168 2 = (d_235 (s.2.2.2.1 k)) ∧ (am_wI h126 154 28 (gg ||| ((Int32.ofInt 1) <<< ((nI k) &&& 31)))).1 168 3 = w := fo_w (by omega) f135
        generalize am_wI h126 154 28 (gg ||| ((Int32.ofInt 1) <<< ((nI k) &&& 31))) = h146 at f147 f148 f149 f150 f151 f152 f153 f154 ⊢
        refine am_goX 2 (show 3 < 8 ∧ pz_S 8 (some .int) am_r234 4 Q 19 [(3, .int ((nI k) + (Int32.ofInt 1))), (0, .ref 154), (1, .int (Int32.ofInt 0)), (2, .int w)] [] h146 from ⟨by decide, ?_⟩)
        rw [show d_234_19 C w (m + 1) k s gg = d_234_19 C w m (k + 1) s (gg ||| ((Int32.ofInt 1) <<< ((nI k) &&& 31))) from (if_neg c116).trans (if_neg c136)] at hZ
        rw [show (nI k) + (Int32.ofInt 1) = nI (k + 1) from (dn_a rfl rfl)]
        exact sv_S2 sv2_234 (by intro q hq; simp only [List.mem_cons, List.not_mem_nil, or_false] at hq; rcases hq with rfl | rfl | rfl | rfl <;> rfl) (ih (k + 1) s (gg ||| ((Int32.ofInt 1) <<< ((nI k) &&& 31))) _ (by omega) f147 f148 f149 f150 f151 f152 f153 hZ)
def d_234_147 (C V : sp_C) (s : dS) (gg w : Int32) (n4 : Nat) : Nat → Nat → Int32 → Int32
  | 0, _, a5 => a5
  | m + 1, k, a5 => d_234_147 C V s gg w n4 m (k + 1) (a5 ||| (if ¬ ((gg >>> ((nI k) &&& 31)) &&& (Int32.ofInt 1)) = (Int32.ofInt 1) then Int32.ofInt 0 else (if (d_238 C V s k n4 w) = 0 then Int32.ofInt 0 else (Int32.ofInt 1) <<< ((nI k) &&& 31))))
theorem d_234_147_g0 (x3 : Int32) (n4 : Nat) (hP : ex_P h) (hI : cI C) (hT : tR C h) (hO : ∀ e, e < dE C → h.1 172 e = dW V e) (hS : sR 0 (dP C) s h) (hX : fR h0 h) (hG : h.1 154 28 = gg) (he : n4 < dE C) : ∀ (m k : Nat) (a5 : Int32), k + m = dP C → (pz_S 8 (some .int) am_r234 4 Q 201 [(0, .ref 154), (1, .int (Int32.ofInt 0)), (2, .int w), (3, .int x3), (4, .int (nI n4)), (5, .int (d_234_147 C V s gg w n4 m k a5))] [] h) → pz_S 8 (some .int) am_r234 4 Q 147 [(0, .ref 154), (1, .int (Int32.ofInt 0)), (2, .int w), (3, .int x3), (4, .int (nI n4)), (5, .int a5), (6, .int (nI k))] [] h := by
  intro m
  induction m with
  | zero =>
    intro k a5 hk hZ
    have h6 := hT.1.2.1
    have h5 := hT.2.1.2.1
    refine am_goX 3 (show am_rc h 154 11 ∧ 1 ≤ 8 ∧ h.2.2.2.2 + am_al 186 ≤ 175 ∧ am_call am_cod 4 186 [.ref 154] h (fun vv h' => pz_S 8 (some .int) am_r234 4 Q 153 [(0, .ref 154), (1, .int (Int32.ofInt 0)), (2, .int w), (3, .int x3), (4, .int (nI n4)), (5, .int a5), (6, .int (nI k))] (vv.toList ++ [.int (nI k)]) h') from ⟨Or.inl ⟨by decide, ex_154 hP⟩, by decide, ex_lim hP rfl, am_call.up (d_186_r hP hT ?_) (by decide)⟩)
    refine am_goX 1 (show ((nI (dP C)) ≤ (nI k) → pz_S 8 (some .int) am_r234 4 Q 201 [(0, .ref 154), (1, .int (Int32.ofInt 0)), (2, .int w), (3, .int x3), (4, .int (nI n4)), (5, .int a5), (6, .int (nI k))] [] h) ∧ (¬ ((nI (dP C)) ≤ (nI k)) → pz_S 8 (some .int) am_r234 4 Q 156 [(0, .ref 154), (1, .int (Int32.ofInt 0)), (2, .int w), (3, .int x3), (4, .int (nI n4)), (5, .int a5), (6, .int (nI k))] [] h) from ⟨fun _ => ?_, fun hz => absurd (show nI (dP C) ≤ nI k from nI_le (by omega) (by omega)) hz⟩)
    exact sv_S2 sv2_234 (by intro q hq; simp only [List.mem_cons, List.not_mem_nil, or_false] at hq; rcases hq with rfl | rfl | rfl | rfl | rfl | rfl <;> rfl) (hZ)
  | succ m ih =>
    intro k a5 hk hZ
    have h6 := hT.1.2.1
    have h5 := hT.2.1.2.1
    refine am_goX 3 (show am_rc h 154 11 ∧ 1 ≤ 8 ∧ h.2.2.2.2 + am_al 186 ≤ 175 ∧ am_call am_cod 4 186 [.ref 154] h (fun vv h' => pz_S 8 (some .int) am_r234 4 Q 153 [(0, .ref 154), (1, .int (Int32.ofInt 0)), (2, .int w), (3, .int x3), (4, .int (nI n4)), (5, .int a5), (6, .int (nI k))] (vv.toList ++ [.int (nI k)]) h') from ⟨Or.inl ⟨by decide, ex_154 hP⟩, by decide, ex_lim hP rfl, am_call.up (d_186_r hP hT ?_) (by decide)⟩)
    refine am_goX 1 (show ((nI (dP C)) ≤ (nI k) → pz_S 8 (some .int) am_r234 4 Q 201 [(0, .ref 154), (1, .int (Int32.ofInt 0)), (2, .int w), (3, .int x3), (4, .int (nI n4)), (5, .int a5), (6, .int (nI k))] [] h) ∧ (¬ ((nI (dP C)) ≤ (nI k)) → pz_S 8 (some .int) am_r234 4 Q 156 [(0, .ref 154), (1, .int (Int32.ofInt 0)), (2, .int w), (3, .int x3), (4, .int (nI n4)), (5, .int a5), (6, .int (nI k))] [] h) from ⟨fun hz => absurd hz (show ¬ (nI (dP C) ≤ nI k) by rw [nI_leI (by omega) (by omega)]; omega), fun _ => ?_⟩)
    refine am_goX 3 (show am_sh h 154 = some (11, 0) ∧ pz_S 8 (some .int) am_r234 4 Q 162 [(0, .ref 154), (1, .int (Int32.ofInt 0)), (2, .int w), (3, .int x3), (4, .int (nI n4)), (5, .int a5), (6, .int (nI k))] [.int (h.1 154 28), .int a5] h from ⟨ex_154 hP, ?_⟩)
    rw [show h.1 154 28 = gg from hG]
    suffices key : ∀ (v164 : Int32), v164 = (if ¬ ((gg >>> ((nI k) &&& 31)) &&& (Int32.ofInt 1)) = (Int32.ofInt 1) then Int32.ofInt 0 else (if (d_238 C V s k n4 w) = 0 then Int32.ofInt 0 else (Int32.ofInt 1) <<< ((nI k) &&& 31))) → pz_S 8 (some .int) am_r234 4 Q 192 [(0, .ref 154), (1, .int (Int32.ofInt 0)), (2, .int w), (3, .int x3), (4, .int (nI n4)), (6, .int (nI k))] [.int v164, .int a5] h by
      refine am_goX 6 (show (¬ ((gg >>> ((nI k) &&& 31)) &&& (Int32.ofInt 1)) = (Int32.ofInt 1) → pz_S 8 (some .int) am_r234 4 Q 191 [(0, .ref 154), (1, .int (Int32.ofInt 0)), (2, .int w), (3, .int x3), (4, .int (nI n4)), (5, .int a5), (6, .int (nI k))] [.int a5] h) ∧ (¬ ¬ ((gg >>> ((nI k) &&& 31)) &&& (Int32.ofInt 1)) = (Int32.ofInt 1) → pz_S 8 (some .int) am_r234 4 Q 171 [(0, .ref 154), (1, .int (Int32.ofInt 0)), (2, .int w), (3, .int x3), (4, .int (nI n4)), (5, .int a5), (6, .int (nI k))] [.int a5] h) from ⟨fun c163 => ?_, fun c163 => ?_⟩)
      · refine am_goX 1 (show pz_S 8 (some .int) am_r234 4 Q 192 [(0, .ref 154), (1, .int (Int32.ofInt 0)), (2, .int w), (3, .int x3), (4, .int (nI n4)), (5, .int a5), (6, .int (nI k))] [.int (Int32.ofInt 0), .int a5] h from ?_)
        exact sv_S2 sv2_234 (by intro q hq; simp only [List.mem_cons, List.not_mem_nil, or_false] at hq; rcases hq with rfl | rfl | rfl | rfl | rfl | rfl <;> rfl) (key _ (if_pos c163).symm)
      · refine am_goX 6 (show am_rc h 154 11 ∧ 1 ≤ 8 ∧ h.2.2.2.2 + am_al 238 ≤ 175 ∧ am_call am_cod 4 238 [.ref 154, .int (Int32.ofInt 0), .int (nI k), .int (nI n4), .int w] h (fun vv h' => pz_S 8 (some .int) am_r234 4 Q 181 [(0, .ref 154), (1, .int (Int32.ofInt 0)), (2, .int w), (3, .int x3), (4, .int (nI n4)), (5, .int a5), (6, .int (nI k))] (vv.toList ++ [.int a5]) h') from ⟨Or.inl ⟨by decide, ex_154 hP⟩, by decide, ex_lim hP rfl, am_call.up (d_238_r0 hP hI hT hO hS hX (by omega) (by omega) ?_) (by decide)⟩)
        suffices key : ∀ (v166 : Int32), v166 = (if (d_238 C V s k n4 w) = 0 then Int32.ofInt 0 else (Int32.ofInt 1) <<< ((nI k) &&& 31)) → pz_S 8 (some .int) am_r234 4 Q 192 [(0, .ref 154), (1, .int (Int32.ofInt 0)), (2, .int w), (3, .int x3), (4, .int (nI n4)), (6, .int (nI k))] [.int v166, .int a5] h by
          refine am_goX 1 (show ((d_238 C V s k n4 w) = 0 → pz_S 8 (some .int) am_r234 4 Q 191 [(0, .ref 154), (1, .int (Int32.ofInt 0)), (2, .int w), (3, .int x3), (4, .int (nI n4)), (5, .int a5), (6, .int (nI k))] [.int a5] h) ∧ (¬ ((d_238 C V s k n4 w) = 0) → pz_S 8 (some .int) am_r234 4 Q 184 [(0, .ref 154), (1, .int (Int32.ofInt 0)), (2, .int w), (3, .int x3), (4, .int (nI n4)), (5, .int a5), (6, .int (nI k))] [.int a5] h) from ⟨fun c165 => ?_, fun c165 => ?_⟩)
          · refine am_goX 1 (show pz_S 8 (some .int) am_r234 4 Q 192 [(0, .ref 154), (1, .int (Int32.ofInt 0)), (2, .int w), (3, .int x3), (4, .int (nI n4)), (5, .int a5), (6, .int (nI k))] [.int (Int32.ofInt 0), .int a5] h from ?_)
            exact sv_S2 sv2_234 (by intro q hq; simp only [List.mem_cons, List.not_mem_nil, or_false] at hq; rcases hq with rfl | rfl | rfl | rfl | rfl | rfl <;> rfl) (key _ (if_pos c165).symm)
          · refine am_goX 4 (show pz_S 8 (some .int) am_r234 4 Q 192 [(0, .ref 154), (1, .int (Int32.ofInt 0)), (2, .int w), (3, .int x3), (4, .int (nI n4)), (5, .int a5), (6, .int (nI k))] [.int ((Int32.ofInt 1) <<< ((nI k) &&& 31)), .int a5] h from ?_)
            exact sv_S2 sv2_234 (by intro q hq; simp only [List.mem_cons, List.not_mem_nil, or_false] at hq; rcases hq with rfl | rfl | rfl | rfl | rfl | rfl <;> rfl) (key _ (if_neg c165).symm)
        intro v166 e167
        subst e167
        exact sv_S2 sv2_234 (by intro q hq; simp only [List.mem_cons, List.not_mem_nil, or_false] at hq; rcases hq with rfl | rfl | rfl | rfl | rfl | rfl <;> rfl) (key _ (if_neg c163).symm)
    intro v164 e168
    subst e168
    refine am_goX 4 (show 5 < 8 ∧ 6 < 8 ∧ pz_S 8 (some .int) am_r234 4 Q 147 [(6, .int ((nI k) + (Int32.ofInt 1))), (5, .int (a5 ||| (if ¬ ((gg >>> ((nI k) &&& 31)) &&& (Int32.ofInt 1)) = (Int32.ofInt 1) then Int32.ofInt 0 else (if (d_238 C V s k n4 w) = 0 then Int32.ofInt 0 else (Int32.ofInt 1) <<< ((nI k) &&& 31))))), (0, .ref 154), (1, .int (Int32.ofInt 0)), (2, .int w), (3, .int x3), (4, .int (nI n4))] [] h from ⟨by decide, by decide, ?_⟩)
    rw [show (nI k) + (Int32.ofInt 1) = nI (k + 1) from (dn_a rfl rfl)]
    exact sv_S2 sv2_234 (by intro q hq; simp only [List.mem_cons, List.not_mem_nil, or_false] at hq; rcases hq with rfl | rfl | rfl | rfl | rfl | rfl | rfl <;> rfl) (ih (k + 1) (a5 ||| (if ¬ ((gg >>> ((nI k) &&& 31)) &&& (Int32.ofInt 1)) = (Int32.ofInt 1) then Int32.ofInt 0 else (if (d_238 C V s k n4 w) = 0 then Int32.ofInt 0 else (Int32.ofInt 1) <<< ((nI k) &&& 31)))) (by omega) hZ)
def d_234_281 (C : sp_C) (x5 : Int32) : Nat → Nat → dS → dS
  | 0, _, s => s
  | m + 1, k, s => d_234_281 C x5 m (k + 1) (sSM s k ((s.2.2.2.1 k) ||| (if ¬ ((x5 >>> ((nI k) &&& 31)) &&& (Int32.ofInt 1)) = (Int32.ofInt 1) then Int32.ofInt 0 else x5 &&& (((Int32.ofInt 1) <<< ((nI k) &&& 31)) ^^^ (Int32.ofInt (-1))))))
theorem d_234_281_g0 (x3 : Int32) (n4 : Nat) (x5 : Int32) : ∀ (m k : Nat) (s : dS) (h : am_H), k + m = dP C → (ex_P h) → (cI C) → (tR C h) → (∀ e, e < dE C → h.1 172 e = dW V e) → (sR 0 (dP C) s h) → (fR h0 h) → (h.1 154 28 = gg) → (∀ h1, (ex_P h1) → (cI C) → (tR C h1) → (∀ e, e < dE C → h1.1 172 e = dW V e) → (sR 0 (dP C) (d_234_281 C x5 m k s) h1) → (fR h0 h1) → (h1.1 154 28 = gg) → pz_S 8 (some .int) am_r234 4 Q 335 [(0, .ref 154), (1, .int (Int32.ofInt 0)), (2, .int w), (3, .int x3), (4, .int (nI n4))] [] h1) → pz_S 8 (some .int) am_r234 4 Q 281 [(0, .ref 154), (1, .int (Int32.ofInt 0)), (2, .int w), (3, .int x3), (4, .int (nI n4)), (5, .int x5), (7, .int (nI k))] [] h := by
  intro m
  induction m with
  | zero =>
    intro k s h hk hP hI hT hO hS hX hG hZ
    have h6 := hT.1.2.1
    have h5 := hT.2.1.2.1
    refine am_goX 3 (show am_rc h 154 11 ∧ 1 ≤ 8 ∧ h.2.2.2.2 + am_al 186 ≤ 175 ∧ am_call am_cod 4 186 [.ref 154] h (fun vv h' => pz_S 8 (some .int) am_r234 4 Q 287 [(0, .ref 154), (1, .int (Int32.ofInt 0)), (2, .int w), (3, .int x3), (4, .int (nI n4)), (5, .int x5), (7, .int (nI k))] (vv.toList ++ [.int (nI k)]) h') from ⟨Or.inl ⟨by decide, ex_154 hP⟩, by decide, ex_lim hP rfl, am_call.up (d_186_r hP hT ?_) (by decide)⟩)
    refine am_goX 1 (show ((nI (dP C)) ≤ (nI k) → pz_S 8 (some .int) am_r234 4 Q 335 [(0, .ref 154), (1, .int (Int32.ofInt 0)), (2, .int w), (3, .int x3), (4, .int (nI n4)), (5, .int x5), (7, .int (nI k))] [] h) ∧ (¬ ((nI (dP C)) ≤ (nI k)) → pz_S 8 (some .int) am_r234 4 Q 290 [(0, .ref 154), (1, .int (Int32.ofInt 0)), (2, .int w), (3, .int x3), (4, .int (nI n4)), (5, .int x5), (7, .int (nI k))] [] h) from ⟨fun _ => ?_, fun hz => absurd (show nI (dP C) ≤ nI k from nI_le (by omega) (by omega)) hz⟩)
    exact sv_S2 sv2_234 (by intro q hq; simp only [List.mem_cons, List.not_mem_nil, or_false] at hq; rcases hq with rfl | rfl | rfl | rfl | rfl <;> rfl) (hZ _ hP hI hT hO hS hX hG)
  | succ m ih =>
    intro k s h hk hP hI hT hO hS hX hG hZ
    have h6 := hT.1.2.1
    have h5 := hT.2.1.2.1
    refine am_goX 3 (show am_rc h 154 11 ∧ 1 ≤ 8 ∧ h.2.2.2.2 + am_al 186 ≤ 175 ∧ am_call am_cod 4 186 [.ref 154] h (fun vv h' => pz_S 8 (some .int) am_r234 4 Q 287 [(0, .ref 154), (1, .int (Int32.ofInt 0)), (2, .int w), (3, .int x3), (4, .int (nI n4)), (5, .int x5), (7, .int (nI k))] (vv.toList ++ [.int (nI k)]) h') from ⟨Or.inl ⟨by decide, ex_154 hP⟩, by decide, ex_lim hP rfl, am_call.up (d_186_r hP hT ?_) (by decide)⟩)
    refine am_goX 1 (show ((nI (dP C)) ≤ (nI k) → pz_S 8 (some .int) am_r234 4 Q 335 [(0, .ref 154), (1, .int (Int32.ofInt 0)), (2, .int w), (3, .int x3), (4, .int (nI n4)), (5, .int x5), (7, .int (nI k))] [] h) ∧ (¬ ((nI (dP C)) ≤ (nI k)) → pz_S 8 (some .int) am_r234 4 Q 290 [(0, .ref 154), (1, .int (Int32.ofInt 0)), (2, .int w), (3, .int x3), (4, .int (nI n4)), (5, .int x5), (7, .int (nI k))] [] h) from ⟨fun hz => absurd hz (show ¬ (nI (dP C) ≤ nI k) by rw [nI_leI (by omega) (by omega)]; omega), fun _ => ?_⟩)
    refine am_goX 2 (show am_sh h 154 = some (11, 0) ∧ pz_S 8 (some .int) am_r234 4 Q 294 [(0, .ref 154), (1, .int (Int32.ofInt 0)), (2, .int w), (3, .int x3), (4, .int (nI n4)), (5, .int x5), (7, .int (nI k))] [am_rf (h.2.2.1 154 24)] h from ⟨ex_154 hP, ?_⟩)
    rw [show am_rf (h.2.2.1 154 24) = .ref 170 from congrArg am_rf (ex_r154_24 hP)]
    refine am_goX 7 (show (Value.int (((Int32.ofInt 0) + ((Int8.ofInt 8).toInt32)) + (nI k))).category = 1 ∧ (Value.ref 170).category = 1 ∧ ∃ jj nn : Nat, am_sh h 170 = some (13, nn) ∧ jj < nn ∧ ((Int32.ofInt 0) + ((Int8.ofInt 8).toInt32)) + (nI k) = nI jj ∧ pz_S 8 (some .int) am_r234 4 Q 303 [(0, .ref 154), (1, .int (Int32.ofInt 0)), (2, .int w), (3, .int x3), (4, .int (nI n4)), (5, .int x5), (7, .int (nI k))] [.int (h.1 170 jj), .int (((Int32.ofInt 0) + ((Int8.ofInt 8).toInt32)) + (nI k)), .ref 170] h from ⟨rfl, rfl, ⟨(8 + k), 1127, ex_170 hP, (by omega), (dn_a (dn_a rfl (show (Int8.ofInt 8).toInt32 = nI 8 by decide)) rfl), ?_⟩⟩)
    rw [show h.1 170 (8 + k) = s.2.2.2.1 k from (by rw [show (8 + k) = 0 + 8 + k by omega]; exact hS.2.2.1 k (by omega))]
    suffices key : ∀ (v195 : Int32), v195 = (if ¬ ((x5 >>> ((nI k) &&& 31)) &&& (Int32.ofInt 1)) = (Int32.ofInt 1) then Int32.ofInt 0 else x5 &&& (((Int32.ofInt 1) <<< ((nI k) &&& 31)) ^^^ (Int32.ofInt (-1)))) → pz_S 8 (some .int) am_r234 4 Q 327 [(0, .ref 154), (1, .int (Int32.ofInt 0)), (2, .int w), (3, .int x3), (4, .int (nI n4)), (5, .int x5), (7, .int (nI k))] [.int v195, .int (s.2.2.2.1 k), .int (((Int32.ofInt 0) + ((Int8.ofInt 8).toInt32)) + (nI k)), .ref 170] h by
      refine am_goX 7 (show (¬ ((x5 >>> ((nI k) &&& 31)) &&& (Int32.ofInt 1)) = (Int32.ofInt 1) → pz_S 8 (some .int) am_r234 4 Q 326 [(0, .ref 154), (1, .int (Int32.ofInt 0)), (2, .int w), (3, .int x3), (4, .int (nI n4)), (5, .int x5), (7, .int (nI k))] [.int (s.2.2.2.1 k), .int (((Int32.ofInt 0) + ((Int8.ofInt 8).toInt32)) + (nI k)), .ref 170] h) ∧ (¬ ¬ ((x5 >>> ((nI k) &&& 31)) &&& (Int32.ofInt 1)) = (Int32.ofInt 1) → pz_S 8 (some .int) am_r234 4 Q 314 [(0, .ref 154), (1, .int (Int32.ofInt 0)), (2, .int w), (3, .int x3), (4, .int (nI n4)), (5, .int x5), (7, .int (nI k))] [.int (s.2.2.2.1 k), .int (((Int32.ofInt 0) + ((Int8.ofInt 8).toInt32)) + (nI k)), .ref 170] h) from ⟨fun c194 => ?_, fun c194 => ?_⟩)
      · refine am_goX 1 (show pz_S 8 (some .int) am_r234 4 Q 327 [(0, .ref 154), (1, .int (Int32.ofInt 0)), (2, .int w), (3, .int x3), (4, .int (nI n4)), (5, .int x5), (7, .int (nI k))] [.int (Int32.ofInt 0), .int (s.2.2.2.1 k), .int (((Int32.ofInt 0) + ((Int8.ofInt 8).toInt32)) + (nI k)), .ref 170] h from ?_)
        exact sv_S2 sv2_234 (by intro q hq; simp only [List.mem_cons, List.not_mem_nil, or_false] at hq; rcases hq with rfl | rfl | rfl | rfl | rfl | rfl | rfl <;> rfl) (key _ (if_pos c194).symm)
      · refine am_goX 8 (show pz_S 8 (some .int) am_r234 4 Q 327 [(0, .ref 154), (1, .int (Int32.ofInt 0)), (2, .int w), (3, .int x3), (4, .int (nI n4)), (5, .int x5), (7, .int (nI k))] [.int (x5 &&& (((Int32.ofInt 1) <<< ((nI k) &&& 31)) ^^^ (Int32.ofInt (-1)))), .int (s.2.2.2.1 k), .int (((Int32.ofInt 0) + ((Int8.ofInt 8).toInt32)) + (nI k)), .ref 170] h from ?_)
        exact sv_S2 sv2_234 (by intro q hq; simp only [List.mem_cons, List.not_mem_nil, or_false] at hq; rcases hq with rfl | rfl | rfl | rfl | rfl | rfl | rfl <;> rfl) (key _ (if_neg c194).symm)
    intro v195 e196
    subst e196
    refine am_goX 2 (show ∃ jj nn : Nat, am_so h 170 = some (13, nn) ∧ jj < nn ∧ ((Int32.ofInt 0) + ((Int8.ofInt 8).toInt32)) + (nI k) = nI jj ∧ pz_S 8 (some .int) am_r234 4 Q 329 [(0, .ref 154), (1, .int (Int32.ofInt 0)), (2, .int w), (3, .int x3), (4, .int (nI n4)), (5, .int x5), (7, .int (nI k))] [] (am_wI h 170 jj ((s.2.2.2.1 k) ||| (if ¬ ((x5 >>> ((nI k) &&& 31)) &&& (Int32.ofInt 1)) = (Int32.ofInt 1) then Int32.ofInt 0 else x5 &&& (((Int32.ofInt 1) <<< ((nI k) &&& 31)) ^^^ (Int32.ofInt (-1)))))) from ⟨(8 + k), 1127, ex_w170 hP, (by omega), (dn_a (dn_a rfl (show (Int8.ofInt 8).toInt32 = nI 8 by decide)) rfl), ?_⟩)
    have f198 : ex_P (am_wI h 170 (8 + k) ((s.2.2.2.1 k) ||| (if ¬ ((x5 >>> ((nI k) &&& 31)) &&& (Int32.ofInt 1)) = (Int32.ofInt 1) then Int32.ofInt 0 else x5 &&& (((Int32.ofInt 1) <<< ((nI k) &&& 31)) ^^^ (Int32.ofInt (-1)))))) := hP
    have f199 : cI C := hI
    have f200 : tR C (am_wI h 170 (8 + k) ((s.2.2.2.1 k) ||| (if ¬ ((x5 >>> ((nI k) &&& 31)) &&& (Int32.ofInt 1)) = (Int32.ofInt 1) then Int32.ofInt 0 else x5 &&& (((Int32.ofInt 1) <<< ((nI k) &&& 31)) ^^^ (Int32.ofInt (-1)))))) := tR_w (by omega) hT
    have f201 : ∀ e, e < dE C → (am_wI h 170 (8 + k) ((s.2.2.2.1 k) ||| (if ¬ ((x5 >>> ((nI k) &&& 31)) &&& (Int32.ofInt 1)) = (Int32.ofInt 1) then Int32.ofInt 0 else x5 &&& (((Int32.ofInt 1) <<< ((nI k) &&& 31)) ^^^ (Int32.ofInt (-1)))))).1 172 e = dW V e := on_w (by omega) hO
    have f202 : sR 0 (dP C) (sSM s k ((s.2.2.2.1 k) ||| (if ¬ ((x5 >>> ((nI k) &&& 31)) &&& (Int32.ofInt 1)) = (Int32.ofInt 1) then Int32.ofInt 0 else x5 &&& (((Int32.ofInt 1) <<< ((nI k) &&& 31)) ^^^ (Int32.ofInt (-1)))))) (am_wI h 170 (8 + k) ((s.2.2.2.1 k) ||| (if ¬ ((x5 >>> ((nI k) &&& 31)) &&& (Int32.ofInt 1)) = (Int32.ofInt 1) then Int32.ofInt 0 else x5 &&& (((Int32.ofInt 1) <<< ((nI k) &&& 31)) ^^^ (Int32.ofInt (-1)))))) := sR_wM (i := k) (by omega) (by omega) hS
    have f203 : fR h0 (am_wI h 170 (8 + k) ((s.2.2.2.1 k) ||| (if ¬ ((x5 >>> ((nI k) &&& 31)) &&& (Int32.ofInt 1)) = (Int32.ofInt 1) then Int32.ofInt 0 else x5 &&& (((Int32.ofInt 1) <<< ((nI k) &&& 31)) ^^^ (Int32.ofInt (-1)))))) := fR_w (by omega) hX
    have f204 : (am_wI h 170 (8 + k) ((s.2.2.2.1 k) ||| (if ¬ ((x5 >>> ((nI k) &&& 31)) &&& (Int32.ofInt 1)) = (Int32.ofInt 1) then Int32.ofInt 0 else x5 &&& (((Int32.ofInt 1) <<< ((nI k) &&& 31)) ^^^ (Int32.ofInt (-1)))))).1 154 28 = gg := (em_wn _ _ (by omega)).trans hG
    generalize am_wI h 170 (8 + k) ((s.2.2.2.1 k) ||| (if ¬ ((x5 >>> ((nI k) &&& 31)) &&& (Int32.ofInt 1)) = (Int32.ofInt 1) then Int32.ofInt 0 else x5 &&& (((Int32.ofInt 1) <<< ((nI k) &&& 31)) ^^^ (Int32.ofInt (-1))))) = h197 at f198 f199 f200 f201 f202 f203 f204 ⊢
    refine am_goX 2 (show 7 < 8 ∧ pz_S 8 (some .int) am_r234 4 Q 281 [(7, .int ((nI k) + (Int32.ofInt 1))), (0, .ref 154), (1, .int (Int32.ofInt 0)), (2, .int w), (3, .int x3), (4, .int (nI n4)), (5, .int x5)] [] h197 from ⟨by decide, ?_⟩)
    rw [show (nI k) + (Int32.ofInt 1) = nI (k + 1) from (dn_a rfl rfl)]
    exact sv_S2 sv2_234 (by intro q hq; simp only [List.mem_cons, List.not_mem_nil, or_false] at hq; rcases hq with rfl | rfl | rfl | rfl | rfl | rfl | rfl <;> rfl) (ih (k + 1) (sSM s k ((s.2.2.2.1 k) ||| (if ¬ ((x5 >>> ((nI k) &&& 31)) &&& (Int32.ofInt 1)) = (Int32.ofInt 1) then Int32.ofInt 0 else x5 &&& (((Int32.ofInt 1) <<< ((nI k) &&& 31)) ^^^ (Int32.ofInt (-1)))))) _ (by omega) f198 f199 f200 f201 f202 f203 f204 hZ)
def d_234_132 (C V : sp_C) (gg w : Int32) : Nat → Nat → Int32 → dS → Int32 × dS
  | 0, _, a3, s => (a3, s)
  | m + 1, k, a3, s => d_234_132 C V gg w m (k + 1) (a3 ||| (if (if (d_235 (d_234_147 C V s gg w k (dP C) 0 (Int32.ofInt 0))) < (dN C k) then Int32.ofInt 0 else Int32.ofInt 1) = 0 then Int32.ofInt 0 else (Int32.ofInt 1) <<< ((nI k) &&& 31))) (d_234_281 C (d_234_147 C V s gg w k (dP C) 0 (Int32.ofInt 0)) (dP C) 0 (sSH (sSA s k (d_234_147 C V s gg w k (dP C) 0 (Int32.ofInt 0))) k (((sSA s k (d_234_147 C V s gg w k (dP C) 0 (Int32.ofInt 0))).2.2.2.2.1 k) + (if (if (d_235 (d_234_147 C V s gg w k (dP C) 0 (Int32.ofInt 0))) < (dN C k) then Int32.ofInt 0 else Int32.ofInt 1) = 0 then Int32.ofInt 0 else Int32.ofInt 1))))
theorem d_234_132_g0 : ∀ (m k : Nat) (a3 : Int32) (s : dS) (h : am_H), k + m = dE C → (ex_P h) → (cI C) → (tR C h) → (∀ e, e < dE C → h.1 172 e = dW V e) → (sR 0 (dP C) s h) → (fR h0 h) → (h.1 154 28 = gg) → (∀ h1, (ex_P h1) → (cI C) → (tR C h1) → (∀ e, e < dE C → h1.1 172 e = dW V e) → (sR 0 (dP C) ((d_234_132 C V gg w m k a3 s).2) h1) → (fR h0 h1) → (h1.1 154 28 = gg) → pz_S 8 (some .int) am_r234 4 Q 341 [(3, .int ((d_234_132 C V gg w m k a3 s).1))] [] h1) → pz_S 8 (some .int) am_r234 4 Q 132 [(0, .ref 154), (1, .int (Int32.ofInt 0)), (2, .int w), (3, .int a3), (4, .int (nI k))] [] h := by
  intro m
  induction m with
  | zero =>
    intro k a3 s h hk hP hI hT hO hS hX hG hZ
    have h6 := hT.1.2.1
    have h5 := hT.2.1.2.1
    refine am_goX 3 (show am_rc h 154 11 ∧ 1 ≤ 8 ∧ h.2.2.2.2 + am_al 183 ≤ 175 ∧ am_call am_cod 4 183 [.ref 154] h (fun vv h' => pz_S 8 (some .int) am_r234 4 Q 138 [(0, .ref 154), (1, .int (Int32.ofInt 0)), (2, .int w), (3, .int a3), (4, .int (nI k))] (vv.toList ++ [.int (nI k)]) h') from ⟨Or.inl ⟨by decide, ex_154 hP⟩, by decide, ex_lim hP rfl, am_call.up (d_183_r hP hT ?_) (by decide)⟩)
    refine am_goX 1 (show ((nI (dE C)) ≤ (nI k) → pz_S 8 (some .int) am_r234 4 Q 341 [(0, .ref 154), (1, .int (Int32.ofInt 0)), (2, .int w), (3, .int a3), (4, .int (nI k))] [] h) ∧ (¬ ((nI (dE C)) ≤ (nI k)) → pz_S 8 (some .int) am_r234 4 Q 141 [(0, .ref 154), (1, .int (Int32.ofInt 0)), (2, .int w), (3, .int a3), (4, .int (nI k))] [] h) from ⟨fun _ => ?_, fun hz => absurd (show nI (dE C) ≤ nI k from nI_le (by omega) (by omega)) hz⟩)
    exact sv_S2 sv2_234 (by intro q hq; simp only [List.mem_cons, List.not_mem_nil, or_false] at hq; rcases hq with rfl <;> rfl) (hZ _ hP hI hT hO hS hX hG)
  | succ m ih =>
    intro k a3 s h hk hP hI hT hO hS hX hG hZ
    have h6 := hT.1.2.1
    have h5 := hT.2.1.2.1
    refine am_goX 3 (show am_rc h 154 11 ∧ 1 ≤ 8 ∧ h.2.2.2.2 + am_al 183 ≤ 175 ∧ am_call am_cod 4 183 [.ref 154] h (fun vv h' => pz_S 8 (some .int) am_r234 4 Q 138 [(0, .ref 154), (1, .int (Int32.ofInt 0)), (2, .int w), (3, .int a3), (4, .int (nI k))] (vv.toList ++ [.int (nI k)]) h') from ⟨Or.inl ⟨by decide, ex_154 hP⟩, by decide, ex_lim hP rfl, am_call.up (d_183_r hP hT ?_) (by decide)⟩)
    refine am_goX 1 (show ((nI (dE C)) ≤ (nI k) → pz_S 8 (some .int) am_r234 4 Q 341 [(0, .ref 154), (1, .int (Int32.ofInt 0)), (2, .int w), (3, .int a3), (4, .int (nI k))] [] h) ∧ (¬ ((nI (dE C)) ≤ (nI k)) → pz_S 8 (some .int) am_r234 4 Q 141 [(0, .ref 154), (1, .int (Int32.ofInt 0)), (2, .int w), (3, .int a3), (4, .int (nI k))] [] h) from ⟨fun hz => absurd hz (show ¬ (nI (dE C) ≤ nI k) by rw [nI_leI (by omega) (by omega)]; omega), fun _ => ?_⟩)
    refine am_goX 4 (show 5 < 8 ∧ 6 < 8 ∧ pz_S 8 (some .int) am_r234 4 Q 147 [(6, .int (Int32.ofInt 0)), (5, .int (Int32.ofInt 0)), (0, .ref 154), (1, .int (Int32.ofInt 0)), (2, .int w), (3, .int a3), (4, .int (nI k))] [] h from ⟨by decide, by decide, ?_⟩)
    refine sv_S2 sv2_234 (by intro q hq; simp only [List.mem_cons, List.not_mem_nil, or_false] at hq; rcases hq with rfl | rfl | rfl | rfl | rfl | rfl | rfl <;> rfl) (d_234_147_g0 a3 k hP hI hT hO hS hX hG (by omega) (dP C) 0 (Int32.ofInt 0) (by omega) ?_)
    refine am_goX 2 (show am_sh h 154 = some (11, 0) ∧ pz_S 8 (some .int) am_r234 4 Q 205 [(0, .ref 154), (1, .int (Int32.ofInt 0)), (2, .int w), (3, .int a3), (4, .int (nI k)), (5, .int (d_234_147 C V s gg w k (dP C) 0 (Int32.ofInt 0)))] [am_rf (h.2.2.1 154 24)] h from ⟨ex_154 hP, ?_⟩)
    rw [show am_rf (h.2.2.1 154 24) = .ref 170 from congrArg am_rf (ex_r154_24 hP)]
    refine am_goX 7 (show ∃ jj nn : Nat, am_so h 170 = some (13, nn) ∧ jj < nn ∧ ((Int32.ofInt 0) + ((Int8.ofInt 19).toInt32)) + (nI k) = nI jj ∧ pz_S 8 (some .int) am_r234 4 Q 215 [(0, .ref 154), (1, .int (Int32.ofInt 0)), (2, .int w), (3, .int a3), (4, .int (nI k)), (5, .int (d_234_147 C V s gg w k (dP C) 0 (Int32.ofInt 0)))] [] (am_wI h 170 jj (d_234_147 C V s gg w k (dP C) 0 (Int32.ofInt 0))) from ⟨(19 + k), 1127, ex_w170 hP, (by omega), (dn_a (dn_a rfl (show (Int8.ofInt 19).toInt32 = nI 19 by decide)) rfl), ?_⟩)
    have f164 : ex_P (am_wI h 170 (19 + k) (d_234_147 C V s gg w k (dP C) 0 (Int32.ofInt 0))) := hP
    have f165 : cI C := hI
    have f166 : tR C (am_wI h 170 (19 + k) (d_234_147 C V s gg w k (dP C) 0 (Int32.ofInt 0))) := tR_w (by omega) hT
    have f167 : ∀ e, e < dE C → (am_wI h 170 (19 + k) (d_234_147 C V s gg w k (dP C) 0 (Int32.ofInt 0))).1 172 e = dW V e := on_w (by omega) hO
    have f168 : sR 0 (dP C) (sSA s k (d_234_147 C V s gg w k (dP C) 0 (Int32.ofInt 0))) (am_wI h 170 (19 + k) (d_234_147 C V s gg w k (dP C) 0 (Int32.ofInt 0))) := sR_wA (i := k) (by omega) (by omega) hS
    have f169 : fR h0 (am_wI h 170 (19 + k) (d_234_147 C V s gg w k (dP C) 0 (Int32.ofInt 0))) := fR_w (by omega) hX
    have f170 : (am_wI h 170 (19 + k) (d_234_147 C V s gg w k (dP C) 0 (Int32.ofInt 0))).1 154 28 = gg := (em_wn _ _ (by omega)).trans hG
    generalize am_wI h 170 (19 + k) (d_234_147 C V s gg w k (dP C) 0 (Int32.ofInt 0)) = h163 at f164 f165 f166 f167 f168 f169 f170 ⊢
    refine am_goX 2 (show 0 ≤ 8 ∧ h163.2.2.2.2 + am_al 235 ≤ 175 ∧ am_call am_cod 4 235 [.int (d_234_147 C V s gg w k (dP C) 0 (Int32.ofInt 0))] h163 (fun vv h' => pz_S 8 (some .int) am_r234 4 Q 220 [(0, .ref 154), (1, .int (Int32.ofInt 0)), (2, .int w), (3, .int a3), (4, .int (nI k)), (5, .int (d_234_147 C V s gg w k (dP C) 0 (Int32.ofInt 0)))] (vv.toList ++ []) h') from ⟨by decide, ex_lim f164 rfl, am_call.up (d_235_w f164 ?_) (by decide)⟩)
    refine am_goX 4 (show am_rc h163 154 11 ∧ 1 ≤ 8 ∧ h163.2.2.2.2 + am_al 184 ≤ 175 ∧ am_call am_cod 4 184 [.ref 154, .int (nI k), .int (Int32.ofInt 1)] h163 (fun vv h' => pz_S 8 (some .int) am_r234 4 Q 227 [(0, .ref 154), (1, .int (Int32.ofInt 0)), (2, .int w), (3, .int a3), (4, .int (nI k)), (5, .int (d_234_147 C V s gg w k (dP C) 0 (Int32.ofInt 0)))] (vv.toList ++ [.int (d_235 (d_234_147 C V s gg w k (dP C) 0 (Int32.ofInt 0)))]) h') from ⟨Or.inl ⟨by decide, ex_154 f164⟩, by decide, ex_lim f164 rfl, am_call.up (d_184_r1 f164 f166 (by omega) ?_) (by decide)⟩)
    suffices key : ∀ (v172 : Int32), v172 = (if (d_235 (d_234_147 C V s gg w k (dP C) 0 (Int32.ofInt 0))) < (dN C k) then Int32.ofInt 0 else Int32.ofInt 1) → pz_S 8 (some .int) am_r234 4 Q 235 [(0, .ref 154), (1, .int (Int32.ofInt 0)), (2, .int w), (3, .int a3), (4, .int (nI k)), (5, .int (d_234_147 C V s gg w k (dP C) 0 (Int32.ofInt 0)))] [.int v172] h163 by
      refine am_goX 1 (show ((d_235 (d_234_147 C V s gg w k (dP C) 0 (Int32.ofInt 0))) < (dN C k) → pz_S 8 (some .int) am_r234 4 Q 234 [(0, .ref 154), (1, .int (Int32.ofInt 0)), (2, .int w), (3, .int a3), (4, .int (nI k)), (5, .int (d_234_147 C V s gg w k (dP C) 0 (Int32.ofInt 0)))] [] h163) ∧ (¬ ((d_235 (d_234_147 C V s gg w k (dP C) 0 (Int32.ofInt 0))) < (dN C k)) → pz_S 8 (some .int) am_r234 4 Q 230 [(0, .ref 154), (1, .int (Int32.ofInt 0)), (2, .int w), (3, .int a3), (4, .int (nI k)), (5, .int (d_234_147 C V s gg w k (dP C) 0 (Int32.ofInt 0)))] [] h163) from ⟨fun c171 => ?_, fun c171 => ?_⟩)
      · refine am_goX 1 (show pz_S 8 (some .int) am_r234 4 Q 235 [(0, .ref 154), (1, .int (Int32.ofInt 0)), (2, .int w), (3, .int a3), (4, .int (nI k)), (5, .int (d_234_147 C V s gg w k (dP C) 0 (Int32.ofInt 0)))] [.int (Int32.ofInt 0)] h163 from ?_)
        exact sv_S2 sv2_234 (by intro q hq; simp only [List.mem_cons, List.not_mem_nil, or_false] at hq; rcases hq with rfl | rfl | rfl | rfl | rfl | rfl <;> rfl) (key _ (if_pos c171).symm)
      · refine am_goX 2 (show pz_S 8 (some .int) am_r234 4 Q 235 [(0, .ref 154), (1, .int (Int32.ofInt 0)), (2, .int w), (3, .int a3), (4, .int (nI k)), (5, .int (d_234_147 C V s gg w k (dP C) 0 (Int32.ofInt 0)))] [.int (Int32.ofInt 1)] h163 from ?_)
        exact sv_S2 sv2_234 (by intro q hq; simp only [List.mem_cons, List.not_mem_nil, or_false] at hq; rcases hq with rfl | rfl | rfl | rfl | rfl | rfl <;> rfl) (key _ (if_neg c171).symm)
    intro v172 e173
    subst e173
    refine am_goX 3 (show 6 < 8 ∧ am_sh h163 154 = some (11, 0) ∧ pz_S 8 (some .int) am_r234 4 Q 241 [(6, .int (if (d_235 (d_234_147 C V s gg w k (dP C) 0 (Int32.ofInt 0))) < (dN C k) then Int32.ofInt 0 else Int32.ofInt 1)), (0, .ref 154), (1, .int (Int32.ofInt 0)), (2, .int w), (3, .int a3), (4, .int (nI k)), (5, .int (d_234_147 C V s gg w k (dP C) 0 (Int32.ofInt 0)))] [am_rf (h163.2.2.1 154 24)] h163 from ⟨by decide, ex_154 f164, ?_⟩)
    rw [show am_rf (h163.2.2.1 154 24) = .ref 170 from congrArg am_rf (ex_r154_24 f164)]
    refine am_goX 7 (show (Value.int (((Int32.ofInt 0) + ((Int8.ofInt 14).toInt32)) + (nI k))).category = 1 ∧ (Value.ref 170).category = 1 ∧ ∃ jj nn : Nat, am_sh h163 170 = some (13, nn) ∧ jj < nn ∧ ((Int32.ofInt 0) + ((Int8.ofInt 14).toInt32)) + (nI k) = nI jj ∧ pz_S 8 (some .int) am_r234 4 Q 250 [(6, .int (if (d_235 (d_234_147 C V s gg w k (dP C) 0 (Int32.ofInt 0))) < (dN C k) then Int32.ofInt 0 else Int32.ofInt 1)), (0, .ref 154), (1, .int (Int32.ofInt 0)), (2, .int w), (3, .int a3), (4, .int (nI k)), (5, .int (d_234_147 C V s gg w k (dP C) 0 (Int32.ofInt 0)))] [.int (h163.1 170 jj), .int (((Int32.ofInt 0) + ((Int8.ofInt 14).toInt32)) + (nI k)), .ref 170] h163 from ⟨rfl, rfl, ⟨(14 + k), 1127, ex_170 f164, (by omega), (dn_a (dn_a rfl (show (Int8.ofInt 14).toInt32 = nI 14 by decide)) rfl), ?_⟩⟩)
    rw [show h163.1 170 (14 + k) = (sSA s k (d_234_147 C V s gg w k (dP C) 0 (Int32.ofInt 0))).2.2.2.2.1 k from (by rw [show (14 + k) = 0 + 14 + k by omega]; exact (f168.2.2.2 k (by omega)).1)]
    suffices key : ∀ (v175 : Int32), v175 = (if (if (d_235 (d_234_147 C V s gg w k (dP C) 0 (Int32.ofInt 0))) < (dN C k) then Int32.ofInt 0 else Int32.ofInt 1) = 0 then Int32.ofInt 0 else Int32.ofInt 1) → pz_S 8 (some .int) am_r234 4 Q 260 [(0, .ref 154), (1, .int (Int32.ofInt 0)), (2, .int w), (3, .int a3), (4, .int (nI k)), (5, .int (d_234_147 C V s gg w k (dP C) 0 (Int32.ofInt 0))), (6, .int (if (d_235 (d_234_147 C V s gg w k (dP C) 0 (Int32.ofInt 0))) < (dN C k) then Int32.ofInt 0 else Int32.ofInt 1))] [.int v175, .int ((sSA s k (d_234_147 C V s gg w k (dP C) 0 (Int32.ofInt 0))).2.2.2.2.1 k), .int (((Int32.ofInt 0) + ((Int8.ofInt 14).toInt32)) + (nI k)), .ref 170] h163 by
      refine am_goX 2 (show ((if (d_235 (d_234_147 C V s gg w k (dP C) 0 (Int32.ofInt 0))) < (dN C k) then Int32.ofInt 0 else Int32.ofInt 1) = 0 → pz_S 8 (some .int) am_r234 4 Q 259 [(6, .int (if (d_235 (d_234_147 C V s gg w k (dP C) 0 (Int32.ofInt 0))) < (dN C k) then Int32.ofInt 0 else Int32.ofInt 1)), (0, .ref 154), (1, .int (Int32.ofInt 0)), (2, .int w), (3, .int a3), (4, .int (nI k)), (5, .int (d_234_147 C V s gg w k (dP C) 0 (Int32.ofInt 0)))] [.int ((sSA s k (d_234_147 C V s gg w k (dP C) 0 (Int32.ofInt 0))).2.2.2.2.1 k), .int (((Int32.ofInt 0) + ((Int8.ofInt 14).toInt32)) + (nI k)), .ref 170] h163) ∧ (¬ ((if (d_235 (d_234_147 C V s gg w k (dP C) 0 (Int32.ofInt 0))) < (dN C k) then Int32.ofInt 0 else Int32.ofInt 1) = 0) → pz_S 8 (some .int) am_r234 4 Q 255 [(6, .int (if (d_235 (d_234_147 C V s gg w k (dP C) 0 (Int32.ofInt 0))) < (dN C k) then Int32.ofInt 0 else Int32.ofInt 1)), (0, .ref 154), (1, .int (Int32.ofInt 0)), (2, .int w), (3, .int a3), (4, .int (nI k)), (5, .int (d_234_147 C V s gg w k (dP C) 0 (Int32.ofInt 0)))] [.int ((sSA s k (d_234_147 C V s gg w k (dP C) 0 (Int32.ofInt 0))).2.2.2.2.1 k), .int (((Int32.ofInt 0) + ((Int8.ofInt 14).toInt32)) + (nI k)), .ref 170] h163) from ⟨fun c174 => ?_, fun c174 => ?_⟩)
      · refine am_goX 1 (show pz_S 8 (some .int) am_r234 4 Q 260 [(6, .int (if (d_235 (d_234_147 C V s gg w k (dP C) 0 (Int32.ofInt 0))) < (dN C k) then Int32.ofInt 0 else Int32.ofInt 1)), (0, .ref 154), (1, .int (Int32.ofInt 0)), (2, .int w), (3, .int a3), (4, .int (nI k)), (5, .int (d_234_147 C V s gg w k (dP C) 0 (Int32.ofInt 0)))] [.int (Int32.ofInt 0), .int ((sSA s k (d_234_147 C V s gg w k (dP C) 0 (Int32.ofInt 0))).2.2.2.2.1 k), .int (((Int32.ofInt 0) + ((Int8.ofInt 14).toInt32)) + (nI k)), .ref 170] h163 from ?_)
        exact sv_S2 sv2_234 (by intro q hq; simp only [List.mem_cons, List.not_mem_nil, or_false] at hq; rcases hq with rfl | rfl | rfl | rfl | rfl | rfl | rfl <;> rfl) (key _ (if_pos c174).symm)
      · refine am_goX 2 (show pz_S 8 (some .int) am_r234 4 Q 260 [(6, .int (if (d_235 (d_234_147 C V s gg w k (dP C) 0 (Int32.ofInt 0))) < (dN C k) then Int32.ofInt 0 else Int32.ofInt 1)), (0, .ref 154), (1, .int (Int32.ofInt 0)), (2, .int w), (3, .int a3), (4, .int (nI k)), (5, .int (d_234_147 C V s gg w k (dP C) 0 (Int32.ofInt 0)))] [.int (Int32.ofInt 1), .int ((sSA s k (d_234_147 C V s gg w k (dP C) 0 (Int32.ofInt 0))).2.2.2.2.1 k), .int (((Int32.ofInt 0) + ((Int8.ofInt 14).toInt32)) + (nI k)), .ref 170] h163 from ?_)
        exact sv_S2 sv2_234 (by intro q hq; simp only [List.mem_cons, List.not_mem_nil, or_false] at hq; rcases hq with rfl | rfl | rfl | rfl | rfl | rfl | rfl <;> rfl) (key _ (if_neg c174).symm)
    intro v175 e176
    subst e176
    refine am_goX 2 (show ∃ jj nn : Nat, am_so h163 170 = some (13, nn) ∧ jj < nn ∧ ((Int32.ofInt 0) + ((Int8.ofInt 14).toInt32)) + (nI k) = nI jj ∧ pz_S 8 (some .int) am_r234 4 Q 262 [(0, .ref 154), (1, .int (Int32.ofInt 0)), (2, .int w), (3, .int a3), (4, .int (nI k)), (5, .int (d_234_147 C V s gg w k (dP C) 0 (Int32.ofInt 0))), (6, .int (if (d_235 (d_234_147 C V s gg w k (dP C) 0 (Int32.ofInt 0))) < (dN C k) then Int32.ofInt 0 else Int32.ofInt 1))] [] (am_wI h163 170 jj (((sSA s k (d_234_147 C V s gg w k (dP C) 0 (Int32.ofInt 0))).2.2.2.2.1 k) + (if (if (d_235 (d_234_147 C V s gg w k (dP C) 0 (Int32.ofInt 0))) < (dN C k) then Int32.ofInt 0 else Int32.ofInt 1) = 0 then Int32.ofInt 0 else Int32.ofInt 1))) from ⟨(14 + k), 1127, ex_w170 f164, (by omega), (dn_a (dn_a rfl (show (Int8.ofInt 14).toInt32 = nI 14 by decide)) rfl), ?_⟩)
    have f178 : ex_P (am_wI h163 170 (14 + k) (((sSA s k (d_234_147 C V s gg w k (dP C) 0 (Int32.ofInt 0))).2.2.2.2.1 k) + (if (if (d_235 (d_234_147 C V s gg w k (dP C) 0 (Int32.ofInt 0))) < (dN C k) then Int32.ofInt 0 else Int32.ofInt 1) = 0 then Int32.ofInt 0 else Int32.ofInt 1))) := f164
    have f179 : cI C := f165
    have f180 : tR C (am_wI h163 170 (14 + k) (((sSA s k (d_234_147 C V s gg w k (dP C) 0 (Int32.ofInt 0))).2.2.2.2.1 k) + (if (if (d_235 (d_234_147 C V s gg w k (dP C) 0 (Int32.ofInt 0))) < (dN C k) then Int32.ofInt 0 else Int32.ofInt 1) = 0 then Int32.ofInt 0 else Int32.ofInt 1))) := tR_w (by omega) f166
    have f181 : ∀ e, e < dE C → (am_wI h163 170 (14 + k) (((sSA s k (d_234_147 C V s gg w k (dP C) 0 (Int32.ofInt 0))).2.2.2.2.1 k) + (if (if (d_235 (d_234_147 C V s gg w k (dP C) 0 (Int32.ofInt 0))) < (dN C k) then Int32.ofInt 0 else Int32.ofInt 1) = 0 then Int32.ofInt 0 else Int32.ofInt 1))).1 172 e = dW V e := on_w (by omega) f167
    have f182 : sR 0 (dP C) (sSH (sSA s k (d_234_147 C V s gg w k (dP C) 0 (Int32.ofInt 0))) k (((sSA s k (d_234_147 C V s gg w k (dP C) 0 (Int32.ofInt 0))).2.2.2.2.1 k) + (if (if (d_235 (d_234_147 C V s gg w k (dP C) 0 (Int32.ofInt 0))) < (dN C k) then Int32.ofInt 0 else Int32.ofInt 1) = 0 then Int32.ofInt 0 else Int32.ofInt 1))) (am_wI h163 170 (14 + k) (((sSA s k (d_234_147 C V s gg w k (dP C) 0 (Int32.ofInt 0))).2.2.2.2.1 k) + (if (if (d_235 (d_234_147 C V s gg w k (dP C) 0 (Int32.ofInt 0))) < (dN C k) then Int32.ofInt 0 else Int32.ofInt 1) = 0 then Int32.ofInt 0 else Int32.ofInt 1))) := sR_wH (i := k) (by omega) (by omega) f168
    have f183 : fR h0 (am_wI h163 170 (14 + k) (((sSA s k (d_234_147 C V s gg w k (dP C) 0 (Int32.ofInt 0))).2.2.2.2.1 k) + (if (if (d_235 (d_234_147 C V s gg w k (dP C) 0 (Int32.ofInt 0))) < (dN C k) then Int32.ofInt 0 else Int32.ofInt 1) = 0 then Int32.ofInt 0 else Int32.ofInt 1))) := fR_w (by omega) f169
    have f184 : (am_wI h163 170 (14 + k) (((sSA s k (d_234_147 C V s gg w k (dP C) 0 (Int32.ofInt 0))).2.2.2.2.1 k) + (if (if (d_235 (d_234_147 C V s gg w k (dP C) 0 (Int32.ofInt 0))) < (dN C k) then Int32.ofInt 0 else Int32.ofInt 1) = 0 then Int32.ofInt 0 else Int32.ofInt 1))).1 154 28 = gg := (em_wn _ _ (by omega)).trans f170
    generalize am_wI h163 170 (14 + k) (((sSA s k (d_234_147 C V s gg w k (dP C) 0 (Int32.ofInt 0))).2.2.2.2.1 k) + (if (if (d_235 (d_234_147 C V s gg w k (dP C) 0 (Int32.ofInt 0))) < (dN C k) then Int32.ofInt 0 else Int32.ofInt 1) = 0 then Int32.ofInt 0 else Int32.ofInt 1)) = h177 at f178 f179 f180 f181 f182 f183 f184 ⊢
    suffices key : ∀ (v186 : Int32), v186 = (if (if (d_235 (d_234_147 C V s gg w k (dP C) 0 (Int32.ofInt 0))) < (dN C k) then Int32.ofInt 0 else Int32.ofInt 1) = 0 then Int32.ofInt 0 else (Int32.ofInt 1) <<< ((nI k) &&& 31)) → pz_S 8 (some .int) am_r234 4 Q 276 [(0, .ref 154), (1, .int (Int32.ofInt 0)), (2, .int w), (4, .int (nI k)), (5, .int (d_234_147 C V s gg w k (dP C) 0 (Int32.ofInt 0)))] [.int v186, .int a3] h177 by
      refine am_goX 3 (show ((if (d_235 (d_234_147 C V s gg w k (dP C) 0 (Int32.ofInt 0))) < (dN C k) then Int32.ofInt 0 else Int32.ofInt 1) = 0 → pz_S 8 (some .int) am_r234 4 Q 275 [(0, .ref 154), (1, .int (Int32.ofInt 0)), (2, .int w), (3, .int a3), (4, .int (nI k)), (5, .int (d_234_147 C V s gg w k (dP C) 0 (Int32.ofInt 0))), (6, .int (if (d_235 (d_234_147 C V s gg w k (dP C) 0 (Int32.ofInt 0))) < (dN C k) then Int32.ofInt 0 else Int32.ofInt 1))] [.int a3] h177) ∧ (¬ ((if (d_235 (d_234_147 C V s gg w k (dP C) 0 (Int32.ofInt 0))) < (dN C k) then Int32.ofInt 0 else Int32.ofInt 1) = 0) → pz_S 8 (some .int) am_r234 4 Q 268 [(0, .ref 154), (1, .int (Int32.ofInt 0)), (2, .int w), (3, .int a3), (4, .int (nI k)), (5, .int (d_234_147 C V s gg w k (dP C) 0 (Int32.ofInt 0))), (6, .int (if (d_235 (d_234_147 C V s gg w k (dP C) 0 (Int32.ofInt 0))) < (dN C k) then Int32.ofInt 0 else Int32.ofInt 1))] [.int a3] h177) from ⟨fun c185 => ?_, fun c185 => ?_⟩)
      · refine am_goX 1 (show pz_S 8 (some .int) am_r234 4 Q 276 [(0, .ref 154), (1, .int (Int32.ofInt 0)), (2, .int w), (3, .int a3), (4, .int (nI k)), (5, .int (d_234_147 C V s gg w k (dP C) 0 (Int32.ofInt 0))), (6, .int (if (d_235 (d_234_147 C V s gg w k (dP C) 0 (Int32.ofInt 0))) < (dN C k) then Int32.ofInt 0 else Int32.ofInt 1))] [.int (Int32.ofInt 0), .int a3] h177 from ?_)
        exact sv_S2 sv2_234 (by intro q hq; simp only [List.mem_cons, List.not_mem_nil, or_false] at hq; rcases hq with rfl | rfl | rfl | rfl | rfl <;> rfl) (key _ (if_pos c185).symm)
      · refine am_goX 4 (show pz_S 8 (some .int) am_r234 4 Q 276 [(0, .ref 154), (1, .int (Int32.ofInt 0)), (2, .int w), (3, .int a3), (4, .int (nI k)), (5, .int (d_234_147 C V s gg w k (dP C) 0 (Int32.ofInt 0))), (6, .int (if (d_235 (d_234_147 C V s gg w k (dP C) 0 (Int32.ofInt 0))) < (dN C k) then Int32.ofInt 0 else Int32.ofInt 1))] [.int ((Int32.ofInt 1) <<< ((nI k) &&& 31)), .int a3] h177 from ?_)
        exact sv_S2 sv2_234 (by intro q hq; simp only [List.mem_cons, List.not_mem_nil, or_false] at hq; rcases hq with rfl | rfl | rfl | rfl | rfl <;> rfl) (key _ (if_neg c185).symm)
    intro v186 e187
    subst e187
    refine am_goX 4 (show 3 < 8 ∧ 7 < 8 ∧ pz_S 8 (some .int) am_r234 4 Q 281 [(7, .int (Int32.ofInt 0)), (3, .int (a3 ||| (if (if (d_235 (d_234_147 C V s gg w k (dP C) 0 (Int32.ofInt 0))) < (dN C k) then Int32.ofInt 0 else Int32.ofInt 1) = 0 then Int32.ofInt 0 else (Int32.ofInt 1) <<< ((nI k) &&& 31)))), (0, .ref 154), (1, .int (Int32.ofInt 0)), (2, .int w), (4, .int (nI k)), (5, .int (d_234_147 C V s gg w k (dP C) 0 (Int32.ofInt 0)))] [] h177 from ⟨by decide, by decide, ?_⟩)
    refine sv_S2 sv2_234 (by intro q hq; simp only [List.mem_cons, List.not_mem_nil, or_false] at hq; rcases hq with rfl | rfl | rfl | rfl | rfl | rfl | rfl <;> rfl) (d_234_281_g0 (a3 ||| (if (if (d_235 (d_234_147 C V s gg w k (dP C) 0 (Int32.ofInt 0))) < (dN C k) then Int32.ofInt 0 else Int32.ofInt 1) = 0 then Int32.ofInt 0 else (Int32.ofInt 1) <<< ((nI k) &&& 31))) k (d_234_147 C V s gg w k (dP C) 0 (Int32.ofInt 0)) (dP C) 0 (sSH (sSA s k (d_234_147 C V s gg w k (dP C) 0 (Int32.ofInt 0))) k (((sSA s k (d_234_147 C V s gg w k (dP C) 0 (Int32.ofInt 0))).2.2.2.2.1 k) + (if (if (d_235 (d_234_147 C V s gg w k (dP C) 0 (Int32.ofInt 0))) < (dN C k) then Int32.ofInt 0 else Int32.ofInt 1) = 0 then Int32.ofInt 0 else Int32.ofInt 1))) _ (by omega) f178 f179 f180 f181 f182 f183 f184 (fun h188 f189 f190 f191 f192 f193 f194 f195 => ?_))
    refine am_goX 2 (show 4 < 8 ∧ pz_S 8 (some .int) am_r234 4 Q 132 [(4, .int ((nI k) + (Int32.ofInt 1))), (0, .ref 154), (1, .int (Int32.ofInt 0)), (2, .int w), (3, .int (a3 ||| (if (if (d_235 (d_234_147 C V s gg w k (dP C) 0 (Int32.ofInt 0))) < (dN C k) then Int32.ofInt 0 else Int32.ofInt 1) = 0 then Int32.ofInt 0 else (Int32.ofInt 1) <<< ((nI k) &&& 31))))] [] h188 from ⟨by decide, ?_⟩)
    rw [show (nI k) + (Int32.ofInt 1) = nI (k + 1) from (dn_a rfl rfl)]
    exact sv_S2 sv2_234 (by intro q hq; simp only [List.mem_cons, List.not_mem_nil, or_false] at hq; rcases hq with rfl | rfl | rfl | rfl | rfl <;> rfl) (ih (k + 1) (a3 ||| (if (if (d_235 (d_234_147 C V s gg w k (dP C) 0 (Int32.ofInt 0))) < (dN C k) then Int32.ofInt 0 else Int32.ofInt 1) = 0 then Int32.ofInt 0 else (Int32.ofInt 1) <<< ((nI k) &&& 31))) (d_234_281 C (d_234_147 C V s gg w k (dP C) 0 (Int32.ofInt 0)) (dP C) 0 (sSH (sSA s k (d_234_147 C V s gg w k (dP C) 0 (Int32.ofInt 0))) k (((sSA s k (d_234_147 C V s gg w k (dP C) 0 (Int32.ofInt 0))).2.2.2.2.1 k) + (if (if (d_235 (d_234_147 C V s gg w k (dP C) 0 (Int32.ofInt 0))) < (dN C k) then Int32.ofInt 0 else Int32.ofInt 1) = 0 then Int32.ofInt 0 else Int32.ofInt 1)))) _ (by omega) f189 f190 f191 f192 f193 f194 f195 hZ)
def d_234_s (C V : sp_C) (s : dS) (w : Int32) : dS := (d_234_132 C V ((d_234_19 C w (dP C) 0 (sSD s (s.1 + (Int32.ofInt 1))) (Int32.ofInt 0)).2) w (dE C) 0 (Int32.ofInt 0) ((d_234_19 C w (dP C) 0 (sSD s (s.1 + (Int32.ofInt 1))) (Int32.ofInt 0)).1)).2
def d_234_gg (C V : sp_C) (s : dS) (w : Int32) : Int32 := (d_234_19 C w (dP C) 0 (sSD s (s.1 + (Int32.ofInt 1))) (Int32.ofInt 0)).2
def d_234 (C V : sp_C) (s : dS) (w : Int32) : Int32 := (d_234_132 C V ((d_234_19 C w (dP C) 0 (sSD s (s.1 + (Int32.ofInt 1))) (Int32.ofInt 0)).2) w (dE C) 0 (Int32.ofInt 0) ((d_234_19 C w (dP C) 0 (sSD s (s.1 + (Int32.ofInt 1))) (Int32.ofInt 0)).1)).1
theorem d_234_g0 (hP : ex_P h) (hI : cI C) (hT : tR C h) (hO : ∀ e, e < dE C → h.1 172 e = dW V e) (hS : sR 0 (dP C) s h) (hX : fR h0 h) (hG : h.1 154 28 = gg)  (hQ : ∀ h1, (ex_P h1) → (cI C) → (tR C h1) → (∀ e, e < dE C → h1.1 172 e = dW V e) → (sR 0 (dP C) (d_234_s C V s w) h1) → (fR h0 h1) → (h1.1 154 28 = (d_234_gg C V s w)) → Q (some (.int (d_234 C V s w))) h1) : am_call am_cod 5 234 [.ref 154, .int (Int32.ofInt 0), .int w] h Q := by
  have h6 := hT.1.2.1
  have h5 := hT.2.1.2.1
  refine pz_call (n := 234) (nL := 8) (rt := (some .int)) (rows := am_r234) (d := 4) (by decide +kernel) (by decide +kernel) rfl (by funext pc; rfl) (ex_175 hP) (by exact Nat.le_of_ble_eq_true rfl) ?_
  refine am_goX 2 (show am_sh h 154 = some (11, 0) ∧ pz_S 8 (some .int) am_r234 4 Q 4 [(0, .ref 154), (1, .int (Int32.ofInt 0)), (2, .int w)] [am_rf (h.2.2.1 154 24)] h from ⟨ex_154 hP, ?_⟩)
  rw [show am_rf (h.2.2.1 154 24) = .ref 170 from congrArg am_rf (ex_r154_24 hP)]
  refine am_goX 5 (show (Value.int ((Int32.ofInt 0) + (Int32.ofInt 0))).category = 1 ∧ (Value.ref 170).category = 1 ∧ ∃ jj nn : Nat, am_sh h 170 = some (13, nn) ∧ jj < nn ∧ (Int32.ofInt 0) + (Int32.ofInt 0) = nI jj ∧ pz_S 8 (some .int) am_r234 4 Q 9 [(0, .ref 154), (1, .int (Int32.ofInt 0)), (2, .int w)] [.int (h.1 170 jj), .int ((Int32.ofInt 0) + (Int32.ofInt 0)), .ref 170] h from ⟨rfl, rfl, ⟨0, 1127, ex_170 hP, (by omega), (dn_a rfl rfl), ?_⟩⟩)
  rw [show h.1 170 0 = s.1 from hS.1.1]
  refine am_goX 3 (show ∃ jj nn : Nat, am_so h 170 = some (13, nn) ∧ jj < nn ∧ (Int32.ofInt 0) + (Int32.ofInt 0) = nI jj ∧ pz_S 8 (some .int) am_r234 4 Q 12 [(0, .ref 154), (1, .int (Int32.ofInt 0)), (2, .int w)] [] (am_wI h 170 jj (s.1 + (Int32.ofInt 1))) from ⟨0, 1127, ex_w170 hP, (by omega), (dn_a rfl rfl), ?_⟩)
  have f65 : ex_P (am_wI h 170 0 (s.1 + (Int32.ofInt 1))) := hP
  have f66 : cI C := hI
  have f67 : tR C (am_wI h 170 0 (s.1 + (Int32.ofInt 1))) := tR_w (by omega) hT
  have f68 : ∀ e, e < dE C → (am_wI h 170 0 (s.1 + (Int32.ofInt 1))).1 172 e = dW V e := on_w (by omega) hO
  have f69 : sR 0 (dP C) (sSD s (s.1 + (Int32.ofInt 1))) (am_wI h 170 0 (s.1 + (Int32.ofInt 1))) := sR_wD (by omega) hS
  have f70 : fR h0 (am_wI h 170 0 (s.1 + (Int32.ofInt 1))) := fR_w (by omega) hX
  have f71 : (am_wI h 170 0 (s.1 + (Int32.ofInt 1))).1 154 28 = gg := (em_wn _ _ (by omega)).trans hG
  generalize am_wI h 170 0 (s.1 + (Int32.ofInt 1)) = h64 at f65 f66 f67 f68 f69 f70 f71 ⊢
  refine am_goX 3 (show am_sh h64 154 = some (11, 0) ∧ narrow (am_fty 11 28) (.int (Int32.ofInt 0)) = .int (Int32.ofInt 0) ∧ fits (am_fty 11 28) (.int (Int32.ofInt 0)) = true ∧ pz_S 8 (some .int) am_r234 4 Q 17 [(0, .ref 154), (1, .int (Int32.ofInt 0)), (2, .int w)] [] (am_wI h64 154 28 (Int32.ofInt 0)) from ⟨ex_154 f65, rfl, rfl, ?_⟩)
  have f73 : ex_P (am_wI h64 154 28 (Int32.ofInt 0)) := f65
  have f74 : cI C := f66
  have f75 : tR C (am_wI h64 154 28 (Int32.ofInt 0)) := tR_w (by omega) f67
  have f76 : ∀ e, e < dE C → (am_wI h64 154 28 (Int32.ofInt 0)).1 172 e = dW V e := on_w (by omega) f68
  have f77 : sR 0 (dP C) (sSD s (s.1 + (Int32.ofInt 1))) (am_wI h64 154 28 (Int32.ofInt 0)) := sR_o (by omega) f69
  have f78 : fR h0 (am_wI h64 154 28 (Int32.ofInt 0)) := fR_w (by omega) f70
  have f79 : (am_wI h64 154 28 (Int32.ofInt 0)).1 154 28 = (Int32.ofInt 0) := em_we _ _ _ _
  generalize am_wI h64 154 28 (Int32.ofInt 0) = h72 at f73 f74 f75 f76 f77 f78 f79 ⊢
  refine am_goX 2 (show 3 < 8 ∧ pz_S 8 (some .int) am_r234 4 Q 19 [(3, .int (Int32.ofInt 0)), (0, .ref 154), (1, .int (Int32.ofInt 0)), (2, .int w)] [] h72 from ⟨by decide, ?_⟩)
  refine sv_S2 sv2_234 (by intro q hq; simp only [List.mem_cons, List.not_mem_nil, or_false] at hq; rcases hq with rfl | rfl | rfl | rfl <;> rfl) (d_234_19_g0 (dP C) 0 (sSD s (s.1 + (Int32.ofInt 1))) (Int32.ofInt 0) _ (by omega) f73 f74 f75 f76 f77 f78 f79 (fun h155 f156 f157 f158 f159 f160 f161 f162 => ?_))
  refine am_goX 4 (show 3 < 8 ∧ 4 < 8 ∧ pz_S 8 (some .int) am_r234 4 Q 132 [(4, .int (Int32.ofInt 0)), (3, .int (Int32.ofInt 0)), (0, .ref 154), (1, .int (Int32.ofInt 0)), (2, .int w)] [] h155 from ⟨by decide, by decide, ?_⟩)
  refine sv_S2 sv2_234 (by intro q hq; simp only [List.mem_cons, List.not_mem_nil, or_false] at hq; rcases hq with rfl | rfl | rfl | rfl | rfl <;> rfl) (d_234_132_g0 (dE C) 0 (Int32.ofInt 0) ((d_234_19 C w (dP C) 0 (sSD s (s.1 + (Int32.ofInt 1))) (Int32.ofInt 0)).1) _ (by omega) f156 f157 f158 f159 f160 f161 f162 (fun h196 f197 f198 f199 f200 f201 f202 f203 => ?_))
  exact am_goX 2 (show (∃ ty, (some .int) = some ty ∧ narrow ty (.int ((d_234_132 C V ((d_234_19 C w (dP C) 0 (sSD s (s.1 + (Int32.ofInt 1))) (Int32.ofInt 0)).2) w (dE C) 0 (Int32.ofInt 0) ((d_234_19 C w (dP C) 0 (sSD s (s.1 + (Int32.ofInt 1))) (Int32.ofInt 0)).1)).1)) = .int ((d_234_132 C V ((d_234_19 C w (dP C) 0 (sSD s (s.1 + (Int32.ofInt 1))) (Int32.ofInt 0)).2) w (dE C) 0 (Int32.ofInt 0) ((d_234_19 C w (dP C) 0 (sSD s (s.1 + (Int32.ofInt 1))) (Int32.ofInt 0)).1)).1)) ∧ h196.2.2.2.2 = 175 ∧ _ from ⟨⟨.int, rfl, rfl⟩, ex_175 f197, hQ _ f197 f198 f199 f200 f201 f202 f203⟩)
theorem q_234_r0 (hP : ex_P h) (hI : cI C) (hT : tR C h) (hO : ∀ e, e < dE C → h.1 172 e = dW V e) (hS : sR 0 (dP C) s h) (hX : fR h0 h) (hQ : ∀ h1, (ex_P h1) → (cI C) → (tR C h1) → (∀ e, e < dE C → h1.1 172 e = dW V e) → (sR 0 (dP C) (d_234_s C V s w) h1) → (fR h0 h1) → Q (some (.int (d_234 C V s w))) h1) : am_call am_cod 5 234 [.ref 154, .int (Int32.ofInt 0), .int w] h Q :=
  d_234_g0 (gg := h.1 154 28) hP hI hT hO hS hX rfl (fun h1 khP khI khT khO khS khX _ => hQ h1 khP khI khT khO khS khX)
def d_233_s (C V : sp_C) (s : dS) : dS := d_234_s C V s (d_224 C (s.1 + (Int32.ofInt 1)))
def d_233 (C V : sp_C) (s : dS) : Int32 := d_234 C V s (d_224 C (s.1 + (Int32.ofInt 1)))
theorem d_233_r0 (hP : ex_P h) (hI : cI C) (hT : tR C h) (hO : ∀ e, e < dE C → h.1 172 e = dW V e) (hS : sR 0 (dP C) s h) (hX : fR h0 h)  (hQ : ∀ h1, (ex_P h1) → (cI C) → (tR C h1) → (∀ e, e < dE C → h1.1 172 e = dW V e) → (sR 0 (dP C) (d_233_s C V s) h1) → (fR h0 h1) → Q (some (.int (d_233 C V s))) h1) : am_call am_cod 6 233 [.ref 154, .int (Int32.ofInt 0)] h Q := by
  have h6 := hT.1.2.1
  have h5 := hT.2.1.2.1
  refine pz_call (n := 233) (nL := 2) (rt := (some .int)) (rows := am_r233) (d := 5) (by decide +kernel) (by decide +kernel) rfl (by funext pc; rfl) (ex_175 hP) (by exact Nat.le_of_ble_eq_true rfl) ?_
  refine am_goX 5 (show am_sh h 154 = some (11, 0) ∧ pz_S 2 (some .int) am_r233 5 Q 7 [(0, .ref 154), (1, .int (Int32.ofInt 0))] [am_rf (h.2.2.1 154 24), .ref 154, .int (Int32.ofInt 0), .ref 154] h from ⟨ex_154 hP, ?_⟩)
  rw [show am_rf (h.2.2.1 154 24) = .ref 170 from congrArg am_rf (ex_r154_24 hP)]
  refine am_goX 4 (show ∃ jj nn : Nat, am_sh h 170 = some (13, nn) ∧ jj < nn ∧ (Int32.ofInt 0) + (Int32.ofInt 0) = nI jj ∧ pz_S 2 (some .int) am_r233 5 Q 11 [(0, .ref 154), (1, .int (Int32.ofInt 0))] [.int (h.1 170 jj), .ref 154, .int (Int32.ofInt 0), .ref 154] h from ⟨0, 1127, ex_170 hP, (by omega), (dn_a rfl rfl), ?_⟩)
  rw [show h.1 170 0 = s.1 from hS.1.1]
  refine am_goX 3 (show am_rc h 154 11 ∧ 2 ≤ 8 ∧ h.2.2.2.2 + am_al 224 ≤ 175 ∧ am_call am_cod 5 224 [.ref 154, .int (s.1 + (Int32.ofInt 1))] h (fun vv h' => pz_S 2 (some .int) am_r233 5 Q 16 [(0, .ref 154), (1, .int (Int32.ofInt 0))] (vv.toList ++ [.int (Int32.ofInt 0), .ref 154]) h') from ⟨Or.inl ⟨by decide, ex_154 hP⟩, by decide, ex_lim hP rfl, am_call.up (d_224_r hP hT ?_) (by decide)⟩)
  refine am_goX 1 (show am_rc h 154 11 ∧ 0 ≤ 8 ∧ h.2.2.2.2 + am_al 234 ≤ 175 ∧ am_call am_cod 5 234 [.ref 154, .int (Int32.ofInt 0), .int (d_224 C (s.1 + (Int32.ofInt 1)))] h (fun vv h' => pz_S 2 (some .int) am_r233 5 Q 19 [(0, .ref 154), (1, .int (Int32.ofInt 0))] (vv.toList ++ []) h') from ⟨Or.inl ⟨by decide, ex_154 hP⟩, by decide, ex_lim hP rfl, am_call.up (q_234_r0 hP hI hT hO hS hX (fun h204 f205 f206 f207 f208 f209 f210 => ?_)) (by decide)⟩)
  exact am_goX 1 (show (∃ ty, (some .int) = some ty ∧ narrow ty (.int (d_234 C V s (d_224 C (s.1 + (Int32.ofInt 1))))) = .int (d_234 C V s (d_224 C (s.1 + (Int32.ofInt 1))))) ∧ h204.2.2.2.2 = 175 ∧ _ from ⟨⟨.int, rfl, rfl⟩, ex_175 f205, hQ _ f205 f206 f207 f208 f209 f210⟩)
theorem d_234_19_g1029 : ∀ (m k : Nat) (s : dS) (gg : Int32) (h : am_H), k + m = dP C → (ex_P h) → (cI C) → (tR C h) → (∀ e, e < dE C → h.1 172 e = dW V e) → (sR 0 (dP C) u h) → (sR 1029 (dP C) s h) → (h.1 154 28 = gg) → (∀ h1, (ex_P h1) → (cI C) → (tR C h1) → (∀ e, e < dE C → h1.1 172 e = dW V e) → (sR 0 (dP C) u h1) → (sR 1029 (dP C) ((d_234_19 C w m k s gg).1) h1) → (h1.1 154 28 = ((d_234_19 C w m k s gg).2)) → pz_S 8 (some .int) am_r234 4 Q 127 [(0, .ref 154), (1, .int ((Int16.ofInt 1029).toInt32)), (2, .int w)] [] h1) → pz_S 8 (some .int) am_r234 4 Q 19 [(0, .ref 154), (1, .int ((Int16.ofInt 1029).toInt32)), (2, .int w), (3, .int (nI k))] [] h := by
  intro m
  induction m with
  | zero =>
    intro k s gg h hk hP hI hT hO hN hS hG hZ
    have h6 := hT.1.2.1
    have h5 := hT.2.1.2.1
    have hA : h.1 168 0 = (h.1 168 0) ∧ h.1 168 1 = (h.1 168 1) ∧ h.1 168 2 = (h.1 168 2) ∧ h.1 168 3 = (h.1 168 3) := ⟨rfl, rfl, rfl, rfl⟩
    refine am_goX 3 (show am_rc h 154 11 ∧ 1 ≤ 8 ∧ h.2.2.2.2 + am_al 186 ≤ 175 ∧ am_call am_cod 4 186 [.ref 154] h (fun vv h' => pz_S 8 (some .int) am_r234 4 Q 24 [(0, .ref 154), (1, .int ((Int16.ofInt 1029).toInt32)), (2, .int w), (3, .int (nI k))] (vv.toList ++ [.int (nI k)]) h') from ⟨Or.inl ⟨by decide, ex_154 hP⟩, by decide, ex_lim hP rfl, am_call.up (d_186_r hP hT ?_) (by decide)⟩)
    refine am_goX 1 (show ((nI (dP C)) ≤ (nI k) → pz_S 8 (some .int) am_r234 4 Q 127 [(0, .ref 154), (1, .int ((Int16.ofInt 1029).toInt32)), (2, .int w), (3, .int (nI k))] [] h) ∧ (¬ ((nI (dP C)) ≤ (nI k)) → pz_S 8 (some .int) am_r234 4 Q 27 [(0, .ref 154), (1, .int ((Int16.ofInt 1029).toInt32)), (2, .int w), (3, .int (nI k))] [] h) from ⟨fun _ => ?_, fun hz => absurd (show nI (dP C) ≤ nI k from nI_le (by omega) (by omega)) hz⟩)
    exact sv_S2 sv2_234 (by intro q hq; simp only [List.mem_cons, List.not_mem_nil, or_false] at hq; rcases hq with rfl | rfl | rfl <;> rfl) (hZ _ hP hI hT hO hN hS hG)
  | succ m ih =>
    intro k s gg h hk hP hI hT hO hN hS hG hZ
    have h6 := hT.1.2.1
    have h5 := hT.2.1.2.1
    have hA : h.1 168 0 = (h.1 168 0) ∧ h.1 168 1 = (h.1 168 1) ∧ h.1 168 2 = (h.1 168 2) ∧ h.1 168 3 = (h.1 168 3) := ⟨rfl, rfl, rfl, rfl⟩
    refine am_goX 3 (show am_rc h 154 11 ∧ 1 ≤ 8 ∧ h.2.2.2.2 + am_al 186 ≤ 175 ∧ am_call am_cod 4 186 [.ref 154] h (fun vv h' => pz_S 8 (some .int) am_r234 4 Q 24 [(0, .ref 154), (1, .int ((Int16.ofInt 1029).toInt32)), (2, .int w), (3, .int (nI k))] (vv.toList ++ [.int (nI k)]) h') from ⟨Or.inl ⟨by decide, ex_154 hP⟩, by decide, ex_lim hP rfl, am_call.up (d_186_r hP hT ?_) (by decide)⟩)
    refine am_goX 1 (show ((nI (dP C)) ≤ (nI k) → pz_S 8 (some .int) am_r234 4 Q 127 [(0, .ref 154), (1, .int ((Int16.ofInt 1029).toInt32)), (2, .int w), (3, .int (nI k))] [] h) ∧ (¬ ((nI (dP C)) ≤ (nI k)) → pz_S 8 (some .int) am_r234 4 Q 27 [(0, .ref 154), (1, .int ((Int16.ofInt 1029).toInt32)), (2, .int w), (3, .int (nI k))] [] h) from ⟨fun hz => absurd hz (show ¬ (nI (dP C) ≤ nI k) by rw [nI_leI (by omega) (by omega)]; omega), fun _ => ?_⟩)
    refine am_goX 2 (show am_sh h 154 = some (11, 0) ∧ pz_S 8 (some .int) am_r234 4 Q 31 [(0, .ref 154), (1, .int ((Int16.ofInt 1029).toInt32)), (2, .int w), (3, .int (nI k))] [am_rf (h.2.2.1 154 22)] h from ⟨ex_154 hP, ?_⟩)
    rw [show am_rf (h.2.2.1 154 22) = .ref 168 from congrArg am_rf (ex_r154_22 hP)]
    refine am_goX 5 (show am_rc h 154 11 ∧ 2 ≤ 8 ∧ h.2.2.2.2 + am_al 223 ≤ 175 ∧ am_call am_cod 4 223 [.ref 154, .int ((Int16.ofInt 1029).toInt32), .int (nI k)] h (fun vv h' => pz_S 8 (some .int) am_r234 4 Q 38 [(0, .ref 154), (1, .int ((Int16.ofInt 1029).toInt32)), (2, .int w), (3, .int (nI k))] (vv.toList ++ [.int (Int32.ofInt 0), .ref 168]) h') from ⟨Or.inl ⟨by decide, ex_154 hP⟩, by decide, ex_lim hP rfl, am_call.up (d_223_r1029 hP hI hT hO hN hS (by omega) ?_) (by decide)⟩)
    refine am_goX 1 (show ∃ jj nn : Nat, am_so h 168 = some (13, nn) ∧ jj < nn ∧ Int32.ofInt 0 = nI jj ∧ pz_S 8 (some .int) am_r234 4 Q 39 [(0, .ref 154), (1, .int ((Int16.ofInt 1029).toInt32)), (2, .int w), (3, .int (nI k))] [] (am_wI h 168 jj (d_223 C s k)) from ⟨0, 4, ex_w168 hP, (by omega), rfl, ?_⟩)
    have f228 : ex_P (am_wI h 168 0 (d_223 C s k)) := hP
    have f229 : cI C := hI
    have f230 : tR C (am_wI h 168 0 (d_223 C s k)) := tR_w (by omega) hT
    have f231 : ∀ e, e < dE C → (am_wI h 168 0 (d_223 C s k)).1 172 e = dW V e := on_w (by omega) hO
    have f232 : sR 0 (dP C) u (am_wI h 168 0 (d_223 C s k)) := sR_o (by omega) hN
    have f233 : sR 1029 (dP C) s (am_wI h 168 0 (d_223 C s k)) := sR_o (by omega) hS
    have f234 : (am_wI h 168 0 (d_223 C s k)).1 154 28 = gg := (em_wn _ _ (by omega)).trans hG
    have f235 : (am_wI h 168 0 (d_223 C s k)).1 168 0 = (d_223 C s k) ∧ (am_wI h 168 0 (d_223 C s k)).1 168 1 = (h.1 168 1) ∧ (am_wI h 168 0 (d_223 C s k)).1 168 2 = (h.1 168 2) ∧ (am_wI h 168 0 (d_223 C s k)).1 168 3 = (h.1 168 3) := fa_w0 hA
    generalize am_wI h 168 0 (d_223 C s k) = h227 at f228 f229 f230 f231 f232 f233 f234 f235 ⊢
    refine am_goX 2 (show am_sh h227 154 = some (11, 0) ∧ pz_S 8 (some .int) am_r234 4 Q 43 [(0, .ref 154), (1, .int ((Int16.ofInt 1029).toInt32)), (2, .int w), (3, .int (nI k))] [am_rf (h227.2.2.1 154 22)] h227 from ⟨ex_154 f228, ?_⟩)
    rw [show am_rf (h227.2.2.1 154 22) = .ref 168 from congrArg am_rf (ex_r154_22 f228)]
    refine am_goX 3 (show am_sh h227 154 = some (11, 0) ∧ pz_S 8 (some .int) am_r234 4 Q 48 [(0, .ref 154), (1, .int ((Int16.ofInt 1029).toInt32)), (2, .int w), (3, .int (nI k))] [am_rf (h227.2.2.1 154 24), .int (Int32.ofInt 1), .ref 168] h227 from ⟨ex_154 f228, ?_⟩)
    rw [show am_rf (h227.2.2.1 154 24) = .ref 170 from congrArg am_rf (ex_r154_24 f228)]
    refine am_goX 4 (show ∃ jj nn : Nat, am_sh h227 170 = some (13, nn) ∧ jj < nn ∧ ((Int16.ofInt 1029).toInt32) + (Int32.ofInt 0) = nI jj ∧ pz_S 8 (some .int) am_r234 4 Q 52 [(0, .ref 154), (1, .int ((Int16.ofInt 1029).toInt32)), (2, .int w), (3, .int (nI k))] [.int (h227.1 170 jj), .int (Int32.ofInt 1), .ref 168] h227 from ⟨1029, 1127, ex_170 f228, (by omega), (dn_a (show (Int16.ofInt 1029).toInt32 = nI 1029 by decide) rfl), ?_⟩)
    rw [show h227.1 170 1029 = s.1 from f233.1.1]
    refine am_goX 3 (show ¬ ((Int8.ofInt 7).toInt32) = 0 ∧ ∃ jj nn : Nat, am_so h227 168 = some (13, nn) ∧ jj < nn ∧ Int32.ofInt 1 = nI jj ∧ pz_S 8 (some .int) am_r234 4 Q 56 [(0, .ref 154), (1, .int ((Int16.ofInt 1029).toInt32)), (2, .int w), (3, .int (nI k))] [] (am_wI h227 168 jj (s.1 / ((Int8.ofInt 7).toInt32))) from ⟨by decide, 1, 4, ex_w168 f228, (by omega), rfl, ?_⟩)
    have f237 : ex_P (am_wI h227 168 1 (s.1 / ((Int8.ofInt 7).toInt32))) := f228
    have f238 : cI C := f229
    have f239 : tR C (am_wI h227 168 1 (s.1 / ((Int8.ofInt 7).toInt32))) := tR_w (by omega) f230
    have f240 : ∀ e, e < dE C → (am_wI h227 168 1 (s.1 / ((Int8.ofInt 7).toInt32))).1 172 e = dW V e := on_w (by omega) f231
    have f241 : sR 0 (dP C) u (am_wI h227 168 1 (s.1 / ((Int8.ofInt 7).toInt32))) := sR_o (by omega) f232
    have f242 : sR 1029 (dP C) s (am_wI h227 168 1 (s.1 / ((Int8.ofInt 7).toInt32))) := sR_o (by omega) f233
    have f243 : (am_wI h227 168 1 (s.1 / ((Int8.ofInt 7).toInt32))).1 154 28 = gg := (em_wn _ _ (by omega)).trans f234
    have f244 : (am_wI h227 168 1 (s.1 / ((Int8.ofInt 7).toInt32))).1 168 0 = (d_223 C s k) ∧ (am_wI h227 168 1 (s.1 / ((Int8.ofInt 7).toInt32))).1 168 1 = (s.1 / ((Int8.ofInt 7).toInt32)) ∧ (am_wI h227 168 1 (s.1 / ((Int8.ofInt 7).toInt32))).1 168 2 = (h.1 168 2) ∧ (am_wI h227 168 1 (s.1 / ((Int8.ofInt 7).toInt32))).1 168 3 = (h.1 168 3) := fa_w1 f235
    generalize am_wI h227 168 1 (s.1 / ((Int8.ofInt 7).toInt32)) = h236 at f237 f238 f239 f240 f241 f242 f243 f244 ⊢
    refine am_goX 2 (show am_sh h236 154 = some (11, 0) ∧ pz_S 8 (some .int) am_r234 4 Q 60 [(0, .ref 154), (1, .int ((Int16.ofInt 1029).toInt32)), (2, .int w), (3, .int (nI k))] [am_rf (h236.2.2.1 154 22)] h236 from ⟨ex_154 f237, ?_⟩)
    rw [show am_rf (h236.2.2.1 154 22) = .ref 168 from congrArg am_rf (ex_r154_22 f237)]
    refine am_goX 3 (show am_sh h236 154 = some (11, 0) ∧ pz_S 8 (some .int) am_r234 4 Q 65 [(0, .ref 154), (1, .int ((Int16.ofInt 1029).toInt32)), (2, .int w), (3, .int (nI k))] [am_rf (h236.2.2.1 154 24), .int (Int32.ofInt 2), .ref 168] h236 from ⟨ex_154 f237, ?_⟩)
    rw [show am_rf (h236.2.2.1 154 24) = .ref 170 from congrArg am_rf (ex_r154_24 f237)]
    refine am_goX 6 (show ∃ jj nn : Nat, am_sh h236 170 = some (13, nn) ∧ jj < nn ∧ (((Int16.ofInt 1029).toInt32) + ((Int8.ofInt 8).toInt32)) + (nI k) = nI jj ∧ pz_S 8 (some .int) am_r234 4 Q 72 [(0, .ref 154), (1, .int ((Int16.ofInt 1029).toInt32)), (2, .int w), (3, .int (nI k))] [.int (h236.1 170 jj), .int (Int32.ofInt 2), .ref 168] h236 from ⟨(1037 + k), 1127, ex_170 f237, (by omega), (dn_a (dn_a (show (Int16.ofInt 1029).toInt32 = nI 1029 by decide) (show (Int8.ofInt 8).toInt32 = nI 8 by decide)) rfl), ?_⟩)
    rw [show h236.1 170 (1037 + k) = s.2.2.2.1 k from (by rw [show (1037 + k) = 1029 + 8 + k by omega]; exact f242.2.2.1 k (by omega))]
    refine am_goX 1 (show 2 ≤ 8 ∧ h236.2.2.2.2 + am_al 235 ≤ 175 ∧ am_call am_cod 4 235 [.int (s.2.2.2.1 k)] h236 (fun vv h' => pz_S 8 (some .int) am_r234 4 Q 75 [(0, .ref 154), (1, .int ((Int16.ofInt 1029).toInt32)), (2, .int w), (3, .int (nI k))] (vv.toList ++ [.int (Int32.ofInt 2), .ref 168]) h') from ⟨by decide, ex_lim f237 rfl, am_call.up (d_235_w f237 ?_) (by decide)⟩)
    refine am_goX 1 (show ∃ jj nn : Nat, am_so h236 168 = some (13, nn) ∧ jj < nn ∧ Int32.ofInt 2 = nI jj ∧ pz_S 8 (some .int) am_r234 4 Q 76 [(0, .ref 154), (1, .int ((Int16.ofInt 1029).toInt32)), (2, .int w), (3, .int (nI k))] [] (am_wI h236 168 jj (d_235 (s.2.2.2.1 k))) from ⟨2, 4, ex_w168 f237, (by omega), rfl, ?_⟩)
    have f246 : ex_P (am_wI h236 168 2 (d_235 (s.2.2.2.1 k))) := f237
    have f247 : cI C := f238
    have f248 : tR C (am_wI h236 168 2 (d_235 (s.2.2.2.1 k))) := tR_w (by omega) f239
    have f249 : ∀ e, e < dE C → (am_wI h236 168 2 (d_235 (s.2.2.2.1 k))).1 172 e = dW V e := on_w (by omega) f240
    have f250 : sR 0 (dP C) u (am_wI h236 168 2 (d_235 (s.2.2.2.1 k))) := sR_o (by omega) f241
    have f251 : sR 1029 (dP C) s (am_wI h236 168 2 (d_235 (s.2.2.2.1 k))) := sR_o (by omega) f242
    have f252 : (am_wI h236 168 2 (d_235 (s.2.2.2.1 k))).1 154 28 = gg := (em_wn _ _ (by omega)).trans f243
    have f253 : (am_wI h236 168 2 (d_235 (s.2.2.2.1 k))).1 168 0 = (d_223 C s k) ∧ (am_wI h236 168 2 (d_235 (s.2.2.2.1 k))).1 168 1 = (s.1 / ((Int8.ofInt 7).toInt32)) ∧ (am_wI h236 168 2 (d_235 (s.2.2.2.1 k))).1 168 2 = (d_235 (s.2.2.2.1 k)) ∧ (am_wI h236 168 2 (d_235 (s.2.2.2.1 k))).1 168 3 = (h.1 168 3) := fa_w2 f244
    generalize am_wI h236 168 2 (d_235 (s.2.2.2.1 k)) = h245 at f246 f247 f248 f249 f250 f251 f252 f253 ⊢
    refine am_goX 2 (show am_sh h245 154 = some (11, 0) ∧ pz_S 8 (some .int) am_r234 4 Q 80 [(0, .ref 154), (1, .int ((Int16.ofInt 1029).toInt32)), (2, .int w), (3, .int (nI k))] [am_rf (h245.2.2.1 154 22)] h245 from ⟨ex_154 f246, ?_⟩)
    rw [show am_rf (h245.2.2.1 154 22) = .ref 168 from congrArg am_rf (ex_r154_22 f246)]
    refine am_goX 3 (show ∃ jj nn : Nat, am_so h245 168 = some (13, nn) ∧ jj < nn ∧ Int32.ofInt 3 = nI jj ∧ pz_S 8 (some .int) am_r234 4 Q 83 [(0, .ref 154), (1, .int ((Int16.ofInt 1029).toInt32)), (2, .int w), (3, .int (nI k))] [] (am_wI h245 168 jj w) from ⟨3, 4, ex_w168 f246, (by omega), rfl, ?_⟩)
    have f255 : ex_P (am_wI h245 168 3 w) := f246
    have f256 : cI C := f247
    have f257 : tR C (am_wI h245 168 3 w) := tR_w (by omega) f248
    have f258 : ∀ e, e < dE C → (am_wI h245 168 3 w).1 172 e = dW V e := on_w (by omega) f249
    have f259 : sR 0 (dP C) u (am_wI h245 168 3 w) := sR_o (by omega) f250
    have f260 : sR 1029 (dP C) s (am_wI h245 168 3 w) := sR_o (by omega) f251
    have f261 : (am_wI h245 168 3 w).1 154 28 = gg := (em_wn _ _ (by omega)).trans f252
    have f262 : (am_wI h245 168 3 w).1 168 0 = (d_223 C s k) ∧ (am_wI h245 168 3 w).1 168 1 = (s.1 / ((Int8.ofInt 7).toInt32)) ∧ (am_wI h245 168 3 w).1 168 2 = (d_235 (s.2.2.2.1 k)) ∧ (am_wI h245 168 3 w).1 168 3 = w := fa_w3 f253
    generalize am_wI h245 168 3 w = h254 at f255 f256 f257 f258 f259 f260 f261 f262 ⊢
    refine am_goX 3 (show (Value.ref 154).category = 1 ∧ am_sh h254 154 = some (11, 0) ∧ pz_S 8 (some .int) am_r234 4 Q 88 [(0, .ref 154), (1, .int ((Int16.ofInt 1029).toInt32)), (2, .int w), (3, .int (nI k))] [.int (h254.1 154 28), .ref 154] h254 from ⟨rfl, ex_154 f255, ?_⟩)
    rw [show h254.1 154 28 = gg from f261]
    refine am_goX 2 (show am_sh h254 154 = some (11, 0) ∧ pz_S 8 (some .int) am_r234 4 Q 92 [(0, .ref 154), (1, .int ((Int16.ofInt 1029).toInt32)), (2, .int w), (3, .int (nI k))] [am_rf (h254.2.2.1 154 10), .int gg, .ref 154] h254 from ⟨ex_154 f255, ?_⟩)
    rw [show am_rf (h254.2.2.1 154 10) = .ref 160 from congrArg am_rf (ex_r154_10 f255)]
    refine am_goX 2 (show ∃ jj nn : Nat, am_sh h254 160 = some (13, nn) ∧ jj < nn ∧ Int32.ofInt 3 = nI jj ∧ pz_S 8 (some .int) am_r234 4 Q 94 [(0, .ref 154), (1, .int ((Int16.ofInt 1029).toInt32)), (2, .int w), (3, .int (nI k))] [.int (h254.1 160 jj), .int gg, .ref 154] h254 from ⟨3, 80, ex_160 f255, (by omega), rfl, ?_⟩)
    rw [show h254.1 160 3 = dQ C from f257.2.2.2.2.2.2.2.2]
    refine am_goX 1 (show ((dQ C) < 0 → pz_S 8 (some .int) am_r234 4 Q 110 [(0, .ref 154), (1, .int ((Int16.ofInt 1029).toInt32)), (2, .int w), (3, .int (nI k))] [.int gg, .ref 154] h254) ∧ (¬ ((dQ C) < 0) → pz_S 8 (some .int) am_r234 4 Q 97 [(0, .ref 154), (1, .int ((Int16.ofInt 1029).toInt32)), (2, .int w), (3, .int (nI k))] [.int gg, .ref 154] h254) from ⟨fun c263 => ?_, fun c263 => ?_⟩)
    · refine am_goX 6 (show am_sh h254 154 = some (11, 0) ∧ narrow (am_fty 11 28) (.int (gg ||| ((Int32.ofInt 1) <<< ((nI k) &&& 31)))) = .int (gg ||| ((Int32.ofInt 1) <<< ((nI k) &&& 31))) ∧ fits (am_fty 11 28) (.int (gg ||| ((Int32.ofInt 1) <<< ((nI k) &&& 31)))) = true ∧ pz_S 8 (some .int) am_r234 4 Q 121 [(0, .ref 154), (1, .int ((Int16.ofInt 1029).toInt32)), (2, .int w), (3, .int (nI k))] [] (am_wI h254 154 28 (gg ||| ((Int32.ofInt 1) <<< ((nI k) &&& 31)))) from ⟨ex_154 f255, rfl, rfl, ?_⟩)
      have f265 : ex_P (am_wI h254 154 28 (gg ||| ((Int32.ofInt 1) <<< ((nI k) &&& 31)))) := f255
      have f266 : cI C := f256
      have f267 : tR C (am_wI h254 154 28 (gg ||| ((Int32.ofInt 1) <<< ((nI k) &&& 31)))) := tR_w (by omega) f257
      have f268 : ∀ e, e < dE C → (am_wI h254 154 28 (gg ||| ((Int32.ofInt 1) <<< ((nI k) &&& 31)))).1 172 e = dW V e := on_w (by omega) f258
      have f269 : sR 0 (dP C) u (am_wI h254 154 28 (gg ||| ((Int32.ofInt 1) <<< ((nI k) &&& 31)))) := sR_o (by omega) f259
      have f270 : sR 1029 (dP C) s (am_wI h254 154 28 (gg ||| ((Int32.ofInt 1) <<< ((nI k) &&& 31)))) := sR_o (by omega) f260
      have f271 : (am_wI h254 154 28 (gg ||| ((Int32.ofInt 1) <<< ((nI k) &&& 31)))).1 154 28 = (gg ||| ((Int32.ofInt 1) <<< ((nI k) &&& 31))) := em_we _ _ _ _
      have f272 : (am_wI h254 154 28 (gg ||| ((Int32.ofInt 1) <<< ((nI k) &&& 31)))).1 168 0 = (d_223 C s k) ∧ (am_wI h254 154 28 (gg ||| ((Int32.ofInt 1) <<< ((nI k) &&& 31)))).1 168 1 = (s.1 / ((Int8.ofInt 7).toInt32)) ∧ (am_wI h254 154 28 (gg ||| ((Int32.ofInt 1) <<< ((nI k) &&& 31)))).1 168 2 = (d_235 (s.2.2.2.1 k)) ∧ (am_wI h254 154 28 (gg ||| ((Int32.ofInt 1) <<< ((nI k) &&& 31)))).1 168 3 = w := fo_w (by omega) f262
      generalize am_wI h254 154 28 (gg ||| ((Int32.ofInt 1) <<< ((nI k) &&& 31))) = h264 at f265 f266 f267 f268 f269 f270 f271 f272 ⊢
      refine am_goX 2 (show 3 < 8 ∧ pz_S 8 (some .int) am_r234 4 Q 19 [(3, .int ((nI k) + (Int32.ofInt 1))), (0, .ref 154), (1, .int ((Int16.ofInt 1029).toInt32)), (2, .int w)] [] h264 from ⟨by decide, ?_⟩)
      rw [show d_234_19 C w (m + 1) k s gg = d_234_19 C w m (k + 1) s (gg ||| ((Int32.ofInt 1) <<< ((nI k) &&& 31))) from if_pos c263] at hZ
      rw [show (nI k) + (Int32.ofInt 1) = nI (k + 1) from (dn_a rfl rfl)]
      exact sv_S2 sv2_234 (by intro q hq; simp only [List.mem_cons, List.not_mem_nil, or_false] at hq; rcases hq with rfl | rfl | rfl | rfl <;> rfl) (ih (k + 1) s (gg ||| ((Int32.ofInt 1) <<< ((nI k) &&& 31))) _ (by omega) f265 f266 f267 f268 f269 f270 f271 hZ)
    · refine am_goX 3 (show am_sh h254 154 = some (11, 0) ∧ pz_S 8 (some .int) am_r234 4 Q 102 [(0, .ref 154), (1, .int ((Int16.ofInt 1029).toInt32)), (2, .int w), (3, .int (nI k))] [am_rf (h254.2.2.1 154 10), .ref 154, .int gg, .ref 154] h254 from ⟨ex_154 f255, ?_⟩)
      rw [show am_rf (h254.2.2.1 154 10) = .ref 160 from congrArg am_rf (ex_r154_10 f255)]
      refine am_goX 2 (show ∃ jj nn : Nat, am_sh h254 160 = some (13, nn) ∧ jj < nn ∧ Int32.ofInt 3 = nI jj ∧ pz_S 8 (some .int) am_r234 4 Q 104 [(0, .ref 154), (1, .int ((Int16.ofInt 1029).toInt32)), (2, .int w), (3, .int (nI k))] [.int (h254.1 160 jj), .ref 154, .int gg, .ref 154] h254 from ⟨3, 80, ex_160 f255, (by omega), rfl, ?_⟩)
      rw [show h254.1 160 3 = dQ C from f257.2.2.2.2.2.2.2.2]
      refine am_goX 1 (show am_rc h254 154 11 ∧ 2 ≤ 8 ∧ h254.2.2.2.2 + am_al 236 ≤ 175 ∧ am_call am_cod 4 236 [.ref 154, .int (dQ C)] h254 (fun vv h' => pz_S 8 (some .int) am_r234 4 Q 107 [(0, .ref 154), (1, .int ((Int16.ofInt 1029).toInt32)), (2, .int w), (3, .int (nI k))] (vv.toList ++ [.int gg, .ref 154]) h') from ⟨Or.inl ⟨by decide, ex_154 f255⟩, by decide, ex_lim f255 rfl, am_call.up (q_236 (a := (d_223 C s k)) (b := (s.1 / ((Int8.ofInt 7).toInt32))) (c := (d_235 (s.2.2.2.1 k))) (d := w) f255 f256 f257 f262 c263 (fun h273 l274 => ?_)) (by decide)⟩)
      have f275 : ex_P h273 := lfr_P l274 f255
      have f276 : cI C := f256
      have f277 : tR C h273 := lfr_r l274 f257
      have f278 : ∀ e, e < dE C → h273.1 172 e = dW V e := lfr_on l274 f258
      have f279 : sR 0 (dP C) u h273 := lfr_sR l274 (by omega) f259
      have f280 : sR 1029 (dP C) s h273 := lfr_sR l274 (by omega) f260
      have f281 : h273.1 154 28 = gg := (l274.2 _ _ (by decide)).trans f261
      have f282 : h273.1 168 0 = (d_223 C s k) ∧ h273.1 168 1 = (s.1 / ((Int8.ofInt 7).toInt32)) ∧ h273.1 168 2 = (d_235 (s.2.2.2.1 k)) ∧ h273.1 168 3 = w := ⟨(l274.2 _ _ (by decide)).trans f262.1, (l274.2 _ _ (by decide)).trans f262.2.1, (l274.2 _ _ (by decide)).trans f262.2.2.1, (l274.2 _ _ (by decide)).trans f262.2.2.2⟩
      refine am_goX 1 (show ((dlaw C (d_223 C s k) (s.1 / ((Int8.ofInt 7).toInt32)) (d_235 (s.2.2.2.1 k)) w) = 0 → pz_S 8 (some .int) am_r234 4 Q 116 [(0, .ref 154), (1, .int ((Int16.ofInt 1029).toInt32)), (2, .int w), (3, .int (nI k))] [.int gg, .ref 154] h273) ∧ (¬ ((dlaw C (d_223 C s k) (s.1 / ((Int8.ofInt 7).toInt32)) (d_235 (s.2.2.2.1 k)) w) = 0) → pz_S 8 (some .int) am_r234 4 Q 110 [(0, .ref 154), (1, .int ((Int16.ofInt 1029).toInt32)), (2, .int w), (3, .int (nI k))] [.int gg, .ref 154] h273) from ⟨fun c283 => ?_, fun c283 => ?_⟩)
      · refine am_goX 3 (show am_sh h273 154 = some (11, 0) ∧ narrow (am_fty 11 28) (.int (gg ||| (Int32.ofInt 0))) = .int (gg ||| (Int32.ofInt 0)) ∧ fits (am_fty 11 28) (.int (gg ||| (Int32.ofInt 0))) = true ∧ pz_S 8 (some .int) am_r234 4 Q 121 [(0, .ref 154), (1, .int ((Int16.ofInt 1029).toInt32)), (2, .int w), (3, .int (nI k))] [] (am_wI h273 154 28 (gg ||| (Int32.ofInt 0))) from ⟨ex_154 f275, rfl, rfl, ?_⟩)
        have f285 : ex_P (am_wI h273 154 28 (gg ||| (Int32.ofInt 0))) := f275
        have f286 : cI C := f276
        have f287 : tR C (am_wI h273 154 28 (gg ||| (Int32.ofInt 0))) := tR_w (by omega) f277
        have f288 : ∀ e, e < dE C → (am_wI h273 154 28 (gg ||| (Int32.ofInt 0))).1 172 e = dW V e := on_w (by omega) f278
        have f289 : sR 0 (dP C) u (am_wI h273 154 28 (gg ||| (Int32.ofInt 0))) := sR_o (by omega) f279
        have f290 : sR 1029 (dP C) s (am_wI h273 154 28 (gg ||| (Int32.ofInt 0))) := sR_o (by omega) f280
        have f291 : (am_wI h273 154 28 (gg ||| (Int32.ofInt 0))).1 154 28 = (gg ||| (Int32.ofInt 0)) := em_we _ _ _ _
        have f292 : (am_wI h273 154 28 (gg ||| (Int32.ofInt 0))).1 168 0 = (d_223 C s k) ∧ (am_wI h273 154 28 (gg ||| (Int32.ofInt 0))).1 168 1 = (s.1 / ((Int8.ofInt 7).toInt32)) ∧ (am_wI h273 154 28 (gg ||| (Int32.ofInt 0))).1 168 2 = (d_235 (s.2.2.2.1 k)) ∧ (am_wI h273 154 28 (gg ||| (Int32.ofInt 0))).1 168 3 = w := fo_w (by omega) f282
        generalize am_wI h273 154 28 (gg ||| (Int32.ofInt 0)) = h284 at f285 f286 f287 f288 f289 f290 f291 f292 ⊢
        refine am_goX 2 (show 3 < 8 ∧ pz_S 8 (some .int) am_r234 4 Q 19 [(3, .int ((nI k) + (Int32.ofInt 1))), (0, .ref 154), (1, .int ((Int16.ofInt 1029).toInt32)), (2, .int w)] [] h284 from ⟨by decide, ?_⟩)
        rw [show d_234_19 C w (m + 1) k s gg = d_234_19 C w m (k + 1) s (gg ||| (Int32.ofInt 0)) from (if_neg c263).trans (if_pos c283)] at hZ
        rw [show (nI k) + (Int32.ofInt 1) = nI (k + 1) from (dn_a rfl rfl)]
        exact sv_S2 sv2_234 (by intro q hq; simp only [List.mem_cons, List.not_mem_nil, or_false] at hq; rcases hq with rfl | rfl | rfl | rfl <;> rfl) (ih (k + 1) s (gg ||| (Int32.ofInt 0)) _ (by omega) f285 f286 f287 f288 f289 f290 f291 hZ)
      · refine am_goX 6 (show am_sh h273 154 = some (11, 0) ∧ narrow (am_fty 11 28) (.int (gg ||| ((Int32.ofInt 1) <<< ((nI k) &&& 31)))) = .int (gg ||| ((Int32.ofInt 1) <<< ((nI k) &&& 31))) ∧ fits (am_fty 11 28) (.int (gg ||| ((Int32.ofInt 1) <<< ((nI k) &&& 31)))) = true ∧ pz_S 8 (some .int) am_r234 4 Q 121 [(0, .ref 154), (1, .int ((Int16.ofInt 1029).toInt32)), (2, .int w), (3, .int (nI k))] [] (am_wI h273 154 28 (gg ||| ((Int32.ofInt 1) <<< ((nI k) &&& 31)))) from ⟨ex_154 f275, rfl, rfl, ?_⟩)
        have f294 : ex_P (am_wI h273 154 28 (gg ||| ((Int32.ofInt 1) <<< ((nI k) &&& 31)))) := f275
        have f295 : cI C := f276
        have f296 : tR C (am_wI h273 154 28 (gg ||| ((Int32.ofInt 1) <<< ((nI k) &&& 31)))) := tR_w (by omega) f277
        have f297 : ∀ e, e < dE C → (am_wI h273 154 28 (gg ||| ((Int32.ofInt 1) <<< ((nI k) &&& 31)))).1 172 e = dW V e := on_w (by omega) f278
        have f298 : sR 0 (dP C) u (am_wI h273 154 28 (gg ||| ((Int32.ofInt 1) <<< ((nI k) &&& 31)))) := sR_o (by omega) f279
        have f299 : sR 1029 (dP C) s (am_wI h273 154 28 (gg ||| ((Int32.ofInt 1) <<< ((nI k) &&& 31)))) := sR_o (by omega) f280
        have f300 : (am_wI h273 154 28 (gg ||| ((Int32.ofInt 1) <<< ((nI k) &&& 31)))).1 154 28 = (gg ||| ((Int32.ofInt 1) <<< ((nI k) &&& 31))) := em_we _ _ _ _
        have f301 : (am_wI h273 154 28 (gg ||| ((Int32.ofInt 1) <<< ((nI k) &&& 31)))).1 168 0 = (d_223 C s k) ∧ (am_wI h273 154 28 (gg ||| ((Int32.ofInt 1) <<< ((nI k) &&& 31)))).1 168 1 = (s.1 / ((Int8.ofInt 7).toInt32)) ∧ (am_wI h273 154 28 (gg ||| ((Int32.ofInt 1) <<< ((nI k) &&& 31)))).1 168 2 = (d_235 (s.2.2.2.1 k)) ∧ (am_wI h273 154 28 (gg ||| ((Int32.ofInt 1) <<< ((nI k) &&& 31)))).1 168 3 = w := fo_w (by omega) f282
        generalize am_wI h273 154 28 (gg ||| ((Int32.ofInt 1) <<< ((nI k) &&& 31))) = h293 at f294 f295 f296 f297 f298 f299 f300 f301 ⊢
        refine am_goX 2 (show 3 < 8 ∧ pz_S 8 (some .int) am_r234 4 Q 19 [(3, .int ((nI k) + (Int32.ofInt 1))), (0, .ref 154), (1, .int ((Int16.ofInt 1029).toInt32)), (2, .int w)] [] h293 from ⟨by decide, ?_⟩)
        rw [show d_234_19 C w (m + 1) k s gg = d_234_19 C w m (k + 1) s (gg ||| ((Int32.ofInt 1) <<< ((nI k) &&& 31))) from (if_neg c263).trans (if_neg c283)] at hZ
        rw [show (nI k) + (Int32.ofInt 1) = nI (k + 1) from (dn_a rfl rfl)]
        exact sv_S2 sv2_234 (by intro q hq; simp only [List.mem_cons, List.not_mem_nil, or_false] at hq; rcases hq with rfl | rfl | rfl | rfl <;> rfl) (ih (k + 1) s (gg ||| ((Int32.ofInt 1) <<< ((nI k) &&& 31))) _ (by omega) f294 f295 f296 f297 f298 f299 f300 hZ)
theorem d_234_147_g1029 (x3 : Int32) (n4 : Nat) (hP : ex_P h) (hI : cI C) (hT : tR C h) (hO : ∀ e, e < dE C → h.1 172 e = dW V e) (hN : sR 0 (dP C) u h) (hS : sR 1029 (dP C) s h) (hG : h.1 154 28 = gg) (he : n4 < dE C) : ∀ (m k : Nat) (a5 : Int32), k + m = dP C → (pz_S 8 (some .int) am_r234 4 Q 201 [(0, .ref 154), (1, .int ((Int16.ofInt 1029).toInt32)), (2, .int w), (3, .int x3), (4, .int (nI n4)), (5, .int (d_234_147 C V s gg w n4 m k a5))] [] h) → pz_S 8 (some .int) am_r234 4 Q 147 [(0, .ref 154), (1, .int ((Int16.ofInt 1029).toInt32)), (2, .int w), (3, .int x3), (4, .int (nI n4)), (5, .int a5), (6, .int (nI k))] [] h := by
  intro m
  induction m with
  | zero =>
    intro k a5 hk hZ
    have h6 := hT.1.2.1
    have h5 := hT.2.1.2.1
    refine am_goX 3 (show am_rc h 154 11 ∧ 1 ≤ 8 ∧ h.2.2.2.2 + am_al 186 ≤ 175 ∧ am_call am_cod 4 186 [.ref 154] h (fun vv h' => pz_S 8 (some .int) am_r234 4 Q 153 [(0, .ref 154), (1, .int ((Int16.ofInt 1029).toInt32)), (2, .int w), (3, .int x3), (4, .int (nI n4)), (5, .int a5), (6, .int (nI k))] (vv.toList ++ [.int (nI k)]) h') from ⟨Or.inl ⟨by decide, ex_154 hP⟩, by decide, ex_lim hP rfl, am_call.up (d_186_r hP hT ?_) (by decide)⟩)
    refine am_goX 1 (show ((nI (dP C)) ≤ (nI k) → pz_S 8 (some .int) am_r234 4 Q 201 [(0, .ref 154), (1, .int ((Int16.ofInt 1029).toInt32)), (2, .int w), (3, .int x3), (4, .int (nI n4)), (5, .int a5), (6, .int (nI k))] [] h) ∧ (¬ ((nI (dP C)) ≤ (nI k)) → pz_S 8 (some .int) am_r234 4 Q 156 [(0, .ref 154), (1, .int ((Int16.ofInt 1029).toInt32)), (2, .int w), (3, .int x3), (4, .int (nI n4)), (5, .int a5), (6, .int (nI k))] [] h) from ⟨fun _ => ?_, fun hz => absurd (show nI (dP C) ≤ nI k from nI_le (by omega) (by omega)) hz⟩)
    exact sv_S2 sv2_234 (by intro q hq; simp only [List.mem_cons, List.not_mem_nil, or_false] at hq; rcases hq with rfl | rfl | rfl | rfl | rfl | rfl <;> rfl) (hZ)
  | succ m ih =>
    intro k a5 hk hZ
    have h6 := hT.1.2.1
    have h5 := hT.2.1.2.1
    refine am_goX 3 (show am_rc h 154 11 ∧ 1 ≤ 8 ∧ h.2.2.2.2 + am_al 186 ≤ 175 ∧ am_call am_cod 4 186 [.ref 154] h (fun vv h' => pz_S 8 (some .int) am_r234 4 Q 153 [(0, .ref 154), (1, .int ((Int16.ofInt 1029).toInt32)), (2, .int w), (3, .int x3), (4, .int (nI n4)), (5, .int a5), (6, .int (nI k))] (vv.toList ++ [.int (nI k)]) h') from ⟨Or.inl ⟨by decide, ex_154 hP⟩, by decide, ex_lim hP rfl, am_call.up (d_186_r hP hT ?_) (by decide)⟩)
    refine am_goX 1 (show ((nI (dP C)) ≤ (nI k) → pz_S 8 (some .int) am_r234 4 Q 201 [(0, .ref 154), (1, .int ((Int16.ofInt 1029).toInt32)), (2, .int w), (3, .int x3), (4, .int (nI n4)), (5, .int a5), (6, .int (nI k))] [] h) ∧ (¬ ((nI (dP C)) ≤ (nI k)) → pz_S 8 (some .int) am_r234 4 Q 156 [(0, .ref 154), (1, .int ((Int16.ofInt 1029).toInt32)), (2, .int w), (3, .int x3), (4, .int (nI n4)), (5, .int a5), (6, .int (nI k))] [] h) from ⟨fun hz => absurd hz (show ¬ (nI (dP C) ≤ nI k) by rw [nI_leI (by omega) (by omega)]; omega), fun _ => ?_⟩)
    refine am_goX 3 (show am_sh h 154 = some (11, 0) ∧ pz_S 8 (some .int) am_r234 4 Q 162 [(0, .ref 154), (1, .int ((Int16.ofInt 1029).toInt32)), (2, .int w), (3, .int x3), (4, .int (nI n4)), (5, .int a5), (6, .int (nI k))] [.int (h.1 154 28), .int a5] h from ⟨ex_154 hP, ?_⟩)
    rw [show h.1 154 28 = gg from hG]
    suffices key : ∀ (v311 : Int32), v311 = (if ¬ ((gg >>> ((nI k) &&& 31)) &&& (Int32.ofInt 1)) = (Int32.ofInt 1) then Int32.ofInt 0 else (if (d_238 C V s k n4 w) = 0 then Int32.ofInt 0 else (Int32.ofInt 1) <<< ((nI k) &&& 31))) → pz_S 8 (some .int) am_r234 4 Q 192 [(0, .ref 154), (1, .int ((Int16.ofInt 1029).toInt32)), (2, .int w), (3, .int x3), (4, .int (nI n4)), (6, .int (nI k))] [.int v311, .int a5] h by
      refine am_goX 6 (show (¬ ((gg >>> ((nI k) &&& 31)) &&& (Int32.ofInt 1)) = (Int32.ofInt 1) → pz_S 8 (some .int) am_r234 4 Q 191 [(0, .ref 154), (1, .int ((Int16.ofInt 1029).toInt32)), (2, .int w), (3, .int x3), (4, .int (nI n4)), (5, .int a5), (6, .int (nI k))] [.int a5] h) ∧ (¬ ¬ ((gg >>> ((nI k) &&& 31)) &&& (Int32.ofInt 1)) = (Int32.ofInt 1) → pz_S 8 (some .int) am_r234 4 Q 171 [(0, .ref 154), (1, .int ((Int16.ofInt 1029).toInt32)), (2, .int w), (3, .int x3), (4, .int (nI n4)), (5, .int a5), (6, .int (nI k))] [.int a5] h) from ⟨fun c310 => ?_, fun c310 => ?_⟩)
      · refine am_goX 1 (show pz_S 8 (some .int) am_r234 4 Q 192 [(0, .ref 154), (1, .int ((Int16.ofInt 1029).toInt32)), (2, .int w), (3, .int x3), (4, .int (nI n4)), (5, .int a5), (6, .int (nI k))] [.int (Int32.ofInt 0), .int a5] h from ?_)
        exact sv_S2 sv2_234 (by intro q hq; simp only [List.mem_cons, List.not_mem_nil, or_false] at hq; rcases hq with rfl | rfl | rfl | rfl | rfl | rfl <;> rfl) (key _ (if_pos c310).symm)
      · refine am_goX 6 (show am_rc h 154 11 ∧ 1 ≤ 8 ∧ h.2.2.2.2 + am_al 238 ≤ 175 ∧ am_call am_cod 4 238 [.ref 154, .int ((Int16.ofInt 1029).toInt32), .int (nI k), .int (nI n4), .int w] h (fun vv h' => pz_S 8 (some .int) am_r234 4 Q 181 [(0, .ref 154), (1, .int ((Int16.ofInt 1029).toInt32)), (2, .int w), (3, .int x3), (4, .int (nI n4)), (5, .int a5), (6, .int (nI k))] (vv.toList ++ [.int a5]) h') from ⟨Or.inl ⟨by decide, ex_154 hP⟩, by decide, ex_lim hP rfl, am_call.up (d_238_r1029 hP hI hT hO hN hS (by omega) (by omega) ?_) (by decide)⟩)
        suffices key : ∀ (v313 : Int32), v313 = (if (d_238 C V s k n4 w) = 0 then Int32.ofInt 0 else (Int32.ofInt 1) <<< ((nI k) &&& 31)) → pz_S 8 (some .int) am_r234 4 Q 192 [(0, .ref 154), (1, .int ((Int16.ofInt 1029).toInt32)), (2, .int w), (3, .int x3), (4, .int (nI n4)), (6, .int (nI k))] [.int v313, .int a5] h by
          refine am_goX 1 (show ((d_238 C V s k n4 w) = 0 → pz_S 8 (some .int) am_r234 4 Q 191 [(0, .ref 154), (1, .int ((Int16.ofInt 1029).toInt32)), (2, .int w), (3, .int x3), (4, .int (nI n4)), (5, .int a5), (6, .int (nI k))] [.int a5] h) ∧ (¬ ((d_238 C V s k n4 w) = 0) → pz_S 8 (some .int) am_r234 4 Q 184 [(0, .ref 154), (1, .int ((Int16.ofInt 1029).toInt32)), (2, .int w), (3, .int x3), (4, .int (nI n4)), (5, .int a5), (6, .int (nI k))] [.int a5] h) from ⟨fun c312 => ?_, fun c312 => ?_⟩)
          · refine am_goX 1 (show pz_S 8 (some .int) am_r234 4 Q 192 [(0, .ref 154), (1, .int ((Int16.ofInt 1029).toInt32)), (2, .int w), (3, .int x3), (4, .int (nI n4)), (5, .int a5), (6, .int (nI k))] [.int (Int32.ofInt 0), .int a5] h from ?_)
            exact sv_S2 sv2_234 (by intro q hq; simp only [List.mem_cons, List.not_mem_nil, or_false] at hq; rcases hq with rfl | rfl | rfl | rfl | rfl | rfl <;> rfl) (key _ (if_pos c312).symm)
          · refine am_goX 4 (show pz_S 8 (some .int) am_r234 4 Q 192 [(0, .ref 154), (1, .int ((Int16.ofInt 1029).toInt32)), (2, .int w), (3, .int x3), (4, .int (nI n4)), (5, .int a5), (6, .int (nI k))] [.int ((Int32.ofInt 1) <<< ((nI k) &&& 31)), .int a5] h from ?_)
            exact sv_S2 sv2_234 (by intro q hq; simp only [List.mem_cons, List.not_mem_nil, or_false] at hq; rcases hq with rfl | rfl | rfl | rfl | rfl | rfl <;> rfl) (key _ (if_neg c312).symm)
        intro v313 e314
        subst e314
        exact sv_S2 sv2_234 (by intro q hq; simp only [List.mem_cons, List.not_mem_nil, or_false] at hq; rcases hq with rfl | rfl | rfl | rfl | rfl | rfl <;> rfl) (key _ (if_neg c310).symm)
    intro v311 e315
    subst e315
    refine am_goX 4 (show 5 < 8 ∧ 6 < 8 ∧ pz_S 8 (some .int) am_r234 4 Q 147 [(6, .int ((nI k) + (Int32.ofInt 1))), (5, .int (a5 ||| (if ¬ ((gg >>> ((nI k) &&& 31)) &&& (Int32.ofInt 1)) = (Int32.ofInt 1) then Int32.ofInt 0 else (if (d_238 C V s k n4 w) = 0 then Int32.ofInt 0 else (Int32.ofInt 1) <<< ((nI k) &&& 31))))), (0, .ref 154), (1, .int ((Int16.ofInt 1029).toInt32)), (2, .int w), (3, .int x3), (4, .int (nI n4))] [] h from ⟨by decide, by decide, ?_⟩)
    rw [show (nI k) + (Int32.ofInt 1) = nI (k + 1) from (dn_a rfl rfl)]
    exact sv_S2 sv2_234 (by intro q hq; simp only [List.mem_cons, List.not_mem_nil, or_false] at hq; rcases hq with rfl | rfl | rfl | rfl | rfl | rfl | rfl <;> rfl) (ih (k + 1) (a5 ||| (if ¬ ((gg >>> ((nI k) &&& 31)) &&& (Int32.ofInt 1)) = (Int32.ofInt 1) then Int32.ofInt 0 else (if (d_238 C V s k n4 w) = 0 then Int32.ofInt 0 else (Int32.ofInt 1) <<< ((nI k) &&& 31)))) (by omega) hZ)
theorem d_234_281_g1029 (x3 : Int32) (n4 : Nat) (x5 : Int32) : ∀ (m k : Nat) (s : dS) (h : am_H), k + m = dP C → (ex_P h) → (cI C) → (tR C h) → (∀ e, e < dE C → h.1 172 e = dW V e) → (sR 0 (dP C) u h) → (sR 1029 (dP C) s h) → (h.1 154 28 = gg) → (∀ h1, (ex_P h1) → (cI C) → (tR C h1) → (∀ e, e < dE C → h1.1 172 e = dW V e) → (sR 0 (dP C) u h1) → (sR 1029 (dP C) (d_234_281 C x5 m k s) h1) → (h1.1 154 28 = gg) → pz_S 8 (some .int) am_r234 4 Q 335 [(0, .ref 154), (1, .int ((Int16.ofInt 1029).toInt32)), (2, .int w), (3, .int x3), (4, .int (nI n4))] [] h1) → pz_S 8 (some .int) am_r234 4 Q 281 [(0, .ref 154), (1, .int ((Int16.ofInt 1029).toInt32)), (2, .int w), (3, .int x3), (4, .int (nI n4)), (5, .int x5), (7, .int (nI k))] [] h := by
  intro m
  induction m with
  | zero =>
    intro k s h hk hP hI hT hO hN hS hG hZ
    have h6 := hT.1.2.1
    have h5 := hT.2.1.2.1
    refine am_goX 3 (show am_rc h 154 11 ∧ 1 ≤ 8 ∧ h.2.2.2.2 + am_al 186 ≤ 175 ∧ am_call am_cod 4 186 [.ref 154] h (fun vv h' => pz_S 8 (some .int) am_r234 4 Q 287 [(0, .ref 154), (1, .int ((Int16.ofInt 1029).toInt32)), (2, .int w), (3, .int x3), (4, .int (nI n4)), (5, .int x5), (7, .int (nI k))] (vv.toList ++ [.int (nI k)]) h') from ⟨Or.inl ⟨by decide, ex_154 hP⟩, by decide, ex_lim hP rfl, am_call.up (d_186_r hP hT ?_) (by decide)⟩)
    refine am_goX 1 (show ((nI (dP C)) ≤ (nI k) → pz_S 8 (some .int) am_r234 4 Q 335 [(0, .ref 154), (1, .int ((Int16.ofInt 1029).toInt32)), (2, .int w), (3, .int x3), (4, .int (nI n4)), (5, .int x5), (7, .int (nI k))] [] h) ∧ (¬ ((nI (dP C)) ≤ (nI k)) → pz_S 8 (some .int) am_r234 4 Q 290 [(0, .ref 154), (1, .int ((Int16.ofInt 1029).toInt32)), (2, .int w), (3, .int x3), (4, .int (nI n4)), (5, .int x5), (7, .int (nI k))] [] h) from ⟨fun _ => ?_, fun hz => absurd (show nI (dP C) ≤ nI k from nI_le (by omega) (by omega)) hz⟩)
    exact sv_S2 sv2_234 (by intro q hq; simp only [List.mem_cons, List.not_mem_nil, or_false] at hq; rcases hq with rfl | rfl | rfl | rfl | rfl <;> rfl) (hZ _ hP hI hT hO hN hS hG)
  | succ m ih =>
    intro k s h hk hP hI hT hO hN hS hG hZ
    have h6 := hT.1.2.1
    have h5 := hT.2.1.2.1
    refine am_goX 3 (show am_rc h 154 11 ∧ 1 ≤ 8 ∧ h.2.2.2.2 + am_al 186 ≤ 175 ∧ am_call am_cod 4 186 [.ref 154] h (fun vv h' => pz_S 8 (some .int) am_r234 4 Q 287 [(0, .ref 154), (1, .int ((Int16.ofInt 1029).toInt32)), (2, .int w), (3, .int x3), (4, .int (nI n4)), (5, .int x5), (7, .int (nI k))] (vv.toList ++ [.int (nI k)]) h') from ⟨Or.inl ⟨by decide, ex_154 hP⟩, by decide, ex_lim hP rfl, am_call.up (d_186_r hP hT ?_) (by decide)⟩)
    refine am_goX 1 (show ((nI (dP C)) ≤ (nI k) → pz_S 8 (some .int) am_r234 4 Q 335 [(0, .ref 154), (1, .int ((Int16.ofInt 1029).toInt32)), (2, .int w), (3, .int x3), (4, .int (nI n4)), (5, .int x5), (7, .int (nI k))] [] h) ∧ (¬ ((nI (dP C)) ≤ (nI k)) → pz_S 8 (some .int) am_r234 4 Q 290 [(0, .ref 154), (1, .int ((Int16.ofInt 1029).toInt32)), (2, .int w), (3, .int x3), (4, .int (nI n4)), (5, .int x5), (7, .int (nI k))] [] h) from ⟨fun hz => absurd hz (show ¬ (nI (dP C) ≤ nI k) by rw [nI_leI (by omega) (by omega)]; omega), fun _ => ?_⟩)
    refine am_goX 2 (show am_sh h 154 = some (11, 0) ∧ pz_S 8 (some .int) am_r234 4 Q 294 [(0, .ref 154), (1, .int ((Int16.ofInt 1029).toInt32)), (2, .int w), (3, .int x3), (4, .int (nI n4)), (5, .int x5), (7, .int (nI k))] [am_rf (h.2.2.1 154 24)] h from ⟨ex_154 hP, ?_⟩)
    rw [show am_rf (h.2.2.1 154 24) = .ref 170 from congrArg am_rf (ex_r154_24 hP)]
    refine am_goX 7 (show (Value.int ((((Int16.ofInt 1029).toInt32) + ((Int8.ofInt 8).toInt32)) + (nI k))).category = 1 ∧ (Value.ref 170).category = 1 ∧ ∃ jj nn : Nat, am_sh h 170 = some (13, nn) ∧ jj < nn ∧ (((Int16.ofInt 1029).toInt32) + ((Int8.ofInt 8).toInt32)) + (nI k) = nI jj ∧ pz_S 8 (some .int) am_r234 4 Q 303 [(0, .ref 154), (1, .int ((Int16.ofInt 1029).toInt32)), (2, .int w), (3, .int x3), (4, .int (nI n4)), (5, .int x5), (7, .int (nI k))] [.int (h.1 170 jj), .int ((((Int16.ofInt 1029).toInt32) + ((Int8.ofInt 8).toInt32)) + (nI k)), .ref 170] h from ⟨rfl, rfl, ⟨(1037 + k), 1127, ex_170 hP, (by omega), (dn_a (dn_a (show (Int16.ofInt 1029).toInt32 = nI 1029 by decide) (show (Int8.ofInt 8).toInt32 = nI 8 by decide)) rfl), ?_⟩⟩)
    rw [show h.1 170 (1037 + k) = s.2.2.2.1 k from (by rw [show (1037 + k) = 1029 + 8 + k by omega]; exact hS.2.2.1 k (by omega))]
    suffices key : ∀ (v342 : Int32), v342 = (if ¬ ((x5 >>> ((nI k) &&& 31)) &&& (Int32.ofInt 1)) = (Int32.ofInt 1) then Int32.ofInt 0 else x5 &&& (((Int32.ofInt 1) <<< ((nI k) &&& 31)) ^^^ (Int32.ofInt (-1)))) → pz_S 8 (some .int) am_r234 4 Q 327 [(0, .ref 154), (1, .int ((Int16.ofInt 1029).toInt32)), (2, .int w), (3, .int x3), (4, .int (nI n4)), (5, .int x5), (7, .int (nI k))] [.int v342, .int (s.2.2.2.1 k), .int ((((Int16.ofInt 1029).toInt32) + ((Int8.ofInt 8).toInt32)) + (nI k)), .ref 170] h by
      refine am_goX 7 (show (¬ ((x5 >>> ((nI k) &&& 31)) &&& (Int32.ofInt 1)) = (Int32.ofInt 1) → pz_S 8 (some .int) am_r234 4 Q 326 [(0, .ref 154), (1, .int ((Int16.ofInt 1029).toInt32)), (2, .int w), (3, .int x3), (4, .int (nI n4)), (5, .int x5), (7, .int (nI k))] [.int (s.2.2.2.1 k), .int ((((Int16.ofInt 1029).toInt32) + ((Int8.ofInt 8).toInt32)) + (nI k)), .ref 170] h) ∧ (¬ ¬ ((x5 >>> ((nI k) &&& 31)) &&& (Int32.ofInt 1)) = (Int32.ofInt 1) → pz_S 8 (some .int) am_r234 4 Q 314 [(0, .ref 154), (1, .int ((Int16.ofInt 1029).toInt32)), (2, .int w), (3, .int x3), (4, .int (nI n4)), (5, .int x5), (7, .int (nI k))] [.int (s.2.2.2.1 k), .int ((((Int16.ofInt 1029).toInt32) + ((Int8.ofInt 8).toInt32)) + (nI k)), .ref 170] h) from ⟨fun c341 => ?_, fun c341 => ?_⟩)
      · refine am_goX 1 (show pz_S 8 (some .int) am_r234 4 Q 327 [(0, .ref 154), (1, .int ((Int16.ofInt 1029).toInt32)), (2, .int w), (3, .int x3), (4, .int (nI n4)), (5, .int x5), (7, .int (nI k))] [.int (Int32.ofInt 0), .int (s.2.2.2.1 k), .int ((((Int16.ofInt 1029).toInt32) + ((Int8.ofInt 8).toInt32)) + (nI k)), .ref 170] h from ?_)
        exact sv_S2 sv2_234 (by intro q hq; simp only [List.mem_cons, List.not_mem_nil, or_false] at hq; rcases hq with rfl | rfl | rfl | rfl | rfl | rfl | rfl <;> rfl) (key _ (if_pos c341).symm)
      · refine am_goX 8 (show pz_S 8 (some .int) am_r234 4 Q 327 [(0, .ref 154), (1, .int ((Int16.ofInt 1029).toInt32)), (2, .int w), (3, .int x3), (4, .int (nI n4)), (5, .int x5), (7, .int (nI k))] [.int (x5 &&& (((Int32.ofInt 1) <<< ((nI k) &&& 31)) ^^^ (Int32.ofInt (-1)))), .int (s.2.2.2.1 k), .int ((((Int16.ofInt 1029).toInt32) + ((Int8.ofInt 8).toInt32)) + (nI k)), .ref 170] h from ?_)
        exact sv_S2 sv2_234 (by intro q hq; simp only [List.mem_cons, List.not_mem_nil, or_false] at hq; rcases hq with rfl | rfl | rfl | rfl | rfl | rfl | rfl <;> rfl) (key _ (if_neg c341).symm)
    intro v342 e343
    subst e343
    refine am_goX 2 (show ∃ jj nn : Nat, am_so h 170 = some (13, nn) ∧ jj < nn ∧ (((Int16.ofInt 1029).toInt32) + ((Int8.ofInt 8).toInt32)) + (nI k) = nI jj ∧ pz_S 8 (some .int) am_r234 4 Q 329 [(0, .ref 154), (1, .int ((Int16.ofInt 1029).toInt32)), (2, .int w), (3, .int x3), (4, .int (nI n4)), (5, .int x5), (7, .int (nI k))] [] (am_wI h 170 jj ((s.2.2.2.1 k) ||| (if ¬ ((x5 >>> ((nI k) &&& 31)) &&& (Int32.ofInt 1)) = (Int32.ofInt 1) then Int32.ofInt 0 else x5 &&& (((Int32.ofInt 1) <<< ((nI k) &&& 31)) ^^^ (Int32.ofInt (-1)))))) from ⟨(1037 + k), 1127, ex_w170 hP, (by omega), (dn_a (dn_a (show (Int16.ofInt 1029).toInt32 = nI 1029 by decide) (show (Int8.ofInt 8).toInt32 = nI 8 by decide)) rfl), ?_⟩)
    have f345 : ex_P (am_wI h 170 (1037 + k) ((s.2.2.2.1 k) ||| (if ¬ ((x5 >>> ((nI k) &&& 31)) &&& (Int32.ofInt 1)) = (Int32.ofInt 1) then Int32.ofInt 0 else x5 &&& (((Int32.ofInt 1) <<< ((nI k) &&& 31)) ^^^ (Int32.ofInt (-1)))))) := hP
    have f346 : cI C := hI
    have f347 : tR C (am_wI h 170 (1037 + k) ((s.2.2.2.1 k) ||| (if ¬ ((x5 >>> ((nI k) &&& 31)) &&& (Int32.ofInt 1)) = (Int32.ofInt 1) then Int32.ofInt 0 else x5 &&& (((Int32.ofInt 1) <<< ((nI k) &&& 31)) ^^^ (Int32.ofInt (-1)))))) := tR_w (by omega) hT
    have f348 : ∀ e, e < dE C → (am_wI h 170 (1037 + k) ((s.2.2.2.1 k) ||| (if ¬ ((x5 >>> ((nI k) &&& 31)) &&& (Int32.ofInt 1)) = (Int32.ofInt 1) then Int32.ofInt 0 else x5 &&& (((Int32.ofInt 1) <<< ((nI k) &&& 31)) ^^^ (Int32.ofInt (-1)))))).1 172 e = dW V e := on_w (by omega) hO
    have f349 : sR 0 (dP C) u (am_wI h 170 (1037 + k) ((s.2.2.2.1 k) ||| (if ¬ ((x5 >>> ((nI k) &&& 31)) &&& (Int32.ofInt 1)) = (Int32.ofInt 1) then Int32.ofInt 0 else x5 &&& (((Int32.ofInt 1) <<< ((nI k) &&& 31)) ^^^ (Int32.ofInt (-1)))))) := sR_q (by omega) hN
    have f350 : sR 1029 (dP C) (sSM s k ((s.2.2.2.1 k) ||| (if ¬ ((x5 >>> ((nI k) &&& 31)) &&& (Int32.ofInt 1)) = (Int32.ofInt 1) then Int32.ofInt 0 else x5 &&& (((Int32.ofInt 1) <<< ((nI k) &&& 31)) ^^^ (Int32.ofInt (-1)))))) (am_wI h 170 (1037 + k) ((s.2.2.2.1 k) ||| (if ¬ ((x5 >>> ((nI k) &&& 31)) &&& (Int32.ofInt 1)) = (Int32.ofInt 1) then Int32.ofInt 0 else x5 &&& (((Int32.ofInt 1) <<< ((nI k) &&& 31)) ^^^ (Int32.ofInt (-1)))))) := sR_wM (i := k) (by omega) (by omega) hS
    have f351 : (am_wI h 170 (1037 + k) ((s.2.2.2.1 k) ||| (if ¬ ((x5 >>> ((nI k) &&& 31)) &&& (Int32.ofInt 1)) = (Int32.ofInt 1) then Int32.ofInt 0 else x5 &&& (((Int32.ofInt 1) <<< ((nI k) &&& 31)) ^^^ (Int32.ofInt (-1)))))).1 154 28 = gg := (em_wn _ _ (by omega)).trans hG
    generalize am_wI h 170 (1037 + k) ((s.2.2.2.1 k) ||| (if ¬ ((x5 >>> ((nI k) &&& 31)) &&& (Int32.ofInt 1)) = (Int32.ofInt 1) then Int32.ofInt 0 else x5 &&& (((Int32.ofInt 1) <<< ((nI k) &&& 31)) ^^^ (Int32.ofInt (-1))))) = h344 at f345 f346 f347 f348 f349 f350 f351 ⊢
    refine am_goX 2 (show 7 < 8 ∧ pz_S 8 (some .int) am_r234 4 Q 281 [(7, .int ((nI k) + (Int32.ofInt 1))), (0, .ref 154), (1, .int ((Int16.ofInt 1029).toInt32)), (2, .int w), (3, .int x3), (4, .int (nI n4)), (5, .int x5)] [] h344 from ⟨by decide, ?_⟩)
    rw [show (nI k) + (Int32.ofInt 1) = nI (k + 1) from (dn_a rfl rfl)]
    exact sv_S2 sv2_234 (by intro q hq; simp only [List.mem_cons, List.not_mem_nil, or_false] at hq; rcases hq with rfl | rfl | rfl | rfl | rfl | rfl | rfl <;> rfl) (ih (k + 1) (sSM s k ((s.2.2.2.1 k) ||| (if ¬ ((x5 >>> ((nI k) &&& 31)) &&& (Int32.ofInt 1)) = (Int32.ofInt 1) then Int32.ofInt 0 else x5 &&& (((Int32.ofInt 1) <<< ((nI k) &&& 31)) ^^^ (Int32.ofInt (-1)))))) _ (by omega) f345 f346 f347 f348 f349 f350 f351 hZ)
theorem d_234_132_g1029 : ∀ (m k : Nat) (a3 : Int32) (s : dS) (h : am_H), k + m = dE C → (ex_P h) → (cI C) → (tR C h) → (∀ e, e < dE C → h.1 172 e = dW V e) → (sR 0 (dP C) u h) → (sR 1029 (dP C) s h) → (h.1 154 28 = gg) → (∀ h1, (ex_P h1) → (cI C) → (tR C h1) → (∀ e, e < dE C → h1.1 172 e = dW V e) → (sR 0 (dP C) u h1) → (sR 1029 (dP C) ((d_234_132 C V gg w m k a3 s).2) h1) → (h1.1 154 28 = gg) → pz_S 8 (some .int) am_r234 4 Q 341 [(3, .int ((d_234_132 C V gg w m k a3 s).1))] [] h1) → pz_S 8 (some .int) am_r234 4 Q 132 [(0, .ref 154), (1, .int ((Int16.ofInt 1029).toInt32)), (2, .int w), (3, .int a3), (4, .int (nI k))] [] h := by
  intro m
  induction m with
  | zero =>
    intro k a3 s h hk hP hI hT hO hN hS hG hZ
    have h6 := hT.1.2.1
    have h5 := hT.2.1.2.1
    refine am_goX 3 (show am_rc h 154 11 ∧ 1 ≤ 8 ∧ h.2.2.2.2 + am_al 183 ≤ 175 ∧ am_call am_cod 4 183 [.ref 154] h (fun vv h' => pz_S 8 (some .int) am_r234 4 Q 138 [(0, .ref 154), (1, .int ((Int16.ofInt 1029).toInt32)), (2, .int w), (3, .int a3), (4, .int (nI k))] (vv.toList ++ [.int (nI k)]) h') from ⟨Or.inl ⟨by decide, ex_154 hP⟩, by decide, ex_lim hP rfl, am_call.up (d_183_r hP hT ?_) (by decide)⟩)
    refine am_goX 1 (show ((nI (dE C)) ≤ (nI k) → pz_S 8 (some .int) am_r234 4 Q 341 [(0, .ref 154), (1, .int ((Int16.ofInt 1029).toInt32)), (2, .int w), (3, .int a3), (4, .int (nI k))] [] h) ∧ (¬ ((nI (dE C)) ≤ (nI k)) → pz_S 8 (some .int) am_r234 4 Q 141 [(0, .ref 154), (1, .int ((Int16.ofInt 1029).toInt32)), (2, .int w), (3, .int a3), (4, .int (nI k))] [] h) from ⟨fun _ => ?_, fun hz => absurd (show nI (dE C) ≤ nI k from nI_le (by omega) (by omega)) hz⟩)
    exact sv_S2 sv2_234 (by intro q hq; simp only [List.mem_cons, List.not_mem_nil, or_false] at hq; rcases hq with rfl <;> rfl) (hZ _ hP hI hT hO hN hS hG)
  | succ m ih =>
    intro k a3 s h hk hP hI hT hO hN hS hG hZ
    have h6 := hT.1.2.1
    have h5 := hT.2.1.2.1
    refine am_goX 3 (show am_rc h 154 11 ∧ 1 ≤ 8 ∧ h.2.2.2.2 + am_al 183 ≤ 175 ∧ am_call am_cod 4 183 [.ref 154] h (fun vv h' => pz_S 8 (some .int) am_r234 4 Q 138 [(0, .ref 154), (1, .int ((Int16.ofInt 1029).toInt32)), (2, .int w), (3, .int a3), (4, .int (nI k))] (vv.toList ++ [.int (nI k)]) h') from ⟨Or.inl ⟨by decide, ex_154 hP⟩, by decide, ex_lim hP rfl, am_call.up (d_183_r hP hT ?_) (by decide)⟩)
    refine am_goX 1 (show ((nI (dE C)) ≤ (nI k) → pz_S 8 (some .int) am_r234 4 Q 341 [(0, .ref 154), (1, .int ((Int16.ofInt 1029).toInt32)), (2, .int w), (3, .int a3), (4, .int (nI k))] [] h) ∧ (¬ ((nI (dE C)) ≤ (nI k)) → pz_S 8 (some .int) am_r234 4 Q 141 [(0, .ref 154), (1, .int ((Int16.ofInt 1029).toInt32)), (2, .int w), (3, .int a3), (4, .int (nI k))] [] h) from ⟨fun hz => absurd hz (show ¬ (nI (dE C) ≤ nI k) by rw [nI_leI (by omega) (by omega)]; omega), fun _ => ?_⟩)
    refine am_goX 4 (show 5 < 8 ∧ 6 < 8 ∧ pz_S 8 (some .int) am_r234 4 Q 147 [(6, .int (Int32.ofInt 0)), (5, .int (Int32.ofInt 0)), (0, .ref 154), (1, .int ((Int16.ofInt 1029).toInt32)), (2, .int w), (3, .int a3), (4, .int (nI k))] [] h from ⟨by decide, by decide, ?_⟩)
    refine sv_S2 sv2_234 (by intro q hq; simp only [List.mem_cons, List.not_mem_nil, or_false] at hq; rcases hq with rfl | rfl | rfl | rfl | rfl | rfl | rfl <;> rfl) (d_234_147_g1029 a3 k hP hI hT hO hN hS hG (by omega) (dP C) 0 (Int32.ofInt 0) (by omega) ?_)
    refine am_goX 2 (show am_sh h 154 = some (11, 0) ∧ pz_S 8 (some .int) am_r234 4 Q 205 [(0, .ref 154), (1, .int ((Int16.ofInt 1029).toInt32)), (2, .int w), (3, .int a3), (4, .int (nI k)), (5, .int (d_234_147 C V s gg w k (dP C) 0 (Int32.ofInt 0)))] [am_rf (h.2.2.1 154 24)] h from ⟨ex_154 hP, ?_⟩)
    rw [show am_rf (h.2.2.1 154 24) = .ref 170 from congrArg am_rf (ex_r154_24 hP)]
    refine am_goX 7 (show ∃ jj nn : Nat, am_so h 170 = some (13, nn) ∧ jj < nn ∧ (((Int16.ofInt 1029).toInt32) + ((Int8.ofInt 19).toInt32)) + (nI k) = nI jj ∧ pz_S 8 (some .int) am_r234 4 Q 215 [(0, .ref 154), (1, .int ((Int16.ofInt 1029).toInt32)), (2, .int w), (3, .int a3), (4, .int (nI k)), (5, .int (d_234_147 C V s gg w k (dP C) 0 (Int32.ofInt 0)))] [] (am_wI h 170 jj (d_234_147 C V s gg w k (dP C) 0 (Int32.ofInt 0))) from ⟨(1048 + k), 1127, ex_w170 hP, (by omega), (dn_a (dn_a (show (Int16.ofInt 1029).toInt32 = nI 1029 by decide) (show (Int8.ofInt 19).toInt32 = nI 19 by decide)) rfl), ?_⟩)
    have f311 : ex_P (am_wI h 170 (1048 + k) (d_234_147 C V s gg w k (dP C) 0 (Int32.ofInt 0))) := hP
    have f312 : cI C := hI
    have f313 : tR C (am_wI h 170 (1048 + k) (d_234_147 C V s gg w k (dP C) 0 (Int32.ofInt 0))) := tR_w (by omega) hT
    have f314 : ∀ e, e < dE C → (am_wI h 170 (1048 + k) (d_234_147 C V s gg w k (dP C) 0 (Int32.ofInt 0))).1 172 e = dW V e := on_w (by omega) hO
    have f315 : sR 0 (dP C) u (am_wI h 170 (1048 + k) (d_234_147 C V s gg w k (dP C) 0 (Int32.ofInt 0))) := sR_q (by omega) hN
    have f316 : sR 1029 (dP C) (sSA s k (d_234_147 C V s gg w k (dP C) 0 (Int32.ofInt 0))) (am_wI h 170 (1048 + k) (d_234_147 C V s gg w k (dP C) 0 (Int32.ofInt 0))) := sR_wA (i := k) (by omega) (by omega) hS
    have f317 : (am_wI h 170 (1048 + k) (d_234_147 C V s gg w k (dP C) 0 (Int32.ofInt 0))).1 154 28 = gg := (em_wn _ _ (by omega)).trans hG
    generalize am_wI h 170 (1048 + k) (d_234_147 C V s gg w k (dP C) 0 (Int32.ofInt 0)) = h310 at f311 f312 f313 f314 f315 f316 f317 ⊢
    refine am_goX 2 (show 0 ≤ 8 ∧ h310.2.2.2.2 + am_al 235 ≤ 175 ∧ am_call am_cod 4 235 [.int (d_234_147 C V s gg w k (dP C) 0 (Int32.ofInt 0))] h310 (fun vv h' => pz_S 8 (some .int) am_r234 4 Q 220 [(0, .ref 154), (1, .int ((Int16.ofInt 1029).toInt32)), (2, .int w), (3, .int a3), (4, .int (nI k)), (5, .int (d_234_147 C V s gg w k (dP C) 0 (Int32.ofInt 0)))] (vv.toList ++ []) h') from ⟨by decide, ex_lim f311 rfl, am_call.up (d_235_w f311 ?_) (by decide)⟩)
    refine am_goX 4 (show am_rc h310 154 11 ∧ 1 ≤ 8 ∧ h310.2.2.2.2 + am_al 184 ≤ 175 ∧ am_call am_cod 4 184 [.ref 154, .int (nI k), .int (Int32.ofInt 1)] h310 (fun vv h' => pz_S 8 (some .int) am_r234 4 Q 227 [(0, .ref 154), (1, .int ((Int16.ofInt 1029).toInt32)), (2, .int w), (3, .int a3), (4, .int (nI k)), (5, .int (d_234_147 C V s gg w k (dP C) 0 (Int32.ofInt 0)))] (vv.toList ++ [.int (d_235 (d_234_147 C V s gg w k (dP C) 0 (Int32.ofInt 0)))]) h') from ⟨Or.inl ⟨by decide, ex_154 f311⟩, by decide, ex_lim f311 rfl, am_call.up (d_184_r1 f311 f313 (by omega) ?_) (by decide)⟩)
    suffices key : ∀ (v319 : Int32), v319 = (if (d_235 (d_234_147 C V s gg w k (dP C) 0 (Int32.ofInt 0))) < (dN C k) then Int32.ofInt 0 else Int32.ofInt 1) → pz_S 8 (some .int) am_r234 4 Q 235 [(0, .ref 154), (1, .int ((Int16.ofInt 1029).toInt32)), (2, .int w), (3, .int a3), (4, .int (nI k)), (5, .int (d_234_147 C V s gg w k (dP C) 0 (Int32.ofInt 0)))] [.int v319] h310 by
      refine am_goX 1 (show ((d_235 (d_234_147 C V s gg w k (dP C) 0 (Int32.ofInt 0))) < (dN C k) → pz_S 8 (some .int) am_r234 4 Q 234 [(0, .ref 154), (1, .int ((Int16.ofInt 1029).toInt32)), (2, .int w), (3, .int a3), (4, .int (nI k)), (5, .int (d_234_147 C V s gg w k (dP C) 0 (Int32.ofInt 0)))] [] h310) ∧ (¬ ((d_235 (d_234_147 C V s gg w k (dP C) 0 (Int32.ofInt 0))) < (dN C k)) → pz_S 8 (some .int) am_r234 4 Q 230 [(0, .ref 154), (1, .int ((Int16.ofInt 1029).toInt32)), (2, .int w), (3, .int a3), (4, .int (nI k)), (5, .int (d_234_147 C V s gg w k (dP C) 0 (Int32.ofInt 0)))] [] h310) from ⟨fun c318 => ?_, fun c318 => ?_⟩)
      · refine am_goX 1 (show pz_S 8 (some .int) am_r234 4 Q 235 [(0, .ref 154), (1, .int ((Int16.ofInt 1029).toInt32)), (2, .int w), (3, .int a3), (4, .int (nI k)), (5, .int (d_234_147 C V s gg w k (dP C) 0 (Int32.ofInt 0)))] [.int (Int32.ofInt 0)] h310 from ?_)
        exact sv_S2 sv2_234 (by intro q hq; simp only [List.mem_cons, List.not_mem_nil, or_false] at hq; rcases hq with rfl | rfl | rfl | rfl | rfl | rfl <;> rfl) (key _ (if_pos c318).symm)
      · refine am_goX 2 (show pz_S 8 (some .int) am_r234 4 Q 235 [(0, .ref 154), (1, .int ((Int16.ofInt 1029).toInt32)), (2, .int w), (3, .int a3), (4, .int (nI k)), (5, .int (d_234_147 C V s gg w k (dP C) 0 (Int32.ofInt 0)))] [.int (Int32.ofInt 1)] h310 from ?_)
        exact sv_S2 sv2_234 (by intro q hq; simp only [List.mem_cons, List.not_mem_nil, or_false] at hq; rcases hq with rfl | rfl | rfl | rfl | rfl | rfl <;> rfl) (key _ (if_neg c318).symm)
    intro v319 e320
    subst e320
    refine am_goX 3 (show 6 < 8 ∧ am_sh h310 154 = some (11, 0) ∧ pz_S 8 (some .int) am_r234 4 Q 241 [(6, .int (if (d_235 (d_234_147 C V s gg w k (dP C) 0 (Int32.ofInt 0))) < (dN C k) then Int32.ofInt 0 else Int32.ofInt 1)), (0, .ref 154), (1, .int ((Int16.ofInt 1029).toInt32)), (2, .int w), (3, .int a3), (4, .int (nI k)), (5, .int (d_234_147 C V s gg w k (dP C) 0 (Int32.ofInt 0)))] [am_rf (h310.2.2.1 154 24)] h310 from ⟨by decide, ex_154 f311, ?_⟩)
    rw [show am_rf (h310.2.2.1 154 24) = .ref 170 from congrArg am_rf (ex_r154_24 f311)]
    refine am_goX 7 (show (Value.int ((((Int16.ofInt 1029).toInt32) + ((Int8.ofInt 14).toInt32)) + (nI k))).category = 1 ∧ (Value.ref 170).category = 1 ∧ ∃ jj nn : Nat, am_sh h310 170 = some (13, nn) ∧ jj < nn ∧ (((Int16.ofInt 1029).toInt32) + ((Int8.ofInt 14).toInt32)) + (nI k) = nI jj ∧ pz_S 8 (some .int) am_r234 4 Q 250 [(6, .int (if (d_235 (d_234_147 C V s gg w k (dP C) 0 (Int32.ofInt 0))) < (dN C k) then Int32.ofInt 0 else Int32.ofInt 1)), (0, .ref 154), (1, .int ((Int16.ofInt 1029).toInt32)), (2, .int w), (3, .int a3), (4, .int (nI k)), (5, .int (d_234_147 C V s gg w k (dP C) 0 (Int32.ofInt 0)))] [.int (h310.1 170 jj), .int ((((Int16.ofInt 1029).toInt32) + ((Int8.ofInt 14).toInt32)) + (nI k)), .ref 170] h310 from ⟨rfl, rfl, ⟨(1043 + k), 1127, ex_170 f311, (by omega), (dn_a (dn_a (show (Int16.ofInt 1029).toInt32 = nI 1029 by decide) (show (Int8.ofInt 14).toInt32 = nI 14 by decide)) rfl), ?_⟩⟩)
    rw [show h310.1 170 (1043 + k) = (sSA s k (d_234_147 C V s gg w k (dP C) 0 (Int32.ofInt 0))).2.2.2.2.1 k from (by rw [show (1043 + k) = 1029 + 14 + k by omega]; exact (f316.2.2.2 k (by omega)).1)]
    suffices key : ∀ (v322 : Int32), v322 = (if (if (d_235 (d_234_147 C V s gg w k (dP C) 0 (Int32.ofInt 0))) < (dN C k) then Int32.ofInt 0 else Int32.ofInt 1) = 0 then Int32.ofInt 0 else Int32.ofInt 1) → pz_S 8 (some .int) am_r234 4 Q 260 [(0, .ref 154), (1, .int ((Int16.ofInt 1029).toInt32)), (2, .int w), (3, .int a3), (4, .int (nI k)), (5, .int (d_234_147 C V s gg w k (dP C) 0 (Int32.ofInt 0))), (6, .int (if (d_235 (d_234_147 C V s gg w k (dP C) 0 (Int32.ofInt 0))) < (dN C k) then Int32.ofInt 0 else Int32.ofInt 1))] [.int v322, .int ((sSA s k (d_234_147 C V s gg w k (dP C) 0 (Int32.ofInt 0))).2.2.2.2.1 k), .int ((((Int16.ofInt 1029).toInt32) + ((Int8.ofInt 14).toInt32)) + (nI k)), .ref 170] h310 by
      refine am_goX 2 (show ((if (d_235 (d_234_147 C V s gg w k (dP C) 0 (Int32.ofInt 0))) < (dN C k) then Int32.ofInt 0 else Int32.ofInt 1) = 0 → pz_S 8 (some .int) am_r234 4 Q 259 [(6, .int (if (d_235 (d_234_147 C V s gg w k (dP C) 0 (Int32.ofInt 0))) < (dN C k) then Int32.ofInt 0 else Int32.ofInt 1)), (0, .ref 154), (1, .int ((Int16.ofInt 1029).toInt32)), (2, .int w), (3, .int a3), (4, .int (nI k)), (5, .int (d_234_147 C V s gg w k (dP C) 0 (Int32.ofInt 0)))] [.int ((sSA s k (d_234_147 C V s gg w k (dP C) 0 (Int32.ofInt 0))).2.2.2.2.1 k), .int ((((Int16.ofInt 1029).toInt32) + ((Int8.ofInt 14).toInt32)) + (nI k)), .ref 170] h310) ∧ (¬ ((if (d_235 (d_234_147 C V s gg w k (dP C) 0 (Int32.ofInt 0))) < (dN C k) then Int32.ofInt 0 else Int32.ofInt 1) = 0) → pz_S 8 (some .int) am_r234 4 Q 255 [(6, .int (if (d_235 (d_234_147 C V s gg w k (dP C) 0 (Int32.ofInt 0))) < (dN C k) then Int32.ofInt 0 else Int32.ofInt 1)), (0, .ref 154), (1, .int ((Int16.ofInt 1029).toInt32)), (2, .int w), (3, .int a3), (4, .int (nI k)), (5, .int (d_234_147 C V s gg w k (dP C) 0 (Int32.ofInt 0)))] [.int ((sSA s k (d_234_147 C V s gg w k (dP C) 0 (Int32.ofInt 0))).2.2.2.2.1 k), .int ((((Int16.ofInt 1029).toInt32) + ((Int8.ofInt 14).toInt32)) + (nI k)), .ref 170] h310) from ⟨fun c321 => ?_, fun c321 => ?_⟩)
      · refine am_goX 1 (show pz_S 8 (some .int) am_r234 4 Q 260 [(6, .int (if (d_235 (d_234_147 C V s gg w k (dP C) 0 (Int32.ofInt 0))) < (dN C k) then Int32.ofInt 0 else Int32.ofInt 1)), (0, .ref 154), (1, .int ((Int16.ofInt 1029).toInt32)), (2, .int w), (3, .int a3), (4, .int (nI k)), (5, .int (d_234_147 C V s gg w k (dP C) 0 (Int32.ofInt 0)))] [.int (Int32.ofInt 0), .int ((sSA s k (d_234_147 C V s gg w k (dP C) 0 (Int32.ofInt 0))).2.2.2.2.1 k), .int ((((Int16.ofInt 1029).toInt32) + ((Int8.ofInt 14).toInt32)) + (nI k)), .ref 170] h310 from ?_)
        exact sv_S2 sv2_234 (by intro q hq; simp only [List.mem_cons, List.not_mem_nil, or_false] at hq; rcases hq with rfl | rfl | rfl | rfl | rfl | rfl | rfl <;> rfl) (key _ (if_pos c321).symm)
      · refine am_goX 2 (show pz_S 8 (some .int) am_r234 4 Q 260 [(6, .int (if (d_235 (d_234_147 C V s gg w k (dP C) 0 (Int32.ofInt 0))) < (dN C k) then Int32.ofInt 0 else Int32.ofInt 1)), (0, .ref 154), (1, .int ((Int16.ofInt 1029).toInt32)), (2, .int w), (3, .int a3), (4, .int (nI k)), (5, .int (d_234_147 C V s gg w k (dP C) 0 (Int32.ofInt 0)))] [.int (Int32.ofInt 1), .int ((sSA s k (d_234_147 C V s gg w k (dP C) 0 (Int32.ofInt 0))).2.2.2.2.1 k), .int ((((Int16.ofInt 1029).toInt32) + ((Int8.ofInt 14).toInt32)) + (nI k)), .ref 170] h310 from ?_)
        exact sv_S2 sv2_234 (by intro q hq; simp only [List.mem_cons, List.not_mem_nil, or_false] at hq; rcases hq with rfl | rfl | rfl | rfl | rfl | rfl | rfl <;> rfl) (key _ (if_neg c321).symm)
    intro v322 e323
    subst e323
    refine am_goX 2 (show ∃ jj nn : Nat, am_so h310 170 = some (13, nn) ∧ jj < nn ∧ (((Int16.ofInt 1029).toInt32) + ((Int8.ofInt 14).toInt32)) + (nI k) = nI jj ∧ pz_S 8 (some .int) am_r234 4 Q 262 [(0, .ref 154), (1, .int ((Int16.ofInt 1029).toInt32)), (2, .int w), (3, .int a3), (4, .int (nI k)), (5, .int (d_234_147 C V s gg w k (dP C) 0 (Int32.ofInt 0))), (6, .int (if (d_235 (d_234_147 C V s gg w k (dP C) 0 (Int32.ofInt 0))) < (dN C k) then Int32.ofInt 0 else Int32.ofInt 1))] [] (am_wI h310 170 jj (((sSA s k (d_234_147 C V s gg w k (dP C) 0 (Int32.ofInt 0))).2.2.2.2.1 k) + (if (if (d_235 (d_234_147 C V s gg w k (dP C) 0 (Int32.ofInt 0))) < (dN C k) then Int32.ofInt 0 else Int32.ofInt 1) = 0 then Int32.ofInt 0 else Int32.ofInt 1))) from ⟨(1043 + k), 1127, ex_w170 f311, (by omega), (dn_a (dn_a (show (Int16.ofInt 1029).toInt32 = nI 1029 by decide) (show (Int8.ofInt 14).toInt32 = nI 14 by decide)) rfl), ?_⟩)
    have f325 : ex_P (am_wI h310 170 (1043 + k) (((sSA s k (d_234_147 C V s gg w k (dP C) 0 (Int32.ofInt 0))).2.2.2.2.1 k) + (if (if (d_235 (d_234_147 C V s gg w k (dP C) 0 (Int32.ofInt 0))) < (dN C k) then Int32.ofInt 0 else Int32.ofInt 1) = 0 then Int32.ofInt 0 else Int32.ofInt 1))) := f311
    have f326 : cI C := f312
    have f327 : tR C (am_wI h310 170 (1043 + k) (((sSA s k (d_234_147 C V s gg w k (dP C) 0 (Int32.ofInt 0))).2.2.2.2.1 k) + (if (if (d_235 (d_234_147 C V s gg w k (dP C) 0 (Int32.ofInt 0))) < (dN C k) then Int32.ofInt 0 else Int32.ofInt 1) = 0 then Int32.ofInt 0 else Int32.ofInt 1))) := tR_w (by omega) f313
    have f328 : ∀ e, e < dE C → (am_wI h310 170 (1043 + k) (((sSA s k (d_234_147 C V s gg w k (dP C) 0 (Int32.ofInt 0))).2.2.2.2.1 k) + (if (if (d_235 (d_234_147 C V s gg w k (dP C) 0 (Int32.ofInt 0))) < (dN C k) then Int32.ofInt 0 else Int32.ofInt 1) = 0 then Int32.ofInt 0 else Int32.ofInt 1))).1 172 e = dW V e := on_w (by omega) f314
    have f329 : sR 0 (dP C) u (am_wI h310 170 (1043 + k) (((sSA s k (d_234_147 C V s gg w k (dP C) 0 (Int32.ofInt 0))).2.2.2.2.1 k) + (if (if (d_235 (d_234_147 C V s gg w k (dP C) 0 (Int32.ofInt 0))) < (dN C k) then Int32.ofInt 0 else Int32.ofInt 1) = 0 then Int32.ofInt 0 else Int32.ofInt 1))) := sR_q (by omega) f315
    have f330 : sR 1029 (dP C) (sSH (sSA s k (d_234_147 C V s gg w k (dP C) 0 (Int32.ofInt 0))) k (((sSA s k (d_234_147 C V s gg w k (dP C) 0 (Int32.ofInt 0))).2.2.2.2.1 k) + (if (if (d_235 (d_234_147 C V s gg w k (dP C) 0 (Int32.ofInt 0))) < (dN C k) then Int32.ofInt 0 else Int32.ofInt 1) = 0 then Int32.ofInt 0 else Int32.ofInt 1))) (am_wI h310 170 (1043 + k) (((sSA s k (d_234_147 C V s gg w k (dP C) 0 (Int32.ofInt 0))).2.2.2.2.1 k) + (if (if (d_235 (d_234_147 C V s gg w k (dP C) 0 (Int32.ofInt 0))) < (dN C k) then Int32.ofInt 0 else Int32.ofInt 1) = 0 then Int32.ofInt 0 else Int32.ofInt 1))) := sR_wH (i := k) (by omega) (by omega) f316
    have f331 : (am_wI h310 170 (1043 + k) (((sSA s k (d_234_147 C V s gg w k (dP C) 0 (Int32.ofInt 0))).2.2.2.2.1 k) + (if (if (d_235 (d_234_147 C V s gg w k (dP C) 0 (Int32.ofInt 0))) < (dN C k) then Int32.ofInt 0 else Int32.ofInt 1) = 0 then Int32.ofInt 0 else Int32.ofInt 1))).1 154 28 = gg := (em_wn _ _ (by omega)).trans f317
    generalize am_wI h310 170 (1043 + k) (((sSA s k (d_234_147 C V s gg w k (dP C) 0 (Int32.ofInt 0))).2.2.2.2.1 k) + (if (if (d_235 (d_234_147 C V s gg w k (dP C) 0 (Int32.ofInt 0))) < (dN C k) then Int32.ofInt 0 else Int32.ofInt 1) = 0 then Int32.ofInt 0 else Int32.ofInt 1)) = h324 at f325 f326 f327 f328 f329 f330 f331 ⊢
    suffices key : ∀ (v333 : Int32), v333 = (if (if (d_235 (d_234_147 C V s gg w k (dP C) 0 (Int32.ofInt 0))) < (dN C k) then Int32.ofInt 0 else Int32.ofInt 1) = 0 then Int32.ofInt 0 else (Int32.ofInt 1) <<< ((nI k) &&& 31)) → pz_S 8 (some .int) am_r234 4 Q 276 [(0, .ref 154), (1, .int ((Int16.ofInt 1029).toInt32)), (2, .int w), (4, .int (nI k)), (5, .int (d_234_147 C V s gg w k (dP C) 0 (Int32.ofInt 0)))] [.int v333, .int a3] h324 by
      refine am_goX 3 (show ((if (d_235 (d_234_147 C V s gg w k (dP C) 0 (Int32.ofInt 0))) < (dN C k) then Int32.ofInt 0 else Int32.ofInt 1) = 0 → pz_S 8 (some .int) am_r234 4 Q 275 [(0, .ref 154), (1, .int ((Int16.ofInt 1029).toInt32)), (2, .int w), (3, .int a3), (4, .int (nI k)), (5, .int (d_234_147 C V s gg w k (dP C) 0 (Int32.ofInt 0))), (6, .int (if (d_235 (d_234_147 C V s gg w k (dP C) 0 (Int32.ofInt 0))) < (dN C k) then Int32.ofInt 0 else Int32.ofInt 1))] [.int a3] h324) ∧ (¬ ((if (d_235 (d_234_147 C V s gg w k (dP C) 0 (Int32.ofInt 0))) < (dN C k) then Int32.ofInt 0 else Int32.ofInt 1) = 0) → pz_S 8 (some .int) am_r234 4 Q 268 [(0, .ref 154), (1, .int ((Int16.ofInt 1029).toInt32)), (2, .int w), (3, .int a3), (4, .int (nI k)), (5, .int (d_234_147 C V s gg w k (dP C) 0 (Int32.ofInt 0))), (6, .int (if (d_235 (d_234_147 C V s gg w k (dP C) 0 (Int32.ofInt 0))) < (dN C k) then Int32.ofInt 0 else Int32.ofInt 1))] [.int a3] h324) from ⟨fun c332 => ?_, fun c332 => ?_⟩)
      · refine am_goX 1 (show pz_S 8 (some .int) am_r234 4 Q 276 [(0, .ref 154), (1, .int ((Int16.ofInt 1029).toInt32)), (2, .int w), (3, .int a3), (4, .int (nI k)), (5, .int (d_234_147 C V s gg w k (dP C) 0 (Int32.ofInt 0))), (6, .int (if (d_235 (d_234_147 C V s gg w k (dP C) 0 (Int32.ofInt 0))) < (dN C k) then Int32.ofInt 0 else Int32.ofInt 1))] [.int (Int32.ofInt 0), .int a3] h324 from ?_)
        exact sv_S2 sv2_234 (by intro q hq; simp only [List.mem_cons, List.not_mem_nil, or_false] at hq; rcases hq with rfl | rfl | rfl | rfl | rfl <;> rfl) (key _ (if_pos c332).symm)
      · refine am_goX 4 (show pz_S 8 (some .int) am_r234 4 Q 276 [(0, .ref 154), (1, .int ((Int16.ofInt 1029).toInt32)), (2, .int w), (3, .int a3), (4, .int (nI k)), (5, .int (d_234_147 C V s gg w k (dP C) 0 (Int32.ofInt 0))), (6, .int (if (d_235 (d_234_147 C V s gg w k (dP C) 0 (Int32.ofInt 0))) < (dN C k) then Int32.ofInt 0 else Int32.ofInt 1))] [.int ((Int32.ofInt 1) <<< ((nI k) &&& 31)), .int a3] h324 from ?_)
        exact sv_S2 sv2_234 (by intro q hq; simp only [List.mem_cons, List.not_mem_nil, or_false] at hq; rcases hq with rfl | rfl | rfl | rfl | rfl <;> rfl) (key _ (if_neg c332).symm)
    intro v333 e334
    subst e334
    refine am_goX 4 (show 3 < 8 ∧ 7 < 8 ∧ pz_S 8 (some .int) am_r234 4 Q 281 [(7, .int (Int32.ofInt 0)), (3, .int (a3 ||| (if (if (d_235 (d_234_147 C V s gg w k (dP C) 0 (Int32.ofInt 0))) < (dN C k) then Int32.ofInt 0 else Int32.ofInt 1) = 0 then Int32.ofInt 0 else (Int32.ofInt 1) <<< ((nI k) &&& 31)))), (0, .ref 154), (1, .int ((Int16.ofInt 1029).toInt32)), (2, .int w), (4, .int (nI k)), (5, .int (d_234_147 C V s gg w k (dP C) 0 (Int32.ofInt 0)))] [] h324 from ⟨by decide, by decide, ?_⟩)
    refine sv_S2 sv2_234 (by intro q hq; simp only [List.mem_cons, List.not_mem_nil, or_false] at hq; rcases hq with rfl | rfl | rfl | rfl | rfl | rfl | rfl <;> rfl) (d_234_281_g1029 (a3 ||| (if (if (d_235 (d_234_147 C V s gg w k (dP C) 0 (Int32.ofInt 0))) < (dN C k) then Int32.ofInt 0 else Int32.ofInt 1) = 0 then Int32.ofInt 0 else (Int32.ofInt 1) <<< ((nI k) &&& 31))) k (d_234_147 C V s gg w k (dP C) 0 (Int32.ofInt 0)) (dP C) 0 (sSH (sSA s k (d_234_147 C V s gg w k (dP C) 0 (Int32.ofInt 0))) k (((sSA s k (d_234_147 C V s gg w k (dP C) 0 (Int32.ofInt 0))).2.2.2.2.1 k) + (if (if (d_235 (d_234_147 C V s gg w k (dP C) 0 (Int32.ofInt 0))) < (dN C k) then Int32.ofInt 0 else Int32.ofInt 1) = 0 then Int32.ofInt 0 else Int32.ofInt 1))) _ (by omega) f325 f326 f327 f328 f329 f330 f331 (fun h335 f336 f337 f338 f339 f340 f341 f342 => ?_))
    refine am_goX 2 (show 4 < 8 ∧ pz_S 8 (some .int) am_r234 4 Q 132 [(4, .int ((nI k) + (Int32.ofInt 1))), (0, .ref 154), (1, .int ((Int16.ofInt 1029).toInt32)), (2, .int w), (3, .int (a3 ||| (if (if (d_235 (d_234_147 C V s gg w k (dP C) 0 (Int32.ofInt 0))) < (dN C k) then Int32.ofInt 0 else Int32.ofInt 1) = 0 then Int32.ofInt 0 else (Int32.ofInt 1) <<< ((nI k) &&& 31))))] [] h335 from ⟨by decide, ?_⟩)
    rw [show (nI k) + (Int32.ofInt 1) = nI (k + 1) from (dn_a rfl rfl)]
    exact sv_S2 sv2_234 (by intro q hq; simp only [List.mem_cons, List.not_mem_nil, or_false] at hq; rcases hq with rfl | rfl | rfl | rfl | rfl <;> rfl) (ih (k + 1) (a3 ||| (if (if (d_235 (d_234_147 C V s gg w k (dP C) 0 (Int32.ofInt 0))) < (dN C k) then Int32.ofInt 0 else Int32.ofInt 1) = 0 then Int32.ofInt 0 else (Int32.ofInt 1) <<< ((nI k) &&& 31))) (d_234_281 C (d_234_147 C V s gg w k (dP C) 0 (Int32.ofInt 0)) (dP C) 0 (sSH (sSA s k (d_234_147 C V s gg w k (dP C) 0 (Int32.ofInt 0))) k (((sSA s k (d_234_147 C V s gg w k (dP C) 0 (Int32.ofInt 0))).2.2.2.2.1 k) + (if (if (d_235 (d_234_147 C V s gg w k (dP C) 0 (Int32.ofInt 0))) < (dN C k) then Int32.ofInt 0 else Int32.ofInt 1) = 0 then Int32.ofInt 0 else Int32.ofInt 1)))) _ (by omega) f336 f337 f338 f339 f340 f341 f342 hZ)
theorem d_234_g1029 (hP : ex_P h) (hI : cI C) (hT : tR C h) (hO : ∀ e, e < dE C → h.1 172 e = dW V e) (hN : sR 0 (dP C) u h) (hS : sR 1029 (dP C) s h) (hG : h.1 154 28 = gg)  (hQ : ∀ h1, (ex_P h1) → (cI C) → (tR C h1) → (∀ e, e < dE C → h1.1 172 e = dW V e) → (sR 0 (dP C) u h1) → (sR 1029 (dP C) (d_234_s C V s w) h1) → (h1.1 154 28 = (d_234_gg C V s w)) → Q (some (.int (d_234 C V s w))) h1) : am_call am_cod 5 234 [.ref 154, .int ((Int16.ofInt 1029).toInt32), .int w] h Q := by
  have h6 := hT.1.2.1
  have h5 := hT.2.1.2.1
  refine pz_call (n := 234) (nL := 8) (rt := (some .int)) (rows := am_r234) (d := 4) (by decide +kernel) (by decide +kernel) rfl (by funext pc; rfl) (ex_175 hP) (by exact Nat.le_of_ble_eq_true rfl) ?_
  refine am_goX 2 (show am_sh h 154 = some (11, 0) ∧ pz_S 8 (some .int) am_r234 4 Q 4 [(0, .ref 154), (1, .int ((Int16.ofInt 1029).toInt32)), (2, .int w)] [am_rf (h.2.2.1 154 24)] h from ⟨ex_154 hP, ?_⟩)
  rw [show am_rf (h.2.2.1 154 24) = .ref 170 from congrArg am_rf (ex_r154_24 hP)]
  refine am_goX 5 (show (Value.int (((Int16.ofInt 1029).toInt32) + (Int32.ofInt 0))).category = 1 ∧ (Value.ref 170).category = 1 ∧ ∃ jj nn : Nat, am_sh h 170 = some (13, nn) ∧ jj < nn ∧ ((Int16.ofInt 1029).toInt32) + (Int32.ofInt 0) = nI jj ∧ pz_S 8 (some .int) am_r234 4 Q 9 [(0, .ref 154), (1, .int ((Int16.ofInt 1029).toInt32)), (2, .int w)] [.int (h.1 170 jj), .int (((Int16.ofInt 1029).toInt32) + (Int32.ofInt 0)), .ref 170] h from ⟨rfl, rfl, ⟨1029, 1127, ex_170 hP, (by omega), (dn_a (show (Int16.ofInt 1029).toInt32 = nI 1029 by decide) rfl), ?_⟩⟩)
  rw [show h.1 170 1029 = s.1 from hS.1.1]
  refine am_goX 3 (show ∃ jj nn : Nat, am_so h 170 = some (13, nn) ∧ jj < nn ∧ ((Int16.ofInt 1029).toInt32) + (Int32.ofInt 0) = nI jj ∧ pz_S 8 (some .int) am_r234 4 Q 12 [(0, .ref 154), (1, .int ((Int16.ofInt 1029).toInt32)), (2, .int w)] [] (am_wI h 170 jj (s.1 + (Int32.ofInt 1))) from ⟨1029, 1127, ex_w170 hP, (by omega), (dn_a (show (Int16.ofInt 1029).toInt32 = nI 1029 by decide) rfl), ?_⟩)
  have f212 : ex_P (am_wI h 170 1029 (s.1 + (Int32.ofInt 1))) := hP
  have f213 : cI C := hI
  have f214 : tR C (am_wI h 170 1029 (s.1 + (Int32.ofInt 1))) := tR_w (by omega) hT
  have f215 : ∀ e, e < dE C → (am_wI h 170 1029 (s.1 + (Int32.ofInt 1))).1 172 e = dW V e := on_w (by omega) hO
  have f216 : sR 0 (dP C) u (am_wI h 170 1029 (s.1 + (Int32.ofInt 1))) := sR_q (by omega) hN
  have f217 : sR 1029 (dP C) (sSD s (s.1 + (Int32.ofInt 1))) (am_wI h 170 1029 (s.1 + (Int32.ofInt 1))) := sR_wD (by omega) hS
  have f218 : (am_wI h 170 1029 (s.1 + (Int32.ofInt 1))).1 154 28 = gg := (em_wn _ _ (by omega)).trans hG
  generalize am_wI h 170 1029 (s.1 + (Int32.ofInt 1)) = h211 at f212 f213 f214 f215 f216 f217 f218 ⊢
  refine am_goX 3 (show am_sh h211 154 = some (11, 0) ∧ narrow (am_fty 11 28) (.int (Int32.ofInt 0)) = .int (Int32.ofInt 0) ∧ fits (am_fty 11 28) (.int (Int32.ofInt 0)) = true ∧ pz_S 8 (some .int) am_r234 4 Q 17 [(0, .ref 154), (1, .int ((Int16.ofInt 1029).toInt32)), (2, .int w)] [] (am_wI h211 154 28 (Int32.ofInt 0)) from ⟨ex_154 f212, rfl, rfl, ?_⟩)
  have f220 : ex_P (am_wI h211 154 28 (Int32.ofInt 0)) := f212
  have f221 : cI C := f213
  have f222 : tR C (am_wI h211 154 28 (Int32.ofInt 0)) := tR_w (by omega) f214
  have f223 : ∀ e, e < dE C → (am_wI h211 154 28 (Int32.ofInt 0)).1 172 e = dW V e := on_w (by omega) f215
  have f224 : sR 0 (dP C) u (am_wI h211 154 28 (Int32.ofInt 0)) := sR_o (by omega) f216
  have f225 : sR 1029 (dP C) (sSD s (s.1 + (Int32.ofInt 1))) (am_wI h211 154 28 (Int32.ofInt 0)) := sR_o (by omega) f217
  have f226 : (am_wI h211 154 28 (Int32.ofInt 0)).1 154 28 = (Int32.ofInt 0) := em_we _ _ _ _
  generalize am_wI h211 154 28 (Int32.ofInt 0) = h219 at f220 f221 f222 f223 f224 f225 f226 ⊢
  refine am_goX 2 (show 3 < 8 ∧ pz_S 8 (some .int) am_r234 4 Q 19 [(3, .int (Int32.ofInt 0)), (0, .ref 154), (1, .int ((Int16.ofInt 1029).toInt32)), (2, .int w)] [] h219 from ⟨by decide, ?_⟩)
  refine sv_S2 sv2_234 (by intro q hq; simp only [List.mem_cons, List.not_mem_nil, or_false] at hq; rcases hq with rfl | rfl | rfl | rfl <;> rfl) (d_234_19_g1029 (dP C) 0 (sSD s (s.1 + (Int32.ofInt 1))) (Int32.ofInt 0) _ (by omega) f220 f221 f222 f223 f224 f225 f226 (fun h302 f303 f304 f305 f306 f307 f308 f309 => ?_))
  refine am_goX 4 (show 3 < 8 ∧ 4 < 8 ∧ pz_S 8 (some .int) am_r234 4 Q 132 [(4, .int (Int32.ofInt 0)), (3, .int (Int32.ofInt 0)), (0, .ref 154), (1, .int ((Int16.ofInt 1029).toInt32)), (2, .int w)] [] h302 from ⟨by decide, by decide, ?_⟩)
  refine sv_S2 sv2_234 (by intro q hq; simp only [List.mem_cons, List.not_mem_nil, or_false] at hq; rcases hq with rfl | rfl | rfl | rfl | rfl <;> rfl) (d_234_132_g1029 (dE C) 0 (Int32.ofInt 0) ((d_234_19 C w (dP C) 0 (sSD s (s.1 + (Int32.ofInt 1))) (Int32.ofInt 0)).1) _ (by omega) f303 f304 f305 f306 f307 f308 f309 (fun h343 f344 f345 f346 f347 f348 f349 f350 => ?_))
  exact am_goX 2 (show (∃ ty, (some .int) = some ty ∧ narrow ty (.int ((d_234_132 C V ((d_234_19 C w (dP C) 0 (sSD s (s.1 + (Int32.ofInt 1))) (Int32.ofInt 0)).2) w (dE C) 0 (Int32.ofInt 0) ((d_234_19 C w (dP C) 0 (sSD s (s.1 + (Int32.ofInt 1))) (Int32.ofInt 0)).1)).1)) = .int ((d_234_132 C V ((d_234_19 C w (dP C) 0 (sSD s (s.1 + (Int32.ofInt 1))) (Int32.ofInt 0)).2) w (dE C) 0 (Int32.ofInt 0) ((d_234_19 C w (dP C) 0 (sSD s (s.1 + (Int32.ofInt 1))) (Int32.ofInt 0)).1)).1)) ∧ h343.2.2.2.2 = 175 ∧ _ from ⟨⟨.int, rfl, rfl⟩, ex_175 f344, hQ _ f344 f345 f346 f347 f348 f349 f350⟩)
theorem q_234_r1029 (hP : ex_P h) (hI : cI C) (hT : tR C h) (hO : ∀ e, e < dE C → h.1 172 e = dW V e) (hN : sR 0 (dP C) u h) (hS : sR 1029 (dP C) s h) (hQ : ∀ h1, (ex_P h1) → (cI C) → (tR C h1) → (∀ e, e < dE C → h1.1 172 e = dW V e) → (sR 0 (dP C) u h1) → (sR 1029 (dP C) (d_234_s C V s w) h1) → Q (some (.int (d_234 C V s w))) h1) : am_call am_cod 5 234 [.ref 154, .int ((Int16.ofInt 1029).toInt32), .int w] h Q :=
  d_234_g1029 (gg := h.1 154 28) hP hI hT hO hN hS rfl (fun h1 khP khI khT khO khN khS _ => hQ h1 khP khI khT khO khN khS)
theorem d_233_r1029 (hP : ex_P h) (hI : cI C) (hT : tR C h) (hO : ∀ e, e < dE C → h.1 172 e = dW V e) (hN : sR 0 (dP C) u h) (hS : sR 1029 (dP C) s h)  (hQ : ∀ h1, (ex_P h1) → (cI C) → (tR C h1) → (∀ e, e < dE C → h1.1 172 e = dW V e) → (sR 0 (dP C) u h1) → (sR 1029 (dP C) (d_233_s C V s) h1) → Q (some (.int (d_233 C V s))) h1) : am_call am_cod 6 233 [.ref 154, .int ((Int16.ofInt 1029).toInt32)] h Q := by
  have h6 := hT.1.2.1
  have h5 := hT.2.1.2.1
  refine pz_call (n := 233) (nL := 2) (rt := (some .int)) (rows := am_r233) (d := 5) (by decide +kernel) (by decide +kernel) rfl (by funext pc; rfl) (ex_175 hP) (by exact Nat.le_of_ble_eq_true rfl) ?_
  refine am_goX 5 (show am_sh h 154 = some (11, 0) ∧ pz_S 2 (some .int) am_r233 5 Q 7 [(0, .ref 154), (1, .int ((Int16.ofInt 1029).toInt32))] [am_rf (h.2.2.1 154 24), .ref 154, .int ((Int16.ofInt 1029).toInt32), .ref 154] h from ⟨ex_154 hP, ?_⟩)
  rw [show am_rf (h.2.2.1 154 24) = .ref 170 from congrArg am_rf (ex_r154_24 hP)]
  refine am_goX 4 (show ∃ jj nn : Nat, am_sh h 170 = some (13, nn) ∧ jj < nn ∧ ((Int16.ofInt 1029).toInt32) + (Int32.ofInt 0) = nI jj ∧ pz_S 2 (some .int) am_r233 5 Q 11 [(0, .ref 154), (1, .int ((Int16.ofInt 1029).toInt32))] [.int (h.1 170 jj), .ref 154, .int ((Int16.ofInt 1029).toInt32), .ref 154] h from ⟨1029, 1127, ex_170 hP, (by omega), (dn_a (show (Int16.ofInt 1029).toInt32 = nI 1029 by decide) rfl), ?_⟩)
  rw [show h.1 170 1029 = s.1 from hS.1.1]
  refine am_goX 3 (show am_rc h 154 11 ∧ 2 ≤ 8 ∧ h.2.2.2.2 + am_al 224 ≤ 175 ∧ am_call am_cod 5 224 [.ref 154, .int (s.1 + (Int32.ofInt 1))] h (fun vv h' => pz_S 2 (some .int) am_r233 5 Q 16 [(0, .ref 154), (1, .int ((Int16.ofInt 1029).toInt32))] (vv.toList ++ [.int ((Int16.ofInt 1029).toInt32), .ref 154]) h') from ⟨Or.inl ⟨by decide, ex_154 hP⟩, by decide, ex_lim hP rfl, am_call.up (d_224_r hP hT ?_) (by decide)⟩)
  refine am_goX 1 (show am_rc h 154 11 ∧ 0 ≤ 8 ∧ h.2.2.2.2 + am_al 234 ≤ 175 ∧ am_call am_cod 5 234 [.ref 154, .int ((Int16.ofInt 1029).toInt32), .int (d_224 C (s.1 + (Int32.ofInt 1)))] h (fun vv h' => pz_S 2 (some .int) am_r233 5 Q 19 [(0, .ref 154), (1, .int ((Int16.ofInt 1029).toInt32))] (vv.toList ++ []) h') from ⟨Or.inl ⟨by decide, ex_154 hP⟩, by decide, ex_lim hP rfl, am_call.up (q_234_r1029 hP hI hT hO hN hS (fun h351 f352 f353 f354 f355 f356 f357 => ?_)) (by decide)⟩)
  exact am_goX 1 (show (∃ ty, (some .int) = some ty ∧ narrow ty (.int (d_234 C V s (d_224 C (s.1 + (Int32.ofInt 1))))) = .int (d_234 C V s (d_224 C (s.1 + (Int32.ofInt 1))))) ∧ h351.2.2.2.2 = 175 ∧ _ from ⟨⟨.int, rfl, rfl⟩, ex_175 f352, hQ _ f352 f353 f354 f355 f356 f357⟩)
