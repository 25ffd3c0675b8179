/-! THE REFERENCE'S NAMES, EXACTLY -/
theorem sp_fd_none {f : Nat → Int64} {v : Int64} : ∀ {m i : Nat}, sp_fd f v m i = none → ∀ j, i ≤ j → j < i + m → ¬ f j = v
  | 0, i, _, j, h1, h2 => absurd h2 (by omega)
  | m + 1, i, e, j, h1, h2 => by
    unfold sp_fd at e
    cases hb : decide (f i = v) with
    | true => rw [hb] at e; cases e
    | false =>
      rw [hb] at e
      by_cases ej : j = i
      · rw [ej]; exact of_decide_eq_false hb
      · exact sp_fd_none e j (by omega) (by omega)
/-- the reference's number of a name -/
def sp_na (C : sp_C) (v : Int64) : Int32 := match sp_pf C v with
  | some p => nI p
  | none => match sp_ef C v with
    | some e => nI (20 + e)
    | none => Int32.ofInt (-1)
theorem rN_hit {C : sp_C} {h : am_H} {v : Int64} {k : Nat} (l : rcN C h) (hk : k < C.1.1 + C.2.1.1) (e : h.2.1 164 k = v) : h.1 166 k = sp_na C v := by
  obtain ⟨l1, l2, l3, l4, l5⟩ := l
  unfold sp_na
  cases hp : sp_pf C v with
  | some p =>
    have w := sp_fd_lt hp
    obtain ⟨q, q1, q2, q3⟩ := l3 p (by omega)
    have := l5 q k q1 hk (by rw [q3, e]; exact w.2.2)
    rw [← this]
    exact q2
  | none =>
    cases he : sp_ef C v with
    | some i =>
      have w := sp_fd_lt he
      obtain ⟨q, q1, q2, q3⟩ := l4 i (by omega)
      have := l5 q k q1 hk (by rw [q3, e]; exact w.2.2)
      rw [← this]
      exact q2
    | none =>
      rcases l2 k hk with ⟨i, i1, i2, i3⟩ | ⟨i, i1, i2, i3⟩
      · exact absurd (i3.symm.trans e) (sp_fd_none hp i (Nat.zero_le _) (by omega))
      · exact absurd (i3.symm.trans e) (sp_fd_none he i (Nat.zero_le _) (by omega))
theorem rN_none {C : sp_C} {h : am_H} {v : Int64} (l : rcN C h) (hk : ∀ k, k < C.1.1 + C.2.1.1 → ¬ h.2.1 164 k = v) : sp_na C v = Int32.ofInt (-1) := by
  obtain ⟨l1, l2, l3, l4, l5⟩ := l
  unfold sp_na
  cases hp : sp_pf C v with
  | some p =>
    have w := sp_fd_lt hp
    obtain ⟨q, q1, q2, q3⟩ := l3 p (by omega)
    exact absurd (q3.trans w.2.2) (hk q q1)
  | none =>
    cases he : sp_ef C v with
    | some i =>
      have w := sp_fd_lt he
      obtain ⟨q, q1, q2, q3⟩ := l4 i (by omega)
      exact absurd (q3.trans w.2.2) (hk q q1)
    | none => rfl
/-- an event's name is no person's -/
theorem rN_ef {C : sp_C} {h : am_H} {v : Int64} {i : Nat} (l : rcN C h) (hP : C.1.1 ≤ 6) (hE : C.2.1.1 ≤ 5) (he : sp_ef C v = some i) : sp_na C v = nI (20 + i) := by
  obtain ⟨l1, l2, l3, l4, l5⟩ := l
  unfold sp_na
  cases hp : sp_pf C v with
  | none => rw [he]
  | some p =>
    have w := sp_fd_lt hp
    have u := sp_fd_lt he
    obtain ⟨q, q1, q2, q3⟩ := l3 p (by omega)
    obtain ⟨r, r1, r2, r3⟩ := l4 i (by omega)
    have := l5 q r q1 r1 (by rw [q3, r3, w.2.2, u.2.2])
    rw [this, r2] at q2
    exact q2.symm
theorem na_new {C : sp_C} {v : Int64} (e : ((sp_pf C v).isSome || (sp_ef C v).isSome) = false) : sp_pf C v = none ∧ sp_ef C v = none ∧ sp_na C v = Int32.ofInt (-1) := by
  cases hp : sp_pf C v with
  | some p => rw [hp] at e; cases e
  | none =>
    cases he : sp_ef C v with
    | some i => rw [hp, he] at e; cases e
    | none =>
      refine ⟨rfl, rfl, ?_⟩
      unfold sp_na
      rw [hp, he]
theorem na_old {C : sp_C} {v : Int64} (hP : C.1.1 ≤ 6) (hE : C.2.1.1 ≤ 5) (e : ((sp_pf C v).isSome || (sp_ef C v).isSome) = true) : ¬ sp_na C v < 0 := by
  unfold sp_na
  cases hp : sp_pf C v with
  | some p =>
    have w := sp_fd_lt hp
    exact Int32.not_lt.mpr (nI_0le (by omega))
  | none =>
    cases he : sp_ef C v with
    | some i =>
      have w := sp_fd_lt he
      exact Int32.not_lt.mpr (nI_0le (by omega))
    | none => rw [hp, he] at e; cases e
def wi5 (x : Int32) : Bool := decide (Int32.ofInt 0 ≤ x) && decide (x ≤ Int32.ofInt 5)
theorem na_p0 {C : sp_C} {v : Int64} (hE : C.2.1.1 ≤ 5) (e : sp_pf C v = none) : wi5 (sp_na C v - Int32.ofInt 0) = false := by
  have key : ∀ i, i < 5 → wi5 (nI (20 + i) - Int32.ofInt 0) = false := by decide +kernel
  unfold sp_na
  rw [e]
  cases he : sp_ef C v with
  | some i =>
    have w := sp_fd_lt he
    exact key i (by omega)
  | none => decide +kernel
theorem na_e0 {C : sp_C} {v : Int64} (hP : C.1.1 ≤ 6) (e : sp_ef C v = none) : wi5 (sp_na C v - (Int8.ofInt 20).toInt32) = false := by
  have key : ∀ i, i < 6 → wi5 (nI i - (Int8.ofInt 20).toInt32) = false := by decide +kernel
  unfold sp_na
  cases hp : sp_pf C v with
  | some i =>
    have w := sp_fd_lt hp
    exact key i (by omega)
  | none =>
    rw [e]
    decide +kernel
theorem na_p1 {p : Nat} (hp : p < 6) : nI p - Int32.ofInt 0 = nI p ∧ wi5 (nI p) = true ∧ sp_bit (Int32.ofInt 0) (nI p) = false := by
  have key : ∀ p, p < 6 → nI p - Int32.ofInt 0 = nI p ∧ wi5 (nI p) = true ∧ sp_bit (Int32.ofInt 0) (nI p) = false := by decide +kernel
  exact key p hp
theorem na_e1 {p : Nat} (hp : p < 5) : nI (20 + p) - (Int8.ofInt 20).toInt32 = nI p ∧ wi5 (nI p) = true := by
  have key : ∀ p, p < 5 → nI (20 + p) - (Int8.ofInt 20).toInt32 = nI p ∧ wi5 (nI p) = true := by decide +kernel
  exact key p hp
theorem and1 (x : Int32) : x &&& Int32.ofInt 1 = 0 ∨ x &&& Int32.ofInt 1 = Int32.ofInt 1 := by
  have e : bN (x &&& Int32.ofInt 1) = bN x % 2 := by
    rw [bN_and, show bN (Int32.ofInt 1) = 1 from rfl, Nat.and_one_is_mod]
  rcases Nat.mod_two_eq_zero_or_one (bN x) with w | w
  · left
    exact bN_inj (e.trans w)
  · right
    exact bN_inj (e.trans w)
theorem bit_t {x i : Int32} (e : sp_bit x i = true) : x >>> (i &&& 31) &&& Int32.ofInt 1 = Int32.ofInt 1 := by
  rcases and1 (x >>> (i &&& 31)) with w | w
  · exact absurd w (of_decide_eq_true e)
  · exact w
theorem bit_f {x i : Int32} (e : sp_bit x i = false) : ¬ x >>> (i &&& 31) &&& Int32.ofInt 1 = Int32.ofInt 1 := by
  intro w
  have h1 := of_decide_eq_false e
  apply h1
  rw [w]
  decide
/-- one more name -/
theorem rcN_P {C : sp_C} {h : am_H} {v : Int64} {x y : Int32} {a : Nat} (l : rcN C h) (hp : sp_pf C v = none) (he : sp_ef C v = none) : rcN (sp_cP C v x y) (am_wI (am_wI (am_wI (am_wI (am_wL h 164 (C.1.1 + C.2.1.1) v) 166 (C.1.1 + C.2.1.1) (Int32.ofInt 0 + nI C.1.1)) 154 19 (nI (C.1.1 + C.2.1.1 + 1))) 154 7 (nI a)) 160 40 (nI (C.1.1 + 1))) := by
  obtain ⟨l1, l2, l3, l4, l5⟩ := l
  have e6 : ∀ k, ¬ k = C.1.1 + C.2.1.1 → (am_wI (am_wI (am_wI (am_wI (am_wL h 164 (C.1.1 + C.2.1.1) v) 166 (C.1.1 + C.2.1.1) (Int32.ofInt 0 + nI C.1.1)) 154 19 (nI (C.1.1 + C.2.1.1 + 1))) 154 7 (nI a)) 160 40 (nI (C.1.1 + 1))).1 166 k = h.1 166 k := fun k hk => by
    rw [em_wn _ _ (by omega), em_wn _ _ (by omega), em_wn _ _ (by omega), em_wn _ _ (by omega)]
    rfl
  have f6 : (am_wI (am_wI (am_wI (am_wI (am_wL h 164 (C.1.1 + C.2.1.1) v) 166 (C.1.1 + C.2.1.1) (Int32.ofInt 0 + nI C.1.1)) 154 19 (nI (C.1.1 + C.2.1.1 + 1))) 154 7 (nI a)) 160 40 (nI (C.1.1 + 1))).1 166 (C.1.1 + C.2.1.1) = nI C.1.1 := by
    rw [em_wn _ _ (by omega), em_wn _ _ (by omega), em_wn _ _ (by omega), em_we]
    exact Int32.zero_add _
  have e4 : ∀ k, ¬ k = C.1.1 + C.2.1.1 → (am_wL h 164 (C.1.1 + C.2.1.1) v).2.1 164 k = h.2.1 164 k := fun k hk => ex_ln (by omega)
  have f4 : (am_wL h 164 (C.1.1 + C.2.1.1) v).2.1 164 (C.1.1 + C.2.1.1) = v := ex_lq _ _ _
  have nv : ∀ k, k < C.1.1 + C.2.1.1 → ¬ h.2.1 164 k = v := by
    intro k hk e
    rcases l2 k hk with ⟨i, i1, i2, i3⟩ | ⟨i, i1, i2, i3⟩
    · exact absurd (i3.symm.trans e) (sp_fd_none hp i (Nat.zero_le _) (by omega))
    · exact absurd (i3.symm.trans e) (sp_fd_none he i (Nat.zero_le _) (by omega))
  have M1 : (sp_cP C v x y).1.1 + (sp_cP C v x y).2.1.1 = C.1.1 + C.2.1.1 + 1 := by
    show C.1.1 + 1 + C.2.1.1 = _
    omega
  have nm : ∀ i, i < C.1.1 → (sp_cP C v x y).1.2.1 i = C.1.2.1 i := fun i hi => if_neg (by omega)
  have nn : (sp_cP C v x y).1.2.1 C.1.1 = v := if_pos rfl
  refine ⟨?_, fun k hk => ?_, fun i hi => ?_, fun i hi => ?_, fun k k' hk hk' e => ?_⟩
  · rw [M1, em_wn _ _ (by omega), em_wn _ _ (by omega), em_we]
  · rw [M1] at hk
    by_cases ek : k = C.1.1 + C.2.1.1
    · left
      refine ⟨C.1.1, Nat.lt_succ_self _, ?_, ?_⟩
      · rw [ek]; exact f6
      · rw [ek, nn]; exact f4
    · rw [e6 k ek]
      rcases l2 k (by omega) with ⟨i, i1, i2, i3⟩ | ⟨i, i1, i2, i3⟩
      · left
        exact ⟨i, Nat.lt_succ_of_lt i1, i2, by rw [nm i i1]; exact (e4 k ek).trans i3⟩
      · right
        exact ⟨i, i1, i2, (e4 k ek).trans i3⟩
  · have hi : i < C.1.1 + 1 := hi
    rw [M1]
    by_cases ei : i = C.1.1
    · exact ⟨C.1.1 + C.2.1.1, by omega, by rw [ei]; exact f6, by rw [ei, nn]; exact f4⟩
    · obtain ⟨q, q1, q2, q3⟩ := l3 i (by omega)
      exact ⟨q, by omega, (e6 q (by omega)).trans q2, by rw [nm i (by omega)]; exact (e4 q (by omega)).trans q3⟩
  · rw [M1]
    obtain ⟨q, q1, q2, q3⟩ := l4 i hi
    exact ⟨q, by omega, (e6 q (by omega)).trans q2, (e4 q (by omega)).trans q3⟩
  · rw [M1] at hk hk'
    have e : (am_wL h 164 (C.1.1 + C.2.1.1) v).2.1 164 k = (am_wL h 164 (C.1.1 + C.2.1.1) v).2.1 164 k' := e
    by_cases ek : k = C.1.1 + C.2.1.1
    · by_cases ek' : k' = C.1.1 + C.2.1.1
      · omega
      · rw [ek, f4, e4 k' ek'] at e
        exact absurd e.symm (nv k' (by omega))
    · by_cases ek' : k' = C.1.1 + C.2.1.1
      · rw [ek', f4, e4 k ek] at e
        exact absurd e (nv k (by omega))
      · rw [e4 k ek, e4 k' ek'] at e
        exact l5 k k' (by omega) (by omega) e
theorem rcN_E {C : sp_C} {h : am_H} {v : Int64} {x y : Int32} {a : Nat} (l : rcN C h) (hp : sp_pf C v = none) (he : sp_ef C v = none) : rcN (sp_cE C v x y) (am_wI (am_wI (am_wI (am_wI (am_wL h 164 (C.1.1 + C.2.1.1) v) 166 (C.1.1 + C.2.1.1) ((Int8.ofInt 20).toInt32 + nI C.2.1.1)) 154 19 (nI (C.1.1 + C.2.1.1 + 1))) 154 7 (nI a)) 160 41 (nI (C.2.1.1 + 1))) := by
  obtain ⟨l1, l2, l3, l4, l5⟩ := l
  have e6 : ∀ k, ¬ k = C.1.1 + C.2.1.1 → (am_wI (am_wI (am_wI (am_wI (am_wL h 164 (C.1.1 + C.2.1.1) v) 166 (C.1.1 + C.2.1.1) ((Int8.ofInt 20).toInt32 + nI C.2.1.1)) 154 19 (nI (C.1.1 + C.2.1.1 + 1))) 154 7 (nI a)) 160 41 (nI (C.2.1.1 + 1))).1 166 k = h.1 166 k := fun k hk => by
    rw [em_wn _ _ (by omega), em_wn _ _ (by omega), em_wn _ _ (by omega), em_wn _ _ (by omega)]
    rfl
  have f6 : (am_wI (am_wI (am_wI (am_wI (am_wL h 164 (C.1.1 + C.2.1.1) v) 166 (C.1.1 + C.2.1.1) ((Int8.ofInt 20).toInt32 + nI C.2.1.1)) 154 19 (nI (C.1.1 + C.2.1.1 + 1))) 154 7 (nI a)) 160 41 (nI (C.2.1.1 + 1))).1 166 (C.1.1 + C.2.1.1) = nI (20 + C.2.1.1) := by
    rw [em_wn _ _ (by omega), em_wn _ _ (by omega), em_wn _ _ (by omega), em_we]
    exact nI_add 20 _
  have e4 : ∀ k, ¬ k = C.1.1 + C.2.1.1 → (am_wL h 164 (C.1.1 + C.2.1.1) v).2.1 164 k = h.2.1 164 k := fun k hk => ex_ln (by omega)
  have f4 : (am_wL h 164 (C.1.1 + C.2.1.1) v).2.1 164 (C.1.1 + C.2.1.1) = v := ex_lq _ _ _
  have nv : ∀ k, k < C.1.1 + C.2.1.1 → ¬ h.2.1 164 k = v := by
    intro k hk e
    rcases l2 k hk with ⟨i, i1, i2, i3⟩ | ⟨i, i1, i2, i3⟩
    · exact absurd (i3.symm.trans e) (sp_fd_none hp i (Nat.zero_le _) (by omega))
    · exact absurd (i3.symm.trans e) (sp_fd_none he i (Nat.zero_le _) (by omega))
  have M1 : (sp_cE C v x y).1.1 + (sp_cE C v x y).2.1.1 = C.1.1 + C.2.1.1 + 1 := by
    show C.1.1 + (C.2.1.1 + 1) = _
    omega
  have nm : ∀ i, i < C.2.1.1 → (sp_cE C v x y).2.1.2.1 i = C.2.1.2.1 i := fun i hi => if_neg (by omega)
  have nn : (sp_cE C v x y).2.1.2.1 C.2.1.1 = v := if_pos rfl
  refine ⟨?_, fun k hk => ?_, fun i hi => ?_, fun i hi => ?_, fun k k' hk hk' e => ?_⟩
  · rw [M1, em_wn _ _ (by omega), em_wn _ _ (by omega), em_we]
  · rw [M1] at hk
    by_cases ek : k = C.1.1 + C.2.1.1
    · right
      refine ⟨C.2.1.1, Nat.lt_succ_self _, ?_, ?_⟩
      · rw [ek]; exact f6
      · rw [ek, nn]; exact f4
    · rw [e6 k ek]
      rcases l2 k (by omega) with ⟨i, i1, i2, i3⟩ | ⟨i, i1, i2, i3⟩
      · left
        exact ⟨i, i1, i2, (e4 k ek).trans i3⟩
      · right
        exact ⟨i, Nat.lt_succ_of_lt i1, i2, by rw [nm i i1]; exact (e4 k ek).trans i3⟩
  · rw [M1]
    obtain ⟨q, q1, q2, q3⟩ := l3 i hi
    exact ⟨q, by omega, (e6 q (by omega)).trans q2, (e4 q (by omega)).trans q3⟩
  · have hi : i < C.2.1.1 + 1 := hi
    rw [M1]
    by_cases ei : i = C.2.1.1
    · exact ⟨C.1.1 + C.2.1.1, by omega, by rw [ei]; exact f6, by rw [ei, nn]; exact f4⟩
    · obtain ⟨q, q1, q2, q3⟩ := l4 i (by omega)
      exact ⟨q, by omega, (e6 q (by omega)).trans q2, by rw [nm i (by omega)]; exact (e4 q (by omega)).trans q3⟩
  · rw [M1] at hk hk'
    have e : (am_wL h 164 (C.1.1 + C.2.1.1) v).2.1 164 k = (am_wL h 164 (C.1.1 + C.2.1.1) v).2.1 164 k' := e
    by_cases ek : k = C.1.1 + C.2.1.1
    · by_cases ek' : k' = C.1.1 + C.2.1.1
      · omega
      · rw [ek, f4, e4 k' ek'] at e
        exact absurd e.symm (nv k' (by omega))
    · by_cases ek' : k' = C.1.1 + C.2.1.1
      · rw [ek', f4, e4 k ek] at e
        exact absurd e (nv k (by omega))
      · rw [e4 k ek, e4 k' ek'] at e
        exact l5 k k' (by omega) (by omega) e
theorem rr_nP {h h0 : am_H} {z N a : Nat} {τ : sp_T} {C : sp_C} {v : Int64} (l : rr h0 z τ N (a, C) h) (hn : ¬ (τ a).1 = 0) (hlt : C.1.1 < 6) (hp : sp_pf C v = none) (he : sp_ef C v = none) : rr h0 z τ N (a + 1, sp_cP C v (h.1 160 (44 + 3 * C.1.1)) (h.1 160 (45 + 3 * C.1.1))) (am_wI (am_wI (am_wI (am_wI (am_wL h 164 (C.1.1 + C.2.1.1) v) 166 (C.1.1 + C.2.1.1) (Int32.ofInt 0 + nI C.1.1)) 154 19 (nI (C.1.1 + C.2.1.1 + 1))) 154 7 (nI (a + 1))) 160 40 (nI (C.1.1 + 1))) := by
  have h1 := r_lt l hn
  obtain ⟨⟨l1, l2, l3⟩, ⟨⟨p1, p2, p3⟩, c2, c3, c4, c5, c6, c7⟩, l5, l6⟩ := l
  refine ⟨⟨rt_w (by omega) (rt_w (by omega) (rt_w (by omega) (rt_w (by omega) (rt_wL (by omega) l1)))), ⟨?_, h1⟩, ?_⟩, ⟨⟨em_we _ _ _ _, hlt, fun i hi => ?_⟩, rcE_w (by omega) (rcE_w (by omega) (rcE_w (by omega) (rcE_w (by omega) c2))), rcB_w (by omega) (rcB_w (by omega) (rcB_w (by omega) (rcB_w (by omega) c3))), rcS_w (by omega) (rcS_w (by omega) (rcS_w (by omega) (rcS_w (by omega) c4))), rcO_w (by omega) (rcO_w (by omega) (rcO_w (by omega) (rcO_w (by omega) c5))), rcL_w (by omega) (rcL_w (by omega) (rcL_w (by omega) (rcL_w (by omega) c6))), rcN_P c7 hp he⟩, rq_w (by unfold r_in; omega) (rq_w (by unfold r_in; omega) (rq_w (by unfold r_in; omega) (rq_w (by unfold r_in; omega) (rq_wL (by unfold r_in; omega) l5)))), Nat.le_succ_of_le l6⟩
  · rw [em_wn _ _ (by omega), em_we]
  · rw [em_wn _ _ (by omega), em_wn _ _ (by omega), em_wn _ _ (by omega), em_wn _ _ (by omega)]
    exact l3
  · have hi : i < C.1.1 + 1 := hi
    rw [em_wn _ _ (by omega), em_wn _ _ (by omega), em_wn _ _ (by omega), em_wn _ _ (by omega), em_wn _ _ (by omega), em_wn _ _ (by omega), em_wn _ _ (by omega), em_wn _ _ (by omega)]
    show h.1 160 (44 + 3 * i) = (if i = C.1.1 then h.1 160 (44 + 3 * C.1.1) else C.1.2.2.1 i) ∧ h.1 160 (45 + 3 * i) = (if i = C.1.1 then h.1 160 (45 + 3 * C.1.1) else C.1.2.2.2 i)
    by_cases ei : i = C.1.1
    · rw [if_pos ei, if_pos ei, ei]
      exact ⟨rfl, rfl⟩
    · rw [if_neg ei, if_neg ei]
      exact p3 i (show i < C.1.1 by omega)
theorem rr_nE {h h0 : am_H} {z N a : Nat} {τ : sp_T} {C : sp_C} {v : Int64} (l : rr h0 z τ N (a, C) h) (hn : ¬ (τ a).1 = 0) (hlt : C.2.1.1 < 5) (hp : sp_pf C v = none) (he : sp_ef C v = none) : rr h0 z τ N (a + 1, sp_cE C v (h.1 160 (62 + 2 * C.2.1.1)) (h.1 160 (63 + 2 * C.2.1.1))) (am_wI (am_wI (am_wI (am_wI (am_wL h 164 (C.1.1 + C.2.1.1) v) 166 (C.1.1 + C.2.1.1) ((Int8.ofInt 20).toInt32 + nI C.2.1.1)) 154 19 (nI (C.1.1 + C.2.1.1 + 1))) 154 7 (nI (a + 1))) 160 41 (nI (C.2.1.1 + 1))) := by
  have h1 := r_lt l hn
  obtain ⟨⟨l1, l2, l3⟩, ⟨c1, ⟨p1, p2, p3⟩, c3, c4, c5, c6, c7⟩, l5, l6⟩ := l
  refine ⟨⟨rt_w (by omega) (rt_w (by omega) (rt_w (by omega) (rt_w (by omega) (rt_wL (by omega) l1)))), ⟨?_, h1⟩, ?_⟩, ⟨rcP_w (by omega) (rcP_w (by omega) (rcP_w (by omega) (rcP_w (by omega) c1))), ⟨em_we _ _ _ _, hlt, fun i hi => ?_⟩, fun p e hp1 he1 => ?_, rcS_w (by omega) (rcS_w (by omega) (rcS_w (by omega) (rcS_w (by omega) c4))), rcO_w (by omega) (rcO_w (by omega) (rcO_w (by omega) (rcO_w (by omega) c5))), rcL_w (by omega) (rcL_w (by omega) (rcL_w (by omega) (rcL_w (by omega) c6))), rcN_E c7 hp he⟩, rq_w (by unfold r_in; omega) (rq_w (by unfold r_in; omega) (rq_w (by unfold r_in; omega) (rq_w (by unfold r_in; omega) (rq_wL (by unfold r_in; omega) l5)))), Nat.le_succ_of_le l6⟩
  · rw [em_wn _ _ (by omega), em_we]
  · rw [em_wn _ _ (by omega), em_wn _ _ (by omega), em_wn _ _ (by omega), em_wn _ _ (by omega)]
    exact l3
  · have hi : i < C.2.1.1 + 1 := hi
    rw [em_wn _ _ (by omega), em_wn _ _ (by omega), em_wn _ _ (by omega), em_wn _ _ (by omega), em_wn _ _ (by omega), em_wn _ _ (by omega), em_wn _ _ (by omega), em_wn _ _ (by omega)]
    show h.1 160 (62 + 2 * i) = (if i = C.2.1.1 then h.1 160 (62 + 2 * C.2.1.1) else C.2.1.2.2.1 i) ∧ h.1 160 (63 + 2 * i) = (if i = C.2.1.1 then h.1 160 (63 + 2 * C.2.1.1) else C.2.1.2.2.2.1 i)
    by_cases ei : i = C.2.1.1
    · rw [if_pos ei, if_pos ei, ei]
      exact ⟨rfl, rfl⟩
    · rw [if_neg ei, if_neg ei]
      exact p3 i (show i < C.2.1.1 by omega)
  · rw [em_wn _ _ (by omega), em_wn _ _ (by omega), em_wn _ _ (by omega), em_wn _ _ (by omega)]
    refine ⟨?_, (c3 p e hp1 he1).2⟩
    show sp_bit (h.1 160 (46 + 3 * p)) (nI e) = (decide (e < C.2.1.1 + 1) && sp_bit (if e = C.2.1.1 then 0 else C.2.1.2.2.2.2 e) (nI p))
    rw [(c3 p e hp1 he1).1]
    by_cases ee : e = C.2.1.1
    · rw [if_pos ee, decide_eq_false (show ¬ e < C.2.1.1 by omega)]
      have key : ∀ p, p < 6 → sp_bit 0 (nI p) = false := by decide +kernel
      rw [key p hp1, Bool.and_false]
      rfl
    · rw [if_neg ee]
      by_cases el : e < C.2.1.1
      · rw [decide_eq_true el, decide_eq_true (show e < C.2.1.1 + 1 by omega)]
      · rw [decide_eq_false el, decide_eq_false (show ¬ e < C.2.1.1 + 1 by omega)]
variable {h h0 : am_H} {z N a c : Nat} {τ : sp_T} {C : sp_C} {s : sp_S} {F : Int32} {Q : am_Q}
theorem ex_160 {h : am_H} (hP : ex_P h) : am_sh h 160 = some (13, 80) := (ex_so hP (by decide +kernel)).2
theorem ex_w160 {h : am_H} (hP : ex_P h) : am_so h 160 = some (13, 80) := (ex_so hP (by decide +kernel)).1
theorem ex_164 {h : am_H} (hP : ex_P h) : am_sh h 164 = some (14, 11) := (ex_so hP (by decide +kernel)).2
theorem ex_w164 {h : am_H} (hP : ex_P h) : am_so h 164 = some (14, 11) := (ex_so hP (by decide +kernel)).1
theorem ex_166 {h : am_H} (hP : ex_P h) : am_sh h 166 = some (13, 11) := (ex_so hP (by decide +kernel)).2
theorem ex_w166 {h : am_H} (hP : ex_P h) : am_so h 166 = some (13, 11) := (ex_so hP (by decide +kernel)).1
theorem ex_r154_10 {h : am_H} (hP : ex_P h) : h.2.2.1 154 10 = some 160 := hP.2 154 10 160 (by decide +kernel)
theorem ex_r154_15 {h : am_H} (hP : ex_P h) : h.2.2.1 154 15 = some 164 := hP.2 154 15 164 (by decide +kernel)
theorem ex_r154_17 {h : am_H} (hP : ex_P h) : h.2.2.1 154 17 = some 166 := hP.2 154 17 166 (by decide +kernel)
theorem r_200l (hn : ¬ (τ s.1).1 = 0) (l : rr h0 z τ N s h) (hQ : Q (some (.int (sp_na s.2 (τ s.1).2.1))) h) : ∀ (m k : Nat), k + m = (s.2.1.1 + s.2.2.1.1) → (∀ j, j < k → ¬ h.2.1 164 j = (τ s.1).2.1) → pz_S 3 (some .int) am_r200 0 Q 2 [(2, .int (nI k)), (0, .ref 154), (1, .int (Int32.ofInt 1))] [] h := by
  have hP := r_P l
  have eN : h.1 154 19 = nI (s.2.1.1 + s.2.2.1.1) := l.2.1.2.2.2.2.2.2.1
  have hM : (s.2.1.1 + s.2.2.1.1) ≤ 11 := by
    have h1 : s.2.1.1 ≤ 6 := l.2.1.1.2.1
    have h2 : s.2.2.1.1 ≤ 5 := l.2.1.2.1.2.1
    omega
  have gl := r_N l
  intro m
  induction m with
  | zero =>
    intro k hk hj
    have ek : k = (s.2.1.1 + s.2.2.1.1) := by omega
    refine am_goX 3 (show ((Int32.ofInt 1) = 0 → pz_S 3 (some .int) am_r200 0 Q 14 [(2, .int (nI k)), (0, .ref 154), (1, .int (Int32.ofInt 1))] [.int (nI k)] h) ∧ (¬ ((Int32.ofInt 1) = 0) → pz_S 3 (some .int) am_r200 0 Q 7 [(2, .int (nI k)), (0, .ref 154), (1, .int (Int32.ofInt 1))] [.int (nI k)] h) from ⟨fun hz => absurd hz (by decide), fun _ => ?_⟩)
    refine am_goX 3 (show am_sh h 154 = some (11, 0) ∧ pz_S 3 (some .int) am_r200 0 Q 18 [(2, .int (nI k)), (0, .ref 154), (1, .int (Int32.ofInt 1))] [.int (h.1 154 19), .int (nI k)] h from ⟨ex_154 (r_P l), ?_⟩)
    rw [eN]
    refine am_goX 1 (show ((nI (s.2.1.1 + s.2.2.1.1)) ≤ (nI k) → pz_S 3 (some .int) am_r200 0 Q 79 [(2, .int (nI k)), (0, .ref 154), (1, .int (Int32.ofInt 1))] [] h) ∧ (¬ ((nI (s.2.1.1 + s.2.2.1.1)) ≤ (nI k)) → pz_S 3 (some .int) am_r200 0 Q 21 [(2, .int (nI k)), (0, .ref 154), (1, .int (Int32.ofInt 1))] [] h) from ⟨fun _ => ?_, fun hz => absurd (nI_le (by omega) (by omega)) hz⟩)
    rw [rN_none l.2.1.2.2.2.2.2.2 (fun j hj1 => hj j (by omega))] at hQ
    exact am_goX 2 (show (∃ ty, (some .int) = some ty ∧ narrow ty (.int ((Int32.ofInt (-1)))) = .int ((Int32.ofInt (-1)))) ∧ h.2.2.2.2 = 175 ∧ _ from ⟨⟨.int, rfl, rfl⟩, ex_175 (r_P l), hQ⟩)
  | succ m ih =>
    intro k hk hj
    refine am_goX 3 (show ((Int32.ofInt 1) = 0 → pz_S 3 (some .int) am_r200 0 Q 14 [(2, .int (nI k)), (0, .ref 154), (1, .int (Int32.ofInt 1))] [.int (nI k)] h) ∧ (¬ ((Int32.ofInt 1) = 0) → pz_S 3 (some .int) am_r200 0 Q 7 [(2, .int (nI k)), (0, .ref 154), (1, .int (Int32.ofInt 1))] [.int (nI k)] h) from ⟨fun hz => absurd hz (by decide), fun _ => ?_⟩)
    refine am_goX 3 (show am_sh h 154 = some (11, 0) ∧ pz_S 3 (some .int) am_r200 0 Q 18 [(2, .int (nI k)), (0, .ref 154), (1, .int (Int32.ofInt 1))] [.int (h.1 154 19), .int (nI k)] h from ⟨ex_154 (r_P l), ?_⟩)
    rw [eN]
    refine am_goX 1 (show ((nI (s.2.1.1 + s.2.2.1.1)) ≤ (nI k) → pz_S 3 (some .int) am_r200 0 Q 79 [(2, .int (nI k)), (0, .ref 154), (1, .int (Int32.ofInt 1))] [] h) ∧ (¬ ((nI (s.2.1.1 + s.2.2.1.1)) ≤ (nI k)) → pz_S 3 (some .int) am_r200 0 Q 21 [(2, .int (nI k)), (0, .ref 154), (1, .int (Int32.ofInt 1))] [] h) from ⟨fun hz => absurd hz (by rw [nI_leI (by omega) (by omega)]; omega), fun _ => ?_⟩)
    refine am_goX 2 (show ((Int32.ofInt 1) = 0 → pz_S 3 (some .int) am_r200 0 Q 34 [(2, .int (nI k)), (0, .ref 154), (1, .int (Int32.ofInt 1))] [] h) ∧ (¬ ((Int32.ofInt 1) = 0) → pz_S 3 (some .int) am_r200 0 Q 25 [(2, .int (nI k)), (0, .ref 154), (1, .int (Int32.ofInt 1))] [] h) from ⟨fun hz => absurd hz (by decide), fun _ => ?_⟩)
    refine am_goX 2 (show am_sh h 154 = some (11, 0) ∧ pz_S 3 (some .int) am_r200 0 Q 29 [(2, .int (nI k)), (0, .ref 154), (1, .int (Int32.ofInt 1))] [am_rf (h.2.2.1 154 15)] h from ⟨ex_154 (r_P l), ?_⟩)
    rw [ex_r154_15 (h := h) (r_P l)]
    refine am_goX 2 (show ∃ jj nn : Nat, am_sh h 164 = some (14, nn) ∧ jj < nn ∧ (nI k) = nI jj ∧ pz_S 3 (some .int) am_r200 0 Q 31 [(2, .int (nI k)), (0, .ref 154), (1, .int (Int32.ofInt 1))] [.long (h.2.1 164 jj)] h from ⟨k, 11, ex_164 (r_P l), (by omega), rfl, ?_⟩)
    refine am_goX 3 (show am_sh h 154 = some (11, 0) ∧ pz_S 3 (some .int) am_r200 0 Q 44 [(2, .int (nI k)), (0, .ref 154), (1, .int (Int32.ofInt 1))] [am_rf (h.2.2.1 154 6), .long (h.2.1 164 k)] h from ⟨ex_154 (r_P l), ?_⟩)
    rw [ex_r154_6 (h := h) (r_P l)]
    refine am_goX 3 (show am_sh h 154 = some (11, 0) ∧ ∃ jj nn : Nat, am_sh h 158 = some (14, nn) ∧ jj < nn ∧ (h.1 154 7) = nI jj ∧ pz_S 3 (some .int) am_r200 0 Q 49 [(2, .int (nI k)), (0, .ref 154), (1, .int (Int32.ofInt 1))] [.long (h.2.1 158 jj), .long (h.2.1 164 k)] h from ⟨ex_154 (r_P l), s.1, 1002, ex_158 (r_P l), (by omega), r_a l, ?_⟩)
    rw [r_v l hn]
    refine am_goX 2 (show (¬ (lg_cmp ((h.2.1 164 k)) ((τ s.1).2.1)) = 0 → pz_S 3 (some .int) am_r200 0 Q 73 [(2, .int (nI k)), (0, .ref 154), (1, .int (Int32.ofInt 1))] [] h) ∧ (¬ ¬ (lg_cmp ((h.2.1 164 k)) ((τ s.1).2.1)) = 0 → pz_S 3 (some .int) am_r200 0 Q 53 [(2, .int (nI k)), (0, .ref 154), (1, .int (Int32.ofInt 1))] [] h) from ⟨fun hc => ?_, fun hc => ?_⟩)
    ·
      refine am_goX 2 (show 2 < 3 ∧ pz_S 3 (some .int) am_r200 0 Q 2 [(2, .int ((nI k) + Int32.ofInt 1)), (0, .ref 154), (1, .int (Int32.ofInt 1))] [] h from ⟨by decide, ?_⟩)
      rw [xw_i1]
      refine ih (k + 1) (by omega) (fun j hj1 => ?_)
      by_cases ej : j = k
      · rw [ej]; exact fun e => hc ((pz_cmp _ _).mpr e)
      · exact hj j (by omega)
    ·
      have e := (pz_cmp _ _).mp (Decidable.not_not.mp hc)
      refine am_goX 2 (show ((Int32.ofInt 1) = 0 → pz_S 3 (some .int) am_r200 0 Q 66 [(2, .int (nI k)), (0, .ref 154), (1, .int (Int32.ofInt 1))] [] h) ∧ (¬ ((Int32.ofInt 1) = 0) → pz_S 3 (some .int) am_r200 0 Q 57 [(2, .int (nI k)), (0, .ref 154), (1, .int (Int32.ofInt 1))] [] h) from ⟨fun hz => absurd hz (by decide), fun _ => ?_⟩)
      refine am_goX 2 (show am_sh h 154 = some (11, 0) ∧ pz_S 3 (some .int) am_r200 0 Q 61 [(2, .int (nI k)), (0, .ref 154), (1, .int (Int32.ofInt 1))] [am_rf (h.2.2.1 154 17)] h from ⟨ex_154 (r_P l), ?_⟩)
      rw [ex_r154_17 (h := h) (r_P l)]
      refine am_goX 2 (show ∃ jj nn : Nat, am_sh h 166 = some (13, nn) ∧ jj < nn ∧ (nI k) = nI jj ∧ pz_S 3 (some .int) am_r200 0 Q 63 [(2, .int (nI k)), (0, .ref 154), (1, .int (Int32.ofInt 1))] [.int (h.1 166 jj)] h from ⟨k, 11, ex_166 (r_P l), (by omega), rfl, ?_⟩)
      rw [rN_hit l.2.1.2.2.2.2.2.2 (show k < (s.2.1.1 + s.2.2.1.1) by omega) e]
      exact am_goX 2 (show (∃ ty, (some .int) = some ty ∧ narrow ty (.int ((sp_na s.2 (τ s.1).2.1))) = .int ((sp_na s.2 (τ s.1).2.1))) ∧ h.2.2.2.2 = 175 ∧ _ from ⟨⟨.int, rfl, rfl⟩, ex_175 (r_P l), hQ⟩)
theorem r_200 (hn : ¬ (τ s.1).1 = 0) (l : rr h0 z τ N s h) (hQ : Q (some (.int (sp_na s.2 (τ s.1).2.1))) h) : am_call am_cod 1 200 [.ref 154, .int (Int32.ofInt 1)] h Q := by
  have hP := r_P l
  refine pz_call (n := 200) (nL := 3) (rt := (some .int)) (rows := am_r200) (d := 0) (by decide +kernel) (by decide +kernel) rfl (by funext pc; rfl) (ex_175 hP) (by exact Nat.le_of_ble_eq_true rfl) ?_
  refine am_goX 2 (show 2 < 3 ∧ pz_S 3 (some .int) am_r200 0 Q 2 [(2, .int (Int32.ofInt 0)), (0, .ref 154), (1, .int (Int32.ofInt 1))] [] h from ⟨by decide, ?_⟩)
  exact r_200l hn l hQ (s.2.1.1 + s.2.2.1.1) 0 (Nat.zero_add _) (fun j hj => absurd hj (Nat.not_lt_zero j))
theorem r_207 {x : Int32} (hP : ex_P h) (hQ : Q (some (.int (pz_b (wi5 x)))) h) : am_call am_cod 1 207 [.int x, .int (Int32.ofInt 0), .int (Int32.ofInt 5)] h Q := by
  unfold wi5 at hQ
  refine pz_call (n := 207) (nL := 3) (rt := (some .boolean)) (rows := am_r207) (d := 0) (by decide +kernel) (by decide +kernel) rfl (by funext pc; rfl) (ex_175 hP) (by exact Nat.le_of_ble_eq_true rfl) ?_
  refine am_goX 3 (show (x < (Int32.ofInt 0) → pz_S 3 (some .boolean) am_r207 0 Q 14 [(0, .int x), (1, .int (Int32.ofInt 0)), (2, .int (Int32.ofInt 5))] [] h) ∧ (¬ (x < (Int32.ofInt 0)) → pz_S 3 (some .boolean) am_r207 0 Q 5 [(0, .int x), (1, .int (Int32.ofInt 0)), (2, .int (Int32.ofInt 5))] [] h) from ⟨fun hc => ?_, fun hc => ?_⟩)
  · rw [decide_eq_false (Int32.not_le.mpr hc), Bool.false_and] at hQ
    exact am_goX 2 (show (∃ ty, (some .boolean) = some ty ∧ narrow ty (.int ((Int32.ofInt 0))) = .int ((Int32.ofInt 0))) ∧ h.2.2.2.2 = 175 ∧ _ from ⟨⟨.boolean, rfl, rfl⟩, ex_175 hP, hQ⟩)
  rw [decide_eq_true (Int32.not_lt.mp hc), Bool.true_and] at hQ
  clear hc
  refine am_goX 3 (show ((Int32.ofInt 5) < x → pz_S 3 (some .boolean) am_r207 0 Q 14 [(0, .int x), (1, .int (Int32.ofInt 0)), (2, .int (Int32.ofInt 5))] [] h) ∧ (¬ ((Int32.ofInt 5) < x) → pz_S 3 (some .boolean) am_r207 0 Q 10 [(0, .int x), (1, .int (Int32.ofInt 0)), (2, .int (Int32.ofInt 5))] [] h) from ⟨fun hc => ?_, fun hc => ?_⟩)
  · rw [decide_eq_false (Int32.not_le.mpr hc)] at hQ
    exact am_goX 2 (show (∃ ty, (some .boolean) = some ty ∧ narrow ty (.int ((Int32.ofInt 0))) = .int ((Int32.ofInt 0))) ∧ h.2.2.2.2 = 175 ∧ _ from ⟨⟨.boolean, rfl, rfl⟩, ex_175 hP, hQ⟩)
  · rw [decide_eq_true (Int32.not_lt.mp hc)] at hQ
    exact am_goX 3 (show (∃ ty, (some .boolean) = some ty ∧ narrow ty (.int ((Int32.ofInt 1))) = .int ((Int32.ofInt 1))) ∧ h.2.2.2.2 = 175 ∧ _ from ⟨⟨.boolean, rfl, rfl⟩, ex_175 hP, hQ⟩)
theorem d_206 {r f b : Int32} (x : rx h0 F c h) (hQ : ∀ h1, rx h0 F c h1 → Q (some (.int (Int32.ofInt 0))) h1) : am_call am_cod 4 206 [.ref 154, .int r, .int f, .int b] h Q := by
  have hP := x.1
  refine pz_call (n := 206) (nL := 5) (rt := (some .int)) (rows := am_r206) (d := 3) (by decide +kernel) (by decide +kernel) rfl (by funext pc; rfl) (ex_175 hP) (by exact Nat.le_of_ble_eq_true rfl) ?_
  refine am_goX 2 (show am_sh h 154 = some (11, 0) ∧ pz_S 5 (some .int) am_r206 3 Q 4 [(0, .ref 154), (1, .int r), (2, .int f), (3, .int b)] [.int (h.1 154 8)] h from ⟨ex_154 x.1, ?_⟩)
  rw [x.2.1.1]
  refine am_goX 1 (show (¬ (F) = 0 → pz_S 5 (some .int) am_r206 3 Q 19 [(0, .ref 154), (1, .int r), (2, .int f), (3, .int b)] [] h) ∧ (¬ ¬ (F) = 0 → pz_S 5 (some .int) am_r206 3 Q 7 [(0, .ref 154), (1, .int r), (2, .int f), (3, .int b)] [] h) from ⟨fun _ => ?_, fun hz => absurd (rx_ne x) hz⟩)
  refine am_goX 2 (show am_sh h 154 = some (11, 0) ∧ pz_S 5 (some .int) am_r206 3 Q 23 [(0, .ref 154), (1, .int r), (2, .int f), (3, .int b)] [.int (h.1 154 8)] h from ⟨ex_154 x.1, ?_⟩)
  rw [x.2.1.1]
  refine am_goX 1 (show ((F) ≤ 0 → pz_S 5 (some .int) am_r206 3 Q 30 [(0, .ref 154), (1, .int r), (2, .int f), (3, .int b)] [] h) ∧ (¬ ((F) ≤ 0) → pz_S 5 (some .int) am_r206 3 Q 26 [(0, .ref 154), (1, .int r), (2, .int f), (3, .int b)] [] h) from ⟨fun hz => absurd hz (rx_le x), fun _ => ?_⟩)
  refine am_goX 5 (show 4 < 5 ∧ am_sh h 154 = some (11, 0) ∧ pz_S 5 (some .int) am_r206 3 Q 43 [(4, .int (Int32.ofInt (-1))), (0, .ref 154), (1, .int r), (2, .int f), (3, .int b)] [.int (h.1 154 8)] h from ⟨by decide, ex_154 x.1, ?_⟩)
  rw [x.2.1.1]
  refine am_goX 1 (show (¬ (F) = 0 → pz_S 5 (some .int) am_r206 3 Q 64 [(4, .int (Int32.ofInt (-1))), (0, .ref 154), (1, .int r), (2, .int f), (3, .int b)] [] h) ∧ (¬ ¬ (F) = 0 → pz_S 5 (some .int) am_r206 3 Q 46 [(4, .int (Int32.ofInt (-1))), (0, .ref 154), (1, .int r), (2, .int f), (3, .int b)] [] h) from ⟨fun _ => ?_, fun hz => absurd (rx_ne x) hz⟩)
  refine am_goX 2 (show am_sh h 154 = some (11, 0) ∧ pz_S 5 (some .int) am_r206 3 Q 68 [(4, .int (Int32.ofInt (-1))), (0, .ref 154), (1, .int r), (2, .int f), (3, .int b)] [.int (h.1 154 8)] h from ⟨ex_154 x.1, ?_⟩)
  rw [x.2.1.1]
  refine am_goX 1 (show (¬ (F) = 0 → pz_S 5 (some .int) am_r206 3 Q 86 [(4, .int (Int32.ofInt (-1))), (0, .ref 154), (1, .int r), (2, .int f), (3, .int b)] [] h) ∧ (¬ ¬ (F) = 0 → pz_S 5 (some .int) am_r206 3 Q 71 [(4, .int (Int32.ofInt (-1))), (0, .ref 154), (1, .int r), (2, .int f), (3, .int b)] [] h) from ⟨fun _ => ?_, fun hz => absurd (rx_ne x) hz⟩)
  refine am_goX 5 (show (Value.ref 154).category = 1 ∧ am_sh h 154 = some (11, 0) ∧ am_sh h 154 = some (11, 0) ∧ pz_S 5 (some .int) am_r206 3 Q 95 [(4, .int (Int32.ofInt (-1))), (0, .ref 154), (1, .int r), (2, .int f), (3, .int b)] [.int (h.1 154 8), .int (h.1 154 7), .ref 154] h from ⟨rfl, ex_154 x.1, ex_154 x.1, ?_⟩)
  rw [x.2.1.1]
  refine am_goX 1 (show ((F) ≤ 0 → pz_S 5 (some .int) am_r206 3 Q 102 [(4, .int (Int32.ofInt (-1))), (0, .ref 154), (1, .int r), (2, .int f), (3, .int b)] [.int (h.1 154 7), .ref 154] h) ∧ (¬ ((F) ≤ 0) → pz_S 5 (some .int) am_r206 3 Q 98 [(4, .int (Int32.ofInt (-1))), (0, .ref 154), (1, .int r), (2, .int f), (3, .int b)] [.int (h.1 154 7), .ref 154] h) from ⟨fun hz => absurd hz (rx_le x), fun _ => ?_⟩)
  refine am_goX 4 (show am_sh h 154 = some (11, 0) ∧ narrow (am_fty 11 7) (.int (((h.1 154 7) + (Int32.ofInt 0)))) = .int (((h.1 154 7) + (Int32.ofInt 0))) ∧ fits (am_fty 11 7) (.int (((h.1 154 7) + (Int32.ofInt 0)))) = true ∧ pz_S 5 (some .int) am_r206 3 Q 107 [(4, .int (Int32.ofInt (-1))), (0, .ref 154), (1, .int r), (2, .int f), (3, .int b)] [] (am_wI h 154 7 (((h.1 154 7) + (Int32.ofInt 0)))) from ⟨ex_154 x.1, rfl, rfl, ?_⟩)
  have x1 : rx h0 (F) (c) (am_wI h 154 7 (((h.1 154 7) + (Int32.ofInt 0)))) := rx_at x
  refine am_goX 2 (show am_sh (am_wI h 154 7 (((h.1 154 7) + (Int32.ofInt 0)))) 154 = some (11, 0) ∧ pz_S 5 (some .int) am_r206 3 Q 111 [(4, .int (Int32.ofInt (-1))), (0, .ref 154), (1, .int r), (2, .int f), (3, .int b)] [.int ((am_wI h 154 7 (((h.1 154 7) + (Int32.ofInt 0)))).1 154 8)] (am_wI h 154 7 (((h.1 154 7) + (Int32.ofInt 0)))) from ⟨ex_154 x1.1, ?_⟩)
  rw [x1.2.1.1]
  refine am_goX 1 (show ((F) ≤ 0 → pz_S 5 (some .int) am_r206 3 Q 118 [(4, .int (Int32.ofInt (-1))), (0, .ref 154), (1, .int r), (2, .int f), (3, .int b)] [] (am_wI h 154 7 (((h.1 154 7) + (Int32.ofInt 0))))) ∧ (¬ ((F) ≤ 0) → pz_S 5 (some .int) am_r206 3 Q 114 [(4, .int (Int32.ofInt (-1))), (0, .ref 154), (1, .int r), (2, .int f), (3, .int b)] [] (am_wI h 154 7 (((h.1 154 7) + (Int32.ofInt 0))))) from ⟨fun hz => absurd hz (rx_le x1), fun _ => ?_⟩)
  exact am_goX 3 (show (∃ ty, (some .int) = some ty ∧ narrow ty (.int ((Int32.ofInt 0))) = .int ((Int32.ofInt 0))) ∧ (am_wI h 154 7 (((h.1 154 7) + (Int32.ofInt 0)))).2.2.2.2 = 175 ∧ _ from ⟨⟨.int, rfl, rfl⟩, ex_175 x1.1, hQ _ x1⟩)
def tq_p (τ : sp_T) (s : sp_S) : sp_R := bif sp_n τ s.1 then (match sp_pf s.2 (τ s.1).2.1 with
  | none => sp_f τ s.1 (Int32.ofInt 2)
  | some _ => .inr s) else sp_f τ s.1 (Int32.ofInt 1)
def tq_e (τ : sp_T) (s : sp_S) (b : Int32) : sp_R := bif sp_n τ s.1 then (match sp_ef s.2 (τ s.1).2.1 with
  | none => sp_f τ s.1 (Int32.ofInt 2)
  | some e => bif sp_bit b (nI e) then sp_f τ s.1 (Int32.ofInt 3) else .inr s) else sp_f τ s.1 (Int32.ofInt 1)
theorem r_206p (l : rr h0 z τ N s h) (hF : ∀ F h1, tq_p τ s = .inl F → rx h0 F (s.2.2.2.2.2.1 + z) h1 → Q (some (.int (Int32.ofInt 0))) h1) (hS : ∀ p h1, sp_n τ s.1 = true → sp_pf s.2 (τ s.1).2.1 = some p → rr h0 z τ N (s.1 + 1, s.2) h1 → Q (some (.int (nI p))) h1) : am_call am_cod 4 206 [.ref 154, .int (Int32.ofInt 1), .int (Int32.ofInt 0), .int (Int32.ofInt 0)] h Q := by
  have hP := r_P l
  have hp6 : s.2.1.1 ≤ 6 := l.2.1.1.2.1
  have he5 : s.2.2.1.1 ≤ 5 := l.2.1.2.1.2.1
  refine pz_call (n := 206) (nL := 5) (rt := (some .int)) (rows := am_r206) (d := 3) (by decide +kernel) (by decide +kernel) rfl (by funext pc; rfl) (ex_175 hP) (by exact Nat.le_of_ble_eq_true rfl) ?_
  refine am_goX 2 (show am_sh h 154 = some (11, 0) ∧ pz_S 5 (some .int) am_r206 3 Q 4 [(0, .ref 154), (1, .int (Int32.ofInt 1)), (2, .int (Int32.ofInt 0)), (3, .int (Int32.ofInt 0))] [.int (h.1 154 8)] h from ⟨ex_154 (r_P l), ?_⟩)
  rw [r_f l]
  refine am_goX 1 (show (¬ 0 = 0 → pz_S 5 (some .int) am_r206 3 Q 19 [(0, .ref 154), (1, .int (Int32.ofInt 1)), (2, .int (Int32.ofInt 0)), (3, .int (Int32.ofInt 0))] [] h) ∧ (¬ ¬ 0 = 0 → pz_S 5 (some .int) am_r206 3 Q 7 [(0, .ref 154), (1, .int (Int32.ofInt 1)), (2, .int (Int32.ofInt 0)), (3, .int (Int32.ofInt 0))] [] h) from ⟨fun hz => absurd hz (by decide), fun _ => ?_⟩)
  refine am_goX 2 (show am_rc h 154 11 ∧ 0 ≤ 8 ∧ h.2.2.2.2 + am_al 198 ≤ 175 ∧ am_call am_cod 3 198 [.ref 154] h (fun vv h' => pz_S 5 (some .int) am_r206 3 Q 11 [(0, .ref 154), (1, .int (Int32.ofInt 1)), (2, .int (Int32.ofInt 0)), (3, .int (Int32.ofInt 0))] (vv.toList ++ []) h') from ⟨Or.inl ⟨by decide, ex_154 (r_P l)⟩, by decide, ex_lim (r_P l) rfl, am_call.up (r_198 l ?_) (by omega)⟩)
  cases e2 : sp_n τ s.1 with
  | true =>
    refine am_goX 1 (show (¬ (pz_b (true)) = 0 → pz_S 5 (some .int) am_r206 3 Q 19 [(0, .ref 154), (1, .int (Int32.ofInt 1)), (2, .int (Int32.ofInt 0)), (3, .int (Int32.ofInt 0))] [] h) ∧ (¬ ¬ (pz_b (true)) = 0 → pz_S 5 (some .int) am_r206 3 Q 14 [(0, .ref 154), (1, .int (Int32.ofInt 1)), (2, .int (Int32.ofInt 0)), (3, .int (Int32.ofInt 0))] [] h) from ⟨fun _ => ?_, fun hz => absurd (by decide) hz⟩)
    refine am_goX 2 (show am_sh h 154 = some (11, 0) ∧ pz_S 5 (some .int) am_r206 3 Q 23 [(0, .ref 154), (1, .int (Int32.ofInt 1)), (2, .int (Int32.ofInt 0)), (3, .int (Int32.ofInt 0))] [.int (h.1 154 8)] h from ⟨ex_154 (r_P l), ?_⟩)
    rw [r_f l]
    refine am_goX 1 (show (0 ≤ 0 → pz_S 5 (some .int) am_r206 3 Q 30 [(0, .ref 154), (1, .int (Int32.ofInt 1)), (2, .int (Int32.ofInt 0)), (3, .int (Int32.ofInt 0))] [] h) ∧ (¬ (0 ≤ 0) → pz_S 5 (some .int) am_r206 3 Q 26 [(0, .ref 154), (1, .int (Int32.ofInt 1)), (2, .int (Int32.ofInt 0)), (3, .int (Int32.ofInt 0))] [] h) from ⟨fun _ => ?_, fun hz => absurd (by decide) hz⟩)
    refine am_goX 3 (show am_rc h 154 11 ∧ 0 ≤ 8 ∧ h.2.2.2.2 + am_al 200 ≤ 175 ∧ am_call am_cod 3 200 [.ref 154, .int (Int32.ofInt 1)] h (fun vv h' => pz_S 5 (some .int) am_r206 3 Q 35 [(0, .ref 154), (1, .int (Int32.ofInt 1)), (2, .int (Int32.ofInt 0)), (3, .int (Int32.ofInt 0))] (vv.toList ++ []) h') from ⟨Or.inl ⟨by decide, ex_154 (r_P l)⟩, by decide, ex_lim (r_P l) rfl, am_call.up (r_200 (sp_nn e2) l ?_) (by omega)⟩)
    cases e1 : sp_pf s.2 (τ s.1).2.1 with
    | none =>
      have hw := na_p0 (v := (τ s.1).2.1) he5 e1
      refine am_goX 5 (show 4 < 5 ∧ am_sh h 154 = some (11, 0) ∧ pz_S 5 (some .int) am_r206 3 Q 43 [(4, .int ((sp_na s.2 (τ s.1).2.1) - (Int32.ofInt 0))), (0, .ref 154), (1, .int (Int32.ofInt 1)), (2, .int (Int32.ofInt 0)), (3, .int (Int32.ofInt 0))] [.int (h.1 154 8)] h from ⟨by decide, ex_154 (r_P l), ?_⟩)
      rw [r_f l]
      refine am_goX 1 (show (¬ 0 = 0 → pz_S 5 (some .int) am_r206 3 Q 64 [(4, .int ((sp_na s.2 (τ s.1).2.1) - (Int32.ofInt 0))), (0, .ref 154), (1, .int (Int32.ofInt 1)), (2, .int (Int32.ofInt 0)), (3, .int (Int32.ofInt 0))] [] h) ∧ (¬ ¬ 0 = 0 → pz_S 5 (some .int) am_r206 3 Q 46 [(4, .int ((sp_na s.2 (τ s.1).2.1) - (Int32.ofInt 0))), (0, .ref 154), (1, .int (Int32.ofInt 1)), (2, .int (Int32.ofInt 0)), (3, .int (Int32.ofInt 0))] [] h) from ⟨fun hz => absurd hz (by decide), fun _ => ?_⟩)
      refine am_goX 3 (show pz_S 5 (some .int) am_r206 3 Q 50 [(4, .int ((sp_na s.2 (τ s.1).2.1) - (Int32.ofInt 0))), (0, .ref 154), (1, .int (Int32.ofInt 1)), (2, .int (Int32.ofInt 0)), (3, .int (Int32.ofInt 0))] [.int (Int32.ofInt 5), .int (Int32.ofInt 0), .int ((sp_na s.2 (τ s.1).2.1) - (Int32.ofInt 0))] h from ?_)
      refine am_goX 1 (show 0 ≤ 8 ∧ h.2.2.2.2 + am_al 207 ≤ 175 ∧ am_call am_cod 3 207 [.int ((sp_na s.2 (τ s.1).2.1) - (Int32.ofInt 0)), .int (Int32.ofInt 0), .int (Int32.ofInt 5)] h (fun vv h' => pz_S 5 (some .int) am_r206 3 Q 53 [(4, .int ((sp_na s.2 (τ s.1).2.1) - (Int32.ofInt 0))), (0, .ref 154), (1, .int (Int32.ofInt 1)), (2, .int (Int32.ofInt 0)), (3, .int (Int32.ofInt 0))] (vv.toList ++ []) h') from ⟨by decide, ex_lim (r_P l) rfl, am_call.up (r_207 (r_P l) ?_) (by omega)⟩)
      rw [hw]
      refine am_goX 1 (show (¬ (pz_b (false)) = 0 → pz_S 5 (some .int) am_r206 3 Q 64 [(4, .int ((sp_na s.2 (τ s.1).2.1) - (Int32.ofInt 0))), (0, .ref 154), (1, .int (Int32.ofInt 1)), (2, .int (Int32.ofInt 0)), (3, .int (Int32.ofInt 0))] [] h) ∧ (¬ ¬ (pz_b (false)) = 0 → pz_S 5 (some .int) am_r206 3 Q 56 [(4, .int ((sp_na s.2 (τ s.1).2.1) - (Int32.ofInt 0))), (0, .ref 154), (1, .int (Int32.ofInt 1)), (2, .int (Int32.ofInt 0)), (3, .int (Int32.ofInt 0))] [] h) from ⟨fun hz => absurd hz (by decide), fun _ => ?_⟩)
      refine am_goX 3 (show am_rc h 154 11 ∧ 0 ≤ 8 ∧ h.2.2.2.2 + am_al 197 ≤ 175 ∧ am_call am_cod 3 197 [.ref 154, .int (Int32.ofInt 2)] h (fun vv h' => pz_S 5 (some .int) am_r206 3 Q 61 [(4, .int ((sp_na s.2 (τ s.1).2.1) - (Int32.ofInt 0))), (0, .ref 154), (1, .int (Int32.ofInt 1)), (2, .int (Int32.ofInt 0)), (3, .int (Int32.ofInt 0))] (vv.toList ++ []) h') from ⟨Or.inl ⟨by decide, ex_154 (r_P l)⟩, by decide, ex_lim (r_P l) rfl, am_call.up (r_197 l ?_) (by omega)⟩)
      have x3 : rx h0 (sp_ft τ s.1 (Int32.ofInt 2)) (s.2.2.2.2.2.1 + z) (am_wI h 154 8 (sp_ft τ s.1 (Int32.ofInt 2))) := rr_x (s := s) l (by decide)
      refine am_goX 6 (show (Value.ref 154).category = 1 ∧ am_sh (am_wI h 154 8 (sp_ft τ s.1 (Int32.ofInt 2))) 154 = some (11, 0) ∧ am_sh (am_wI h 154 8 (sp_ft τ s.1 (Int32.ofInt 2))) 154 = some (11, 0) ∧ pz_S 5 (some .int) am_r206 3 Q 95 [(4, .int ((sp_na s.2 (τ s.1).2.1) - (Int32.ofInt 0))), (0, .ref 154), (1, .int (Int32.ofInt 1)), (2, .int (Int32.ofInt 0)), (3, .int (Int32.ofInt 0))] [.int ((am_wI h 154 8 (sp_ft τ s.1 (Int32.ofInt 2))).1 154 8), .int ((am_wI h 154 8 (sp_ft τ s.1 (Int32.ofInt 2))).1 154 7), .ref 154] (am_wI h 154 8 (sp_ft τ s.1 (Int32.ofInt 2))) from ⟨rfl, ex_154 x3.1, ex_154 x3.1, ?_⟩)
      rw [x3.2.1.1]
      refine am_goX 1 (show ((sp_ft τ s.1 (Int32.ofInt 2)) ≤ 0 → pz_S 5 (some .int) am_r206 3 Q 102 [(4, .int ((sp_na s.2 (τ s.1).2.1) - (Int32.ofInt 0))), (0, .ref 154), (1, .int (Int32.ofInt 1)), (2, .int (Int32.ofInt 0)), (3, .int (Int32.ofInt 0))] [.int ((am_wI h 154 8 (sp_ft τ s.1 (Int32.ofInt 2))).1 154 7), .ref 154] (am_wI h 154 8 (sp_ft τ s.1 (Int32.ofInt 2)))) ∧ (¬ ((sp_ft τ s.1 (Int32.ofInt 2)) ≤ 0) → pz_S 5 (some .int) am_r206 3 Q 98 [(4, .int ((sp_na s.2 (τ s.1).2.1) - (Int32.ofInt 0))), (0, .ref 154), (1, .int (Int32.ofInt 1)), (2, .int (Int32.ofInt 0)), (3, .int (Int32.ofInt 0))] [.int ((am_wI h 154 8 (sp_ft τ s.1 (Int32.ofInt 2))).1 154 7), .ref 154] (am_wI h 154 8 (sp_ft τ s.1 (Int32.ofInt 2)))) from ⟨fun hz => absurd hz (rx_le x3), fun _ => ?_⟩)
      refine am_goX 4 (show am_sh (am_wI h 154 8 (sp_ft τ s.1 (Int32.ofInt 2))) 154 = some (11, 0) ∧ narrow (am_fty 11 7) (.int ((((am_wI h 154 8 (sp_ft τ s.1 (Int32.ofInt 2))).1 154 7) + (Int32.ofInt 0)))) = .int ((((am_wI h 154 8 (sp_ft τ s.1 (Int32.ofInt 2))).1 154 7) + (Int32.ofInt 0))) ∧ fits (am_fty 11 7) (.int ((((am_wI h 154 8 (sp_ft τ s.1 (Int32.ofInt 2))).1 154 7) + (Int32.ofInt 0)))) = true ∧ pz_S 5 (some .int) am_r206 3 Q 107 [(4, .int ((sp_na s.2 (τ s.1).2.1) - (Int32.ofInt 0))), (0, .ref 154), (1, .int (Int32.ofInt 1)), (2, .int (Int32.ofInt 0)), (3, .int (Int32.ofInt 0))] [] (am_wI (am_wI h 154 8 (sp_ft τ s.1 (Int32.ofInt 2))) 154 7 ((((am_wI h 154 8 (sp_ft τ s.1 (Int32.ofInt 2))).1 154 7) + (Int32.ofInt 0)))) from ⟨ex_154 x3.1, rfl, rfl, ?_⟩)
      have x4 : rx h0 (sp_ft τ s.1 (Int32.ofInt 2)) (s.2.2.2.2.2.1 + z) (am_wI (am_wI h 154 8 (sp_ft τ s.1 (Int32.ofInt 2))) 154 7 ((((am_wI h 154 8 (sp_ft τ s.1 (Int32.ofInt 2))).1 154 7) + (Int32.ofInt 0)))) := rx_at x3
      refine am_goX 2 (show am_sh (am_wI (am_wI h 154 8 (sp_ft τ s.1 (Int32.ofInt 2))) 154 7 ((((am_wI h 154 8 (sp_ft τ s.1 (Int32.ofInt 2))).1 154 7) + (Int32.ofInt 0)))) 154 = some (11, 0) ∧ pz_S 5 (some .int) am_r206 3 Q 111 [(4, .int ((sp_na s.2 (τ s.1).2.1) - (Int32.ofInt 0))), (0, .ref 154), (1, .int (Int32.ofInt 1)), (2, .int (Int32.ofInt 0)), (3, .int (Int32.ofInt 0))] [.int ((am_wI (am_wI h 154 8 (sp_ft τ s.1 (Int32.ofInt 2))) 154 7 ((((am_wI h 154 8 (sp_ft τ s.1 (Int32.ofInt 2))).1 154 7) + (Int32.ofInt 0)))).1 154 8)] (am_wI (am_wI h 154 8 (sp_ft τ s.1 (Int32.ofInt 2))) 154 7 ((((am_wI h 154 8 (sp_ft τ s.1 (Int32.ofInt 2))).1 154 7) + (Int32.ofInt 0)))) from ⟨ex_154 x4.1, ?_⟩)
      rw [x4.2.1.1]
      refine am_goX 1 (show ((sp_ft τ s.1 (Int32.ofInt 2)) ≤ 0 → pz_S 5 (some .int) am_r206 3 Q 118 [(4, .int ((sp_na s.2 (τ s.1).2.1) - (Int32.ofInt 0))), (0, .ref 154), (1, .int (Int32.ofInt 1)), (2, .int (Int32.ofInt 0)), (3, .int (Int32.ofInt 0))] [] (am_wI (am_wI h 154 8 (sp_ft τ s.1 (Int32.ofInt 2))) 154 7 ((((am_wI h 154 8 (sp_ft τ s.1 (Int32.ofInt 2))).1 154 7) + (Int32.ofInt 0))))) ∧ (¬ ((sp_ft τ s.1 (Int32.ofInt 2)) ≤ 0) → pz_S 5 (some .int) am_r206 3 Q 114 [(4, .int ((sp_na s.2 (τ s.1).2.1) - (Int32.ofInt 0))), (0, .ref 154), (1, .int (Int32.ofInt 1)), (2, .int (Int32.ofInt 0)), (3, .int (Int32.ofInt 0))] [] (am_wI (am_wI h 154 8 (sp_ft τ s.1 (Int32.ofInt 2))) 154 7 ((((am_wI h 154 8 (sp_ft τ s.1 (Int32.ofInt 2))).1 154 7) + (Int32.ofInt 0))))) from ⟨fun hz => absurd hz (rx_le x4), fun _ => ?_⟩)
      exact am_goX 3 (show (∃ ty, (some .int) = some ty ∧ narrow ty (.int ((Int32.ofInt 0))) = .int ((Int32.ofInt 0))) ∧ (am_wI (am_wI h 154 8 (sp_ft τ s.1 (Int32.ofInt 2))) 154 7 ((((am_wI h 154 8 (sp_ft τ s.1 (Int32.ofInt 2))).1 154 7) + (Int32.ofInt 0)))).2.2.2.2 = 175 ∧ _ from ⟨⟨.int, rfl, rfl⟩, ex_175 x4.1, hF (sp_ft τ s.1 (Int32.ofInt 2)) _ (by simp only [tq_p, sp_b, sp_f, cond_true, cond_false, e2, e1]) x4⟩)
    | some p =>
      have hp := (sp_fd_lt e1).2.1
      rw [show sp_na s.2 (τ s.1).2.1 = nI p by unfold sp_na; rw [e1]]
      obtain ⟨hs, hw, hb⟩ := na_p1 (show p < 6 by omega)
      refine am_goX 5 (show 4 < 5 ∧ am_sh h 154 = some (11, 0) ∧ pz_S 5 (some .int) am_r206 3 Q 43 [(4, .int ((nI p) - (Int32.ofInt 0))), (0, .ref 154), (1, .int (Int32.ofInt 1)), (2, .int (Int32.ofInt 0)), (3, .int (Int32.ofInt 0))] [.int (h.1 154 8)] h from ⟨by decide, ex_154 (r_P l), ?_⟩)
      rw [r_f l]
      refine am_goX 1 (show (¬ 0 = 0 → pz_S 5 (some .int) am_r206 3 Q 64 [(4, .int ((nI p) - (Int32.ofInt 0))), (0, .ref 154), (1, .int (Int32.ofInt 1)), (2, .int (Int32.ofInt 0)), (3, .int (Int32.ofInt 0))] [] h) ∧ (¬ ¬ 0 = 0 → pz_S 5 (some .int) am_r206 3 Q 46 [(4, .int ((nI p) - (Int32.ofInt 0))), (0, .ref 154), (1, .int (Int32.ofInt 1)), (2, .int (Int32.ofInt 0)), (3, .int (Int32.ofInt 0))] [] h) from ⟨fun hz => absurd hz (by decide), fun _ => ?_⟩)
      refine am_goX 3 (show pz_S 5 (some .int) am_r206 3 Q 50 [(4, .int ((nI p) - (Int32.ofInt 0))), (0, .ref 154), (1, .int (Int32.ofInt 1)), (2, .int (Int32.ofInt 0)), (3, .int (Int32.ofInt 0))] [.int (Int32.ofInt 5), .int (Int32.ofInt 0), .int ((nI p) - (Int32.ofInt 0))] h from ?_)
      rw [hs]
      refine am_goX 1 (show 0 ≤ 8 ∧ h.2.2.2.2 + am_al 207 ≤ 175 ∧ am_call am_cod 3 207 [.int (nI p), .int (Int32.ofInt 0), .int (Int32.ofInt 5)] h (fun vv h' => pz_S 5 (some .int) am_r206 3 Q 53 [(4, .int (nI p)), (0, .ref 154), (1, .int (Int32.ofInt 1)), (2, .int (Int32.ofInt 0)), (3, .int (Int32.ofInt 0))] (vv.toList ++ []) h') from ⟨by decide, ex_lim (r_P l) rfl, am_call.up (r_207 (r_P l) ?_) (by omega)⟩)
      rw [hw]
      refine am_goX 1 (show (¬ (pz_b (true)) = 0 → pz_S 5 (some .int) am_r206 3 Q 64 [(4, .int (nI p)), (0, .ref 154), (1, .int (Int32.ofInt 1)), (2, .int (Int32.ofInt 0)), (3, .int (Int32.ofInt 0))] [] h) ∧ (¬ ¬ (pz_b (true)) = 0 → pz_S 5 (some .int) am_r206 3 Q 56 [(4, .int (nI p)), (0, .ref 154), (1, .int (Int32.ofInt 1)), (2, .int (Int32.ofInt 0)), (3, .int (Int32.ofInt 0))] [] h) from ⟨fun _ => ?_, fun hz => absurd (by decide) hz⟩)
      refine am_goX 2 (show am_sh h 154 = some (11, 0) ∧ pz_S 5 (some .int) am_r206 3 Q 68 [(4, .int (nI p)), (0, .ref 154), (1, .int (Int32.ofInt 1)), (2, .int (Int32.ofInt 0)), (3, .int (Int32.ofInt 0))] [.int (h.1 154 8)] h from ⟨ex_154 (r_P l), ?_⟩)
      rw [r_f l]
      refine am_goX 1 (show (¬ 0 = 0 → pz_S 5 (some .int) am_r206 3 Q 86 [(4, .int (nI p)), (0, .ref 154), (1, .int (Int32.ofInt 1)), (2, .int (Int32.ofInt 0)), (3, .int (Int32.ofInt 0))] [] h) ∧ (¬ ¬ 0 = 0 → pz_S 5 (some .int) am_r206 3 Q 71 [(4, .int (nI p)), (0, .ref 154), (1, .int (Int32.ofInt 1)), (2, .int (Int32.ofInt 0)), (3, .int (Int32.ofInt 0))] [] h) from ⟨fun hz => absurd hz (by decide), fun _ => ?_⟩)
      refine am_goX 7 (show (¬ (((Int32.ofInt 0) >>> ((nI p) &&& 31)) &&& (Int32.ofInt 1)) = (Int32.ofInt 1) → pz_S 5 (some .int) am_r206 3 Q 86 [(4, .int (nI p)), (0, .ref 154), (1, .int (Int32.ofInt 1)), (2, .int (Int32.ofInt 0)), (3, .int (Int32.ofInt 0))] [] h) ∧ (¬ ¬ (((Int32.ofInt 0) >>> ((nI p) &&& 31)) &&& (Int32.ofInt 1)) = (Int32.ofInt 1) → pz_S 5 (some .int) am_r206 3 Q 81 [(4, .int (nI p)), (0, .ref 154), (1, .int (Int32.ofInt 1)), (2, .int (Int32.ofInt 0)), (3, .int (Int32.ofInt 0))] [] h) from ⟨fun _ => ?_, fun hz => absurd (bit_f hb) hz⟩)
      refine am_goX 5 (show (Value.ref 154).category = 1 ∧ am_sh h 154 = some (11, 0) ∧ am_sh h 154 = some (11, 0) ∧ pz_S 5 (some .int) am_r206 3 Q 95 [(4, .int (nI p)), (0, .ref 154), (1, .int (Int32.ofInt 1)), (2, .int (Int32.ofInt 0)), (3, .int (Int32.ofInt 0))] [.int (h.1 154 8), .int (h.1 154 7), .ref 154] h from ⟨rfl, ex_154 (r_P l), ex_154 (r_P l), ?_⟩)
      rw [r_f l]
      refine am_goX 1 (show (0 ≤ 0 → pz_S 5 (some .int) am_r206 3 Q 102 [(4, .int (nI p)), (0, .ref 154), (1, .int (Int32.ofInt 1)), (2, .int (Int32.ofInt 0)), (3, .int (Int32.ofInt 0))] [.int (h.1 154 7), .ref 154] h) ∧ (¬ (0 ≤ 0) → pz_S 5 (some .int) am_r206 3 Q 98 [(4, .int (nI p)), (0, .ref 154), (1, .int (Int32.ofInt 1)), (2, .int (Int32.ofInt 0)), (3, .int (Int32.ofInt 0))] [.int (h.1 154 7), .ref 154] h) from ⟨fun _ => ?_, fun hz => absurd (by decide) hz⟩)
      refine am_goX 3 (show am_sh h 154 = some (11, 0) ∧ narrow (am_fty 11 7) (.int (((h.1 154 7) + (Int32.ofInt 1)))) = .int (((h.1 154 7) + (Int32.ofInt 1))) ∧ fits (am_fty 11 7) (.int (((h.1 154 7) + (Int32.ofInt 1)))) = true ∧ pz_S 5 (some .int) am_r206 3 Q 107 [(4, .int (nI p)), (0, .ref 154), (1, .int (Int32.ofInt 1)), (2, .int (Int32.ofInt 0)), (3, .int (Int32.ofInt 0))] [] (am_wI h 154 7 (((h.1 154 7) + (Int32.ofInt 1)))) from ⟨ex_154 (r_P l), rfl, rfl, ?_⟩)
      rw [r_a l, xw_i1]
      have l5 : rr h0 z τ N (s.1 + 1, s.2) (am_wI h 154 7 (nI (s.1 + 1))) := rr_nx (a := s.1) (C := s.2) l (sp_nn e2)
      refine am_goX 2 (show am_sh (am_wI h 154 7 (nI (s.1 + 1))) 154 = some (11, 0) ∧ pz_S 5 (some .int) am_r206 3 Q 111 [(4, .int (nI p)), (0, .ref 154), (1, .int (Int32.ofInt 1)), (2, .int (Int32.ofInt 0)), (3, .int (Int32.ofInt 0))] [.int ((am_wI h 154 7 (nI (s.1 + 1))).1 154 8)] (am_wI h 154 7 (nI (s.1 + 1))) from ⟨ex_154 (r_P l5), ?_⟩)
      rw [r_f l5]
      refine am_goX 1 (show (0 ≤ 0 → pz_S 5 (some .int) am_r206 3 Q 118 [(4, .int (nI p)), (0, .ref 154), (1, .int (Int32.ofInt 1)), (2, .int (Int32.ofInt 0)), (3, .int (Int32.ofInt 0))] [] (am_wI h 154 7 (nI (s.1 + 1)))) ∧ (¬ (0 ≤ 0) → pz_S 5 (some .int) am_r206 3 Q 114 [(4, .int (nI p)), (0, .ref 154), (1, .int (Int32.ofInt 1)), (2, .int (Int32.ofInt 0)), (3, .int (Int32.ofInt 0))] [] (am_wI h 154 7 (nI (s.1 + 1)))) from ⟨fun _ => ?_, fun hz => absurd (by decide) hz⟩)
      exact am_goX 2 (show (∃ ty, (some .int) = some ty ∧ narrow ty (.int ((nI p))) = .int ((nI p))) ∧ (am_wI h 154 7 (nI (s.1 + 1))).2.2.2.2 = 175 ∧ _ from ⟨⟨.int, rfl, rfl⟩, ex_175 (r_P l5), hS p _ e2 e1 l5⟩)
  | false =>
    refine am_goX 1 (show (¬ (pz_b (false)) = 0 → pz_S 5 (some .int) am_r206 3 Q 19 [(0, .ref 154), (1, .int (Int32.ofInt 1)), (2, .int (Int32.ofInt 0)), (3, .int (Int32.ofInt 0))] [] h) ∧ (¬ ¬ (pz_b (false)) = 0 → pz_S 5 (some .int) am_r206 3 Q 14 [(0, .ref 154), (1, .int (Int32.ofInt 1)), (2, .int (Int32.ofInt 0)), (3, .int (Int32.ofInt 0))] [] h) from ⟨fun hz => absurd hz (by decide), fun _ => ?_⟩)
    refine am_goX 3 (show am_rc h 154 11 ∧ 0 ≤ 8 ∧ h.2.2.2.2 + am_al 197 ≤ 175 ∧ am_call am_cod 3 197 [.ref 154, .int (Int32.ofInt 1)] h (fun vv h' => pz_S 5 (some .int) am_r206 3 Q 19 [(0, .ref 154), (1, .int (Int32.ofInt 1)), (2, .int (Int32.ofInt 0)), (3, .int (Int32.ofInt 0))] (vv.toList ++ []) h') from ⟨Or.inl ⟨by decide, ex_154 (r_P l)⟩, by decide, ex_lim (r_P l) rfl, am_call.up (r_197 l ?_) (by omega)⟩)
    have x6 : rx h0 (sp_ft τ s.1 (Int32.ofInt 1)) (s.2.2.2.2.2.1 + z) (am_wI h 154 8 (sp_ft τ s.1 (Int32.ofInt 1))) := rr_x (s := s) l (by decide)
    refine am_goX 2 (show am_sh (am_wI h 154 8 (sp_ft τ s.1 (Int32.ofInt 1))) 154 = some (11, 0) ∧ pz_S 5 (some .int) am_r206 3 Q 23 [(0, .ref 154), (1, .int (Int32.ofInt 1)), (2, .int (Int32.ofInt 0)), (3, .int (Int32.ofInt 0))] [.int ((am_wI h 154 8 (sp_ft τ s.1 (Int32.ofInt 1))).1 154 8)] (am_wI h 154 8 (sp_ft τ s.1 (Int32.ofInt 1))) from ⟨ex_154 x6.1, ?_⟩)
    rw [x6.2.1.1]
    refine am_goX 1 (show ((sp_ft τ s.1 (Int32.ofInt 1)) ≤ 0 → pz_S 5 (some .int) am_r206 3 Q 30 [(0, .ref 154), (1, .int (Int32.ofInt 1)), (2, .int (Int32.ofInt 0)), (3, .int (Int32.ofInt 0))] [] (am_wI h 154 8 (sp_ft τ s.1 (Int32.ofInt 1)))) ∧ (¬ ((sp_ft τ s.1 (Int32.ofInt 1)) ≤ 0) → pz_S 5 (some .int) am_r206 3 Q 26 [(0, .ref 154), (1, .int (Int32.ofInt 1)), (2, .int (Int32.ofInt 0)), (3, .int (Int32.ofInt 0))] [] (am_wI h 154 8 (sp_ft τ s.1 (Int32.ofInt 1)))) from ⟨fun hz => absurd hz (rx_le x6), fun _ => ?_⟩)
    refine am_goX 5 (show 4 < 5 ∧ am_sh (am_wI h 154 8 (sp_ft τ s.1 (Int32.ofInt 1))) 154 = some (11, 0) ∧ pz_S 5 (some .int) am_r206 3 Q 43 [(4, .int (Int32.ofInt (-1))), (0, .ref 154), (1, .int (Int32.ofInt 1)), (2, .int (Int32.ofInt 0)), (3, .int (Int32.ofInt 0))] [.int ((am_wI h 154 8 (sp_ft τ s.1 (Int32.ofInt 1))).1 154 8)] (am_wI h 154 8 (sp_ft τ s.1 (Int32.ofInt 1))) from ⟨by decide, ex_154 x6.1, ?_⟩)
    rw [x6.2.1.1]
    refine am_goX 1 (show (¬ (sp_ft τ s.1 (Int32.ofInt 1)) = 0 → pz_S 5 (some .int) am_r206 3 Q 64 [(4, .int (Int32.ofInt (-1))), (0, .ref 154), (1, .int (Int32.ofInt 1)), (2, .int (Int32.ofInt 0)), (3, .int (Int32.ofInt 0))] [] (am_wI h 154 8 (sp_ft τ s.1 (Int32.ofInt 1)))) ∧ (¬ ¬ (sp_ft τ s.1 (Int32.ofInt 1)) = 0 → pz_S 5 (some .int) am_r206 3 Q 46 [(4, .int (Int32.ofInt (-1))), (0, .ref 154), (1, .int (Int32.ofInt 1)), (2, .int (Int32.ofInt 0)), (3, .int (Int32.ofInt 0))] [] (am_wI h 154 8 (sp_ft τ s.1 (Int32.ofInt 1)))) from ⟨fun _ => ?_, fun hz => absurd (rx_ne x6) hz⟩)
    refine am_goX 2 (show am_sh (am_wI h 154 8 (sp_ft τ s.1 (Int32.ofInt 1))) 154 = some (11, 0) ∧ pz_S 5 (some .int) am_r206 3 Q 68 [(4, .int (Int32.ofInt (-1))), (0, .ref 154), (1, .int (Int32.ofInt 1)), (2, .int (Int32.ofInt 0)), (3, .int (Int32.ofInt 0))] [.int ((am_wI h 154 8 (sp_ft τ s.1 (Int32.ofInt 1))).1 154 8)] (am_wI h 154 8 (sp_ft τ s.1 (Int32.ofInt 1))) from ⟨ex_154 x6.1, ?_⟩)
    rw [x6.2.1.1]
    refine am_goX 1 (show (¬ (sp_ft τ s.1 (Int32.ofInt 1)) = 0 → pz_S 5 (some .int) am_r206 3 Q 86 [(4, .int (Int32.ofInt (-1))), (0, .ref 154), (1, .int (Int32.ofInt 1)), (2, .int (Int32.ofInt 0)), (3, .int (Int32.ofInt 0))] [] (am_wI h 154 8 (sp_ft τ s.1 (Int32.ofInt 1)))) ∧ (¬ ¬ (sp_ft τ s.1 (Int32.ofInt 1)) = 0 → pz_S 5 (some .int) am_r206 3 Q 71 [(4, .int (Int32.ofInt (-1))), (0, .ref 154), (1, .int (Int32.ofInt 1)), (2, .int (Int32.ofInt 0)), (3, .int (Int32.ofInt 0))] [] (am_wI h 154 8 (sp_ft τ s.1 (Int32.ofInt 1)))) from ⟨fun _ => ?_, fun hz => absurd (rx_ne x6) hz⟩)
    refine am_goX 5 (show (Value.ref 154).category = 1 ∧ am_sh (am_wI h 154 8 (sp_ft τ s.1 (Int32.ofInt 1))) 154 = some (11, 0) ∧ am_sh (am_wI h 154 8 (sp_ft τ s.1 (Int32.ofInt 1))) 154 = some (11, 0) ∧ pz_S 5 (some .int) am_r206 3 Q 95 [(4, .int (Int32.ofInt (-1))), (0, .ref 154), (1, .int (Int32.ofInt 1)), (2, .int (Int32.ofInt 0)), (3, .int (Int32.ofInt 0))] [.int ((am_wI h 154 8 (sp_ft τ s.1 (Int32.ofInt 1))).1 154 8), .int ((am_wI h 154 8 (sp_ft τ s.1 (Int32.ofInt 1))).1 154 7), .ref 154] (am_wI h 154 8 (sp_ft τ s.1 (Int32.ofInt 1))) from ⟨rfl, ex_154 x6.1, ex_154 x6.1, ?_⟩)
    rw [x6.2.1.1]
    refine am_goX 1 (show ((sp_ft τ s.1 (Int32.ofInt 1)) ≤ 0 → pz_S 5 (some .int) am_r206 3 Q 102 [(4, .int (Int32.ofInt (-1))), (0, .ref 154), (1, .int (Int32.ofInt 1)), (2, .int (Int32.ofInt 0)), (3, .int (Int32.ofInt 0))] [.int ((am_wI h 154 8 (sp_ft τ s.1 (Int32.ofInt 1))).1 154 7), .ref 154] (am_wI h 154 8 (sp_ft τ s.1 (Int32.ofInt 1)))) ∧ (¬ ((sp_ft τ s.1 (Int32.ofInt 1)) ≤ 0) → pz_S 5 (some .int) am_r206 3 Q 98 [(4, .int (Int32.ofInt (-1))), (0, .ref 154), (1, .int (Int32.ofInt 1)), (2, .int (Int32.ofInt 0)), (3, .int (Int32.ofInt 0))] [.int ((am_wI h 154 8 (sp_ft τ s.1 (Int32.ofInt 1))).1 154 7), .ref 154] (am_wI h 154 8 (sp_ft τ s.1 (Int32.ofInt 1)))) from ⟨fun hz => absurd hz (rx_le x6), fun _ => ?_⟩)
    refine am_goX 4 (show am_sh (am_wI h 154 8 (sp_ft τ s.1 (Int32.ofInt 1))) 154 = some (11, 0) ∧ narrow (am_fty 11 7) (.int ((((am_wI h 154 8 (sp_ft τ s.1 (Int32.ofInt 1))).1 154 7) + (Int32.ofInt 0)))) = .int ((((am_wI h 154 8 (sp_ft τ s.1 (Int32.ofInt 1))).1 154 7) + (Int32.ofInt 0))) ∧ fits (am_fty 11 7) (.int ((((am_wI h 154 8 (sp_ft τ s.1 (Int32.ofInt 1))).1 154 7) + (Int32.ofInt 0)))) = true ∧ pz_S 5 (some .int) am_r206 3 Q 107 [(4, .int (Int32.ofInt (-1))), (0, .ref 154), (1, .int (Int32.ofInt 1)), (2, .int (Int32.ofInt 0)), (3, .int (Int32.ofInt 0))] [] (am_wI (am_wI h 154 8 (sp_ft τ s.1 (Int32.ofInt 1))) 154 7 ((((am_wI h 154 8 (sp_ft τ s.1 (Int32.ofInt 1))).1 154 7) + (Int32.ofInt 0)))) from ⟨ex_154 x6.1, rfl, rfl, ?_⟩)
    have x7 : rx h0 (sp_ft τ s.1 (Int32.ofInt 1)) (s.2.2.2.2.2.1 + z) (am_wI (am_wI h 154 8 (sp_ft τ s.1 (Int32.ofInt 1))) 154 7 ((((am_wI h 154 8 (sp_ft τ s.1 (Int32.ofInt 1))).1 154 7) + (Int32.ofInt 0)))) := rx_at x6
    refine am_goX 2 (show am_sh (am_wI (am_wI h 154 8 (sp_ft τ s.1 (Int32.ofInt 1))) 154 7 ((((am_wI h 154 8 (sp_ft τ s.1 (Int32.ofInt 1))).1 154 7) + (Int32.ofInt 0)))) 154 = some (11, 0) ∧ pz_S 5 (some .int) am_r206 3 Q 111 [(4, .int (Int32.ofInt (-1))), (0, .ref 154), (1, .int (Int32.ofInt 1)), (2, .int (Int32.ofInt 0)), (3, .int (Int32.ofInt 0))] [.int ((am_wI (am_wI h 154 8 (sp_ft τ s.1 (Int32.ofInt 1))) 154 7 ((((am_wI h 154 8 (sp_ft τ s.1 (Int32.ofInt 1))).1 154 7) + (Int32.ofInt 0)))).1 154 8)] (am_wI (am_wI h 154 8 (sp_ft τ s.1 (Int32.ofInt 1))) 154 7 ((((am_wI h 154 8 (sp_ft τ s.1 (Int32.ofInt 1))).1 154 7) + (Int32.ofInt 0)))) from ⟨ex_154 x7.1, ?_⟩)
    rw [x7.2.1.1]
    refine am_goX 1 (show ((sp_ft τ s.1 (Int32.ofInt 1)) ≤ 0 → pz_S 5 (some .int) am_r206 3 Q 118 [(4, .int (Int32.ofInt (-1))), (0, .ref 154), (1, .int (Int32.ofInt 1)), (2, .int (Int32.ofInt 0)), (3, .int (Int32.ofInt 0))] [] (am_wI (am_wI h 154 8 (sp_ft τ s.1 (Int32.ofInt 1))) 154 7 ((((am_wI h 154 8 (sp_ft τ s.1 (Int32.ofInt 1))).1 154 7) + (Int32.ofInt 0))))) ∧ (¬ ((sp_ft τ s.1 (Int32.ofInt 1)) ≤ 0) → pz_S 5 (some .int) am_r206 3 Q 114 [(4, .int (Int32.ofInt (-1))), (0, .ref 154), (1, .int (Int32.ofInt 1)), (2, .int (Int32.ofInt 0)), (3, .int (Int32.ofInt 0))] [] (am_wI (am_wI h 154 8 (sp_ft τ s.1 (Int32.ofInt 1))) 154 7 ((((am_wI h 154 8 (sp_ft τ s.1 (Int32.ofInt 1))).1 154 7) + (Int32.ofInt 0))))) from ⟨fun hz => absurd hz (rx_le x7), fun _ => ?_⟩)
    exact am_goX 3 (show (∃ ty, (some .int) = some ty ∧ narrow ty (.int ((Int32.ofInt 0))) = .int ((Int32.ofInt 0))) ∧ (am_wI (am_wI h 154 8 (sp_ft τ s.1 (Int32.ofInt 1))) 154 7 ((((am_wI h 154 8 (sp_ft τ s.1 (Int32.ofInt 1))).1 154 7) + (Int32.ofInt 0)))).2.2.2.2 = 175 ∧ _ from ⟨⟨.int, rfl, rfl⟩, ex_175 x7.1, hF (sp_ft τ s.1 (Int32.ofInt 1)) _ (by simp only [tq_p, sp_b, sp_f, cond_true, cond_false, e2]) x7⟩)
theorem r_206e {b : Int32} (l : rr h0 z τ N s h) (hF : ∀ F h1, tq_e τ s b = .inl F → rx h0 F (s.2.2.2.2.2.1 + z) h1 → Q (some (.int (Int32.ofInt 0))) h1) (hS : ∀ p h1, sp_n τ s.1 = true → sp_ef s.2 (τ s.1).2.1 = some p → sp_bit b (nI p) = false → rr h0 z τ N (s.1 + 1, s.2) h1 → Q (some (.int (nI p))) h1) : am_call am_cod 4 206 [.ref 154, .int (Int32.ofInt 1), .int ((Int8.ofInt 20).toInt32), .int (b)] h Q := by
  have hP := r_P l
  have hp6 : s.2.1.1 ≤ 6 := l.2.1.1.2.1
  have he5 : s.2.2.1.1 ≤ 5 := l.2.1.2.1.2.1
  refine pz_call (n := 206) (nL := 5) (rt := (some .int)) (rows := am_r206) (d := 3) (by decide +kernel) (by decide +kernel) rfl (by funext pc; rfl) (ex_175 hP) (by exact Nat.le_of_ble_eq_true rfl) ?_
  refine am_goX 2 (show am_sh h 154 = some (11, 0) ∧ pz_S 5 (some .int) am_r206 3 Q 4 [(0, .ref 154), (1, .int (Int32.ofInt 1)), (2, .int ((Int8.ofInt 20).toInt32)), (3, .int (b))] [.int (h.1 154 8)] h from ⟨ex_154 (r_P l), ?_⟩)
  rw [r_f l]
  refine am_goX 1 (show (¬ 0 = 0 → pz_S 5 (some .int) am_r206 3 Q 19 [(0, .ref 154), (1, .int (Int32.ofInt 1)), (2, .int ((Int8.ofInt 20).toInt32)), (3, .int (b))] [] h) ∧ (¬ ¬ 0 = 0 → pz_S 5 (some .int) am_r206 3 Q 7 [(0, .ref 154), (1, .int (Int32.ofInt 1)), (2, .int ((Int8.ofInt 20).toInt32)), (3, .int (b))] [] h) from ⟨fun hz => absurd hz (by decide), fun _ => ?_⟩)
  refine am_goX 2 (show am_rc h 154 11 ∧ 0 ≤ 8 ∧ h.2.2.2.2 + am_al 198 ≤ 175 ∧ am_call am_cod 3 198 [.ref 154] h (fun vv h' => pz_S 5 (some .int) am_r206 3 Q 11 [(0, .ref 154), (1, .int (Int32.ofInt 1)), (2, .int ((Int8.ofInt 20).toInt32)), (3, .int (b))] (vv.toList ++ []) h') from ⟨Or.inl ⟨by decide, ex_154 (r_P l)⟩, by decide, ex_lim (r_P l) rfl, am_call.up (r_198 l ?_) (by omega)⟩)
  cases e8 : sp_n τ s.1 with
  | true =>
    refine am_goX 1 (show (¬ (pz_b (true)) = 0 → pz_S 5 (some .int) am_r206 3 Q 19 [(0, .ref 154), (1, .int (Int32.ofInt 1)), (2, .int ((Int8.ofInt 20).toInt32)), (3, .int (b))] [] h) ∧ (¬ ¬ (pz_b (true)) = 0 → pz_S 5 (some .int) am_r206 3 Q 14 [(0, .ref 154), (1, .int (Int32.ofInt 1)), (2, .int ((Int8.ofInt 20).toInt32)), (3, .int (b))] [] h) from ⟨fun _ => ?_, fun hz => absurd (by decide) hz⟩)
    refine am_goX 2 (show am_sh h 154 = some (11, 0) ∧ pz_S 5 (some .int) am_r206 3 Q 23 [(0, .ref 154), (1, .int (Int32.ofInt 1)), (2, .int ((Int8.ofInt 20).toInt32)), (3, .int (b))] [.int (h.1 154 8)] h from ⟨ex_154 (r_P l), ?_⟩)
    rw [r_f l]
    refine am_goX 1 (show (0 ≤ 0 → pz_S 5 (some .int) am_r206 3 Q 30 [(0, .ref 154), (1, .int (Int32.ofInt 1)), (2, .int ((Int8.ofInt 20).toInt32)), (3, .int (b))] [] h) ∧ (¬ (0 ≤ 0) → pz_S 5 (some .int) am_r206 3 Q 26 [(0, .ref 154), (1, .int (Int32.ofInt 1)), (2, .int ((Int8.ofInt 20).toInt32)), (3, .int (b))] [] h) from ⟨fun _ => ?_, fun hz => absurd (by decide) hz⟩)
    refine am_goX 3 (show am_rc h 154 11 ∧ 0 ≤ 8 ∧ h.2.2.2.2 + am_al 200 ≤ 175 ∧ am_call am_cod 3 200 [.ref 154, .int (Int32.ofInt 1)] h (fun vv h' => pz_S 5 (some .int) am_r206 3 Q 35 [(0, .ref 154), (1, .int (Int32.ofInt 1)), (2, .int ((Int8.ofInt 20).toInt32)), (3, .int (b))] (vv.toList ++ []) h') from ⟨Or.inl ⟨by decide, ex_154 (r_P l)⟩, by decide, ex_lim (r_P l) rfl, am_call.up (r_200 (sp_nn e8) l ?_) (by omega)⟩)
    cases e1 : sp_ef s.2 (τ s.1).2.1 with
    | none =>
      have hw := na_e0 (v := (τ s.1).2.1) hp6 e1
      refine am_goX 5 (show 4 < 5 ∧ am_sh h 154 = some (11, 0) ∧ pz_S 5 (some .int) am_r206 3 Q 43 [(4, .int ((sp_na s.2 (τ s.1).2.1) - ((Int8.ofInt 20).toInt32))), (0, .ref 154), (1, .int (Int32.ofInt 1)), (2, .int ((Int8.ofInt 20).toInt32)), (3, .int (b))] [.int (h.1 154 8)] h from ⟨by decide, ex_154 (r_P l), ?_⟩)
      rw [r_f l]
      refine am_goX 1 (show (¬ 0 = 0 → pz_S 5 (some .int) am_r206 3 Q 64 [(4, .int ((sp_na s.2 (τ s.1).2.1) - ((Int8.ofInt 20).toInt32))), (0, .ref 154), (1, .int (Int32.ofInt 1)), (2, .int ((Int8.ofInt 20).toInt32)), (3, .int (b))] [] h) ∧ (¬ ¬ 0 = 0 → pz_S 5 (some .int) am_r206 3 Q 46 [(4, .int ((sp_na s.2 (τ s.1).2.1) - ((Int8.ofInt 20).toInt32))), (0, .ref 154), (1, .int (Int32.ofInt 1)), (2, .int ((Int8.ofInt 20).toInt32)), (3, .int (b))] [] h) from ⟨fun hz => absurd hz (by decide), fun _ => ?_⟩)
      refine am_goX 3 (show pz_S 5 (some .int) am_r206 3 Q 50 [(4, .int ((sp_na s.2 (τ s.1).2.1) - ((Int8.ofInt 20).toInt32))), (0, .ref 154), (1, .int (Int32.ofInt 1)), (2, .int ((Int8.ofInt 20).toInt32)), (3, .int (b))] [.int (Int32.ofInt 5), .int (Int32.ofInt 0), .int ((sp_na s.2 (τ s.1).2.1) - ((Int8.ofInt 20).toInt32))] h from ?_)
      refine am_goX 1 (show 0 ≤ 8 ∧ h.2.2.2.2 + am_al 207 ≤ 175 ∧ am_call am_cod 3 207 [.int ((sp_na s.2 (τ s.1).2.1) - ((Int8.ofInt 20).toInt32)), .int (Int32.ofInt 0), .int (Int32.ofInt 5)] h (fun vv h' => pz_S 5 (some .int) am_r206 3 Q 53 [(4, .int ((sp_na s.2 (τ s.1).2.1) - ((Int8.ofInt 20).toInt32))), (0, .ref 154), (1, .int (Int32.ofInt 1)), (2, .int ((Int8.ofInt 20).toInt32)), (3, .int (b))] (vv.toList ++ []) h') from ⟨by decide, ex_lim (r_P l) rfl, am_call.up (r_207 (r_P l) ?_) (by omega)⟩)
      rw [hw]
      refine am_goX 1 (show (¬ (pz_b (false)) = 0 → pz_S 5 (some .int) am_r206 3 Q 64 [(4, .int ((sp_na s.2 (τ s.1).2.1) - ((Int8.ofInt 20).toInt32))), (0, .ref 154), (1, .int (Int32.ofInt 1)), (2, .int ((Int8.ofInt 20).toInt32)), (3, .int (b))] [] h) ∧ (¬ ¬ (pz_b (false)) = 0 → pz_S 5 (some .int) am_r206 3 Q 56 [(4, .int ((sp_na s.2 (τ s.1).2.1) - ((Int8.ofInt 20).toInt32))), (0, .ref 154), (1, .int (Int32.ofInt 1)), (2, .int ((Int8.ofInt 20).toInt32)), (3, .int (b))] [] h) from ⟨fun hz => absurd hz (by decide), fun _ => ?_⟩)
      refine am_goX 3 (show am_rc h 154 11 ∧ 0 ≤ 8 ∧ h.2.2.2.2 + am_al 197 ≤ 175 ∧ am_call am_cod 3 197 [.ref 154, .int (Int32.ofInt 2)] h (fun vv h' => pz_S 5 (some .int) am_r206 3 Q 61 [(4, .int ((sp_na s.2 (τ s.1).2.1) - ((Int8.ofInt 20).toInt32))), (0, .ref 154), (1, .int (Int32.ofInt 1)), (2, .int ((Int8.ofInt 20).toInt32)), (3, .int (b))] (vv.toList ++ []) h') from ⟨Or.inl ⟨by decide, ex_154 (r_P l)⟩, by decide, ex_lim (r_P l) rfl, am_call.up (r_197 l ?_) (by omega)⟩)
      have x9 : rx h0 (sp_ft τ s.1 (Int32.ofInt 2)) (s.2.2.2.2.2.1 + z) (am_wI h 154 8 (sp_ft τ s.1 (Int32.ofInt 2))) := rr_x (s := s) l (by decide)
      refine am_goX 6 (show (Value.ref 154).category = 1 ∧ am_sh (am_wI h 154 8 (sp_ft τ s.1 (Int32.ofInt 2))) 154 = some (11, 0) ∧ am_sh (am_wI h 154 8 (sp_ft τ s.1 (Int32.ofInt 2))) 154 = some (11, 0) ∧ pz_S 5 (some .int) am_r206 3 Q 95 [(4, .int ((sp_na s.2 (τ s.1).2.1) - ((Int8.ofInt 20).toInt32))), (0, .ref 154), (1, .int (Int32.ofInt 1)), (2, .int ((Int8.ofInt 20).toInt32)), (3, .int (b))] [.int ((am_wI h 154 8 (sp_ft τ s.1 (Int32.ofInt 2))).1 154 8), .int ((am_wI h 154 8 (sp_ft τ s.1 (Int32.ofInt 2))).1 154 7), .ref 154] (am_wI h 154 8 (sp_ft τ s.1 (Int32.ofInt 2))) from ⟨rfl, ex_154 x9.1, ex_154 x9.1, ?_⟩)
      rw [x9.2.1.1]
      refine am_goX 1 (show ((sp_ft τ s.1 (Int32.ofInt 2)) ≤ 0 → pz_S 5 (some .int) am_r206 3 Q 102 [(4, .int ((sp_na s.2 (τ s.1).2.1) - ((Int8.ofInt 20).toInt32))), (0, .ref 154), (1, .int (Int32.ofInt 1)), (2, .int ((Int8.ofInt 20).toInt32)), (3, .int (b))] [.int ((am_wI h 154 8 (sp_ft τ s.1 (Int32.ofInt 2))).1 154 7), .ref 154] (am_wI h 154 8 (sp_ft τ s.1 (Int32.ofInt 2)))) ∧ (¬ ((sp_ft τ s.1 (Int32.ofInt 2)) ≤ 0) → pz_S 5 (some .int) am_r206 3 Q 98 [(4, .int ((sp_na s.2 (τ s.1).2.1) - ((Int8.ofInt 20).toInt32))), (0, .ref 154), (1, .int (Int32.ofInt 1)), (2, .int ((Int8.ofInt 20).toInt32)), (3, .int (b))] [.int ((am_wI h 154 8 (sp_ft τ s.1 (Int32.ofInt 2))).1 154 7), .ref 154] (am_wI h 154 8 (sp_ft τ s.1 (Int32.ofInt 2)))) from ⟨fun hz => absurd hz (rx_le x9), fun _ => ?_⟩)
      refine am_goX 4 (show am_sh (am_wI h 154 8 (sp_ft τ s.1 (Int32.ofInt 2))) 154 = some (11, 0) ∧ narrow (am_fty 11 7) (.int ((((am_wI h 154 8 (sp_ft τ s.1 (Int32.ofInt 2))).1 154 7) + (Int32.ofInt 0)))) = .int ((((am_wI h 154 8 (sp_ft τ s.1 (Int32.ofInt 2))).1 154 7) + (Int32.ofInt 0))) ∧ fits (am_fty 11 7) (.int ((((am_wI h 154 8 (sp_ft τ s.1 (Int32.ofInt 2))).1 154 7) + (Int32.ofInt 0)))) = true ∧ pz_S 5 (some .int) am_r206 3 Q 107 [(4, .int ((sp_na s.2 (τ s.1).2.1) - ((Int8.ofInt 20).toInt32))), (0, .ref 154), (1, .int (Int32.ofInt 1)), (2, .int ((Int8.ofInt 20).toInt32)), (3, .int (b))] [] (am_wI (am_wI h 154 8 (sp_ft τ s.1 (Int32.ofInt 2))) 154 7 ((((am_wI h 154 8 (sp_ft τ s.1 (Int32.ofInt 2))).1 154 7) + (Int32.ofInt 0)))) from ⟨ex_154 x9.1, rfl, rfl, ?_⟩)
      have x10 : rx h0 (sp_ft τ s.1 (Int32.ofInt 2)) (s.2.2.2.2.2.1 + z) (am_wI (am_wI h 154 8 (sp_ft τ s.1 (Int32.ofInt 2))) 154 7 ((((am_wI h 154 8 (sp_ft τ s.1 (Int32.ofInt 2))).1 154 7) + (Int32.ofInt 0)))) := rx_at x9
      refine am_goX 2 (show am_sh (am_wI (am_wI h 154 8 (sp_ft τ s.1 (Int32.ofInt 2))) 154 7 ((((am_wI h 154 8 (sp_ft τ s.1 (Int32.ofInt 2))).1 154 7) + (Int32.ofInt 0)))) 154 = some (11, 0) ∧ pz_S 5 (some .int) am_r206 3 Q 111 [(4, .int ((sp_na s.2 (τ s.1).2.1) - ((Int8.ofInt 20).toInt32))), (0, .ref 154), (1, .int (Int32.ofInt 1)), (2, .int ((Int8.ofInt 20).toInt32)), (3, .int (b))] [.int ((am_wI (am_wI h 154 8 (sp_ft τ s.1 (Int32.ofInt 2))) 154 7 ((((am_wI h 154 8 (sp_ft τ s.1 (Int32.ofInt 2))).1 154 7) + (Int32.ofInt 0)))).1 154 8)] (am_wI (am_wI h 154 8 (sp_ft τ s.1 (Int32.ofInt 2))) 154 7 ((((am_wI h 154 8 (sp_ft τ s.1 (Int32.ofInt 2))).1 154 7) + (Int32.ofInt 0)))) from ⟨ex_154 x10.1, ?_⟩)
      rw [x10.2.1.1]
      refine am_goX 1 (show ((sp_ft τ s.1 (Int32.ofInt 2)) ≤ 0 → pz_S 5 (some .int) am_r206 3 Q 118 [(4, .int ((sp_na s.2 (τ s.1).2.1) - ((Int8.ofInt 20).toInt32))), (0, .ref 154), (1, .int (Int32.ofInt 1)), (2, .int ((Int8.ofInt 20).toInt32)), (3, .int (b))] [] (am_wI (am_wI h 154 8 (sp_ft τ s.1 (Int32.ofInt 2))) 154 7 ((((am_wI h 154 8 (sp_ft τ s.1 (Int32.ofInt 2))).1 154 7) + (Int32.ofInt 0))))) ∧ (¬ ((sp_ft τ s.1 (Int32.ofInt 2)) ≤ 0) → pz_S 5 (some .int) am_r206 3 Q 114 [(4, .int ((sp_na s.2 (τ s.1).2.1) - ((Int8.ofInt 20).toInt32))), (0, .ref 154), (1, .int (Int32.ofInt 1)), (2, .int ((Int8.ofInt 20).toInt32)), (3, .int (b))] [] (am_wI (am_wI h 154 8 (sp_ft τ s.1 (Int32.ofInt 2))) 154 7 ((((am_wI h 154 8 (sp_ft τ s.1 (Int32.ofInt 2))).1 154 7) + (Int32.ofInt 0))))) from ⟨fun hz => absurd hz (rx_le x10), fun _ => ?_⟩)
      exact am_goX 3 (show (∃ ty, (some .int) = some ty ∧ narrow ty (.int ((Int32.ofInt 0))) = .int ((Int32.ofInt 0))) ∧ (am_wI (am_wI h 154 8 (sp_ft τ s.1 (Int32.ofInt 2))) 154 7 ((((am_wI h 154 8 (sp_ft τ s.1 (Int32.ofInt 2))).1 154 7) + (Int32.ofInt 0)))).2.2.2.2 = 175 ∧ _ from ⟨⟨.int, rfl, rfl⟩, ex_175 x10.1, hF (sp_ft τ s.1 (Int32.ofInt 2)) _ (by simp only [tq_e, sp_b, sp_f, cond_true, cond_false, e8, e1]) x10⟩)
    | some p =>
      have hp := (sp_fd_lt e1).2.1
      rw [rN_ef l.2.1.2.2.2.2.2.2 hp6 he5 e1]
      obtain ⟨hs, hw⟩ := na_e1 (show p < 5 by omega)
      refine am_goX 5 (show 4 < 5 ∧ am_sh h 154 = some (11, 0) ∧ pz_S 5 (some .int) am_r206 3 Q 43 [(4, .int ((nI (20 + p)) - ((Int8.ofInt 20).toInt32))), (0, .ref 154), (1, .int (Int32.ofInt 1)), (2, .int ((Int8.ofInt 20).toInt32)), (3, .int (b))] [.int (h.1 154 8)] h from ⟨by decide, ex_154 (r_P l), ?_⟩)
      rw [r_f l]
      refine am_goX 1 (show (¬ 0 = 0 → pz_S 5 (some .int) am_r206 3 Q 64 [(4, .int ((nI (20 + p)) - ((Int8.ofInt 20).toInt32))), (0, .ref 154), (1, .int (Int32.ofInt 1)), (2, .int ((Int8.ofInt 20).toInt32)), (3, .int (b))] [] h) ∧ (¬ ¬ 0 = 0 → pz_S 5 (some .int) am_r206 3 Q 46 [(4, .int ((nI (20 + p)) - ((Int8.ofInt 20).toInt32))), (0, .ref 154), (1, .int (Int32.ofInt 1)), (2, .int ((Int8.ofInt 20).toInt32)), (3, .int (b))] [] h) from ⟨fun hz => absurd hz (by decide), fun _ => ?_⟩)
      refine am_goX 3 (show pz_S 5 (some .int) am_r206 3 Q 50 [(4, .int ((nI (20 + p)) - ((Int8.ofInt 20).toInt32))), (0, .ref 154), (1, .int (Int32.ofInt 1)), (2, .int ((Int8.ofInt 20).toInt32)), (3, .int (b))] [.int (Int32.ofInt 5), .int (Int32.ofInt 0), .int ((nI (20 + p)) - ((Int8.ofInt 20).toInt32))] h from ?_)
      rw [hs]
      refine am_goX 1 (show 0 ≤ 8 ∧ h.2.2.2.2 + am_al 207 ≤ 175 ∧ am_call am_cod 3 207 [.int (nI p), .int (Int32.ofInt 0), .int (Int32.ofInt 5)] h (fun vv h' => pz_S 5 (some .int) am_r206 3 Q 53 [(4, .int (nI p)), (0, .ref 154), (1, .int (Int32.ofInt 1)), (2, .int ((Int8.ofInt 20).toInt32)), (3, .int (b))] (vv.toList ++ []) h') from ⟨by decide, ex_lim (r_P l) rfl, am_call.up (r_207 (r_P l) ?_) (by omega)⟩)
      rw [hw]
      refine am_goX 1 (show (¬ (pz_b (true)) = 0 → pz_S 5 (some .int) am_r206 3 Q 64 [(4, .int (nI p)), (0, .ref 154), (1, .int (Int32.ofInt 1)), (2, .int ((Int8.ofInt 20).toInt32)), (3, .int (b))] [] h) ∧ (¬ ¬ (pz_b (true)) = 0 → pz_S 5 (some .int) am_r206 3 Q 56 [(4, .int (nI p)), (0, .ref 154), (1, .int (Int32.ofInt 1)), (2, .int ((Int8.ofInt 20).toInt32)), (3, .int (b))] [] h) from ⟨fun _ => ?_, fun hz => absurd (by decide) hz⟩)
      refine am_goX 2 (show am_sh h 154 = some (11, 0) ∧ pz_S 5 (some .int) am_r206 3 Q 68 [(4, .int (nI p)), (0, .ref 154), (1, .int (Int32.ofInt 1)), (2, .int ((Int8.ofInt 20).toInt32)), (3, .int (b))] [.int (h.1 154 8)] h from ⟨ex_154 (r_P l), ?_⟩)
      rw [r_f l]
      refine am_goX 1 (show (¬ 0 = 0 → pz_S 5 (some .int) am_r206 3 Q 86 [(4, .int (nI p)), (0, .ref 154), (1, .int (Int32.ofInt 1)), (2, .int ((Int8.ofInt 20).toInt32)), (3, .int (b))] [] h) ∧ (¬ ¬ 0 = 0 → pz_S 5 (some .int) am_r206 3 Q 71 [(4, .int (nI p)), (0, .ref 154), (1, .int (Int32.ofInt 1)), (2, .int ((Int8.ofInt 20).toInt32)), (3, .int (b))] [] h) from ⟨fun hz => absurd hz (by decide), fun _ => ?_⟩)
      refine am_goX 6 (show pz_S 5 (some .int) am_r206 3 Q 78 [(4, .int (nI p)), (0, .ref 154), (1, .int (Int32.ofInt 1)), (2, .int ((Int8.ofInt 20).toInt32)), (3, .int (b))] [.int (Int32.ofInt 1), .int (((b) >>> ((nI p) &&& 31)) &&& (Int32.ofInt 1))] h from ?_)
      cases e4 : sp_bit b (nI p) with
      | true =>
        refine am_goX 1 (show (¬ (((b) >>> ((nI p) &&& 31)) &&& (Int32.ofInt 1)) = (Int32.ofInt 1) → pz_S 5 (some .int) am_r206 3 Q 86 [(4, .int (nI p)), (0, .ref 154), (1, .int (Int32.ofInt 1)), (2, .int ((Int8.ofInt 20).toInt32)), (3, .int (b))] [] h) ∧ (¬ ¬ (((b) >>> ((nI p) &&& 31)) &&& (Int32.ofInt 1)) = (Int32.ofInt 1) → pz_S 5 (some .int) am_r206 3 Q 81 [(4, .int (nI p)), (0, .ref 154), (1, .int (Int32.ofInt 1)), (2, .int ((Int8.ofInt 20).toInt32)), (3, .int (b))] [] h) from ⟨fun hz => absurd hz (fun w => w (bit_t e4)), fun _ => ?_⟩)
        refine am_goX 3 (show am_rc h 154 11 ∧ 0 ≤ 8 ∧ h.2.2.2.2 + am_al 197 ≤ 175 ∧ am_call am_cod 3 197 [.ref 154, .int (Int32.ofInt 3)] h (fun vv h' => pz_S 5 (some .int) am_r206 3 Q 86 [(4, .int (nI p)), (0, .ref 154), (1, .int (Int32.ofInt 1)), (2, .int ((Int8.ofInt 20).toInt32)), (3, .int (b))] (vv.toList ++ []) h') from ⟨Or.inl ⟨by decide, ex_154 (r_P l)⟩, by decide, ex_lim (r_P l) rfl, am_call.up (r_197 l ?_) (by omega)⟩)
        have x11 : rx h0 (sp_ft τ s.1 (Int32.ofInt 3)) (s.2.2.2.2.2.1 + z) (am_wI h 154 8 (sp_ft τ s.1 (Int32.ofInt 3))) := rr_x (s := s) l (by decide)
        refine am_goX 5 (show (Value.ref 154).category = 1 ∧ am_sh (am_wI h 154 8 (sp_ft τ s.1 (Int32.ofInt 3))) 154 = some (11, 0) ∧ am_sh (am_wI h 154 8 (sp_ft τ s.1 (Int32.ofInt 3))) 154 = some (11, 0) ∧ pz_S 5 (some .int) am_r206 3 Q 95 [(4, .int (nI p)), (0, .ref 154), (1, .int (Int32.ofInt 1)), (2, .int ((Int8.ofInt 20).toInt32)), (3, .int (b))] [.int ((am_wI h 154 8 (sp_ft τ s.1 (Int32.ofInt 3))).1 154 8), .int ((am_wI h 154 8 (sp_ft τ s.1 (Int32.ofInt 3))).1 154 7), .ref 154] (am_wI h 154 8 (sp_ft τ s.1 (Int32.ofInt 3))) from ⟨rfl, ex_154 x11.1, ex_154 x11.1, ?_⟩)
        rw [x11.2.1.1]
        refine am_goX 1 (show ((sp_ft τ s.1 (Int32.ofInt 3)) ≤ 0 → pz_S 5 (some .int) am_r206 3 Q 102 [(4, .int (nI p)), (0, .ref 154), (1, .int (Int32.ofInt 1)), (2, .int ((Int8.ofInt 20).toInt32)), (3, .int (b))] [.int ((am_wI h 154 8 (sp_ft τ s.1 (Int32.ofInt 3))).1 154 7), .ref 154] (am_wI h 154 8 (sp_ft τ s.1 (Int32.ofInt 3)))) ∧ (¬ ((sp_ft τ s.1 (Int32.ofInt 3)) ≤ 0) → pz_S 5 (some .int) am_r206 3 Q 98 [(4, .int (nI p)), (0, .ref 154), (1, .int (Int32.ofInt 1)), (2, .int ((Int8.ofInt 20).toInt32)), (3, .int (b))] [.int ((am_wI h 154 8 (sp_ft τ s.1 (Int32.ofInt 3))).1 154 7), .ref 154] (am_wI h 154 8 (sp_ft τ s.1 (Int32.ofInt 3)))) from ⟨fun hz => absurd hz (rx_le x11), fun _ => ?_⟩)
        refine am_goX 4 (show am_sh (am_wI h 154 8 (sp_ft τ s.1 (Int32.ofInt 3))) 154 = some (11, 0) ∧ narrow (am_fty 11 7) (.int ((((am_wI h 154 8 (sp_ft τ s.1 (Int32.ofInt 3))).1 154 7) + (Int32.ofInt 0)))) = .int ((((am_wI h 154 8 (sp_ft τ s.1 (Int32.ofInt 3))).1 154 7) + (Int32.ofInt 0))) ∧ fits (am_fty 11 7) (.int ((((am_wI h 154 8 (sp_ft τ s.1 (Int32.ofInt 3))).1 154 7) + (Int32.ofInt 0)))) = true ∧ pz_S 5 (some .int) am_r206 3 Q 107 [(4, .int (nI p)), (0, .ref 154), (1, .int (Int32.ofInt 1)), (2, .int ((Int8.ofInt 20).toInt32)), (3, .int (b))] [] (am_wI (am_wI h 154 8 (sp_ft τ s.1 (Int32.ofInt 3))) 154 7 ((((am_wI h 154 8 (sp_ft τ s.1 (Int32.ofInt 3))).1 154 7) + (Int32.ofInt 0)))) from ⟨ex_154 x11.1, rfl, rfl, ?_⟩)
        have x12 : rx h0 (sp_ft τ s.1 (Int32.ofInt 3)) (s.2.2.2.2.2.1 + z) (am_wI (am_wI h 154 8 (sp_ft τ s.1 (Int32.ofInt 3))) 154 7 ((((am_wI h 154 8 (sp_ft τ s.1 (Int32.ofInt 3))).1 154 7) + (Int32.ofInt 0)))) := rx_at x11
        refine am_goX 2 (show am_sh (am_wI (am_wI h 154 8 (sp_ft τ s.1 (Int32.ofInt 3))) 154 7 ((((am_wI h 154 8 (sp_ft τ s.1 (Int32.ofInt 3))).1 154 7) + (Int32.ofInt 0)))) 154 = some (11, 0) ∧ pz_S 5 (some .int) am_r206 3 Q 111 [(4, .int (nI p)), (0, .ref 154), (1, .int (Int32.ofInt 1)), (2, .int ((Int8.ofInt 20).toInt32)), (3, .int (b))] [.int ((am_wI (am_wI h 154 8 (sp_ft τ s.1 (Int32.ofInt 3))) 154 7 ((((am_wI h 154 8 (sp_ft τ s.1 (Int32.ofInt 3))).1 154 7) + (Int32.ofInt 0)))).1 154 8)] (am_wI (am_wI h 154 8 (sp_ft τ s.1 (Int32.ofInt 3))) 154 7 ((((am_wI h 154 8 (sp_ft τ s.1 (Int32.ofInt 3))).1 154 7) + (Int32.ofInt 0)))) from ⟨ex_154 x12.1, ?_⟩)
        rw [x12.2.1.1]
        refine am_goX 1 (show ((sp_ft τ s.1 (Int32.ofInt 3)) ≤ 0 → pz_S 5 (some .int) am_r206 3 Q 118 [(4, .int (nI p)), (0, .ref 154), (1, .int (Int32.ofInt 1)), (2, .int ((Int8.ofInt 20).toInt32)), (3, .int (b))] [] (am_wI (am_wI h 154 8 (sp_ft τ s.1 (Int32.ofInt 3))) 154 7 ((((am_wI h 154 8 (sp_ft τ s.1 (Int32.ofInt 3))).1 154 7) + (Int32.ofInt 0))))) ∧ (¬ ((sp_ft τ s.1 (Int32.ofInt 3)) ≤ 0) → pz_S 5 (some .int) am_r206 3 Q 114 [(4, .int (nI p)), (0, .ref 154), (1, .int (Int32.ofInt 1)), (2, .int ((Int8.ofInt 20).toInt32)), (3, .int (b))] [] (am_wI (am_wI h 154 8 (sp_ft τ s.1 (Int32.ofInt 3))) 154 7 ((((am_wI h 154 8 (sp_ft τ s.1 (Int32.ofInt 3))).1 154 7) + (Int32.ofInt 0))))) from ⟨fun hz => absurd hz (rx_le x12), fun _ => ?_⟩)
        exact am_goX 3 (show (∃ ty, (some .int) = some ty ∧ narrow ty (.int ((Int32.ofInt 0))) = .int ((Int32.ofInt 0))) ∧ (am_wI (am_wI h 154 8 (sp_ft τ s.1 (Int32.ofInt 3))) 154 7 ((((am_wI h 154 8 (sp_ft τ s.1 (Int32.ofInt 3))).1 154 7) + (Int32.ofInt 0)))).2.2.2.2 = 175 ∧ _ from ⟨⟨.int, rfl, rfl⟩, ex_175 x12.1, hF (sp_ft τ s.1 (Int32.ofInt 3)) _ (by simp only [tq_e, sp_b, sp_f, cond_true, cond_false, e8, e1, e4]) x12⟩)
      | false =>
        refine am_goX 1 (show (¬ (((b) >>> ((nI p) &&& 31)) &&& (Int32.ofInt 1)) = (Int32.ofInt 1) → pz_S 5 (some .int) am_r206 3 Q 86 [(4, .int (nI p)), (0, .ref 154), (1, .int (Int32.ofInt 1)), (2, .int ((Int8.ofInt 20).toInt32)), (3, .int (b))] [] h) ∧ (¬ ¬ (((b) >>> ((nI p) &&& 31)) &&& (Int32.ofInt 1)) = (Int32.ofInt 1) → pz_S 5 (some .int) am_r206 3 Q 81 [(4, .int (nI p)), (0, .ref 154), (1, .int (Int32.ofInt 1)), (2, .int ((Int8.ofInt 20).toInt32)), (3, .int (b))] [] h) from ⟨fun _ => ?_, fun hz => absurd (bit_f e4) hz⟩)
        refine am_goX 5 (show (Value.ref 154).category = 1 ∧ am_sh h 154 = some (11, 0) ∧ am_sh h 154 = some (11, 0) ∧ pz_S 5 (some .int) am_r206 3 Q 95 [(4, .int (nI p)), (0, .ref 154), (1, .int (Int32.ofInt 1)), (2, .int ((Int8.ofInt 20).toInt32)), (3, .int (b))] [.int (h.1 154 8), .int (h.1 154 7), .ref 154] h from ⟨rfl, ex_154 (r_P l), ex_154 (r_P l), ?_⟩)
        rw [r_f l]
        refine am_goX 1 (show (0 ≤ 0 → pz_S 5 (some .int) am_r206 3 Q 102 [(4, .int (nI p)), (0, .ref 154), (1, .int (Int32.ofInt 1)), (2, .int ((Int8.ofInt 20).toInt32)), (3, .int (b))] [.int (h.1 154 7), .ref 154] h) ∧ (¬ (0 ≤ 0) → pz_S 5 (some .int) am_r206 3 Q 98 [(4, .int (nI p)), (0, .ref 154), (1, .int (Int32.ofInt 1)), (2, .int ((Int8.ofInt 20).toInt32)), (3, .int (b))] [.int (h.1 154 7), .ref 154] h) from ⟨fun _ => ?_, fun hz => absurd (by decide) hz⟩)
        refine am_goX 3 (show am_sh h 154 = some (11, 0) ∧ narrow (am_fty 11 7) (.int (((h.1 154 7) + (Int32.ofInt 1)))) = .int (((h.1 154 7) + (Int32.ofInt 1))) ∧ fits (am_fty 11 7) (.int (((h.1 154 7) + (Int32.ofInt 1)))) = true ∧ pz_S 5 (some .int) am_r206 3 Q 107 [(4, .int (nI p)), (0, .ref 154), (1, .int (Int32.ofInt 1)), (2, .int ((Int8.ofInt 20).toInt32)), (3, .int (b))] [] (am_wI h 154 7 (((h.1 154 7) + (Int32.ofInt 1)))) from ⟨ex_154 (r_P l), rfl, rfl, ?_⟩)
        rw [r_a l, xw_i1]
        have l13 : rr h0 z τ N (s.1 + 1, s.2) (am_wI h 154 7 (nI (s.1 + 1))) := rr_nx (a := s.1) (C := s.2) l (sp_nn e8)
        refine am_goX 2 (show am_sh (am_wI h 154 7 (nI (s.1 + 1))) 154 = some (11, 0) ∧ pz_S 5 (some .int) am_r206 3 Q 111 [(4, .int (nI p)), (0, .ref 154), (1, .int (Int32.ofInt 1)), (2, .int ((Int8.ofInt 20).toInt32)), (3, .int (b))] [.int ((am_wI h 154 7 (nI (s.1 + 1))).1 154 8)] (am_wI h 154 7 (nI (s.1 + 1))) from ⟨ex_154 (r_P l13), ?_⟩)
        rw [r_f l13]
        refine am_goX 1 (show (0 ≤ 0 → pz_S 5 (some .int) am_r206 3 Q 118 [(4, .int (nI p)), (0, .ref 154), (1, .int (Int32.ofInt 1)), (2, .int ((Int8.ofInt 20).toInt32)), (3, .int (b))] [] (am_wI h 154 7 (nI (s.1 + 1)))) ∧ (¬ (0 ≤ 0) → pz_S 5 (some .int) am_r206 3 Q 114 [(4, .int (nI p)), (0, .ref 154), (1, .int (Int32.ofInt 1)), (2, .int ((Int8.ofInt 20).toInt32)), (3, .int (b))] [] (am_wI h 154 7 (nI (s.1 + 1)))) from ⟨fun _ => ?_, fun hz => absurd (by decide) hz⟩)
        exact am_goX 2 (show (∃ ty, (some .int) = some ty ∧ narrow ty (.int ((nI p))) = .int ((nI p))) ∧ (am_wI h 154 7 (nI (s.1 + 1))).2.2.2.2 = 175 ∧ _ from ⟨⟨.int, rfl, rfl⟩, ex_175 (r_P l13), hS p _ e8 e1 e4 l13⟩)
  | false =>
    refine am_goX 1 (show (¬ (pz_b (false)) = 0 → pz_S 5 (some .int) am_r206 3 Q 19 [(0, .ref 154), (1, .int (Int32.ofInt 1)), (2, .int ((Int8.ofInt 20).toInt32)), (3, .int (b))] [] h) ∧ (¬ ¬ (pz_b (false)) = 0 → pz_S 5 (some .int) am_r206 3 Q 14 [(0, .ref 154), (1, .int (Int32.ofInt 1)), (2, .int ((Int8.ofInt 20).toInt32)), (3, .int (b))] [] h) from ⟨fun hz => absurd hz (by decide), fun _ => ?_⟩)
    refine am_goX 3 (show am_rc h 154 11 ∧ 0 ≤ 8 ∧ h.2.2.2.2 + am_al 197 ≤ 175 ∧ am_call am_cod 3 197 [.ref 154, .int (Int32.ofInt 1)] h (fun vv h' => pz_S 5 (some .int) am_r206 3 Q 19 [(0, .ref 154), (1, .int (Int32.ofInt 1)), (2, .int ((Int8.ofInt 20).toInt32)), (3, .int (b))] (vv.toList ++ []) h') from ⟨Or.inl ⟨by decide, ex_154 (r_P l)⟩, by decide, ex_lim (r_P l) rfl, am_call.up (r_197 l ?_) (by omega)⟩)
    have x14 : rx h0 (sp_ft τ s.1 (Int32.ofInt 1)) (s.2.2.2.2.2.1 + z) (am_wI h 154 8 (sp_ft τ s.1 (Int32.ofInt 1))) := rr_x (s := s) l (by decide)
    refine am_goX 2 (show am_sh (am_wI h 154 8 (sp_ft τ s.1 (Int32.ofInt 1))) 154 = some (11, 0) ∧ pz_S 5 (some .int) am_r206 3 Q 23 [(0, .ref 154), (1, .int (Int32.ofInt 1)), (2, .int ((Int8.ofInt 20).toInt32)), (3, .int (b))] [.int ((am_wI h 154 8 (sp_ft τ s.1 (Int32.ofInt 1))).1 154 8)] (am_wI h 154 8 (sp_ft τ s.1 (Int32.ofInt 1))) from ⟨ex_154 x14.1, ?_⟩)
    rw [x14.2.1.1]
    refine am_goX 1 (show ((sp_ft τ s.1 (Int32.ofInt 1)) ≤ 0 → pz_S 5 (some .int) am_r206 3 Q 30 [(0, .ref 154), (1, .int (Int32.ofInt 1)), (2, .int ((Int8.ofInt 20).toInt32)), (3, .int (b))] [] (am_wI h 154 8 (sp_ft τ s.1 (Int32.ofInt 1)))) ∧ (¬ ((sp_ft τ s.1 (Int32.ofInt 1)) ≤ 0) → pz_S 5 (some .int) am_r206 3 Q 26 [(0, .ref 154), (1, .int (Int32.ofInt 1)), (2, .int ((Int8.ofInt 20).toInt32)), (3, .int (b))] [] (am_wI h 154 8 (sp_ft τ s.1 (Int32.ofInt 1)))) from ⟨fun hz => absurd hz (rx_le x14), fun _ => ?_⟩)
    refine am_goX 5 (show 4 < 5 ∧ am_sh (am_wI h 154 8 (sp_ft τ s.1 (Int32.ofInt 1))) 154 = some (11, 0) ∧ pz_S 5 (some .int) am_r206 3 Q 43 [(4, .int (Int32.ofInt (-1))), (0, .ref 154), (1, .int (Int32.ofInt 1)), (2, .int ((Int8.ofInt 20).toInt32)), (3, .int (b))] [.int ((am_wI h 154 8 (sp_ft τ s.1 (Int32.ofInt 1))).1 154 8)] (am_wI h 154 8 (sp_ft τ s.1 (Int32.ofInt 1))) from ⟨by decide, ex_154 x14.1, ?_⟩)
    rw [x14.2.1.1]
    refine am_goX 1 (show (¬ (sp_ft τ s.1 (Int32.ofInt 1)) = 0 → pz_S 5 (some .int) am_r206 3 Q 64 [(4, .int (Int32.ofInt (-1))), (0, .ref 154), (1, .int (Int32.ofInt 1)), (2, .int ((Int8.ofInt 20).toInt32)), (3, .int (b))] [] (am_wI h 154 8 (sp_ft τ s.1 (Int32.ofInt 1)))) ∧ (¬ ¬ (sp_ft τ s.1 (Int32.ofInt 1)) = 0 → pz_S 5 (some .int) am_r206 3 Q 46 [(4, .int (Int32.ofInt (-1))), (0, .ref 154), (1, .int (Int32.ofInt 1)), (2, .int ((Int8.ofInt 20).toInt32)), (3, .int (b))] [] (am_wI h 154 8 (sp_ft τ s.1 (Int32.ofInt 1)))) from ⟨fun _ => ?_, fun hz => absurd (rx_ne x14) hz⟩)
    refine am_goX 2 (show am_sh (am_wI h 154 8 (sp_ft τ s.1 (Int32.ofInt 1))) 154 = some (11, 0) ∧ pz_S 5 (some .int) am_r206 3 Q 68 [(4, .int (Int32.ofInt (-1))), (0, .ref 154), (1, .int (Int32.ofInt 1)), (2, .int ((Int8.ofInt 20).toInt32)), (3, .int (b))] [.int ((am_wI h 154 8 (sp_ft τ s.1 (Int32.ofInt 1))).1 154 8)] (am_wI h 154 8 (sp_ft τ s.1 (Int32.ofInt 1))) from ⟨ex_154 x14.1, ?_⟩)
    rw [x14.2.1.1]
    refine am_goX 1 (show (¬ (sp_ft τ s.1 (Int32.ofInt 1)) = 0 → pz_S 5 (some .int) am_r206 3 Q 86 [(4, .int (Int32.ofInt (-1))), (0, .ref 154), (1, .int (Int32.ofInt 1)), (2, .int ((Int8.ofInt 20).toInt32)), (3, .int (b))] [] (am_wI h 154 8 (sp_ft τ s.1 (Int32.ofInt 1)))) ∧ (¬ ¬ (sp_ft τ s.1 (Int32.ofInt 1)) = 0 → pz_S 5 (some .int) am_r206 3 Q 71 [(4, .int (Int32.ofInt (-1))), (0, .ref 154), (1, .int (Int32.ofInt 1)), (2, .int ((Int8.ofInt 20).toInt32)), (3, .int (b))] [] (am_wI h 154 8 (sp_ft τ s.1 (Int32.ofInt 1)))) from ⟨fun _ => ?_, fun hz => absurd (rx_ne x14) hz⟩)
    refine am_goX 5 (show (Value.ref 154).category = 1 ∧ am_sh (am_wI h 154 8 (sp_ft τ s.1 (Int32.ofInt 1))) 154 = some (11, 0) ∧ am_sh (am_wI h 154 8 (sp_ft τ s.1 (Int32.ofInt 1))) 154 = some (11, 0) ∧ pz_S 5 (some .int) am_r206 3 Q 95 [(4, .int (Int32.ofInt (-1))), (0, .ref 154), (1, .int (Int32.ofInt 1)), (2, .int ((Int8.ofInt 20).toInt32)), (3, .int (b))] [.int ((am_wI h 154 8 (sp_ft τ s.1 (Int32.ofInt 1))).1 154 8), .int ((am_wI h 154 8 (sp_ft τ s.1 (Int32.ofInt 1))).1 154 7), .ref 154] (am_wI h 154 8 (sp_ft τ s.1 (Int32.ofInt 1))) from ⟨rfl, ex_154 x14.1, ex_154 x14.1, ?_⟩)
    rw [x14.2.1.1]
    refine am_goX 1 (show ((sp_ft τ s.1 (Int32.ofInt 1)) ≤ 0 → pz_S 5 (some .int) am_r206 3 Q 102 [(4, .int (Int32.ofInt (-1))), (0, .ref 154), (1, .int (Int32.ofInt 1)), (2, .int ((Int8.ofInt 20).toInt32)), (3, .int (b))] [.int ((am_wI h 154 8 (sp_ft τ s.1 (Int32.ofInt 1))).1 154 7), .ref 154] (am_wI h 154 8 (sp_ft τ s.1 (Int32.ofInt 1)))) ∧ (¬ ((sp_ft τ s.1 (Int32.ofInt 1)) ≤ 0) → pz_S 5 (some .int) am_r206 3 Q 98 [(4, .int (Int32.ofInt (-1))), (0, .ref 154), (1, .int (Int32.ofInt 1)), (2, .int ((Int8.ofInt 20).toInt32)), (3, .int (b))] [.int ((am_wI h 154 8 (sp_ft τ s.1 (Int32.ofInt 1))).1 154 7), .ref 154] (am_wI h 154 8 (sp_ft τ s.1 (Int32.ofInt 1)))) from ⟨fun hz => absurd hz (rx_le x14), fun _ => ?_⟩)
    refine am_goX 4 (show am_sh (am_wI h 154 8 (sp_ft τ s.1 (Int32.ofInt 1))) 154 = some (11, 0) ∧ narrow (am_fty 11 7) (.int ((((am_wI h 154 8 (sp_ft τ s.1 (Int32.ofInt 1))).1 154 7) + (Int32.ofInt 0)))) = .int ((((am_wI h 154 8 (sp_ft τ s.1 (Int32.ofInt 1))).1 154 7) + (Int32.ofInt 0))) ∧ fits (am_fty 11 7) (.int ((((am_wI h 154 8 (sp_ft τ s.1 (Int32.ofInt 1))).1 154 7) + (Int32.ofInt 0)))) = true ∧ pz_S 5 (some .int) am_r206 3 Q 107 [(4, .int (Int32.ofInt (-1))), (0, .ref 154), (1, .int (Int32.ofInt 1)), (2, .int ((Int8.ofInt 20).toInt32)), (3, .int (b))] [] (am_wI (am_wI h 154 8 (sp_ft τ s.1 (Int32.ofInt 1))) 154 7 ((((am_wI h 154 8 (sp_ft τ s.1 (Int32.ofInt 1))).1 154 7) + (Int32.ofInt 0)))) from ⟨ex_154 x14.1, rfl, rfl, ?_⟩)
    have x15 : rx h0 (sp_ft τ s.1 (Int32.ofInt 1)) (s.2.2.2.2.2.1 + z) (am_wI (am_wI h 154 8 (sp_ft τ s.1 (Int32.ofInt 1))) 154 7 ((((am_wI h 154 8 (sp_ft τ s.1 (Int32.ofInt 1))).1 154 7) + (Int32.ofInt 0)))) := rx_at x14
    refine am_goX 2 (show am_sh (am_wI (am_wI h 154 8 (sp_ft τ s.1 (Int32.ofInt 1))) 154 7 ((((am_wI h 154 8 (sp_ft τ s.1 (Int32.ofInt 1))).1 154 7) + (Int32.ofInt 0)))) 154 = some (11, 0) ∧ pz_S 5 (some .int) am_r206 3 Q 111 [(4, .int (Int32.ofInt (-1))), (0, .ref 154), (1, .int (Int32.ofInt 1)), (2, .int ((Int8.ofInt 20).toInt32)), (3, .int (b))] [.int ((am_wI (am_wI h 154 8 (sp_ft τ s.1 (Int32.ofInt 1))) 154 7 ((((am_wI h 154 8 (sp_ft τ s.1 (Int32.ofInt 1))).1 154 7) + (Int32.ofInt 0)))).1 154 8)] (am_wI (am_wI h 154 8 (sp_ft τ s.1 (Int32.ofInt 1))) 154 7 ((((am_wI h 154 8 (sp_ft τ s.1 (Int32.ofInt 1))).1 154 7) + (Int32.ofInt 0)))) from ⟨ex_154 x15.1, ?_⟩)
    rw [x15.2.1.1]
    refine am_goX 1 (show ((sp_ft τ s.1 (Int32.ofInt 1)) ≤ 0 → pz_S 5 (some .int) am_r206 3 Q 118 [(4, .int (Int32.ofInt (-1))), (0, .ref 154), (1, .int (Int32.ofInt 1)), (2, .int ((Int8.ofInt 20).toInt32)), (3, .int (b))] [] (am_wI (am_wI h 154 8 (sp_ft τ s.1 (Int32.ofInt 1))) 154 7 ((((am_wI h 154 8 (sp_ft τ s.1 (Int32.ofInt 1))).1 154 7) + (Int32.ofInt 0))))) ∧ (¬ ((sp_ft τ s.1 (Int32.ofInt 1)) ≤ 0) → pz_S 5 (some .int) am_r206 3 Q 114 [(4, .int (Int32.ofInt (-1))), (0, .ref 154), (1, .int (Int32.ofInt 1)), (2, .int ((Int8.ofInt 20).toInt32)), (3, .int (b))] [] (am_wI (am_wI h 154 8 (sp_ft τ s.1 (Int32.ofInt 1))) 154 7 ((((am_wI h 154 8 (sp_ft τ s.1 (Int32.ofInt 1))).1 154 7) + (Int32.ofInt 0))))) from ⟨fun hz => absurd hz (rx_le x15), fun _ => ?_⟩)
    exact am_goX 3 (show (∃ ty, (some .int) = some ty ∧ narrow ty (.int ((Int32.ofInt 0))) = .int ((Int32.ofInt 0))) ∧ (am_wI (am_wI h 154 8 (sp_ft τ s.1 (Int32.ofInt 1))) 154 7 ((((am_wI h 154 8 (sp_ft τ s.1 (Int32.ofInt 1))).1 154 7) + (Int32.ofInt 0)))).2.2.2.2 = 175 ∧ _ from ⟨⟨.int, rfl, rfl⟩, ex_175 x15.1, hF (sp_ft τ s.1 (Int32.ofInt 1)) _ (by simp only [tq_e, sp_b, sp_f, cond_true, cond_false, e8]) x15⟩)
theorem r_196p (hn : ¬ (τ s.1).1 = 0) (l : rr h0 z τ N s h) (hF : ∀ F h1, (bif Nat.ble 6 s.2.1.1 then sp_f τ s.1 (Int32.ofInt 5) else sp_fn τ (s.1 + 1, s.2)) = .inl F → rx h0 F (s.2.2.2.2.2.1 + z) h1 → Q none h1) (hS : ∀ x y h1, Nat.ble 6 s.2.1.1 = false → sp_fn τ (s.1 + 1, s.2) = .inr (s.1 + 1, s.2) → rr h0 z τ N (s.1 + 1 + 1, sp_cP s.2 (τ (s.1 + 1)).2.1 x y) h1 → Q none h1) : am_call am_cod 4 196 [.ref 154, .int (Int32.ofInt 0), .int (Int8.ofInt 6).toInt32, .int (Int32.ofInt 0)] h Q := by
  have hP := r_P l
  have hp6 : s.2.1.1 ≤ 6 := l.2.1.1.2.1
  have he5 : s.2.2.1.1 ≤ 5 := l.2.1.2.1.2.1
  refine pz_call (n := 196) (nL := 5) (rt := none) (rows := am_r196) (d := 3) (by decide +kernel) (by decide +kernel) rfl (by funext pc; rfl) (ex_175 hP) (by exact Nat.le_of_ble_eq_true rfl) ?_
  refine am_goX 2 (show am_sh h 154 = some (11, 0) ∧ pz_S 5 none am_r196 3 Q 4 [(0, .ref 154), (1, .int (Int32.ofInt 0)), (2, .int (Int8.ofInt 6).toInt32), (3, .int (Int32.ofInt 0))] [am_rf (h.2.2.1 154 10)] h from ⟨ex_154 (r_P l), ?_⟩)
  rw [ex_r154_10 (h := h) (r_P l)]
  refine am_goX 4 (show ∃ jj nn : Nat, am_sh h 160 = some (13, nn) ∧ jj < nn ∧ ((Int8.ofInt 40).toInt32 + (Int32.ofInt 0)) = nI jj ∧ pz_S 5 none am_r196 3 Q 9 [(0, .ref 154), (1, .int (Int32.ofInt 0)), (2, .int (Int8.ofInt 6).toInt32), (3, .int (Int32.ofInt 0))] [.int (h.1 160 jj)] h from ⟨40, 80, ex_160 (r_P l), (by decide), (by decide), ?_⟩)
  rw [show h.1 160 40 = nI s.2.1.1 from l.2.1.1.1]
  refine am_goX 3 (show 4 < 5 ∧ pz_S 5 none am_r196 3 Q 14 [(4, .int (nI s.2.1.1)), (0, .ref 154), (1, .int (Int32.ofInt 0)), (2, .int (Int8.ofInt 6).toInt32), (3, .int (Int32.ofInt 0))] [.int (Int8.ofInt 6).toInt32, .int (nI s.2.1.1)] h from ⟨by decide, ?_⟩)
  cases e0 : Nat.ble 6 s.2.1.1 with
  | true =>
    refine am_goX 1 (show (¬ (nI s.2.1.1) = (Int8.ofInt 6).toInt32 → pz_S 5 none am_r196 3 Q 23 [(4, .int (nI s.2.1.1)), (0, .ref 154), (1, .int (Int32.ofInt 0)), (2, .int (Int8.ofInt 6).toInt32), (3, .int (Int32.ofInt 0))] [] h) ∧ (¬ ¬ (nI s.2.1.1) = (Int8.ofInt 6).toInt32 → pz_S 5 none am_r196 3 Q 17 [(4, .int (nI s.2.1.1)), (0, .ref 154), (1, .int (Int32.ofInt 0)), (2, .int (Int8.ofInt 6).toInt32), (3, .int (Int32.ofInt 0))] [] h) from ⟨fun hz => absurd hz (fun w => w (by rw [show s.2.1.1 = 6 from Nat.le_antisymm (by omega) (Nat.le_of_ble_eq_true e0)]; decide)), fun _ => ?_⟩)
    refine am_goX 3 (show am_rc h 154 11 ∧ 0 ≤ 8 ∧ h.2.2.2.2 + am_al 197 ≤ 175 ∧ am_call am_cod 3 197 [.ref 154, .int (Int32.ofInt 5)] h (fun vv h' => pz_S 5 none am_r196 3 Q 22 [(4, .int (nI s.2.1.1)), (0, .ref 154), (1, .int (Int32.ofInt 0)), (2, .int (Int8.ofInt 6).toInt32), (3, .int (Int32.ofInt 0))] (vv.toList ++ []) h') from ⟨Or.inl ⟨by decide, ex_154 (r_P l)⟩, by decide, ex_lim (r_P l) rfl, am_call.up (r_197 l ?_) (by omega)⟩)
    have x16 : rx h0 (sp_ft τ s.1 (Int32.ofInt 5)) (s.2.2.2.2.2.1 + z) (am_wI h 154 8 (sp_ft τ s.1 (Int32.ofInt 5))) := rr_x (s := s) l (by decide)
    exact am_goX 1 (show (none : Option FieldType) = none ∧ (am_wI h 154 8 (sp_ft τ s.1 (Int32.ofInt 5))).2.2.2.2 = 175 ∧ _ from ⟨rfl, ex_175 x16.1, hF (sp_ft τ s.1 (Int32.ofInt 5)) _ (by simp only [sp_fn, sp_b, sp_f, cond_true, cond_false, e0]) x16⟩)
  | false =>
    refine am_goX 1 (show (¬ (nI s.2.1.1) = (Int8.ofInt 6).toInt32 → pz_S 5 none am_r196 3 Q 23 [(4, .int (nI s.2.1.1)), (0, .ref 154), (1, .int (Int32.ofInt 0)), (2, .int (Int8.ofInt 6).toInt32), (3, .int (Int32.ofInt 0))] [] h) ∧ (¬ ¬ (nI s.2.1.1) = (Int8.ofInt 6).toInt32 → pz_S 5 none am_r196 3 Q 17 [(4, .int (nI s.2.1.1)), (0, .ref 154), (1, .int (Int32.ofInt 0)), (2, .int (Int8.ofInt 6).toInt32), (3, .int (Int32.ofInt 0))] [] h) from ⟨fun _ => ?_, fun hz => absurd (fun w => by have h1 := j6n e0; have h2 := congrArg Int32.toInt w; rw [nI_toInt (by omega), show ((Int8.ofInt 6).toInt32 : Int32).toInt = 6 from rfl] at h2; omega) hz⟩)
    have hlt := j6n e0
    refine am_goX 6 (show (Value.ref 154).category = 1 ∧ am_sh h 154 = some (11, 0) ∧ am_sh h 154 = some (11, 0) ∧ narrow (am_fty 11 7) (.int (((h.1 154 7) + (Int32.ofInt 1)))) = .int (((h.1 154 7) + (Int32.ofInt 1))) ∧ fits (am_fty 11 7) (.int (((h.1 154 7) + (Int32.ofInt 1)))) = true ∧ pz_S 5 none am_r196 3 Q 33 [(4, .int (nI s.2.1.1)), (0, .ref 154), (1, .int (Int32.ofInt 0)), (2, .int (Int8.ofInt 6).toInt32), (3, .int (Int32.ofInt 0))] [] (am_wI h 154 7 (((h.1 154 7) + (Int32.ofInt 1)))) from ⟨rfl, ex_154 (r_P l), ex_154 (r_P l), rfl, rfl, ?_⟩)
    rw [r_a l, xw_i1]
    have l17 : rr h0 z τ N (s.1 + 1, s.2) (am_wI h 154 7 (nI (s.1 + 1))) := rr_nx (a := s.1) (C := s.2) l (hn)
    refine am_goX 2 (show am_rc (am_wI h 154 7 (nI (s.1 + 1))) 154 11 ∧ 0 ≤ 8 ∧ (am_wI h 154 7 (nI (s.1 + 1))).2.2.2.2 + am_al 198 ≤ 175 ∧ am_call am_cod 3 198 [.ref 154] (am_wI h 154 7 (nI (s.1 + 1))) (fun vv h' => pz_S 5 none am_r196 3 Q 37 [(4, .int (nI s.2.1.1)), (0, .ref 154), (1, .int (Int32.ofInt 0)), (2, .int (Int8.ofInt 6).toInt32), (3, .int (Int32.ofInt 0))] (vv.toList ++ []) h') from ⟨Or.inl ⟨by decide, ex_154 (r_P l17)⟩, by decide, ex_lim (r_P l17) rfl, am_call.up (r_198 l17 ?_) (by omega)⟩)
    cases e18 : sp_n τ (s.1 + 1) with
    | true =>
      refine am_goX 1 (show (¬ (pz_b (true)) = 0 → pz_S 5 none am_r196 3 Q 48 [(4, .int (nI s.2.1.1)), (0, .ref 154), (1, .int (Int32.ofInt 0)), (2, .int (Int8.ofInt 6).toInt32), (3, .int (Int32.ofInt 0))] [] (am_wI h 154 7 (nI (s.1 + 1)))) ∧ (¬ ¬ (pz_b (true)) = 0 → pz_S 5 none am_r196 3 Q 40 [(4, .int (nI s.2.1.1)), (0, .ref 154), (1, .int (Int32.ofInt 0)), (2, .int (Int8.ofInt 6).toInt32), (3, .int (Int32.ofInt 0))] [] (am_wI h 154 7 (nI (s.1 + 1)))) from ⟨fun _ => ?_, fun hz => absurd (by decide) hz⟩)
      refine am_goX 3 (show am_rc (am_wI h 154 7 (nI (s.1 + 1))) 154 11 ∧ 0 ≤ 8 ∧ (am_wI h 154 7 (nI (s.1 + 1))).2.2.2.2 + am_al 200 ≤ 175 ∧ am_call am_cod 3 200 [.ref 154, .int (Int32.ofInt 1)] (am_wI h 154 7 (nI (s.1 + 1))) (fun vv h' => pz_S 5 none am_r196 3 Q 53 [(4, .int (nI s.2.1.1)), (0, .ref 154), (1, .int (Int32.ofInt 0)), (2, .int (Int8.ofInt 6).toInt32), (3, .int (Int32.ofInt 0))] (vv.toList ++ []) h') from ⟨Or.inl ⟨by decide, ex_154 (r_P l17)⟩, by decide, ex_lim (r_P l17) rfl, am_call.up (r_200 (s := (s.1 + 1, s.2)) (sp_nn e18) l17 ?_) (by omega)⟩)
      cases e3 : (sp_pf s.2 (τ (s.1 + 1)).2.1).isSome || (sp_ef s.2 (τ (s.1 + 1)).2.1).isSome with
      | true =>
        refine am_goX 1 (show ((sp_na s.2 (τ (s.1 + 1)).2.1) < 0 → pz_S 5 none am_r196 3 Q 61 [(4, .int (nI s.2.1.1)), (0, .ref 154), (1, .int (Int32.ofInt 0)), (2, .int (Int8.ofInt 6).toInt32), (3, .int (Int32.ofInt 0))] [] (am_wI h 154 7 (nI (s.1 + 1)))) ∧ (¬ ((sp_na s.2 (τ (s.1 + 1)).2.1) < 0) → pz_S 5 none am_r196 3 Q 56 [(4, .int (nI s.2.1.1)), (0, .ref 154), (1, .int (Int32.ofInt 0)), (2, .int (Int8.ofInt 6).toInt32), (3, .int (Int32.ofInt 0))] [] (am_wI h 154 7 (nI (s.1 + 1)))) from ⟨fun hz => absurd hz (na_old hp6 he5 e3), fun _ => ?_⟩)
        refine am_goX 3 (show am_rc (am_wI h 154 7 (nI (s.1 + 1))) 154 11 ∧ 0 ≤ 8 ∧ (am_wI h 154 7 (nI (s.1 + 1))).2.2.2.2 + am_al 197 ≤ 175 ∧ am_call am_cod 3 197 [.ref 154, .int (Int32.ofInt 3)] (am_wI h 154 7 (nI (s.1 + 1))) (fun vv h' => pz_S 5 none am_r196 3 Q 61 [(4, .int (nI s.2.1.1)), (0, .ref 154), (1, .int (Int32.ofInt 0)), (2, .int (Int8.ofInt 6).toInt32), (3, .int (Int32.ofInt 0))] (vv.toList ++ []) h') from ⟨Or.inl ⟨by decide, ex_154 (r_P l17)⟩, by decide, ex_lim (r_P l17) rfl, am_call.up (r_197 l17 ?_) (by omega)⟩)
        have x19 : rx h0 (sp_ft τ (s.1 + 1) (Int32.ofInt 3)) (s.2.2.2.2.2.1 + z) (am_wI (am_wI h 154 7 (nI (s.1 + 1))) 154 8 (sp_ft τ (s.1 + 1) (Int32.ofInt 3))) := rr_x (s := (s.1 + 1, s.2)) l17 (by decide)
        refine am_goX 2 (show am_sh (am_wI (am_wI h 154 7 (nI (s.1 + 1))) 154 8 (sp_ft τ (s.1 + 1) (Int32.ofInt 3))) 154 = some (11, 0) ∧ pz_S 5 none am_r196 3 Q 65 [(4, .int (nI s.2.1.1)), (0, .ref 154), (1, .int (Int32.ofInt 0)), (2, .int (Int8.ofInt 6).toInt32), (3, .int (Int32.ofInt 0))] [.int ((am_wI (am_wI h 154 7 (nI (s.1 + 1))) 154 8 (sp_ft τ (s.1 + 1) (Int32.ofInt 3))).1 154 8)] (am_wI (am_wI h 154 7 (nI (s.1 + 1))) 154 8 (sp_ft τ (s.1 + 1) (Int32.ofInt 3))) from ⟨ex_154 x19.1, ?_⟩)
        rw [x19.2.1.1]
        refine am_goX 1 (show (¬ (sp_ft τ (s.1 + 1) (Int32.ofInt 3)) = 0 → pz_S 5 none am_r196 3 Q 132 [(4, .int (nI s.2.1.1)), (0, .ref 154), (1, .int (Int32.ofInt 0)), (2, .int (Int8.ofInt 6).toInt32), (3, .int (Int32.ofInt 0))] [] (am_wI (am_wI h 154 7 (nI (s.1 + 1))) 154 8 (sp_ft τ (s.1 + 1) (Int32.ofInt 3)))) ∧ (¬ ¬ (sp_ft τ (s.1 + 1) (Int32.ofInt 3)) = 0 → pz_S 5 none am_r196 3 Q 68 [(4, .int (nI s.2.1.1)), (0, .ref 154), (1, .int (Int32.ofInt 0)), (2, .int (Int8.ofInt 6).toInt32), (3, .int (Int32.ofInt 0))] [] (am_wI (am_wI h 154 7 (nI (s.1 + 1))) 154 8 (sp_ft τ (s.1 + 1) (Int32.ofInt 3)))) from ⟨fun _ => ?_, fun hz => absurd (rx_ne x19) hz⟩)
        exact am_goX 1 (show (none : Option FieldType) = none ∧ (am_wI (am_wI h 154 7 (nI (s.1 + 1))) 154 8 (sp_ft τ (s.1 + 1) (Int32.ofInt 3))).2.2.2.2 = 175 ∧ _ from ⟨rfl, ex_175 x19.1, hF (sp_ft τ (s.1 + 1) (Int32.ofInt 3)) _ (by simp only [sp_fn, sp_b, sp_f, cond_true, cond_false, e0, e18, e3]) x19⟩)
      | false =>
        obtain ⟨n1, n2, n3⟩ := na_new e3
        rw [n3]
        refine am_goX 1 (show ((Int32.ofInt (-1)) < 0 → pz_S 5 none am_r196 3 Q 61 [(4, .int (nI s.2.1.1)), (0, .ref 154), (1, .int (Int32.ofInt 0)), (2, .int (Int8.ofInt 6).toInt32), (3, .int (Int32.ofInt 0))] [] (am_wI h 154 7 (nI (s.1 + 1)))) ∧ (¬ ((Int32.ofInt (-1)) < 0) → pz_S 5 none am_r196 3 Q 56 [(4, .int (nI s.2.1.1)), (0, .ref 154), (1, .int (Int32.ofInt 0)), (2, .int (Int8.ofInt 6).toInt32), (3, .int (Int32.ofInt 0))] [] (am_wI h 154 7 (nI (s.1 + 1)))) from ⟨fun _ => ?_, fun hz => absurd (by decide) hz⟩)
        refine am_goX 2 (show am_sh (am_wI h 154 7 (nI (s.1 + 1))) 154 = some (11, 0) ∧ pz_S 5 none am_r196 3 Q 65 [(4, .int (nI s.2.1.1)), (0, .ref 154), (1, .int (Int32.ofInt 0)), (2, .int (Int8.ofInt 6).toInt32), (3, .int (Int32.ofInt 0))] [.int ((am_wI h 154 7 (nI (s.1 + 1))).1 154 8)] (am_wI h 154 7 (nI (s.1 + 1))) from ⟨ex_154 (r_P l17), ?_⟩)
        rw [r_f l17]
        refine am_goX 1 (show (¬ 0 = 0 → pz_S 5 none am_r196 3 Q 132 [(4, .int (nI s.2.1.1)), (0, .ref 154), (1, .int (Int32.ofInt 0)), (2, .int (Int8.ofInt 6).toInt32), (3, .int (Int32.ofInt 0))] [] (am_wI h 154 7 (nI (s.1 + 1)))) ∧ (¬ ¬ 0 = 0 → pz_S 5 none am_r196 3 Q 68 [(4, .int (nI s.2.1.1)), (0, .ref 154), (1, .int (Int32.ofInt 0)), (2, .int (Int8.ofInt 6).toInt32), (3, .int (Int32.ofInt 0))] [] (am_wI h 154 7 (nI (s.1 + 1)))) from ⟨fun hz => absurd hz (by decide), fun _ => ?_⟩)
        refine am_goX 2 (show am_sh (am_wI h 154 7 (nI (s.1 + 1))) 154 = some (11, 0) ∧ pz_S 5 none am_r196 3 Q 72 [(4, .int (nI s.2.1.1)), (0, .ref 154), (1, .int (Int32.ofInt 0)), (2, .int (Int8.ofInt 6).toInt32), (3, .int (Int32.ofInt 0))] [am_rf ((am_wI h 154 7 (nI (s.1 + 1))).2.2.1 154 15)] (am_wI h 154 7 (nI (s.1 + 1))) from ⟨ex_154 (r_P l17), ?_⟩)
        rw [ex_r154_15 (h := am_wI h 154 7 (nI (s.1 + 1))) (r_P l17)]
        refine am_goX 4 (show am_sh (am_wI h 154 7 (nI (s.1 + 1))) 154 = some (11, 0) ∧ am_sh (am_wI h 154 7 (nI (s.1 + 1))) 154 = some (11, 0) ∧ pz_S 5 none am_r196 3 Q 80 [(4, .int (nI s.2.1.1)), (0, .ref 154), (1, .int (Int32.ofInt 0)), (2, .int (Int8.ofInt 6).toInt32), (3, .int (Int32.ofInt 0))] [am_rf ((am_wI h 154 7 (nI (s.1 + 1))).2.2.1 154 6), .int ((am_wI h 154 7 (nI (s.1 + 1))).1 154 19), .ref 164] (am_wI h 154 7 (nI (s.1 + 1))) from ⟨ex_154 (r_P l17), ex_154 (r_P l17), ?_⟩)
        rw [ex_r154_6 (h := am_wI h 154 7 (nI (s.1 + 1))) (r_P l17)]
        refine am_goX 3 (show am_sh (am_wI h 154 7 (nI (s.1 + 1))) 154 = some (11, 0) ∧ ∃ jj nn : Nat, am_sh (am_wI h 154 7 (nI (s.1 + 1))) 158 = some (14, nn) ∧ jj < nn ∧ ((am_wI h 154 7 (nI (s.1 + 1))).1 154 7) = nI jj ∧ pz_S 5 none am_r196 3 Q 85 [(4, .int (nI s.2.1.1)), (0, .ref 154), (1, .int (Int32.ofInt 0)), (2, .int (Int8.ofInt 6).toInt32), (3, .int (Int32.ofInt 0))] [.long ((am_wI h 154 7 (nI (s.1 + 1))).2.1 158 jj), .int ((am_wI h 154 7 (nI (s.1 + 1))).1 154 19), .ref 164] (am_wI h 154 7 (nI (s.1 + 1))) from ⟨ex_154 (r_P l17), (s.1 + 1), 1002, ex_158 (r_P l17), (by have := r_N l17; first | omega | (dsimp only at this; omega) | (dsimp only at this ⊢; omega)), r_a l17, ?_⟩)
        rw [r_v l17 (sp_nn e18)]
        have eN : (am_wI h 154 7 (nI (s.1 + 1))).1 154 19 = nI (s.2.1.1 + s.2.2.1.1) := l17.2.1.2.2.2.2.2.2.1
        have eA : (am_wI h 154 7 (nI (s.1 + 1))).1 154 7 = nI (s.1 + 1) := r_a l17
        have eC : (am_wI h 154 7 (nI (s.1 + 1))).1 160 40 = nI s.2.1.1 := l17.2.1.1.1
        have hPx := r_P l17
        refine am_goX 1 (show ∃ jj nn : Nat, am_so (am_wI h 154 7 (nI (s.1 + 1))) 164 = some (14, nn) ∧ jj < nn ∧ ((am_wI h 154 7 (nI (s.1 + 1))).1 154 19) = nI jj ∧ pz_S 5 none am_r196 3 Q 86 [(4, .int (nI s.2.1.1)), (0, .ref 154), (1, .int (Int32.ofInt 0)), (2, .int (Int8.ofInt 6).toInt32), (3, .int (Int32.ofInt 0))] [] (am_wL (am_wI h 154 7 (nI (s.1 + 1))) 164 jj ((τ (s.1 + 1)).2.1)) from ⟨(s.2.1.1 + s.2.2.1.1), 11, ex_w164 hPx, (by omega), eN, ?_⟩)
        refine am_goX 2 (show am_sh (am_wL (am_wI h 154 7 (nI (s.1 + 1))) 164 (s.2.1.1 + s.2.2.1.1) ((τ (s.1 + 1)).2.1)) 154 = some (11, 0) ∧ pz_S 5 none am_r196 3 Q 90 [(4, .int (nI s.2.1.1)), (0, .ref 154), (1, .int (Int32.ofInt 0)), (2, .int (Int8.ofInt 6).toInt32), (3, .int (Int32.ofInt 0))] [am_rf ((am_wL (am_wI h 154 7 (nI (s.1 + 1))) 164 (s.2.1.1 + s.2.2.1.1) ((τ (s.1 + 1)).2.1)).2.2.1 154 17)] (am_wL (am_wI h 154 7 (nI (s.1 + 1))) 164 (s.2.1.1 + s.2.2.1.1) ((τ (s.1 + 1)).2.1)) from ⟨ex_154 hPx, ?_⟩)
        rw [ex_r154_17 (h := am_wL (am_wI h 154 7 (nI (s.1 + 1))) 164 (s.2.1.1 + s.2.2.1.1) ((τ (s.1 + 1)).2.1)) hPx]
        refine am_goX 6 (show am_sh (am_wL (am_wI h 154 7 (nI (s.1 + 1))) 164 (s.2.1.1 + s.2.2.1.1) ((τ (s.1 + 1)).2.1)) 154 = some (11, 0) ∧ ∃ jj nn : Nat, am_so (am_wL (am_wI h 154 7 (nI (s.1 + 1))) 164 (s.2.1.1 + s.2.2.1.1) ((τ (s.1 + 1)).2.1)) 166 = some (13, nn) ∧ jj < nn ∧ ((am_wL (am_wI h 154 7 (nI (s.1 + 1))) 164 (s.2.1.1 + s.2.2.1.1) ((τ (s.1 + 1)).2.1)).1 154 19) = nI jj ∧ pz_S 5 none am_r196 3 Q 99 [(4, .int (nI s.2.1.1)), (0, .ref 154), (1, .int (Int32.ofInt 0)), (2, .int (Int8.ofInt 6).toInt32), (3, .int (Int32.ofInt 0))] [] (am_wI (am_wL (am_wI h 154 7 (nI (s.1 + 1))) 164 (s.2.1.1 + s.2.2.1.1) ((τ (s.1 + 1)).2.1)) 166 jj (((Int32.ofInt 0) + (nI s.2.1.1)))) from ⟨ex_154 hPx, (s.2.1.1 + s.2.2.1.1), 11, ex_w166 hPx, (by omega), eN, ?_⟩)
        refine am_goX 6 (show (Value.ref 154).category = 1 ∧ am_sh (am_wI (am_wL (am_wI h 154 7 (nI (s.1 + 1))) 164 (s.2.1.1 + s.2.2.1.1) (τ (s.1 + 1)).2.1) 166 (s.2.1.1 + s.2.2.1.1) (Int32.ofInt 0 + nI s.2.1.1)) 154 = some (11, 0) ∧ am_sh (am_wI (am_wL (am_wI h 154 7 (nI (s.1 + 1))) 164 (s.2.1.1 + s.2.2.1.1) (τ (s.1 + 1)).2.1) 166 (s.2.1.1 + s.2.2.1.1) (Int32.ofInt 0 + nI s.2.1.1)) 154 = some (11, 0) ∧ narrow (am_fty 11 19) (.int ((((am_wI (am_wL (am_wI h 154 7 (nI (s.1 + 1))) 164 (s.2.1.1 + s.2.2.1.1) (τ (s.1 + 1)).2.1) 166 (s.2.1.1 + s.2.2.1.1) (Int32.ofInt 0 + nI s.2.1.1)).1 154 19) + (Int32.ofInt 1)))) = .int ((((am_wI (am_wL (am_wI h 154 7 (nI (s.1 + 1))) 164 (s.2.1.1 + s.2.2.1.1) (τ (s.1 + 1)).2.1) 166 (s.2.1.1 + s.2.2.1.1) (Int32.ofInt 0 + nI s.2.1.1)).1 154 19) + (Int32.ofInt 1))) ∧ fits (am_fty 11 19) (.int ((((am_wI (am_wL (am_wI h 154 7 (nI (s.1 + 1))) 164 (s.2.1.1 + s.2.2.1.1) (τ (s.1 + 1)).2.1) 166 (s.2.1.1 + s.2.2.1.1) (Int32.ofInt 0 + nI s.2.1.1)).1 154 19) + (Int32.ofInt 1)))) = true ∧ pz_S 5 none am_r196 3 Q 109 [(4, .int (nI s.2.1.1)), (0, .ref 154), (1, .int (Int32.ofInt 0)), (2, .int (Int8.ofInt 6).toInt32), (3, .int (Int32.ofInt 0))] [] (am_wI (am_wI (am_wL (am_wI h 154 7 (nI (s.1 + 1))) 164 (s.2.1.1 + s.2.2.1.1) (τ (s.1 + 1)).2.1) 166 (s.2.1.1 + s.2.2.1.1) (Int32.ofInt 0 + nI s.2.1.1)) 154 19 ((((am_wI (am_wL (am_wI h 154 7 (nI (s.1 + 1))) 164 (s.2.1.1 + s.2.2.1.1) (τ (s.1 + 1)).2.1) 166 (s.2.1.1 + s.2.2.1.1) (Int32.ofInt 0 + nI s.2.1.1)).1 154 19) + (Int32.ofInt 1)))) from ⟨rfl, ex_154 hPx, ex_154 hPx, rfl, rfl, ?_⟩)
        rw [show (am_wI (am_wL (am_wI h 154 7 (nI (s.1 + 1))) 164 (s.2.1.1 + s.2.2.1.1) (τ (s.1 + 1)).2.1) 166 (s.2.1.1 + s.2.2.1.1) (Int32.ofInt 0 + nI s.2.1.1)).1 154 19 = nI (s.2.1.1 + s.2.2.1.1) from (em_wn _ _ (by omega)).trans eN, xw_i1]
        refine am_goX 6 (show (Value.ref 154).category = 1 ∧ am_sh (am_wI (am_wI (am_wL (am_wI h 154 7 (nI (s.1 + 1))) 164 (s.2.1.1 + s.2.2.1.1) (τ (s.1 + 1)).2.1) 166 (s.2.1.1 + s.2.2.1.1) (Int32.ofInt 0 + nI s.2.1.1)) 154 19 (nI (s.2.1.1 + s.2.2.1.1 + 1))) 154 = some (11, 0) ∧ am_sh (am_wI (am_wI (am_wL (am_wI h 154 7 (nI (s.1 + 1))) 164 (s.2.1.1 + s.2.2.1.1) (τ (s.1 + 1)).2.1) 166 (s.2.1.1 + s.2.2.1.1) (Int32.ofInt 0 + nI s.2.1.1)) 154 19 (nI (s.2.1.1 + s.2.2.1.1 + 1))) 154 = some (11, 0) ∧ narrow (am_fty 11 7) (.int ((((am_wI (am_wI (am_wL (am_wI h 154 7 (nI (s.1 + 1))) 164 (s.2.1.1 + s.2.2.1.1) (τ (s.1 + 1)).2.1) 166 (s.2.1.1 + s.2.2.1.1) (Int32.ofInt 0 + nI s.2.1.1)) 154 19 (nI (s.2.1.1 + s.2.2.1.1 + 1))).1 154 7) + (Int32.ofInt 1)))) = .int ((((am_wI (am_wI (am_wL (am_wI h 154 7 (nI (s.1 + 1))) 164 (s.2.1.1 + s.2.2.1.1) (τ (s.1 + 1)).2.1) 166 (s.2.1.1 + s.2.2.1.1) (Int32.ofInt 0 + nI s.2.1.1)) 154 19 (nI (s.2.1.1 + s.2.2.1.1 + 1))).1 154 7) + (Int32.ofInt 1))) ∧ fits (am_fty 11 7) (.int ((((am_wI (am_wI (am_wL (am_wI h 154 7 (nI (s.1 + 1))) 164 (s.2.1.1 + s.2.2.1.1) (τ (s.1 + 1)).2.1) 166 (s.2.1.1 + s.2.2.1.1) (Int32.ofInt 0 + nI s.2.1.1)) 154 19 (nI (s.2.1.1 + s.2.2.1.1 + 1))).1 154 7) + (Int32.ofInt 1)))) = true ∧ pz_S 5 none am_r196 3 Q 119 [(4, .int (nI s.2.1.1)), (0, .ref 154), (1, .int (Int32.ofInt 0)), (2, .int (Int8.ofInt 6).toInt32), (3, .int (Int32.ofInt 0))] [] (am_wI (am_wI (am_wI (am_wL (am_wI h 154 7 (nI (s.1 + 1))) 164 (s.2.1.1 + s.2.2.1.1) (τ (s.1 + 1)).2.1) 166 (s.2.1.1 + s.2.2.1.1) (Int32.ofInt 0 + nI s.2.1.1)) 154 19 (nI (s.2.1.1 + s.2.2.1.1 + 1))) 154 7 ((((am_wI (am_wI (am_wL (am_wI h 154 7 (nI (s.1 + 1))) 164 (s.2.1.1 + s.2.2.1.1) (τ (s.1 + 1)).2.1) 166 (s.2.1.1 + s.2.2.1.1) (Int32.ofInt 0 + nI s.2.1.1)) 154 19 (nI (s.2.1.1 + s.2.2.1.1 + 1))).1 154 7) + (Int32.ofInt 1)))) from ⟨rfl, ex_154 hPx, ex_154 hPx, rfl, rfl, ?_⟩)
        rw [show (am_wI (am_wI (am_wL (am_wI h 154 7 (nI (s.1 + 1))) 164 (s.2.1.1 + s.2.2.1.1) (τ (s.1 + 1)).2.1) 166 (s.2.1.1 + s.2.2.1.1) (Int32.ofInt 0 + nI s.2.1.1)) 154 19 (nI (s.2.1.1 + s.2.2.1.1 + 1))).1 154 7 = nI (s.1 + 1) from (em_wn _ _ (by omega)).trans ((em_wn _ _ (by omega)).trans eA), xw_i1]
        refine am_goX 2 (show am_sh (am_wI (am_wI (am_wI (am_wL (am_wI h 154 7 (nI (s.1 + 1))) 164 (s.2.1.1 + s.2.2.1.1) (τ (s.1 + 1)).2.1) 166 (s.2.1.1 + s.2.2.1.1) (Int32.ofInt 0 + nI s.2.1.1)) 154 19 (nI (s.2.1.1 + s.2.2.1.1 + 1))) 154 7 (nI (s.1 + 1 + 1))) 154 = some (11, 0) ∧ pz_S 5 none am_r196 3 Q 123 [(4, .int (nI s.2.1.1)), (0, .ref 154), (1, .int (Int32.ofInt 0)), (2, .int (Int8.ofInt 6).toInt32), (3, .int (Int32.ofInt 0))] [am_rf ((am_wI (am_wI (am_wI (am_wL (am_wI h 154 7 (nI (s.1 + 1))) 164 (s.2.1.1 + s.2.2.1.1) (τ (s.1 + 1)).2.1) 166 (s.2.1.1 + s.2.2.1.1) (Int32.ofInt 0 + nI s.2.1.1)) 154 19 (nI (s.2.1.1 + s.2.2.1.1 + 1))) 154 7 (nI (s.1 + 1 + 1))).2.2.1 154 10)] (am_wI (am_wI (am_wI (am_wL (am_wI h 154 7 (nI (s.1 + 1))) 164 (s.2.1.1 + s.2.2.1.1) (τ (s.1 + 1)).2.1) 166 (s.2.1.1 + s.2.2.1.1) (Int32.ofInt 0 + nI s.2.1.1)) 154 19 (nI (s.2.1.1 + s.2.2.1.1 + 1))) 154 7 (nI (s.1 + 1 + 1))) from ⟨ex_154 hPx, ?_⟩)
        rw [ex_r154_10 (h := am_wI (am_wI (am_wI (am_wL (am_wI h 154 7 (nI (s.1 + 1))) 164 (s.2.1.1 + s.2.2.1.1) (τ (s.1 + 1)).2.1) 166 (s.2.1.1 + s.2.2.1.1) (Int32.ofInt 0 + nI s.2.1.1)) 154 19 (nI (s.2.1.1 + s.2.2.1.1 + 1))) 154 7 (nI (s.1 + 1 + 1))) hPx]
        refine am_goX 5 (show (Value.int ((Int8.ofInt 40).toInt32 + (Int32.ofInt 0))).category = 1 ∧ (Value.ref 160).category = 1 ∧ ∃ jj nn : Nat, am_sh (am_wI (am_wI (am_wI (am_wL (am_wI h 154 7 (nI (s.1 + 1))) 164 (s.2.1.1 + s.2.2.1.1) (τ (s.1 + 1)).2.1) 166 (s.2.1.1 + s.2.2.1.1) (Int32.ofInt 0 + nI s.2.1.1)) 154 19 (nI (s.2.1.1 + s.2.2.1.1 + 1))) 154 7 (nI (s.1 + 1 + 1))) 160 = some (13, nn) ∧ jj < nn ∧ ((Int8.ofInt 40).toInt32 + (Int32.ofInt 0)) = nI jj ∧ pz_S 5 none am_r196 3 Q 129 [(4, .int (nI s.2.1.1)), (0, .ref 154), (1, .int (Int32.ofInt 0)), (2, .int (Int8.ofInt 6).toInt32), (3, .int (Int32.ofInt 0))] [.int ((am_wI (am_wI (am_wI (am_wL (am_wI h 154 7 (nI (s.1 + 1))) 164 (s.2.1.1 + s.2.2.1.1) (τ (s.1 + 1)).2.1) 166 (s.2.1.1 + s.2.2.1.1) (Int32.ofInt 0 + nI s.2.1.1)) 154 19 (nI (s.2.1.1 + s.2.2.1.1 + 1))) 154 7 (nI (s.1 + 1 + 1))).1 160 jj), .int ((Int8.ofInt 40).toInt32 + (Int32.ofInt 0)), .ref 160] (am_wI (am_wI (am_wI (am_wL (am_wI h 154 7 (nI (s.1 + 1))) 164 (s.2.1.1 + s.2.2.1.1) (τ (s.1 + 1)).2.1) 166 (s.2.1.1 + s.2.2.1.1) (Int32.ofInt 0 + nI s.2.1.1)) 154 19 (nI (s.2.1.1 + s.2.2.1.1 + 1))) 154 7 (nI (s.1 + 1 + 1))) from ⟨rfl, rfl, 40, 80, ex_160 hPx, (by decide), (by decide), ?_⟩)
        rw [show (am_wI (am_wI (am_wI (am_wL (am_wI h 154 7 (nI (s.1 + 1))) 164 (s.2.1.1 + s.2.2.1.1) (τ (s.1 + 1)).2.1) 166 (s.2.1.1 + s.2.2.1.1) (Int32.ofInt 0 + nI s.2.1.1)) 154 19 (nI (s.2.1.1 + s.2.2.1.1 + 1))) 154 7 (nI (s.1 + 1 + 1))).1 160 40 = nI s.2.1.1 from (em_wn _ _ (by omega)).trans ((em_wn _ _ (by omega)).trans ((em_wn _ _ (by omega)).trans eC))]
        refine am_goX 3 (show ∃ jj nn : Nat, am_so (am_wI (am_wI (am_wI (am_wL (am_wI h 154 7 (nI (s.1 + 1))) 164 (s.2.1.1 + s.2.2.1.1) (τ (s.1 + 1)).2.1) 166 (s.2.1.1 + s.2.2.1.1) (Int32.ofInt 0 + nI s.2.1.1)) 154 19 (nI (s.2.1.1 + s.2.2.1.1 + 1))) 154 7 (nI (s.1 + 1 + 1))) 160 = some (13, nn) ∧ jj < nn ∧ ((Int8.ofInt 40).toInt32 + (Int32.ofInt 0)) = nI jj ∧ pz_S 5 none am_r196 3 Q 132 [(4, .int (nI s.2.1.1)), (0, .ref 154), (1, .int (Int32.ofInt 0)), (2, .int (Int8.ofInt 6).toInt32), (3, .int (Int32.ofInt 0))] [] (am_wI (am_wI (am_wI (am_wI (am_wL (am_wI h 154 7 (nI (s.1 + 1))) 164 (s.2.1.1 + s.2.2.1.1) (τ (s.1 + 1)).2.1) 166 (s.2.1.1 + s.2.2.1.1) (Int32.ofInt 0 + nI s.2.1.1)) 154 19 (nI (s.2.1.1 + s.2.2.1.1 + 1))) 154 7 (nI (s.1 + 1 + 1))) 160 jj (((nI s.2.1.1) + (Int32.ofInt 1)))) from ⟨40, 80, ex_w160 hPx, (by decide), (by decide), ?_⟩)
        rw [xw_i1]
        have l20 : rr h0 z τ N (s.1 + 1 + 1, sp_cP s.2 (τ (s.1 + 1)).2.1 ((am_wI h 154 7 (nI (s.1 + 1))).1 160 (44 + 3 * s.2.1.1)) ((am_wI h 154 7 (nI (s.1 + 1))).1 160 (45 + 3 * s.2.1.1))) (am_wI (am_wI (am_wI (am_wI (am_wL (am_wI h 154 7 (nI (s.1 + 1))) 164 (s.2.1.1 + s.2.2.1.1) (τ (s.1 + 1)).2.1) 166 (s.2.1.1 + s.2.2.1.1) (Int32.ofInt 0 + nI s.2.1.1)) 154 19 (nI (s.2.1.1 + s.2.2.1.1 + 1))) 154 7 (nI (s.1 + 1 + 1))) 160 40 (nI (s.2.1.1 + 1))) := rr_nP (a := s.1 + 1) (C := s.2) l17 (sp_nn e18) hlt n1 n2
        exact am_goX 1 (show (none : Option FieldType) = none ∧ (am_wI (am_wI (am_wI (am_wI (am_wL (am_wI h 154 7 (nI (s.1 + 1))) 164 (s.2.1.1 + s.2.2.1.1) (τ (s.1 + 1)).2.1) 166 (s.2.1.1 + s.2.2.1.1) (Int32.ofInt 0 + nI s.2.1.1)) 154 19 (nI (s.2.1.1 + s.2.2.1.1 + 1))) 154 7 (nI (s.1 + 1 + 1))) 160 40 (nI (s.2.1.1 + 1))).2.2.2.2 = 175 ∧ _ from ⟨rfl, ex_175 hPx, hS _ _ _ e0 (by simp only [sp_fn, sp_b, sp_f, cond_true, cond_false, e0, e18, e3]) l20⟩)
    | false =>
      refine am_goX 1 (show (¬ (pz_b (false)) = 0 → pz_S 5 none am_r196 3 Q 48 [(4, .int (nI s.2.1.1)), (0, .ref 154), (1, .int (Int32.ofInt 0)), (2, .int (Int8.ofInt 6).toInt32), (3, .int (Int32.ofInt 0))] [] (am_wI h 154 7 (nI (s.1 + 1)))) ∧ (¬ ¬ (pz_b (false)) = 0 → pz_S 5 none am_r196 3 Q 40 [(4, .int (nI s.2.1.1)), (0, .ref 154), (1, .int (Int32.ofInt 0)), (2, .int (Int8.ofInt 6).toInt32), (3, .int (Int32.ofInt 0))] [] (am_wI h 154 7 (nI (s.1 + 1)))) from ⟨fun hz => absurd hz (by decide), fun _ => ?_⟩)
      refine am_goX 3 (show am_rc (am_wI h 154 7 (nI (s.1 + 1))) 154 11 ∧ 0 ≤ 8 ∧ (am_wI h 154 7 (nI (s.1 + 1))).2.2.2.2 + am_al 197 ≤ 175 ∧ am_call am_cod 3 197 [.ref 154, .int (Int32.ofInt 1)] (am_wI h 154 7 (nI (s.1 + 1))) (fun vv h' => pz_S 5 none am_r196 3 Q 45 [(4, .int (nI s.2.1.1)), (0, .ref 154), (1, .int (Int32.ofInt 0)), (2, .int (Int8.ofInt 6).toInt32), (3, .int (Int32.ofInt 0))] (vv.toList ++ []) h') from ⟨Or.inl ⟨by decide, ex_154 (r_P l17)⟩, by decide, ex_lim (r_P l17) rfl, am_call.up (r_197 l17 ?_) (by omega)⟩)
      have x21 : rx h0 (sp_ft τ (s.1 + 1) (Int32.ofInt 1)) (s.2.2.2.2.2.1 + z) (am_wI (am_wI h 154 7 (nI (s.1 + 1))) 154 8 (sp_ft τ (s.1 + 1) (Int32.ofInt 1))) := rr_x (s := (s.1 + 1, s.2)) l17 (by decide)
      refine am_goX 3 (show am_sh (am_wI (am_wI h 154 7 (nI (s.1 + 1))) 154 8 (sp_ft τ (s.1 + 1) (Int32.ofInt 1))) 154 = some (11, 0) ∧ pz_S 5 none am_r196 3 Q 65 [(4, .int (nI s.2.1.1)), (0, .ref 154), (1, .int (Int32.ofInt 0)), (2, .int (Int8.ofInt 6).toInt32), (3, .int (Int32.ofInt 0))] [.int ((am_wI (am_wI h 154 7 (nI (s.1 + 1))) 154 8 (sp_ft τ (s.1 + 1) (Int32.ofInt 1))).1 154 8)] (am_wI (am_wI h 154 7 (nI (s.1 + 1))) 154 8 (sp_ft τ (s.1 + 1) (Int32.ofInt 1))) from ⟨ex_154 x21.1, ?_⟩)
      rw [x21.2.1.1]
      refine am_goX 1 (show (¬ (sp_ft τ (s.1 + 1) (Int32.ofInt 1)) = 0 → pz_S 5 none am_r196 3 Q 132 [(4, .int (nI s.2.1.1)), (0, .ref 154), (1, .int (Int32.ofInt 0)), (2, .int (Int8.ofInt 6).toInt32), (3, .int (Int32.ofInt 0))] [] (am_wI (am_wI h 154 7 (nI (s.1 + 1))) 154 8 (sp_ft τ (s.1 + 1) (Int32.ofInt 1)))) ∧ (¬ ¬ (sp_ft τ (s.1 + 1) (Int32.ofInt 1)) = 0 → pz_S 5 none am_r196 3 Q 68 [(4, .int (nI s.2.1.1)), (0, .ref 154), (1, .int (Int32.ofInt 0)), (2, .int (Int8.ofInt 6).toInt32), (3, .int (Int32.ofInt 0))] [] (am_wI (am_wI h 154 7 (nI (s.1 + 1))) 154 8 (sp_ft τ (s.1 + 1) (Int32.ofInt 1)))) from ⟨fun _ => ?_, fun hz => absurd (rx_ne x21) hz⟩)
      exact am_goX 1 (show (none : Option FieldType) = none ∧ (am_wI (am_wI h 154 7 (nI (s.1 + 1))) 154 8 (sp_ft τ (s.1 + 1) (Int32.ofInt 1))).2.2.2.2 = 175 ∧ _ from ⟨rfl, ex_175 x21.1, hF (sp_ft τ (s.1 + 1) (Int32.ofInt 1)) _ (by simp only [sp_fn, sp_b, sp_f, cond_true, cond_false, e0, e18]) x21⟩)
theorem r_196e (hn : ¬ (τ s.1).1 = 0) (l : rr h0 z τ N s h) (hF : ∀ F h1, (bif Nat.ble 5 s.2.2.1.1 then sp_f τ s.1 (Int32.ofInt 5) else sp_fn τ (s.1 + 1, s.2)) = .inl F → rx h0 F (s.2.2.2.2.2.1 + z) h1 → Q none h1) (hS : ∀ x y h1, Nat.ble 5 s.2.2.1.1 = false → sp_fn τ (s.1 + 1, s.2) = .inr (s.1 + 1, s.2) → rr h0 z τ N (s.1 + 1 + 1, sp_cE s.2 (τ (s.1 + 1)).2.1 x y) h1 → Q none h1) : am_call am_cod 4 196 [.ref 154, .int (Int32.ofInt 1), .int (Int32.ofInt 5), .int (Int8.ofInt 20).toInt32] h Q := by
  have hP := r_P l
  have hp6 : s.2.1.1 ≤ 6 := l.2.1.1.2.1
  have he5 : s.2.2.1.1 ≤ 5 := l.2.1.2.1.2.1
  refine pz_call (n := 196) (nL := 5) (rt := none) (rows := am_r196) (d := 3) (by decide +kernel) (by decide +kernel) rfl (by funext pc; rfl) (ex_175 hP) (by exact Nat.le_of_ble_eq_true rfl) ?_
  refine am_goX 2 (show am_sh h 154 = some (11, 0) ∧ pz_S 5 none am_r196 3 Q 4 [(0, .ref 154), (1, .int (Int32.ofInt 1)), (2, .int (Int32.ofInt 5)), (3, .int (Int8.ofInt 20).toInt32)] [am_rf (h.2.2.1 154 10)] h from ⟨ex_154 (r_P l), ?_⟩)
  rw [ex_r154_10 (h := h) (r_P l)]
  refine am_goX 4 (show ∃ jj nn : Nat, am_sh h 160 = some (13, nn) ∧ jj < nn ∧ ((Int8.ofInt 40).toInt32 + (Int32.ofInt 1)) = nI jj ∧ pz_S 5 none am_r196 3 Q 9 [(0, .ref 154), (1, .int (Int32.ofInt 1)), (2, .int (Int32.ofInt 5)), (3, .int (Int8.ofInt 20).toInt32)] [.int (h.1 160 jj)] h from ⟨41, 80, ex_160 (r_P l), (by decide), (by decide), ?_⟩)
  rw [show h.1 160 41 = nI s.2.2.1.1 from l.2.1.2.1.1]
  refine am_goX 3 (show 4 < 5 ∧ pz_S 5 none am_r196 3 Q 14 [(4, .int (nI s.2.2.1.1)), (0, .ref 154), (1, .int (Int32.ofInt 1)), (2, .int (Int32.ofInt 5)), (3, .int (Int8.ofInt 20).toInt32)] [.int (Int32.ofInt 5), .int (nI s.2.2.1.1)] h from ⟨by decide, ?_⟩)
  cases e0 : Nat.ble 5 s.2.2.1.1 with
  | true =>
    refine am_goX 1 (show (¬ (nI s.2.2.1.1) = (Int32.ofInt 5) → pz_S 5 none am_r196 3 Q 23 [(4, .int (nI s.2.2.1.1)), (0, .ref 154), (1, .int (Int32.ofInt 1)), (2, .int (Int32.ofInt 5)), (3, .int (Int8.ofInt 20).toInt32)] [] h) ∧ (¬ ¬ (nI s.2.2.1.1) = (Int32.ofInt 5) → pz_S 5 none am_r196 3 Q 17 [(4, .int (nI s.2.2.1.1)), (0, .ref 154), (1, .int (Int32.ofInt 1)), (2, .int (Int32.ofInt 5)), (3, .int (Int8.ofInt 20).toInt32)] [] h) from ⟨fun hz => absurd hz (fun w => w (by rw [show s.2.2.1.1 = 5 from Nat.le_antisymm (by omega) (Nat.le_of_ble_eq_true e0)]; decide)), fun _ => ?_⟩)
    refine am_goX 3 (show am_rc h 154 11 ∧ 0 ≤ 8 ∧ h.2.2.2.2 + am_al 197 ≤ 175 ∧ am_call am_cod 3 197 [.ref 154, .int (Int32.ofInt 5)] h (fun vv h' => pz_S 5 none am_r196 3 Q 22 [(4, .int (nI s.2.2.1.1)), (0, .ref 154), (1, .int (Int32.ofInt 1)), (2, .int (Int32.ofInt 5)), (3, .int (Int8.ofInt 20).toInt32)] (vv.toList ++ []) h') from ⟨Or.inl ⟨by decide, ex_154 (r_P l)⟩, by decide, ex_lim (r_P l) rfl, am_call.up (r_197 l ?_) (by omega)⟩)
    have x22 : rx h0 (sp_ft τ s.1 (Int32.ofInt 5)) (s.2.2.2.2.2.1 + z) (am_wI h 154 8 (sp_ft τ s.1 (Int32.ofInt 5))) := rr_x (s := s) l (by decide)
    exact am_goX 1 (show (none : Option FieldType) = none ∧ (am_wI h 154 8 (sp_ft τ s.1 (Int32.ofInt 5))).2.2.2.2 = 175 ∧ _ from ⟨rfl, ex_175 x22.1, hF (sp_ft τ s.1 (Int32.ofInt 5)) _ (by simp only [sp_fn, sp_b, sp_f, cond_true, cond_false, e0]) x22⟩)
  | false =>
    refine am_goX 1 (show (¬ (nI s.2.2.1.1) = (Int32.ofInt 5) → pz_S 5 none am_r196 3 Q 23 [(4, .int (nI s.2.2.1.1)), (0, .ref 154), (1, .int (Int32.ofInt 1)), (2, .int (Int32.ofInt 5)), (3, .int (Int8.ofInt 20).toInt32)] [] h) ∧ (¬ ¬ (nI s.2.2.1.1) = (Int32.ofInt 5) → pz_S 5 none am_r196 3 Q 17 [(4, .int (nI s.2.2.1.1)), (0, .ref 154), (1, .int (Int32.ofInt 1)), (2, .int (Int32.ofInt 5)), (3, .int (Int8.ofInt 20).toInt32)] [] h) from ⟨fun _ => ?_, fun hz => absurd (fun w => by have h1 := j5n e0; have h2 := congrArg Int32.toInt w; rw [nI_toInt (by omega), show (Int32.ofInt 5 : Int32).toInt = 5 from rfl] at h2; omega) hz⟩)
    have hlt := j5n e0
    refine am_goX 6 (show (Value.ref 154).category = 1 ∧ am_sh h 154 = some (11, 0) ∧ am_sh h 154 = some (11, 0) ∧ narrow (am_fty 11 7) (.int (((h.1 154 7) + (Int32.ofInt 1)))) = .int (((h.1 154 7) + (Int32.ofInt 1))) ∧ fits (am_fty 11 7) (.int (((h.1 154 7) + (Int32.ofInt 1)))) = true ∧ pz_S 5 none am_r196 3 Q 33 [(4, .int (nI s.2.2.1.1)), (0, .ref 154), (1, .int (Int32.ofInt 1)), (2, .int (Int32.ofInt 5)), (3, .int (Int8.ofInt 20).toInt32)] [] (am_wI h 154 7 (((h.1 154 7) + (Int32.ofInt 1)))) from ⟨rfl, ex_154 (r_P l), ex_154 (r_P l), rfl, rfl, ?_⟩)
    rw [r_a l, xw_i1]
    have l23 : rr h0 z τ N (s.1 + 1, s.2) (am_wI h 154 7 (nI (s.1 + 1))) := rr_nx (a := s.1) (C := s.2) l (hn)
    refine am_goX 2 (show am_rc (am_wI h 154 7 (nI (s.1 + 1))) 154 11 ∧ 0 ≤ 8 ∧ (am_wI h 154 7 (nI (s.1 + 1))).2.2.2.2 + am_al 198 ≤ 175 ∧ am_call am_cod 3 198 [.ref 154] (am_wI h 154 7 (nI (s.1 + 1))) (fun vv h' => pz_S 5 none am_r196 3 Q 37 [(4, .int (nI s.2.2.1.1)), (0, .ref 154), (1, .int (Int32.ofInt 1)), (2, .int (Int32.ofInt 5)), (3, .int (Int8.ofInt 20).toInt32)] (vv.toList ++ []) h') from ⟨Or.inl ⟨by decide, ex_154 (r_P l23)⟩, by decide, ex_lim (r_P l23) rfl, am_call.up (r_198 l23 ?_) (by omega)⟩)
    cases e24 : sp_n τ (s.1 + 1) with
    | true =>
      refine am_goX 1 (show (¬ (pz_b (true)) = 0 → pz_S 5 none am_r196 3 Q 48 [(4, .int (nI s.2.2.1.1)), (0, .ref 154), (1, .int (Int32.ofInt 1)), (2, .int (Int32.ofInt 5)), (3, .int (Int8.ofInt 20).toInt32)] [] (am_wI h 154 7 (nI (s.1 + 1)))) ∧ (¬ ¬ (pz_b (true)) = 0 → pz_S 5 none am_r196 3 Q 40 [(4, .int (nI s.2.2.1.1)), (0, .ref 154), (1, .int (Int32.ofInt 1)), (2, .int (Int32.ofInt 5)), (3, .int (Int8.ofInt 20).toInt32)] [] (am_wI h 154 7 (nI (s.1 + 1)))) from ⟨fun _ => ?_, fun hz => absurd (by decide) hz⟩)
      refine am_goX 3 (show am_rc (am_wI h 154 7 (nI (s.1 + 1))) 154 11 ∧ 0 ≤ 8 ∧ (am_wI h 154 7 (nI (s.1 + 1))).2.2.2.2 + am_al 200 ≤ 175 ∧ am_call am_cod 3 200 [.ref 154, .int (Int32.ofInt 1)] (am_wI h 154 7 (nI (s.1 + 1))) (fun vv h' => pz_S 5 none am_r196 3 Q 53 [(4, .int (nI s.2.2.1.1)), (0, .ref 154), (1, .int (Int32.ofInt 1)), (2, .int (Int32.ofInt 5)), (3, .int (Int8.ofInt 20).toInt32)] (vv.toList ++ []) h') from ⟨Or.inl ⟨by decide, ex_154 (r_P l23)⟩, by decide, ex_lim (r_P l23) rfl, am_call.up (r_200 (s := (s.1 + 1, s.2)) (sp_nn e24) l23 ?_) (by omega)⟩)
      cases e3 : (sp_pf s.2 (τ (s.1 + 1)).2.1).isSome || (sp_ef s.2 (τ (s.1 + 1)).2.1).isSome with
      | true =>
        refine am_goX 1 (show ((sp_na s.2 (τ (s.1 + 1)).2.1) < 0 → pz_S 5 none am_r196 3 Q 61 [(4, .int (nI s.2.2.1.1)), (0, .ref 154), (1, .int (Int32.ofInt 1)), (2, .int (Int32.ofInt 5)), (3, .int (Int8.ofInt 20).toInt32)] [] (am_wI h 154 7 (nI (s.1 + 1)))) ∧ (¬ ((sp_na s.2 (τ (s.1 + 1)).2.1) < 0) → pz_S 5 none am_r196 3 Q 56 [(4, .int (nI s.2.2.1.1)), (0, .ref 154), (1, .int (Int32.ofInt 1)), (2, .int (Int32.ofInt 5)), (3, .int (Int8.ofInt 20).toInt32)] [] (am_wI h 154 7 (nI (s.1 + 1)))) from ⟨fun hz => absurd hz (na_old hp6 he5 e3), fun _ => ?_⟩)
        refine am_goX 3 (show am_rc (am_wI h 154 7 (nI (s.1 + 1))) 154 11 ∧ 0 ≤ 8 ∧ (am_wI h 154 7 (nI (s.1 + 1))).2.2.2.2 + am_al 197 ≤ 175 ∧ am_call am_cod 3 197 [.ref 154, .int (Int32.ofInt 3)] (am_wI h 154 7 (nI (s.1 + 1))) (fun vv h' => pz_S 5 none am_r196 3 Q 61 [(4, .int (nI s.2.2.1.1)), (0, .ref 154), (1, .int (Int32.ofInt 1)), (2, .int (Int32.ofInt 5)), (3, .int (Int8.ofInt 20).toInt32)] (vv.toList ++ []) h') from ⟨Or.inl ⟨by decide, ex_154 (r_P l23)⟩, by decide, ex_lim (r_P l23) rfl, am_call.up (r_197 l23 ?_) (by omega)⟩)
        have x25 : rx h0 (sp_ft τ (s.1 + 1) (Int32.ofInt 3)) (s.2.2.2.2.2.1 + z) (am_wI (am_wI h 154 7 (nI (s.1 + 1))) 154 8 (sp_ft τ (s.1 + 1) (Int32.ofInt 3))) := rr_x (s := (s.1 + 1, s.2)) l23 (by decide)
        refine am_goX 2 (show am_sh (am_wI (am_wI h 154 7 (nI (s.1 + 1))) 154 8 (sp_ft τ (s.1 + 1) (Int32.ofInt 3))) 154 = some (11, 0) ∧ pz_S 5 none am_r196 3 Q 65 [(4, .int (nI s.2.2.1.1)), (0, .ref 154), (1, .int (Int32.ofInt 1)), (2, .int (Int32.ofInt 5)), (3, .int (Int8.ofInt 20).toInt32)] [.int ((am_wI (am_wI h 154 7 (nI (s.1 + 1))) 154 8 (sp_ft τ (s.1 + 1) (Int32.ofInt 3))).1 154 8)] (am_wI (am_wI h 154 7 (nI (s.1 + 1))) 154 8 (sp_ft τ (s.1 + 1) (Int32.ofInt 3))) from ⟨ex_154 x25.1, ?_⟩)
        rw [x25.2.1.1]
        refine am_goX 1 (show (¬ (sp_ft τ (s.1 + 1) (Int32.ofInt 3)) = 0 → pz_S 5 none am_r196 3 Q 132 [(4, .int (nI s.2.2.1.1)), (0, .ref 154), (1, .int (Int32.ofInt 1)), (2, .int (Int32.ofInt 5)), (3, .int (Int8.ofInt 20).toInt32)] [] (am_wI (am_wI h 154 7 (nI (s.1 + 1))) 154 8 (sp_ft τ (s.1 + 1) (Int32.ofInt 3)))) ∧ (¬ ¬ (sp_ft τ (s.1 + 1) (Int32.ofInt 3)) = 0 → pz_S 5 none am_r196 3 Q 68 [(4, .int (nI s.2.2.1.1)), (0, .ref 154), (1, .int (Int32.ofInt 1)), (2, .int (Int32.ofInt 5)), (3, .int (Int8.ofInt 20).toInt32)] [] (am_wI (am_wI h 154 7 (nI (s.1 + 1))) 154 8 (sp_ft τ (s.1 + 1) (Int32.ofInt 3)))) from ⟨fun _ => ?_, fun hz => absurd (rx_ne x25) hz⟩)
        exact am_goX 1 (show (none : Option FieldType) = none ∧ (am_wI (am_wI h 154 7 (nI (s.1 + 1))) 154 8 (sp_ft τ (s.1 + 1) (Int32.ofInt 3))).2.2.2.2 = 175 ∧ _ from ⟨rfl, ex_175 x25.1, hF (sp_ft τ (s.1 + 1) (Int32.ofInt 3)) _ (by simp only [sp_fn, sp_b, sp_f, cond_true, cond_false, e0, e24, e3]) x25⟩)
      | false =>
        obtain ⟨n1, n2, n3⟩ := na_new e3
        rw [n3]
        refine am_goX 1 (show ((Int32.ofInt (-1)) < 0 → pz_S 5 none am_r196 3 Q 61 [(4, .int (nI s.2.2.1.1)), (0, .ref 154), (1, .int (Int32.ofInt 1)), (2, .int (Int32.ofInt 5)), (3, .int (Int8.ofInt 20).toInt32)] [] (am_wI h 154 7 (nI (s.1 + 1)))) ∧ (¬ ((Int32.ofInt (-1)) < 0) → pz_S 5 none am_r196 3 Q 56 [(4, .int (nI s.2.2.1.1)), (0, .ref 154), (1, .int (Int32.ofInt 1)), (2, .int (Int32.ofInt 5)), (3, .int (Int8.ofInt 20).toInt32)] [] (am_wI h 154 7 (nI (s.1 + 1)))) from ⟨fun _ => ?_, fun hz => absurd (by decide) hz⟩)
        refine am_goX 2 (show am_sh (am_wI h 154 7 (nI (s.1 + 1))) 154 = some (11, 0) ∧ pz_S 5 none am_r196 3 Q 65 [(4, .int (nI s.2.2.1.1)), (0, .ref 154), (1, .int (Int32.ofInt 1)), (2, .int (Int32.ofInt 5)), (3, .int (Int8.ofInt 20).toInt32)] [.int ((am_wI h 154 7 (nI (s.1 + 1))).1 154 8)] (am_wI h 154 7 (nI (s.1 + 1))) from ⟨ex_154 (r_P l23), ?_⟩)
        rw [r_f l23]
        refine am_goX 1 (show (¬ 0 = 0 → pz_S 5 none am_r196 3 Q 132 [(4, .int (nI s.2.2.1.1)), (0, .ref 154), (1, .int (Int32.ofInt 1)), (2, .int (Int32.ofInt 5)), (3, .int (Int8.ofInt 20).toInt32)] [] (am_wI h 154 7 (nI (s.1 + 1)))) ∧ (¬ ¬ 0 = 0 → pz_S 5 none am_r196 3 Q 68 [(4, .int (nI s.2.2.1.1)), (0, .ref 154), (1, .int (Int32.ofInt 1)), (2, .int (Int32.ofInt 5)), (3, .int (Int8.ofInt 20).toInt32)] [] (am_wI h 154 7 (nI (s.1 + 1)))) from ⟨fun hz => absurd hz (by decide), fun _ => ?_⟩)
        refine am_goX 2 (show am_sh (am_wI h 154 7 (nI (s.1 + 1))) 154 = some (11, 0) ∧ pz_S 5 none am_r196 3 Q 72 [(4, .int (nI s.2.2.1.1)), (0, .ref 154), (1, .int (Int32.ofInt 1)), (2, .int (Int32.ofInt 5)), (3, .int (Int8.ofInt 20).toInt32)] [am_rf ((am_wI h 154 7 (nI (s.1 + 1))).2.2.1 154 15)] (am_wI h 154 7 (nI (s.1 + 1))) from ⟨ex_154 (r_P l23), ?_⟩)
        rw [ex_r154_15 (h := am_wI h 154 7 (nI (s.1 + 1))) (r_P l23)]
        refine am_goX 4 (show am_sh (am_wI h 154 7 (nI (s.1 + 1))) 154 = some (11, 0) ∧ am_sh (am_wI h 154 7 (nI (s.1 + 1))) 154 = some (11, 0) ∧ pz_S 5 none am_r196 3 Q 80 [(4, .int (nI s.2.2.1.1)), (0, .ref 154), (1, .int (Int32.ofInt 1)), (2, .int (Int32.ofInt 5)), (3, .int (Int8.ofInt 20).toInt32)] [am_rf ((am_wI h 154 7 (nI (s.1 + 1))).2.2.1 154 6), .int ((am_wI h 154 7 (nI (s.1 + 1))).1 154 19), .ref 164] (am_wI h 154 7 (nI (s.1 + 1))) from ⟨ex_154 (r_P l23), ex_154 (r_P l23), ?_⟩)
        rw [ex_r154_6 (h := am_wI h 154 7 (nI (s.1 + 1))) (r_P l23)]
        refine am_goX 3 (show am_sh (am_wI h 154 7 (nI (s.1 + 1))) 154 = some (11, 0) ∧ ∃ jj nn : Nat, am_sh (am_wI h 154 7 (nI (s.1 + 1))) 158 = some (14, nn) ∧ jj < nn ∧ ((am_wI h 154 7 (nI (s.1 + 1))).1 154 7) = nI jj ∧ pz_S 5 none am_r196 3 Q 85 [(4, .int (nI s.2.2.1.1)), (0, .ref 154), (1, .int (Int32.ofInt 1)), (2, .int (Int32.ofInt 5)), (3, .int (Int8.ofInt 20).toInt32)] [.long ((am_wI h 154 7 (nI (s.1 + 1))).2.1 158 jj), .int ((am_wI h 154 7 (nI (s.1 + 1))).1 154 19), .ref 164] (am_wI h 154 7 (nI (s.1 + 1))) from ⟨ex_154 (r_P l23), (s.1 + 1), 1002, ex_158 (r_P l23), (by have := r_N l23; first | omega | (dsimp only at this; omega) | (dsimp only at this ⊢; omega)), r_a l23, ?_⟩)
        rw [r_v l23 (sp_nn e24)]
        have eN : (am_wI h 154 7 (nI (s.1 + 1))).1 154 19 = nI (s.2.1.1 + s.2.2.1.1) := l23.2.1.2.2.2.2.2.2.1
        have eA : (am_wI h 154 7 (nI (s.1 + 1))).1 154 7 = nI (s.1 + 1) := r_a l23
        have eC : (am_wI h 154 7 (nI (s.1 + 1))).1 160 41 = nI s.2.2.1.1 := l23.2.1.2.1.1
        have hPx := r_P l23
        refine am_goX 1 (show ∃ jj nn : Nat, am_so (am_wI h 154 7 (nI (s.1 + 1))) 164 = some (14, nn) ∧ jj < nn ∧ ((am_wI h 154 7 (nI (s.1 + 1))).1 154 19) = nI jj ∧ pz_S 5 none am_r196 3 Q 86 [(4, .int (nI s.2.2.1.1)), (0, .ref 154), (1, .int (Int32.ofInt 1)), (2, .int (Int32.ofInt 5)), (3, .int (Int8.ofInt 20).toInt32)] [] (am_wL (am_wI h 154 7 (nI (s.1 + 1))) 164 jj ((τ (s.1 + 1)).2.1)) from ⟨(s.2.1.1 + s.2.2.1.1), 11, ex_w164 hPx, (by omega), eN, ?_⟩)
        refine am_goX 2 (show am_sh (am_wL (am_wI h 154 7 (nI (s.1 + 1))) 164 (s.2.1.1 + s.2.2.1.1) ((τ (s.1 + 1)).2.1)) 154 = some (11, 0) ∧ pz_S 5 none am_r196 3 Q 90 [(4, .int (nI s.2.2.1.1)), (0, .ref 154), (1, .int (Int32.ofInt 1)), (2, .int (Int32.ofInt 5)), (3, .int (Int8.ofInt 20).toInt32)] [am_rf ((am_wL (am_wI h 154 7 (nI (s.1 + 1))) 164 (s.2.1.1 + s.2.2.1.1) ((τ (s.1 + 1)).2.1)).2.2.1 154 17)] (am_wL (am_wI h 154 7 (nI (s.1 + 1))) 164 (s.2.1.1 + s.2.2.1.1) ((τ (s.1 + 1)).2.1)) from ⟨ex_154 hPx, ?_⟩)
        rw [ex_r154_17 (h := am_wL (am_wI h 154 7 (nI (s.1 + 1))) 164 (s.2.1.1 + s.2.2.1.1) ((τ (s.1 + 1)).2.1)) hPx]
        refine am_goX 6 (show am_sh (am_wL (am_wI h 154 7 (nI (s.1 + 1))) 164 (s.2.1.1 + s.2.2.1.1) ((τ (s.1 + 1)).2.1)) 154 = some (11, 0) ∧ ∃ jj nn : Nat, am_so (am_wL (am_wI h 154 7 (nI (s.1 + 1))) 164 (s.2.1.1 + s.2.2.1.1) ((τ (s.1 + 1)).2.1)) 166 = some (13, nn) ∧ jj < nn ∧ ((am_wL (am_wI h 154 7 (nI (s.1 + 1))) 164 (s.2.1.1 + s.2.2.1.1) ((τ (s.1 + 1)).2.1)).1 154 19) = nI jj ∧ pz_S 5 none am_r196 3 Q 99 [(4, .int (nI s.2.2.1.1)), (0, .ref 154), (1, .int (Int32.ofInt 1)), (2, .int (Int32.ofInt 5)), (3, .int (Int8.ofInt 20).toInt32)] [] (am_wI (am_wL (am_wI h 154 7 (nI (s.1 + 1))) 164 (s.2.1.1 + s.2.2.1.1) ((τ (s.1 + 1)).2.1)) 166 jj (((Int8.ofInt 20).toInt32 + (nI s.2.2.1.1)))) from ⟨ex_154 hPx, (s.2.1.1 + s.2.2.1.1), 11, ex_w166 hPx, (by omega), eN, ?_⟩)
        refine am_goX 6 (show (Value.ref 154).category = 1 ∧ am_sh (am_wI (am_wL (am_wI h 154 7 (nI (s.1 + 1))) 164 (s.2.1.1 + s.2.2.1.1) (τ (s.1 + 1)).2.1) 166 (s.2.1.1 + s.2.2.1.1) ((Int8.ofInt 20).toInt32 + nI s.2.2.1.1)) 154 = some (11, 0) ∧ am_sh (am_wI (am_wL (am_wI h 154 7 (nI (s.1 + 1))) 164 (s.2.1.1 + s.2.2.1.1) (τ (s.1 + 1)).2.1) 166 (s.2.1.1 + s.2.2.1.1) ((Int8.ofInt 20).toInt32 + nI s.2.2.1.1)) 154 = some (11, 0) ∧ narrow (am_fty 11 19) (.int ((((am_wI (am_wL (am_wI h 154 7 (nI (s.1 + 1))) 164 (s.2.1.1 + s.2.2.1.1) (τ (s.1 + 1)).2.1) 166 (s.2.1.1 + s.2.2.1.1) ((Int8.ofInt 20).toInt32 + nI s.2.2.1.1)).1 154 19) + (Int32.ofInt 1)))) = .int ((((am_wI (am_wL (am_wI h 154 7 (nI (s.1 + 1))) 164 (s.2.1.1 + s.2.2.1.1) (τ (s.1 + 1)).2.1) 166 (s.2.1.1 + s.2.2.1.1) ((Int8.ofInt 20).toInt32 + nI s.2.2.1.1)).1 154 19) + (Int32.ofInt 1))) ∧ fits (am_fty 11 19) (.int ((((am_wI (am_wL (am_wI h 154 7 (nI (s.1 + 1))) 164 (s.2.1.1 + s.2.2.1.1) (τ (s.1 + 1)).2.1) 166 (s.2.1.1 + s.2.2.1.1) ((Int8.ofInt 20).toInt32 + nI s.2.2.1.1)).1 154 19) + (Int32.ofInt 1)))) = true ∧ pz_S 5 none am_r196 3 Q 109 [(4, .int (nI s.2.2.1.1)), (0, .ref 154), (1, .int (Int32.ofInt 1)), (2, .int (Int32.ofInt 5)), (3, .int (Int8.ofInt 20).toInt32)] [] (am_wI (am_wI (am_wL (am_wI h 154 7 (nI (s.1 + 1))) 164 (s.2.1.1 + s.2.2.1.1) (τ (s.1 + 1)).2.1) 166 (s.2.1.1 + s.2.2.1.1) ((Int8.ofInt 20).toInt32 + nI s.2.2.1.1)) 154 19 ((((am_wI (am_wL (am_wI h 154 7 (nI (s.1 + 1))) 164 (s.2.1.1 + s.2.2.1.1) (τ (s.1 + 1)).2.1) 166 (s.2.1.1 + s.2.2.1.1) ((Int8.ofInt 20).toInt32 + nI s.2.2.1.1)).1 154 19) + (Int32.ofInt 1)))) from ⟨rfl, ex_154 hPx, ex_154 hPx, rfl, rfl, ?_⟩)
        rw [show (am_wI (am_wL (am_wI h 154 7 (nI (s.1 + 1))) 164 (s.2.1.1 + s.2.2.1.1) (τ (s.1 + 1)).2.1) 166 (s.2.1.1 + s.2.2.1.1) ((Int8.ofInt 20).toInt32 + nI s.2.2.1.1)).1 154 19 = nI (s.2.1.1 + s.2.2.1.1) from (em_wn _ _ (by omega)).trans eN, xw_i1]
        refine am_goX 6 (show (Value.ref 154).category = 1 ∧ am_sh (am_wI (am_wI (am_wL (am_wI h 154 7 (nI (s.1 + 1))) 164 (s.2.1.1 + s.2.2.1.1) (τ (s.1 + 1)).2.1) 166 (s.2.1.1 + s.2.2.1.1) ((Int8.ofInt 20).toInt32 + nI s.2.2.1.1)) 154 19 (nI (s.2.1.1 + s.2.2.1.1 + 1))) 154 = some (11, 0) ∧ am_sh (am_wI (am_wI (am_wL (am_wI h 154 7 (nI (s.1 + 1))) 164 (s.2.1.1 + s.2.2.1.1) (τ (s.1 + 1)).2.1) 166 (s.2.1.1 + s.2.2.1.1) ((Int8.ofInt 20).toInt32 + nI s.2.2.1.1)) 154 19 (nI (s.2.1.1 + s.2.2.1.1 + 1))) 154 = some (11, 0) ∧ narrow (am_fty 11 7) (.int ((((am_wI (am_wI (am_wL (am_wI h 154 7 (nI (s.1 + 1))) 164 (s.2.1.1 + s.2.2.1.1) (τ (s.1 + 1)).2.1) 166 (s.2.1.1 + s.2.2.1.1) ((Int8.ofInt 20).toInt32 + nI s.2.2.1.1)) 154 19 (nI (s.2.1.1 + s.2.2.1.1 + 1))).1 154 7) + (Int32.ofInt 1)))) = .int ((((am_wI (am_wI (am_wL (am_wI h 154 7 (nI (s.1 + 1))) 164 (s.2.1.1 + s.2.2.1.1) (τ (s.1 + 1)).2.1) 166 (s.2.1.1 + s.2.2.1.1) ((Int8.ofInt 20).toInt32 + nI s.2.2.1.1)) 154 19 (nI (s.2.1.1 + s.2.2.1.1 + 1))).1 154 7) + (Int32.ofInt 1))) ∧ fits (am_fty 11 7) (.int ((((am_wI (am_wI (am_wL (am_wI h 154 7 (nI (s.1 + 1))) 164 (s.2.1.1 + s.2.2.1.1) (τ (s.1 + 1)).2.1) 166 (s.2.1.1 + s.2.2.1.1) ((Int8.ofInt 20).toInt32 + nI s.2.2.1.1)) 154 19 (nI (s.2.1.1 + s.2.2.1.1 + 1))).1 154 7) + (Int32.ofInt 1)))) = true ∧ pz_S 5 none am_r196 3 Q 119 [(4, .int (nI s.2.2.1.1)), (0, .ref 154), (1, .int (Int32.ofInt 1)), (2, .int (Int32.ofInt 5)), (3, .int (Int8.ofInt 20).toInt32)] [] (am_wI (am_wI (am_wI (am_wL (am_wI h 154 7 (nI (s.1 + 1))) 164 (s.2.1.1 + s.2.2.1.1) (τ (s.1 + 1)).2.1) 166 (s.2.1.1 + s.2.2.1.1) ((Int8.ofInt 20).toInt32 + nI s.2.2.1.1)) 154 19 (nI (s.2.1.1 + s.2.2.1.1 + 1))) 154 7 ((((am_wI (am_wI (am_wL (am_wI h 154 7 (nI (s.1 + 1))) 164 (s.2.1.1 + s.2.2.1.1) (τ (s.1 + 1)).2.1) 166 (s.2.1.1 + s.2.2.1.1) ((Int8.ofInt 20).toInt32 + nI s.2.2.1.1)) 154 19 (nI (s.2.1.1 + s.2.2.1.1 + 1))).1 154 7) + (Int32.ofInt 1)))) from ⟨rfl, ex_154 hPx, ex_154 hPx, rfl, rfl, ?_⟩)
        rw [show (am_wI (am_wI (am_wL (am_wI h 154 7 (nI (s.1 + 1))) 164 (s.2.1.1 + s.2.2.1.1) (τ (s.1 + 1)).2.1) 166 (s.2.1.1 + s.2.2.1.1) ((Int8.ofInt 20).toInt32 + nI s.2.2.1.1)) 154 19 (nI (s.2.1.1 + s.2.2.1.1 + 1))).1 154 7 = nI (s.1 + 1) from (em_wn _ _ (by omega)).trans ((em_wn _ _ (by omega)).trans eA), xw_i1]
        refine am_goX 2 (show am_sh (am_wI (am_wI (am_wI (am_wL (am_wI h 154 7 (nI (s.1 + 1))) 164 (s.2.1.1 + s.2.2.1.1) (τ (s.1 + 1)).2.1) 166 (s.2.1.1 + s.2.2.1.1) ((Int8.ofInt 20).toInt32 + nI s.2.2.1.1)) 154 19 (nI (s.2.1.1 + s.2.2.1.1 + 1))) 154 7 (nI (s.1 + 1 + 1))) 154 = some (11, 0) ∧ pz_S 5 none am_r196 3 Q 123 [(4, .int (nI s.2.2.1.1)), (0, .ref 154), (1, .int (Int32.ofInt 1)), (2, .int (Int32.ofInt 5)), (3, .int (Int8.ofInt 20).toInt32)] [am_rf ((am_wI (am_wI (am_wI (am_wL (am_wI h 154 7 (nI (s.1 + 1))) 164 (s.2.1.1 + s.2.2.1.1) (τ (s.1 + 1)).2.1) 166 (s.2.1.1 + s.2.2.1.1) ((Int8.ofInt 20).toInt32 + nI s.2.2.1.1)) 154 19 (nI (s.2.1.1 + s.2.2.1.1 + 1))) 154 7 (nI (s.1 + 1 + 1))).2.2.1 154 10)] (am_wI (am_wI (am_wI (am_wL (am_wI h 154 7 (nI (s.1 + 1))) 164 (s.2.1.1 + s.2.2.1.1) (τ (s.1 + 1)).2.1) 166 (s.2.1.1 + s.2.2.1.1) ((Int8.ofInt 20).toInt32 + nI s.2.2.1.1)) 154 19 (nI (s.2.1.1 + s.2.2.1.1 + 1))) 154 7 (nI (s.1 + 1 + 1))) from ⟨ex_154 hPx, ?_⟩)
        rw [ex_r154_10 (h := am_wI (am_wI (am_wI (am_wL (am_wI h 154 7 (nI (s.1 + 1))) 164 (s.2.1.1 + s.2.2.1.1) (τ (s.1 + 1)).2.1) 166 (s.2.1.1 + s.2.2.1.1) ((Int8.ofInt 20).toInt32 + nI s.2.2.1.1)) 154 19 (nI (s.2.1.1 + s.2.2.1.1 + 1))) 154 7 (nI (s.1 + 1 + 1))) hPx]
        refine am_goX 5 (show (Value.int ((Int8.ofInt 40).toInt32 + (Int32.ofInt 1))).category = 1 ∧ (Value.ref 160).category = 1 ∧ ∃ jj nn : Nat, am_sh (am_wI (am_wI (am_wI (am_wL (am_wI h 154 7 (nI (s.1 + 1))) 164 (s.2.1.1 + s.2.2.1.1) (τ (s.1 + 1)).2.1) 166 (s.2.1.1 + s.2.2.1.1) ((Int8.ofInt 20).toInt32 + nI s.2.2.1.1)) 154 19 (nI (s.2.1.1 + s.2.2.1.1 + 1))) 154 7 (nI (s.1 + 1 + 1))) 160 = some (13, nn) ∧ jj < nn ∧ ((Int8.ofInt 40).toInt32 + (Int32.ofInt 1)) = nI jj ∧ pz_S 5 none am_r196 3 Q 129 [(4, .int (nI s.2.2.1.1)), (0, .ref 154), (1, .int (Int32.ofInt 1)), (2, .int (Int32.ofInt 5)), (3, .int (Int8.ofInt 20).toInt32)] [.int ((am_wI (am_wI (am_wI (am_wL (am_wI h 154 7 (nI (s.1 + 1))) 164 (s.2.1.1 + s.2.2.1.1) (τ (s.1 + 1)).2.1) 166 (s.2.1.1 + s.2.2.1.1) ((Int8.ofInt 20).toInt32 + nI s.2.2.1.1)) 154 19 (nI (s.2.1.1 + s.2.2.1.1 + 1))) 154 7 (nI (s.1 + 1 + 1))).1 160 jj), .int ((Int8.ofInt 40).toInt32 + (Int32.ofInt 1)), .ref 160] (am_wI (am_wI (am_wI (am_wL (am_wI h 154 7 (nI (s.1 + 1))) 164 (s.2.1.1 + s.2.2.1.1) (τ (s.1 + 1)).2.1) 166 (s.2.1.1 + s.2.2.1.1) ((Int8.ofInt 20).toInt32 + nI s.2.2.1.1)) 154 19 (nI (s.2.1.1 + s.2.2.1.1 + 1))) 154 7 (nI (s.1 + 1 + 1))) from ⟨rfl, rfl, 41, 80, ex_160 hPx, (by decide), (by decide), ?_⟩)
        rw [show (am_wI (am_wI (am_wI (am_wL (am_wI h 154 7 (nI (s.1 + 1))) 164 (s.2.1.1 + s.2.2.1.1) (τ (s.1 + 1)).2.1) 166 (s.2.1.1 + s.2.2.1.1) ((Int8.ofInt 20).toInt32 + nI s.2.2.1.1)) 154 19 (nI (s.2.1.1 + s.2.2.1.1 + 1))) 154 7 (nI (s.1 + 1 + 1))).1 160 41 = nI s.2.2.1.1 from (em_wn _ _ (by omega)).trans ((em_wn _ _ (by omega)).trans ((em_wn _ _ (by omega)).trans eC))]
        refine am_goX 3 (show ∃ jj nn : Nat, am_so (am_wI (am_wI (am_wI (am_wL (am_wI h 154 7 (nI (s.1 + 1))) 164 (s.2.1.1 + s.2.2.1.1) (τ (s.1 + 1)).2.1) 166 (s.2.1.1 + s.2.2.1.1) ((Int8.ofInt 20).toInt32 + nI s.2.2.1.1)) 154 19 (nI (s.2.1.1 + s.2.2.1.1 + 1))) 154 7 (nI (s.1 + 1 + 1))) 160 = some (13, nn) ∧ jj < nn ∧ ((Int8.ofInt 40).toInt32 + (Int32.ofInt 1)) = nI jj ∧ pz_S 5 none am_r196 3 Q 132 [(4, .int (nI s.2.2.1.1)), (0, .ref 154), (1, .int (Int32.ofInt 1)), (2, .int (Int32.ofInt 5)), (3, .int (Int8.ofInt 20).toInt32)] [] (am_wI (am_wI (am_wI (am_wI (am_wL (am_wI h 154 7 (nI (s.1 + 1))) 164 (s.2.1.1 + s.2.2.1.1) (τ (s.1 + 1)).2.1) 166 (s.2.1.1 + s.2.2.1.1) ((Int8.ofInt 20).toInt32 + nI s.2.2.1.1)) 154 19 (nI (s.2.1.1 + s.2.2.1.1 + 1))) 154 7 (nI (s.1 + 1 + 1))) 160 jj (((nI s.2.2.1.1) + (Int32.ofInt 1)))) from ⟨41, 80, ex_w160 hPx, (by decide), (by decide), ?_⟩)
        rw [xw_i1]
        have l26 : rr h0 z τ N (s.1 + 1 + 1, sp_cE s.2 (τ (s.1 + 1)).2.1 ((am_wI h 154 7 (nI (s.1 + 1))).1 160 (62 + 2 * s.2.2.1.1)) ((am_wI h 154 7 (nI (s.1 + 1))).1 160 (63 + 2 * s.2.2.1.1))) (am_wI (am_wI (am_wI (am_wI (am_wL (am_wI h 154 7 (nI (s.1 + 1))) 164 (s.2.1.1 + s.2.2.1.1) (τ (s.1 + 1)).2.1) 166 (s.2.1.1 + s.2.2.1.1) ((Int8.ofInt 20).toInt32 + nI s.2.2.1.1)) 154 19 (nI (s.2.1.1 + s.2.2.1.1 + 1))) 154 7 (nI (s.1 + 1 + 1))) 160 41 (nI (s.2.2.1.1 + 1))) := rr_nE (a := s.1 + 1) (C := s.2) l23 (sp_nn e24) hlt n1 n2
        exact am_goX 1 (show (none : Option FieldType) = none ∧ (am_wI (am_wI (am_wI (am_wI (am_wL (am_wI h 154 7 (nI (s.1 + 1))) 164 (s.2.1.1 + s.2.2.1.1) (τ (s.1 + 1)).2.1) 166 (s.2.1.1 + s.2.2.1.1) ((Int8.ofInt 20).toInt32 + nI s.2.2.1.1)) 154 19 (nI (s.2.1.1 + s.2.2.1.1 + 1))) 154 7 (nI (s.1 + 1 + 1))) 160 41 (nI (s.2.2.1.1 + 1))).2.2.2.2 = 175 ∧ _ from ⟨rfl, ex_175 hPx, hS _ _ _ e0 (by simp only [sp_fn, sp_b, sp_f, cond_true, cond_false, e0, e24, e3]) l26⟩)
    | false =>
      refine am_goX 1 (show (¬ (pz_b (false)) = 0 → pz_S 5 none am_r196 3 Q 48 [(4, .int (nI s.2.2.1.1)), (0, .ref 154), (1, .int (Int32.ofInt 1)), (2, .int (Int32.ofInt 5)), (3, .int (Int8.ofInt 20).toInt32)] [] (am_wI h 154 7 (nI (s.1 + 1)))) ∧ (¬ ¬ (pz_b (false)) = 0 → pz_S 5 none am_r196 3 Q 40 [(4, .int (nI s.2.2.1.1)), (0, .ref 154), (1, .int (Int32.ofInt 1)), (2, .int (Int32.ofInt 5)), (3, .int (Int8.ofInt 20).toInt32)] [] (am_wI h 154 7 (nI (s.1 + 1)))) from ⟨fun hz => absurd hz (by decide), fun _ => ?_⟩)
      refine am_goX 3 (show am_rc (am_wI h 154 7 (nI (s.1 + 1))) 154 11 ∧ 0 ≤ 8 ∧ (am_wI h 154 7 (nI (s.1 + 1))).2.2.2.2 + am_al 197 ≤ 175 ∧ am_call am_cod 3 197 [.ref 154, .int (Int32.ofInt 1)] (am_wI h 154 7 (nI (s.1 + 1))) (fun vv h' => pz_S 5 none am_r196 3 Q 45 [(4, .int (nI s.2.2.1.1)), (0, .ref 154), (1, .int (Int32.ofInt 1)), (2, .int (Int32.ofInt 5)), (3, .int (Int8.ofInt 20).toInt32)] (vv.toList ++ []) h') from ⟨Or.inl ⟨by decide, ex_154 (r_P l23)⟩, by decide, ex_lim (r_P l23) rfl, am_call.up (r_197 l23 ?_) (by omega)⟩)
      have x27 : rx h0 (sp_ft τ (s.1 + 1) (Int32.ofInt 1)) (s.2.2.2.2.2.1 + z) (am_wI (am_wI h 154 7 (nI (s.1 + 1))) 154 8 (sp_ft τ (s.1 + 1) (Int32.ofInt 1))) := rr_x (s := (s.1 + 1, s.2)) l23 (by decide)
      refine am_goX 3 (show am_sh (am_wI (am_wI h 154 7 (nI (s.1 + 1))) 154 8 (sp_ft τ (s.1 + 1) (Int32.ofInt 1))) 154 = some (11, 0) ∧ pz_S 5 none am_r196 3 Q 65 [(4, .int (nI s.2.2.1.1)), (0, .ref 154), (1, .int (Int32.ofInt 1)), (2, .int (Int32.ofInt 5)), (3, .int (Int8.ofInt 20).toInt32)] [.int ((am_wI (am_wI h 154 7 (nI (s.1 + 1))) 154 8 (sp_ft τ (s.1 + 1) (Int32.ofInt 1))).1 154 8)] (am_wI (am_wI h 154 7 (nI (s.1 + 1))) 154 8 (sp_ft τ (s.1 + 1) (Int32.ofInt 1))) from ⟨ex_154 x27.1, ?_⟩)
      rw [x27.2.1.1]
      refine am_goX 1 (show (¬ (sp_ft τ (s.1 + 1) (Int32.ofInt 1)) = 0 → pz_S 5 none am_r196 3 Q 132 [(4, .int (nI s.2.2.1.1)), (0, .ref 154), (1, .int (Int32.ofInt 1)), (2, .int (Int32.ofInt 5)), (3, .int (Int8.ofInt 20).toInt32)] [] (am_wI (am_wI h 154 7 (nI (s.1 + 1))) 154 8 (sp_ft τ (s.1 + 1) (Int32.ofInt 1)))) ∧ (¬ ¬ (sp_ft τ (s.1 + 1) (Int32.ofInt 1)) = 0 → pz_S 5 none am_r196 3 Q 68 [(4, .int (nI s.2.2.1.1)), (0, .ref 154), (1, .int (Int32.ofInt 1)), (2, .int (Int32.ofInt 5)), (3, .int (Int8.ofInt 20).toInt32)] [] (am_wI (am_wI h 154 7 (nI (s.1 + 1))) 154 8 (sp_ft τ (s.1 + 1) (Int32.ofInt 1)))) from ⟨fun _ => ?_, fun hz => absurd (rx_ne x27) hz⟩)
      exact am_goX 1 (show (none : Option FieldType) = none ∧ (am_wI (am_wI h 154 7 (nI (s.1 + 1))) 154 8 (sp_ft τ (s.1 + 1) (Int32.ofInt 1))).2.2.2.2 = 175 ∧ _ from ⟨rfl, ex_175 x27.1, hF (sp_ft τ (s.1 + 1) (Int32.ofInt 1)) _ (by simp only [sp_fn, sp_b, sp_f, cond_true, cond_false, e0, e24]) x27⟩)
