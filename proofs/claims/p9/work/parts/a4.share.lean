/-! WHAT BOTH CANTONS' READERS SHARE -/
theorem sp_b_inr {r : sp_R} {f : sp_S → sp_R} {t : sp_S} (e : sp_b r f = .inr t) : ∃ s, r = .inr s ∧ f s = .inr t := by
  cases r with
  | inl F => cases e
  | inr s => exact ⟨s, rfl, e⟩
theorem sp_tS_inr {τ : sp_T} {x : Int32} {a : Nat} {C : sp_C} {t : sp_S} (e : sp_tS τ x (a, C) = .inr t) : t = (a + 1, C) := by
  unfold sp_tS at e
  cases hb : sp_s τ a x with
  | true => simp only [hb, cond_true] at e; cases e; rfl
  | false => simp only [hb, cond_false, sp_f] at e; cases e
theorem sp_tW_inr {τ : sp_T} {x : Int64} {a : Nat} {C : sp_C} {t : sp_S} (e : sp_tW τ x (a, C) = .inr t) : t = (a + 1, C) := by
  unfold sp_tW at e
  cases hb : sp_w τ a x with
  | true => simp only [hb, cond_true] at e; cases e; rfl
  | false => simp only [hb, cond_false, sp_f] at e; cases e
theorem sp_tN_inr {τ : sp_T} {lo hi : Int32} {s t : sp_S} (e : sp_tN τ lo hi s = .inr t) : t = s ∧ sp_k τ s.1 2 = true ∧ sp_in τ s.1 lo hi = true := by
  unfold sp_tN at e
  cases hb : sp_k τ s.1 2 with
  | true =>
    simp only [hb, cond_true] at e
    cases hi : sp_in τ s.1 lo hi with
    | true => simp only [hi, cond_true] at e; cases e; exact ⟨rfl, rfl, rfl⟩
    | false => simp only [hi, cond_false, sp_f] at e; cases e
  | false => simp only [hb, cond_false, sp_f] at e; cases e
theorem sp_fn_inr {τ : sp_T} {s t : sp_S} (e : sp_fn τ s = .inr t) : t = s ∧ sp_n τ s.1 = true := by
  unfold sp_fn at e
  cases hb : sp_n τ s.1 with
  | true =>
    simp only [hb, cond_true] at e
    cases hi : (sp_pf s.2 (τ s.1).2.1).isSome || (sp_ef s.2 (τ s.1).2.1).isSome with
    | true => simp only [hi, cond_true, sp_f] at e; cases e
    | false => simp only [hi, cond_false] at e; cases e; exact ⟨rfl, rfl⟩
  | false => simp only [hb, cond_false, sp_f] at e; cases e
theorem sp_nk {τ : sp_T} {a : Nat} (e : sp_n τ a = true) : sp_k τ a 1 = true := (Bool.and_eq_true _ _ ▸ e : _ ∧ _).1
def sp_ko (r : Option Int32) : Int32 := match r with
  | some k => k
  | none => Int32.ofInt (-1)
theorem sp_kd_v {τ : sp_T} {a : Nat} {k : Int32} (e : sp_kd τ a = some k) : ¬ k = Int32.ofInt (-1) ∧ ¬ (τ a).1 = 0 := by
  unfold sp_kd at e
  cases h1 : sp_w τ a 30596128 with
  | true => simp only [h1, cond_true] at e; cases e; exact ⟨by decide, sp_wn h1⟩
  | false =>
    simp only [h1, cond_false] at e
    cases h2 : sp_w τ a 43567634 with
    | true => simp only [h2, cond_true] at e; cases e; exact ⟨by decide, sp_wn h2⟩
    | false =>
      simp only [h2, cond_false] at e
      cases h3 : sp_w τ a 37900956 with
      | true => simp only [h3, cond_true] at e; cases e; exact ⟨by decide, sp_wn h3⟩
      | false =>
        simp only [h3, cond_false] at e
        cases h4 : sp_w τ a 488058286 with
        | true => simp only [h4, cond_true] at e; cases e; exact ⟨by decide, sp_wn h4⟩
        | false => simp only [h4, cond_false] at e; cases e
theorem cr_pf {h h0 : am_H} {c sz a p : Nat} {T : Nat → Int32} {C : sp_C} {v : Int64} (l : cr h0 c T sz (a, C) h) (e : sp_pf C v = some p) : p < C.1.1 ∧ p < 6 := by
  have h1 := (sp_fd_lt e).2.1
  have h2 : C.1.1 ≤ 6 := l.2.1.1.2.1
  omega
theorem cr_ef {h h0 : am_H} {c sz a p : Nat} {T : Nat → Int32} {C : sp_C} {v : Int64} (l : cr h0 c T sz (a, C) h) (e : sp_ef C v = some p) : p < C.2.1.1 ∧ p < 5 := by
  have h1 := (sp_fd_lt e).2.1
  have h2 : C.2.1.1 ≤ 5 := l.2.1.2.1.2.1
  omega
theorem i6 {n : Nat} (e : Nat.ble 6 n = true) (h : n ≤ 6) : ¬ nI n < (Int8.ofInt 6).toInt32 := by
  have := Nat.le_of_ble_eq_true e
  show ¬ nI n < nI 6
  rw [nI_ltI (by omega) (by omega)]
  omega
theorem j6n {n : Nat} (e : Nat.ble 6 n = false) : n < 6 := by
  apply Nat.lt_of_not_le
  intro z
  rw [Nat.ble_eq_true_of_le z] at e
  cases e
theorem j6 {n : Nat} (e : Nat.ble 6 n = false) : nI n < (Int8.ofInt 6).toInt32 := by
  have := j6n e
  show nI n < nI 6
  rw [nI_ltI (by omega) (by omega)]
  omega
theorem i5 {n : Nat} (e : Nat.ble 5 n = true) (h : n ≤ 5) : ¬ nI n < Int32.ofInt 5 := by
  have := Nat.le_of_ble_eq_true e
  show ¬ nI n < nI 5
  rw [nI_ltI (by omega) (by omega)]
  omega
theorem j5n {n : Nat} (e : Nat.ble 5 n = false) : n < 5 := by
  apply Nat.lt_of_not_le
  intro z
  rw [Nat.ble_eq_true_of_le z] at e
  cases e
theorem j5 {n : Nat} (e : Nat.ble 5 n = false) : nI n < Int32.ofInt 5 := by
  have := j5n e
  show nI n < nI 5
  rw [nI_ltI (by omega) (by omega)]
  omega
theorem i8 {n : Nat} (e : Nat.ble 8 n = true) (h : n < 100) : ¬ nI n < (Int8.ofInt 8).toInt32 := by
  have := Nat.le_of_ble_eq_true e
  show ¬ nI n < nI 8
  rw [nI_ltI (by omega) (by omega)]
  omega
theorem j8 {n : Nat} (e : Nat.ble 8 n = false) : nI n < (Int8.ofInt 8).toInt32 := by
  have : n < 8 := by
    apply Nat.lt_of_not_le
    intro z
    rw [Nat.ble_eq_true_of_le z] at e
    cases e
  show nI n < nI 8
  rw [nI_ltI (by omega) (by omega)]
  omega
theorem ex_lq {h : am_H} (o k : Nat) (v : Int64) : (am_wL h o k v).2.1 o k = v := if_pos ⟨rfl, rfl⟩
theorem sp_in28 {τ : sp_T} {a D : Nat} (hD : D ≤ 9999) (ev : sp_v τ a = nI D) : sp_in τ a (Int32.ofInt 0) (Int8.ofInt 27).toInt32 = decide (D < 28) := by
  unfold sp_in
  rw [ev]
  show (decide (nI 0 ≤ nI D) && decide (nI D ≤ nI 27)) = _
  rw [decide_eq_true (nI_le (Nat.zero_le D) (by omega)), Bool.true_and]
  by_cases hd : D < 28
  · rw [decide_eq_true hd, decide_eq_true (nI_le (by omega) (by omega))]
  · rw [decide_eq_false hd, decide_eq_false (by rw [nI_leI (by omega) (by omega)]; omega)]
theorem i28 {D : Nat} (hD : D ≤ 9999) : (Int8.ofInt 28).toInt32 ≤ nI D ↔ 28 ≤ D := by
  show nI 28 ≤ nI D ↔ _
  rw [nI_leI (by omega) (by omega)]
theorem sp_28_or {x : Int32} {D : Nat} (hx : sp_28 x) (hD : D < 28) : sp_28 (x ||| ((Int32.ofInt 1) <<< (nI D &&& 31))) := by
  unfold sp_28 at *
  have key : ∀ D, D < 28 → ((Int32.ofInt 1) <<< (nI D &&& 31)).toBitVec.toNat < 268435456 := by decide +kernel
  have h1 := key D hD
  rw [Int32.toBitVec_or, BitVec.toNat_or]
  exact Nat.or_lt_two_pow (n := 28) hx h1
theorem sp_sd_inr {τ : sp_T} {s t : sp_S} (e : sp_sd τ s = .inr t) : t.1 = s.1 + 1 ∧ t.2.2.2.1.1 = s.2.2.2.1.1 := by
  unfold sp_sd at e
  cases h1 : sp_k τ s.1 2 with
  | false => simp only [h1, cond_false, sp_f] at e; cases e
  | true =>
    simp only [h1, cond_true] at e
    cases h2 : sp_in τ s.1 (Int32.ofInt 0) (Int8.ofInt 27).toInt32 with
    | false => simp only [h2, cond_false, sp_f] at e; cases e
    | true =>
      simp only [h2, cond_true] at e
      cases h3 : sp_bit s.2.2.2.1.2 (sp_v τ s.1) with
      | true => simp only [h3, cond_true, sp_f] at e; cases e
      | false =>
        simp only [h3, cond_false] at e
        cases h4 : Nat.ble 8 (sp_pc s.2.2.2.1.2 28) with
        | true => simp only [h4, cond_true, sp_f] at e; cases e
        | false => simp only [h4, cond_false] at e; cases e; exact ⟨rfl, rfl⟩
theorem sp_pc_le (x : Int32) : ∀ m, sp_pc x m ≤ m
  | 0 => Nat.le_refl 0
  | m + 1 => by
    have := sp_pc_le x m
    show sp_pc x m + _ ≤ m + 1
    cases sp_bit x (nI m) with
    | true => show sp_pc x m + 1 ≤ m + 1; omega
    | false => show sp_pc x m + 0 ≤ m + 1; omega
theorem sp_sl_le {τ : sp_T} : ∀ {m : Nat} {s t : sp_S}, sp_sl τ m s = .inr t → s.1 ≤ t.1
  | 0, s, t, e => by cases e; exact Nat.le_refl _
  | m + 1, s, t, e => by
    unfold sp_sl at e
    cases h1 : sp_k τ s.1 2 with
    | false => simp only [h1, cond_false] at e; cases e; exact Nat.le_refl _
    | true =>
      simp only [h1, cond_true] at e
      obtain ⟨u, e1, e2⟩ := sp_b_inr e
      have h2 := (sp_sd_inr e1).1
      have h3 := sp_sl_le e2
      omega
/-- a line takes tokens -/
theorem sp_tS_lt {τ : sp_T} {x : Int32} {s t : sp_S} (e : sp_tS τ x s = .inr t) : t.1 = s.1 + 1 := congrArg Prod.fst (sp_tS_inr (a := s.1) (C := s.2) e)
theorem sp_tW_lt {τ : sp_T} {x : Int64} {s t : sp_S} (e : sp_tW τ x s = .inr t) : t.1 = s.1 + 1 := congrArg Prod.fst (sp_tW_inr (a := s.1) (C := s.2) e)
theorem sp_tN_lt {τ : sp_T} {lo hi : Int32} {s t : sp_S} (e : sp_tN τ lo hi s = .inr t) : t.1 = s.1 := congrArg Prod.fst (sp_tN_inr e).1
theorem sp_fn_lt {τ : sp_T} {s t : sp_S} (e : sp_fn τ s = .inr t) : t.1 = s.1 := congrArg Prod.fst (sp_fn_inr e).1
theorem sp_person_lt {τ : sp_T} {s t : sp_S} (e : sp_person τ s = .inr t) : s.1 < t.1 := by
  unfold sp_person at e
  cases h1 : Nat.ble 6 s.2.1.1 with
  | true => simp only [h1, cond_true, sp_f] at e; cases e
  | false =>
    simp only [h1, cond_false] at e
    obtain ⟨u1, e1, e2⟩ := sp_b_inr e
    have p1 := sp_fn_lt e1
    cases h2 : sp_kd τ (u1.1 + 1) with
    | none => simp only [h2, sp_f] at e2; cases e2
    | some k =>
      simp only [h2] at e2
      obtain ⟨u2, e3, e4⟩ := sp_b_inr e2
      obtain ⟨u3, e5, e6⟩ := sp_b_inr e4
      have p2 := sp_tW_lt e3
      have p3 := sp_tN_lt e5
      have p4 := sp_tS_lt e6
      dsimp only at p1 p2 p3 p4
      omega
theorem sp_event_lt {τ : sp_T} {s t : sp_S} (e : sp_event τ s = .inr t) : s.1 < t.1 := by
  unfold sp_event at e
  cases h1 : Nat.ble 5 s.2.2.1.1 with
  | true => simp only [h1, cond_true, sp_f] at e; cases e
  | false =>
    simp only [h1, cond_false] at e
    obtain ⟨u1, e1, e2⟩ := sp_b_inr e
    obtain ⟨u2, e3, e4⟩ := sp_b_inr e2
    obtain ⟨u3, e5, e6⟩ := sp_b_inr e4
    obtain ⟨u4, e7, e8⟩ := sp_b_inr e6
    obtain ⟨u5, e9, e10⟩ := sp_b_inr e8
    have p1 := sp_fn_lt e1
    have p2 := sp_tW_lt e3
    have p3 := sp_tN_lt e5
    have p4 := sp_tW_lt e7
    have p5 := sp_tN_lt e9
    have p6 := sp_tS_lt e10
    dsimp only at p1 p2 p3 p4 p5 p6
    omega
theorem sp_comes_lt {τ : sp_T} {s t : sp_S} (e : sp_comes τ s = .inr t) : s.1 < t.1 := by
  unfold sp_comes at e
  cases h1 : sp_n τ (s.1 + 1) with
  | false => simp only [h1, cond_false, sp_f] at e; cases e
  | true =>
    simp only [h1, cond_true] at e
    cases h2 : sp_pf s.2 (τ (s.1 + 1)).2.1 with
    | none => simp only [h2, sp_f] at e; cases e
    | some p =>
      simp only [h2] at e
      cases h3 : sp_n τ (s.1 + 1 + 1) with
      | false => simp only [h3, cond_false, sp_f] at e; cases e
      | true =>
        simp only [h3, cond_true] at e
        cases h4 : sp_ef s.2 (τ (s.1 + 1 + 1)).2.1 with
        | none => simp only [h4, sp_f] at e; cases e
        | some q =>
          simp only [h4] at e
          cases h5 : sp_bit (s.2.2.1.2.2.2.2 q) (nI p) with
          | true => simp only [h5, cond_true, sp_f] at e; cases e
          | false =>
            simp only [h5, cond_false] at e
            have p4 := sp_tS_lt e
            dsimp only at p4
            omega
theorem sp_snow_lt {τ : sp_T} {s t : sp_S} (e : sp_snow τ s = .inr t) : s.1 < t.1 := by
  unfold sp_snow at e
  cases h1 : s.2.2.2.1.1 with
  | true => simp only [h1, cond_true, sp_f] at e; cases e
  | false =>
    simp only [h1, cond_false] at e
    obtain ⟨u1, e1, e2⟩ := sp_b_inr e
    obtain ⟨u2, e3, e4⟩ := sp_b_inr e2
    have p1 := (sp_sd_inr e1).1
    have p2 := sp_sl_le e3
    have p3 := sp_tS_lt e4
    dsimp only at p1 p2 p3
    omega
theorem sp_goes_lt {τ : sp_T} {s t : sp_S} (e : sp_goes τ s = .inr t) : s.1 < t.1 := by
  unfold sp_goes at e
  cases h1 : s.2.2.2.2.1 with
  | true => simp only [h1, cond_true, sp_f] at e; cases e
  | false =>
    simp only [h1, cond_false] at e
    obtain ⟨u1, e1, e2⟩ := sp_b_inr e
    have p1 := sp_wh_ok (sp_pt_ok 5) _ _ e1
    have p3 := sp_tS_lt e2
    unfold sp_le at p1
    dsimp only at p1 p3
    omega
theorem sp_line_lt {τ : sp_T} {s t : sp_S} (e : sp_line τ s = .inr t) : s.1 < t.1 := by
  unfold sp_line at e
  cases h1 : sp_w τ s.1 1119812451 with
  | true => simp only [h1, cond_true] at e; exact sp_person_lt e
  | false =>
    simp only [h1, cond_false] at e
    cases h2 : sp_w τ s.1 10492554 with
    | true => simp only [h2, cond_true] at e; exact sp_event_lt e
    | false =>
      simp only [h2, cond_false] at e
      cases h3 : sp_w τ s.1 6400279 with
      | true => simp only [h3, cond_true] at e; exact sp_comes_lt e
      | false =>
        simp only [h3, cond_false] at e
        cases h4 : sp_w τ s.1 982151 with
        | true => simp only [h4, cond_true] at e; exact sp_snow_lt e
        | false =>
          simp only [h4, cond_false] at e
          cases h5 : sp_w τ s.1 375310 with
          | true => simp only [h5, cond_true] at e; exact sp_goes_lt e
          | false => simp only [h5, cond_false, sp_f] at e; cases e


