/-! WHAT THE TWO CANTONS LEAVE -/
theorem fd_f_r {x : Int32} (e : fd_f x = true) : 0 ≤ x.toInt ∧ x.toInt ≤ 126 := by
  unfold fd_f at e
  rcases Bool.or_eq_true_iff.mp e with e | e
  · rw [of_decide_eq_true e]
    decide
  · rw [Bool.and_eq_true, Bool.not_eq_true', Bool.not_eq_true'] at e
    have h1 := of_decide_eq_false e.1
    have h2 := of_decide_eq_false e.2
    have h3 := mt Int32.lt_iff_toInt_lt.mpr h1
    have h4 := mt Int32.lt_iff_toInt_lt.mpr h2
    have e1 : (32 : Int32).toInt = 32 := by decide
    have e2 : (126 : Int32).toInt = 126 := by decide
    omega
/-- the class begins anew: now, the week, the history, what is seen, the marks -/
def cnB (c : Nat) (g : am_H) : Prop := (g.1 36 0 = 0 ∧ g.1 36 1 = 0) ∧ (∀ i, i < 6 → g.1 37 i = g.1 (c + 3) i ∧ g.1 38 i = 0) ∧ (∀ i, i < 5 → g.1 39 i = 0 ∧ g.1 40 i = 0) ∧ (∃ w, (w = 28 ∨ w = 32) ∧ g.2.2.1 0 5 = some w ∧ g.1 w 3 = 0) ∧ (g.1 47 2 = 0 ∧ g.1 0 12 = 0 ∧ g.1 0 13 = 31) ∧ (∀ j, j < 4 → g.1 (130 + 6 * j) 0 = 0)
/-- the class's canton: a fault leaves all but the tape and the spare one; else the spare one is told -/
def cnC (T : Nat → Int32) (sz : Nat) (h g : am_H) : Prop := (∃ F, sp_canton (tt T sz) = .inl F ∧ ∃ c d, ((c = 6 ∧ d = 17) ∨ (c = 17 ∧ d = 6)) ∧ h.2.2.1 0 3 = some d ∧ g.2.2 = h.2.2 ∧ ∀ o k, ¬ c_in c o → g.1 o k = h.1 o k ∧ g.2.1 o k = h.2.1 o k) ∨
  (∃ s, sp_canton (tt T sz) = .inr s ∧ ∃ c, (c = 6 ∨ c = 17) ∧ g.2.2.1 0 3 = some c ∧ c_c c s.2 g ∧ cnB c g)
theorem cnC_f {h h1 : am_H} {T : Nat → Int32} {sz c d : Nat} {F : Int32} (hc : (c = 6 ∧ d = 17) ∨ (c = 17 ∧ d = 6)) (ht : h.2.2.1 0 3 = some d) (e : sp_canton (tt T sz) = .inl F) (x : cx h c F h1) : cnC T sz h (am_wI h1 1 1 (Int32.ofInt 0)) := by
  obtain ⟨q1, q2⟩ := x.2.2.1
  exact Or.inl ⟨F, e, c, d, hc, ht, q1, fun o k z => ⟨(em_wn _ _ (fun y => z (Or.inl y.1))).trans (q2 o k z).1, (q2 o k z).2⟩⟩
theorem cnC_s {h h1 g : am_H} {T : Nat → Int32} {sz c d w : Nat} {s : sp_S} (hc : c = 6 ∨ c = 17) (hw : w = 28 ∨ w = 32) (hw5 : h.2.2.1 0 5 = some w) (e : sp_canton (tt T sz) = .inr s) (l : cr h c T sz s h1) (b : bg_t c d w h1 g) : cnC T sz h g := by
  obtain ⟨b1, b2, ⟨b3, b4, b5⟩, ⟨b6, b7, b8, b9⟩, f0, f1, f2, f3⟩ := b
  have q1 := l.2.2.1.1
  have n : ∀ o k, ¬ bg_w o k → ¬ o = 1 → g.1 o k = h1.1 o k := fun o k z z1 => by
    rw [b2 o k z]
    show (am_wI h1 1 1 (Int32.ofInt 0)).1 o k = _
    exact em_wn _ _ (fun y => z1 y.1)
  refine Or.inr ⟨s, e, c, hc, ?_, ?_, ⟨b3, fun i hi => ⟨?_, (b4 i hi).2⟩, b5, ⟨w, hw, ?_, b6⟩, ⟨b7, b8, b9⟩, fun j hj => ?_⟩⟩
  · rw [b1]
    show (if (0 : Nat) = 0 ∧ (3 : Nat) = 3 then some c else (if (0 : Nat) = 0 ∧ (3 : Nat) = 4 then some d else h1.2.2.1 0 3)) = some c
    rfl
  · have hs : c_c c s.2 h1 := l.2.1
    refine c_c_eq (h := h1) (fun o k z1 z2 => ⟨n o k (by unfold bg_w; omega) (by omega), ?_⟩) hs
    rw [b1]
    rfl
  · rw [(b4 i hi).1]
    show (am_wI h1 1 1 (Int32.ofInt 0)).1 (c + 3) i = _
    rw [em_wn _ _ (by omega), n (c + 3) i (by unfold bg_w; omega) (by omega)]
  · rw [b1]
    show (if (0 : Nat) = 0 ∧ (5 : Nat) = 3 then some c else (if (0 : Nat) = 0 ∧ (5 : Nat) = 4 then some d else h1.2.2.1 0 5)) = some w
    have q1 : h1.2.2 = h.2.2 := q1
    rw [q1]
    exact hw5
  · have w : j = 0 ∨ j = 1 ∨ j = 2 ∨ j = 3 := by omega
    rcases w with rfl | rfl | rfl | rfl
    · exact f0
    · exact f1
    · exact f2
    · exact f3
theorem c_14y {h : am_H} {sz : Nat} {T : Nat → Int32} (hI : iv_I h) (hz : sz ≤ 1000) (hch : ∀ q, q < sz → 0 ≤ (T q).toInt ∧ (T q).toInt ≤ 126) (l1 : h.1 1 1 = nI sz) (l2 : ∀ q, q < sz → h.1 2 q = T q) : am_call am_cod 60 14 [.ref 0] h (fun _ g => cnC T sz h g) := by
  obtain ⟨N, hN, hW, hX, ha, hc⟩ := hI
  have hP : ex_P h := ex_G hW.1 hW.2.1
  rcases hc with (c | c) | (c | c)
  · exact am_call.up (c_14F_17w28 c.2.2.1 hP c.2.1 c.1 hz hch l1 l2 (fun F h1 e x => cnC_f (Or.inr ⟨rfl, rfl⟩) c.1 e x) (fun s h1 h2 e l b => cnC_s (Or.inr rfl) (Or.inl rfl) c.2.2.1 e l b)) (by decide)
  · exact am_call.up (c_14F_17w32 c.2.2.1 hP c.2.1 c.1 hz hch l1 l2 (fun F h1 e x => cnC_f (Or.inr ⟨rfl, rfl⟩) c.1 e x) (fun s h1 h2 e l b => cnC_s (Or.inr rfl) (Or.inr rfl) c.2.2.1 e l b)) (by decide)
  · exact am_call.up (c_14F_6w28 c.2.2.1 hP c.2.1 c.1 hz hch l1 l2 (fun F h1 e x => cnC_f (Or.inl ⟨rfl, rfl⟩) c.1 e x) (fun s h1 h2 e l b => cnC_s (Or.inl rfl) (Or.inl rfl) c.2.2.1 e l b)) (by decide)
  · exact am_call.up (c_14F_6w32 c.2.2.1 hP c.2.1 c.1 hz hch l1 l2 (fun F h1 e x => cnC_f (Or.inl ⟨rfl, rfl⟩) c.1 e x) (fun s h1 h2 e l b => cnC_s (Or.inl rfl) (Or.inr rfl) c.2.2.1 e l b)) (by decide)
/-- the reference's names told are those of C -/
theorem cnN {hA g h' : am_H} {p e P : Nat} {C : sp_C} (hC : C.1.1 ≤ 6 ∧ C.2.1.1 ≤ 5) (l : rcN C hA) (hz : hA.1 154 19 = nI (p + e)) (q : cqF hA P (p + e) g) (b : bR p e g h') : rkN C h' := by
  obtain ⟨l1, l2, l3, l4, l5⟩ := l
  have hle : C.1.1 + C.2.1.1 ≤ p + e := by
    rcases Nat.lt_or_ge (p + e) 1000 with w | w
    · have := nI_inj2 (by omega) (by omega) (l1.symm.trans hz)
      omega
    · omega
  have e1 : ∀ k, k < C.1.1 + C.2.1.1 → h'.1 165 k = hA.1 166 k ∧ h'.2.1 163 k = hA.2.1 164 k := fun k hk => ⟨(b.2.1 165 k (by omega)).trans (q.2.2.2.1 k (by omega)).2, by rw [b.1]; exact (q.2.2.2.1 k (by omega)).1⟩
  refine ⟨(b.2.1 154 18 (by omega)).trans (q.2.2.2.2.trans (hz.symm.trans l1)), fun k hk => ?_, fun i hi => ?_, fun i hi => ?_, fun a a' ha hb ee => l5 a a' ha hb (by rw [← (e1 a ha).2, ← (e1 a' hb).2]; exact ee)⟩
  · rw [(e1 k hk).1, (e1 k hk).2]; exact l2 k hk
  · obtain ⟨k, h1, h2, h3⟩ := l3 i hi
    exact ⟨k, h1, by rw [(e1 k h1).1]; exact h2, by rw [(e1 k h1).2]; exact h3⟩
  · obtain ⟨k, h1, h2, h3⟩ := l4 i hi
    exact ⟨k, h1, by rw [(e1 k h1).1]; exact h2, by rw [(e1 k h1).2]; exact h3⟩
/-- the reference begins anew -/
def cnS (C : sp_C) (g : am_H) : Prop := (∀ k, k < 24 → g.1 170 k = if 2 ≤ k ∧ k < 2 + C.1.1 then C.1.2.2.2 (k - 2) else 0) ∧ g.1 170 24 = 0 ∧ g.1 167 0 = 0 ∧ g.1 154 25 = 0 ∧ (∀ m, m < 4 → g.1 171 m = 0) ∧ (∀ e, e < C.2.1.1 → g.1 172 e = C.2.1.2.2.1 e)
/-- the class's cells -/
def kr_C : ag_M := kr_Q.filter (fun r => Nat.blt r.1 154 || Nat.beq r.1 3000000)
def kr_R : ag_M := kr_Q.filter (fun r => Nat.ble 154 r.1 && Nat.blt r.1 200)
def cnR (τ : sp_T) (h g : am_H) : Prop := kr kr_C h g ∧ ((∃ F, sp_canton τ = .inl F ∧ kr kr_R h g) ∨ (∃ s, sp_canton τ = .inr s ∧ tR s.2 g ∧ rkN s.2 g ∧ cnS s.2 g))
theorem kr_t {R : ag_M} {h h1 h2 : am_H} (a : kr R h h1) (b : kr R h1 h2) : kr R h h2 := fun o k e => ⟨(b o k e).1.trans (a o k e).1, (b o k e).2.1.trans (a o k e).2.1, (b o k e).2.2.trans (a o k e).2.2⟩
/-- the reference's words stand -/
def jw (h : am_H) : Prop := ∀ w, w < 21 → h.2.1 159 w = rw_w w
theorem kr_b {p e : Nat} {g h' : am_H} (b : bR p e g h') : kr kr_C g h' := fun o k w => by
  have ho : o < 154 ∨ o = 3000000 := by
    unfold ag_atM at w
    obtain ⟨m, m1, m2⟩ := List.any_eq_true.mp w
    have m2 : (Nat.beq m.1 o && (Nat.ble m.2.1 k && Nat.ble k m.2.2)) = true := m2
    rw [Bool.and_eq_true] at m2
    have e1 := Nat.eq_of_beq_eq_true m2.1
    have := (List.mem_filter.mp m1).2
    rcases Bool.or_eq_true_iff.mp this with z | z
    · have := Nat.le_of_ble_eq_true z
      omega
    · have := Nat.eq_of_beq_eq_true z
      omega
  exact ⟨b.2.1 o k (by omega), by rw [b.1], by rw [b.1]⟩
theorem cn_t {hA g h' : am_H} {p e c' : Nat} {z : Nat} {C : sp_C} (l : rc z C hA) (hz : z = (bif C.2.2.2.1 then 1 else 0)) (hp : hA.1 160 40 = nI p) (he : hA.1 160 41 = nI e) (hpe : hA.1 154 19 = nI (p + e)) (hb : p ≤ 6 ∧ e ≤ 5) (hl : C.2.2.2.2.1 ≤ 1000) (hc : hA.1 154 13 = nI c') (q : cqF hA c' (p + e) g) (b : bR p e g h') : tR C h' ∧ rkN C h' ∧ cnS C h' := by
  obtain ⟨⟨p1, p2, p3⟩, ⟨e1, e2, e3⟩, lB, ⟨s1, s2⟩, lO, ⟨l1, l2, l3, l4, l5⟩, lN⟩ := l
  have n160 : ∀ j, j < 40 → h'.1 160 j = hA.1 160 (40 + j) := fun j hj => (b.2.1 160 j (by omega)).trans (q.2.1 j hj)
  have hcc : C.2.2.2.2.1 + z ≤ c' := by
    rcases Nat.lt_or_ge c' 4000 with w | w
    · have hz1 : z ≤ 1 := by
        rw [hz]
        cases C.2.2.2.1 <;> decide
      have := nI_inj2 (by omega) (by omega) (l1.symm.trans hc)
      omega
    · have hz1 : z ≤ 1 := by
        rw [hz]
        cases C.2.2.2.1 <;> decide
      omega
  have n161 : ∀ j, j < c' → h'.1 161 j = hA.1 161 (1100 + j) ∧ h'.1 162 j = hA.1 162 (1100 + j) := fun j hj => ⟨(b.2.1 161 j (by omega)).trans (q.2.2.1 j hj).1, (b.2.1 162 j (by omega)).trans (q.2.2.1 j hj).2⟩
  have P : nI p = nI C.1.1 := hp.symm.trans p1
  have E : nI e = nI C.2.1.1 := he.symm.trans e1
  have hP : p = C.1.1 := nI_inj2 (by omega) (by omega) P
  have hE : e = C.2.1.1 := nI_inj2 (by omega) (by omega) E
  refine ⟨⟨⟨?_, p2, fun i hi => ?_⟩, ⟨?_, e2, fun i hi => ?_⟩, fun i j hi hj => ?_, ⟨?_, s2⟩, hl, fun j hj => ?_, fun w => ?_, l4, ?_⟩, cnN ⟨p2, e2⟩ lN hpe q b, ?_⟩
  · rw [n160 0 (by omega)]; exact p1
  · have hi : i < C.1.1 := hi
    rw [n160 (4 + 3 * i) (by omega), n160 (5 + 3 * i) (by omega), show 40 + (4 + 3 * i) = 44 + 3 * i by omega, show 40 + (5 + 3 * i) = 45 + 3 * i by omega]; exact p3 i hi
  · rw [n160 1 (by omega)]; exact e1
  · have hi : i < C.2.1.1 := hi
    rw [n160 (22 + 2 * i) (by omega), n160 (23 + 2 * i) (by omega), show 40 + (22 + 2 * i) = 62 + 2 * i by omega, show 40 + (23 + 2 * i) = 63 + 2 * i by omega]; exact e3 i hi
  · rw [n160 (6 + 3 * i) (by omega), show 40 + (6 + 3 * i) = 46 + 3 * i by omega]; exact lB i j hi hj
  · rw [n160 2 (by omega)]; exact s1
  · have hj : j < C.2.2.2.2.1 := hj
    rw [(n161 j (by omega)).1, (n161 j (by omega)).2]; exact l2 j hj
  · have hz1 : z = 1 := by rw [hz, w]; rfl
    rw [(n161 (dM C) (show C.2.2.2.2.1 < c' by omega)).1]
    exact l3 hz1
  · rw [n160 3 (by omega)]; exact l5
  · obtain ⟨-, -, ⟨b3, b4⟩, b5, b6, b7, b8⟩ := b
    refine ⟨fun k hk => ?_, b4, b5, b6, b7, fun e' he' => ?_⟩
    · rw [b3 k hk]
      unfold bs_v
      rw [hP]
      by_cases w : 2 ≤ k ∧ k < 2 + C.1.1
      · rw [if_pos w, if_pos w, q.2.1 _ (by omega), show 40 + (5 + 3 * (k - 2)) = 45 + 3 * (k - 2) by omega]
        exact (p3 (k - 2) (by omega)).2
      · rw [if_neg w, if_neg w]
    · rw [b8 e' (by omega), q.2.1 _ (by omega), show 40 + (22 + 2 * e') = 62 + 2 * e' by omega]
      exact (e3 e' he').1
theorem c_188y {h : am_H} {sz : Nat} (hI : iv_I h) (hb : h.2.2.2.1 ≤ 4096) (hj : jw h) (hz : sz ≤ 1000) (l1 : h.1 154 2 = nI sz) : am_call am_cod 60 188 [.ref 154] h (fun _ g => cnR (tt (h.1 155) sz) h g) := by
  obtain ⟨N, a, c, hP⟩ := pz_iv hI
  exact am_call.up (rf_canton (Q := fun _ g => cnR (tt (h.1 155) sz) h g) hb l1 hz hj hP (fun N' a' c' g F e _ _ f => ⟨kr_of (by decide +kernel) f, Or.inl ⟨F, e, kr_of (by decide +kernel) f⟩⟩) (fun N' a' c' p e s h6 hA g0 g er hpe _ _ f rl l q b => by
    obtain ⟨t1, t2, t3⟩ := cn_t (hA := hA) (g := g0) (h' := g) rl.2.1 rfl l.2.2.2.1 l.2.2.2.2.1 l.2.2.2.2.2.1 hpe (Nat.le_trans rl.2.2.2 (Nat.le_trans rl.1.2.1.2 rl.1.1.2.1)) l.1.2.2.2.2.2.1 q b
    exact ⟨kr_t (kr_of (by decide +kernel) f) (kr_t (kr_of (by decide +kernel) q.1) (kr_b b)), Or.inr ⟨s, er, t1, t2, t3⟩⟩)) (by decide)
