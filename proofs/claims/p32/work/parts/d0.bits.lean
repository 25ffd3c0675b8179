section
/-! BITS GATHERED PERSON BY PERSON -/
theorem b65 (x y : Int32) : (d_65 x y = 0) ↔ ¬ ((x >>> (y &&& 31)) &&& (Int32.ofInt 1)) = (Int32.ofInt 1) := by
  rw [d_65_b, bit_1]
  cases sp_bit x y <;> decide
theorem b6_eq {x y : Int32} {P : Nat} (h6 : P ≤ 6) (hx : bN x < 2 ^ P) (hy : bN y < 2 ^ P) (hb : ∀ e, e < P → sp_bit x (nI e) = sp_bit y (nI e)) : x = y := by
  refine bN_inj (Nat.eq_of_testBit_eq fun i => ?_)
  by_cases hi : i < P
  · rw [← sp_bit_tg (by omega), ← sp_bit_tg (by omega)]
    exact hb i hi
  · have h2 : 2 ^ P ≤ 2 ^ i := Nat.pow_le_pow_right (show 2 > 0 by decide) (by omega)
    rw [Nat.testBit_lt_two_pow (Nat.lt_of_lt_of_le hx h2), Nat.testBit_lt_two_pow (Nat.lt_of_lt_of_le hy h2)]
theorem d_229_b {C : sp_C} {p q : Nat} (h5 : dE C ≤ 5) (hq : q < dE C) : (d_229 C p (nI q) = 0) ↔ sp_bit (dG C q) (nI p) = false := by
  unfold d_229
  have hB := (dB_b (C := C) (p := p) h5).2 q (by omega)
  rw [decide_eq_true hq, Bool.true_and] at hB
  by_cases h : ((dB C p) >>> ((nI q) &&& 31)) &&& (Int32.ofInt 1) = Int32.ofInt 1
  · rw [if_neg (fun z => z h)]
    have := (bit_1 _ _).mp h
    rw [hB] at this
    rw [this]
    exact ⟨fun z => absurd z (by decide), fun z => by cases z⟩
  · rw [if_pos h]
    refine ⟨fun _ => ?_, fun _ => rfl⟩
    cases hx : sp_bit (dG C q) (nI p) with
    | false => rfl
    | true => exact absurd ((bit_1 _ _).mpr (hB.trans hx)) h
/-- those of k .. k + m - 1 for which c is so, into a -/
def fo (c : Nat → Bool) : Nat → Nat → Int32 → Int32
  | 0, _, a => a
  | m + 1, k, a => fo c m (k + 1) (if c k = true then a ||| ((Int32.ofInt 1) <<< ((nI k) &&& 31)) else a)
theorem fo_b {c : Nat → Bool} : ∀ (m k : Nat) (a : Int32), k + m ≤ 6 → bN a < 2 ^ k → bN (fo c m k a) < 2 ^ (k + m) ∧ ∀ p, p < 6 → sp_bit (fo c m k a) (nI p) = (sp_bit a (nI p) || (decide (k ≤ p ∧ p < k + m) && c p)) := by
  intro m
  induction m with
  | zero =>
    intro k a hk ha
    refine ⟨ha, fun p hp => ?_⟩
    rw [decide_eq_false (by omega), Bool.false_and, Bool.or_false]
    rfl
  | succ m ih =>
    intro k a hk ha
    have h2 : 2 ^ k ≤ 2 ^ (k + 1) := Nat.pow_le_pow_right (show 2 > 0 by decide) (by omega)
    rw [fo, show k + (m + 1) = k + 1 + m by omega]
    cases hc : c k with
    | true =>
      rw [if_pos rfl]
      obtain ⟨i1, i2⟩ := ih (k + 1) (a ||| ((Int32.ofInt 1) <<< ((nI k) &&& 31))) (by omega) (by
        rw [bN_or, bN_1s (by omega)]
        exact Nat.or_lt_two_pow (Nat.lt_of_lt_of_le ha h2) (Nat.pow_lt_pow_right (by decide) (by omega)))
      refine ⟨i1, fun p hp => ?_⟩
      rw [i2 p hp, bit_or (by omega) (by omega)]
      by_cases ek : p = k
      · rw [ek, hc, decide_eq_true rfl, decide_eq_true (show k ≤ k ∧ k < k + 1 + m by omega)]
        simp only [Bool.or_true, Bool.true_or, Bool.and_true]
      · rw [decide_eq_false (fun w => ek w.symm), Bool.or_false, show decide (k + 1 ≤ p ∧ p < k + 1 + m) = decide (k ≤ p ∧ p < k + 1 + m) from decide_eq_decide.mpr (by omega)]
    | false =>
      rw [if_neg (by decide)]
      obtain ⟨i1, i2⟩ := ih (k + 1) a (by omega) (Nat.lt_of_lt_of_le ha h2)
      refine ⟨i1, fun p hp => ?_⟩
      rw [i2 p hp]
      by_cases ek : p = k
      · rw [ek, hc, Bool.and_false, Bool.and_false]
      · rw [show decide (k + 1 ≤ p ∧ p < k + 1 + m) = decide (k ≤ p ∧ p < k + 1 + m) from decide_eq_decide.mpr (by omega)]
theorem fo_0 {c : Nat → Bool} {P : Nat} (h6 : P ≤ 6) : bN (fo c P 0 (Int32.ofInt 0)) < 2 ^ P ∧ ∀ p, p < P → sp_bit (fo c P 0 (Int32.ofInt 0)) (nI p) = c p := by
  obtain ⟨i1, i2⟩ := fo_b (c := c) P 0 (Int32.ofInt 0) (by omega) (by decide)
  rw [Nat.zero_add] at i1
  refine ⟨i1, fun p hp => ?_⟩
  have key : ∀ e, e < 6 → sp_bit (Int32.ofInt 0) (nI e) = false := by decide +kernel
  rw [i2 p (by omega), key p (by omega), Bool.false_or, decide_eq_true (by omega), Bool.true_and]
/-- who is to come, as the reference gathers it -/
theorem inv_f {C : sp_C} {q : Nat} (h5 : dE C ≤ 5) (hq : q < dE C) : ∀ (m k : Nat) (a : Int32), d_228_4 C (nI q) m k a = fo (fun p => sp_bit (dG C q) (nI p)) m k a := by
  intro m
  induction m with
  | zero => exact fun _ _ => rfl
  | succ m ih =>
    intro k a
    rw [d_228_4, fo]
    by_cases e : d_229 C k (nI q) = 0
    · rw [if_pos e, or0]
      have e2 : sp_bit (dG C q) (nI k) = false := (d_229_b h5 hq).mp e
      rw [e2, if_neg (by decide)]
      exact ih _ _
    · rw [if_neg e]
      have e2 : sp_bit (dG C q) (nI k) = true := by
        cases hx : sp_bit (dG C q) (nI k) with
        | true => rfl
        | false => exact absurd ((d_229_b h5 hq).mpr hx) e
      rw [e2, if_pos rfl]
      exact ih _ _
theorem inv_e {C : sp_C} {q : Nat} (hc : cI C) (hq : q < dE C) : d_228 C (nI q) = dG C q := by
  have h6 := hc.1.1
  have h5 := hc.1.2
  obtain ⟨i1, i2⟩ := fo_0 (c := fun p => sp_bit (dG C q) (nI p)) h6
  refine b6_eq h6 (x := d_228 C (nI q)) ?_ (hc.2.2.1 q hq).2.2 (fun p hp => ?_)
  · unfold d_228
    rw [inv_f h5 hq]
    exact i1
  · unfold d_228
    rw [inv_f h5 hq]
    exact i2 p hp
/-- the next day of both is one -/
theorem nx_e {C : sp_C} {D : Nat} {s : dS} (hc : cI C) (hs : sI C D s) (hD : D ≤ 4100) : d_233 C C s = d_118 C s ∧ d_233_s C C s = d_118_s C s := by
  have w := day_e (V := C) hc hs hD (fun _ _ => rfl) (d_224_01 C (s.1 + Int32.ofInt 1))
  unfold d_233 d_233_s d_118 d_118_s
  rw [d_68_e]
  exact w
theorem nx_s {C : sp_C} {D : Nat} {s : dS} (hc : cI C) (hs : sI C D s) : sI C (D + 1) (d_118_s C s) := sI_day hc hs
end
section
/-! HELD SO OFTEN AT MOST, MET BOTH WAYS -/
def sJ (C : sp_C) (D : Nat) (s : dS) : Prop := (∀ e, e < dE C → ∃ n, n ≤ D ∧ s.2.2.2.2.1 e = nI n) ∧ ∀ p q, p < 6 → q < 6 → sp_bit (s.2.2.2.1 p) (nI q) = sp_bit (s.2.2.2.1 q) (nI p)
theorem sJ_up {C : sp_C} {D E : Nat} {s : dS} (h : D ≤ E) (l : sJ C D s) : sJ C E s := ⟨fun e he => by
  obtain ⟨n, h1, h2⟩ := l.1 e he
  exact ⟨n, by omega, h2⟩, l.2⟩
theorem xm_k : ∀ i, i < 6 → ∀ q, q < 6 → ∀ x, x < 64 → sp_bit (nI x &&& (((Int32.ofInt 1) <<< ((nI i) &&& 31)) ^^^ (Int32.ofInt (-1)))) (nI q) = (sp_bit (nI x) (nI q) && !decide (q = i)) := by decide +kernel
theorem xm_b {x : Int32} {i q : Nat} (hx : bN x < 64) (hi : i < 6) (hq : q < 6) : sp_bit (x &&& (((Int32.ofInt 1) <<< ((nI i) &&& 31)) ^^^ (Int32.ofInt (-1)))) (nI q) = (sp_bit x (nI q) && !decide (q = i)) := by
  have w := xm_k i hi q hq (bN x) hx
  rw [← nI_bN hx (by decide)] at w
  exact w
theorem bor_e {x y : Int32} {e : Nat} (he : e < 28) : sp_bit (x ||| y) (nI e) = (sp_bit x (nI e) || sp_bit y (nI e)) := by
  rw [sp_bit_tg he, bN_or, Nat.testBit_or, ← sp_bit_tg he, ← sp_bit_tg he]
/-- whom one has met behind a meeting of x -/
theorem mt_b {s : dS} {x : Int32} (hx : bN x < 64) {p q : Nat} (hp : p < 6) (hq : q < 6) : sp_bit ((d_108_s s x).2.2.2.1 p) (nI q) = (sp_bit (s.2.2.2.1 p) (nI q) || (sp_bit x (nI p) && (sp_bit x (nI q) && !decide (q = p)))) := by
  unfold d_108_s
  rw [in108]
  show sp_bit (if 0 ≤ p ∧ p < 0 + 6 ∧ sp_bit x (nI p) = true then _ else _) (nI q) = _
  by_cases hb : sp_bit x (nI p) = true
  · rw [if_pos ⟨by omega, by omega, hb⟩, bor_e (by omega), xm_b hx hp hq, hb, Bool.true_and]
  · rw [if_neg (fun z => hb z.2.2), Bool.eq_false_iff.mpr hb, Bool.false_and, Bool.or_false]
theorem sJ_m {C : sp_C} {s : dS} {x : Int32} (hx : bN x < 64) (hs : ∀ p q, p < 6 → q < 6 → sp_bit (s.2.2.2.1 p) (nI q) = sp_bit (s.2.2.2.1 q) (nI p)) : ∀ p q, p < 6 → q < 6 → sp_bit ((d_108_s s x).2.2.2.1 p) (nI q) = sp_bit ((d_108_s s x).2.2.2.1 q) (nI p) := fun p q hp hq => by
  rw [mt_b hx hp hq, mt_b hx hq hp, hs p q hp hq]
  by_cases e : q = p
  · rw [e]
  · rw [decide_eq_false e, decide_eq_false (fun w => e w.symm)]
    cases sp_bit x (nI p) <;> cases sp_bit x (nI q) <;> rfl
theorem sJ_100 {C : sp_C} {D : Nat} (h6 : dP C ≤ 6) (h5 : dE C ≤ 5) : ∀ (m k : Nat) (a : Int32) (s : dS), k + m = dE C → (∀ e, bN (s.2.2.2.2.2 e) < 2 ^ dP C) → (∀ e, e < k → ∃ n, n ≤ D + 1 ∧ s.2.2.2.2.1 e = nI n) → (∀ e, k ≤ e → e < dE C → ∃ n, n ≤ D ∧ s.2.2.2.2.1 e = nI n) → (∀ p q, p < 6 → q < 6 → sp_bit (s.2.2.2.1 p) (nI q) = sp_bit (s.2.2.2.1 q) (nI p)) → sJ C (D + 1) (d_100_21 C m k a s).2 := by
  intro m
  induction m with
  | zero => exact fun k a s hk _ h1 _ h3 => ⟨fun e he => h1 e (by omega), h3⟩
  | succ m ih =>
    intro k a s hk h0 h1 h2 h3
    have hx : bN (s.2.2.2.2.2 k) < 64 := Nat.lt_of_lt_of_le (h0 k) (p64 h6)
    have m3 := sJ_m (C := C) (s := s) hx h3
    have eh : (d_108_s s (s.2.2.2.2.2 k)).2.2.2.2.1 = s.2.2.2.2.1 := by unfold d_108_s; rw [in108]
    have ea : (d_108_s s (s.2.2.2.2.2 k)).2.2.2.2.2 = s.2.2.2.2.2 := by unfold d_108_s; rw [in108]
    rw [d_100_21]
    by_cases hn : (d_69 ((d_108_s s (s.2.2.2.2.2 k)).2.2.2.2.2 k)) < (dN C k)
    · rw [if_pos hn]
      refine ih (k + 1) _ _ (by omega) (by rw [ea]; exact h0) (fun e he => ?_) (fun e he1 he2 => ?_) m3
      · rw [eh]
        by_cases ek : e = k
        · obtain ⟨n, n1, n2⟩ := h2 e (by omega) (by omega)
          exact ⟨n, by omega, n2⟩
        · exact h1 e (by omega)
      · rw [eh]
        exact h2 e (by omega) he2
    · rw [if_neg hn]
      refine ih (k + 1) _ _ (by omega) (by show ∀ e, bN ((d_108_s s (s.2.2.2.2.2 k)).2.2.2.2.2 e) < _; rw [ea]; exact h0) (fun e he => ?_) (fun e he1 he2 => ?_) m3
      · show ∃ n, n ≤ D + 1 ∧ (if e = k then (d_108_s s (s.2.2.2.2.2 k)).2.2.2.2.1 k + Int32.ofInt 1 else (d_108_s s (s.2.2.2.2.2 k)).2.2.2.2.1 e) = nI n
        rw [eh]
        by_cases ek : e = k
        · obtain ⟨n, n1, n2⟩ := h2 k (by omega) (by omega)
          exact ⟨n + 1, by omega, by rw [if_pos ek, n2, xw_i1]⟩
        · rw [if_neg ek]
          exact h1 e (by omega)
      · show ∃ n, n ≤ D ∧ (if e = k then (d_108_s s (s.2.2.2.2.2 k)).2.2.2.2.1 k + Int32.ofInt 1 else (d_108_s s (s.2.2.2.2.2 k)).2.2.2.2.1 e) = nI n
        rw [eh, if_neg (by omega)]
        exact h2 e (by omega) he2
theorem sJ_day {C : sp_C} {D E : Nat} {s : dS} {w : Int32} (hc : cI C) (hs : sI C E s) (hj : sJ C D s) : sJ C (D + 1) (d_100_s C s w) := by
  have h6 := hc.1.1
  have h5 := hc.1.2
  have z : bN (Int32.ofInt 0) < 2 ^ dP C := by
    rw [show bN (Int32.ofInt 0) = 0 by decide]
    exact Nat.two_pow_pos _
  unfold d_100_s d_101_s
  rw [in25, in2]
  refine sJ_100 h6 h5 (dE C) 0 _ _ (by omega) (fun e => ?_) (fun e he => absurd he (Nat.not_lt_zero e)) (fun e _ he => hj.1 e he) hj.2
  show bN (if e < dE C then cf C _ w e (dP C) 0 (if 0 ≤ e ∧ e < 0 + dE C then Int32.ofInt 0 else _) else (if 0 ≤ e ∧ e < 0 + dE C then Int32.ofInt 0 else (sSD s _).2.2.2.2.2 e)) < 2 ^ dP C
  by_cases he : e < dE C
  · rw [if_pos he, if_pos (by omega)]
    exact cf_lt h6 h5 he _ _ _ (by omega) z
  · rw [if_neg he, if_neg (by omega)]
    exact hs.2.2.2.2 e
theorem sJ_00 {C : sp_C} {D : Nat} {f : Nat → Int32} : sJ C D (s00 f) := ⟨fun e _ => ⟨0, Nat.zero_le _, rfl⟩, fun p q hp hq => by
  have key : ∀ p, p < 6 → ∀ q, q < 6 → sp_bit (0 : Int32) (nI q) = sp_bit (0 : Int32) (nI p) := by decide +kernel
  exact key p hp q hq⟩
def KJ (C : sp_C) (D : Nat) (s : dS) (H : dH) (M : dMk) : Prop := sJ C D s ∧ (∀ j, j < H.1 → sJ C D (H.2 j)) ∧ ∀ m, m < 4 → M.1 m = true → sJ C D (M.2.1 m)
def KJf (C : sp_C) (D : Nat) (f : dF) : Prop := KJ C D f.2.1 f.2.2.1 f.2.2.2.1
theorem KJ_up {C : sp_C} {D E : Nat} {s : dS} {H : dH} {M : dMk} (h : D ≤ E) (l : KJ C D s H M) : KJ C E s H M := ⟨sJ_up h l.1, fun j hj => sJ_up h (l.2.1 j hj), fun m hm z => sJ_up h (l.2.2 m hm z)⟩
theorem K_cn2 {D : Nat} {T : Nat → Int32} {sz : Nat} {h g g2 : am_H} {C : sp_C} {s : dS} {H : dH} {M : dMk} {x : Nat} (i : KI C D s H M x) (kj : KJ C D s H M) (p : cnC T sz h g) (k : kr kr_14 h g) (r : cnR (tt T sz) g g2) (j1 : KC C s H M x h) (j2 : KR C s H M x h) : ∃ C' s' H' M' x', KI C' D s' H' M' x' ∧ KJ C' D s' H' M' ∧ KC C' s' H' M' x' g2 ∧ KR C' s' H' M' x' g2 := by
  have j2g := KR_k j2 (kr_sub (by decide +kernel) k)
  rcases p with ⟨F, e, c, d, hc, ht, e2, w⟩ | ⟨s1, e, c, hc, ht, l, b⟩
  · rcases r.2 with ⟨F', e', w'⟩ | ⟨s', e', w'⟩
    · obtain ⟨d', c1, c2, c3, c4, c5, c6, c7, c8⟩ := j1
      have eb : d' = d := Option.some.inj (c2.symm.trans ht)
      subst eb
      have w1 : ∀ a q, ¬ a = 1 → ¬ (c ≤ a ∧ a ≤ c + 10) → g.1 a q = h.1 a q := fun a q n1 n2 => (w a q (by unfold c_in; omega)).1
      have jg : KC C s H M x g := ⟨d', c1, by rw [e2]; exact c2, c_v_q hc w c3, fun q hq => (w1 _ _ (by omega) (by omega)).trans (c4 q hq), sC_fr (fun a q u1 u2 => w1 a q (by omega) (by omega)) c5, hC_fr (fun a q u1 u2 => w1 a q (by omega) (by omega)) c6, mC_fr (fun a q u1 u2 => w1 a q (by omega) (by omega)) c7, (w1 _ _ (by omega) (by omega)).trans c8⟩
      exact ⟨C, s, H, M, x, i, kj, KC_k jg (kr_sub (by decide +kernel) r.1), KR_k j2g (kr_sub (by decide +kernel) w')⟩
    · rw [e] at e'
      cases e'
  · rcases r.2 with ⟨F', e', w'⟩ | ⟨s', e', w1, -, w3⟩
    · rw [e] at e'
      cases e'
    · rw [e] at e'
      cases e'
      obtain ⟨b1, b2, b3, ⟨ww, -, -, -⟩, ⟨b5, b6, -⟩, b8⟩ := b
      obtain ⟨-, -, -, -, -, -, ⟨-, -, q, hq, hq1, -⟩, -, -⟩ := j1
      obtain ⟨lv, ld⟩ := c_c_v l
      have hcI := cI_canton e
      have hf : ∀ p, p < dP s1.2 → g.1 37 p = dL s1.2 p := fun p hp => (b2 p (by have := hcI.1.1; omega)).1.trans (lv.1.2.2 p hp).2
      have jg : KC s1.2 (s00 (g.1 37)) (0, fun _ => s00 (g.1 37)) (fun _ => false, fun _ => s00 (g.1 37), fun _ => 0) 0 g := ⟨c, hc, ht, lv, ld, ⟨b1, fun i hi => ⟨rfl, (b2 i hi).2⟩, b3⟩, ⟨Nat.zero_le _, b5, q, hq, (kc (a := 1) (b := 1) (by decide +kernel) k (by decide) (by decide)).trans hq1, fun j hj => absurd hj (Nat.not_lt_zero j)⟩, fun m hm => ⟨b8 m hm, fun z => by cases z⟩, b6⟩
      obtain ⟨v1, v2, v3, v4, v5, v6⟩ := w3
      have h6 := hcI.1.1
      refine ⟨s1.2, s00 (g.1 37), (0, fun _ => s00 (g.1 37)), (fun _ => false, fun _ => s00 (g.1 37), fun _ => 0), 0, ⟨hcI, sI_00 hcI hf, fun j hj => absurd hj (Nat.not_lt_zero j), fun m hm z => (by cases z), Nat.zero_le _⟩, ⟨sJ_00, fun j hj => absurd hj (Nat.not_lt_zero j), fun m hm z => (by cases z)⟩, KC_k jg (kr_sub (by decide +kernel) r.1), w1, v6, ⟨⟨?_, ?_⟩, fun i hi => ?_, fun i hi => ?_, fun i hi => ⟨?_, ?_⟩⟩, ⟨Nat.zero_le _, v4, fun j hj => absurd hj (Nat.not_lt_zero j)⟩, fun m hm => ⟨v5 m hm, fun z => by cases z⟩, v2⟩
      · rw [v1 _ (by omega), if_neg (by omega)]; rfl
      · rw [v1 _ (by omega), if_neg (by omega)]; rfl
      · have hi' : i < s1.2.1.1 := hi
        rw [v1 _ (by omega), if_pos (by omega)]
        show dL s1.2 (0 + 2 + i - 2) = g.1 37 i
        rw [show 0 + 2 + i - 2 = i by omega, hf i hi]
      · rw [v1 _ (by omega), if_neg (by have : s1.2.1.1 ≤ 6 := h6; omega)]; rfl
      · rw [v1 _ (by omega), if_neg (by have : s1.2.1.1 ≤ 6 := h6; omega)]; rfl
      · rw [v1 _ (by omega), if_neg (by have : s1.2.1.1 ≤ 6 := h6; omega)]; rfl
theorem K_s2 {ρ : Nat → Int32} {h : am_H} (hR : ae_R ρ 0 ae_H0 h) : ∃ C s H M x, KI C 0 s H M x ∧ KJ C 0 s H M ∧ KC C s H M x h ∧ KR C s H M x h := by
  have z : ∀ o k, o < 175 → ¬ (o = 0 ∧ k = 13) → ¬ (o = 160 ∧ k = 3) → h.1 o k = 0 := fun o k h1 h2 h3 => by
    rcases iv_int (k := k) hR h1 with ⟨w, -, -⟩ | ⟨w1, w2, -⟩ | ⟨w1, w2, -⟩
    · exact w
    · exact absurd ⟨w1, w2⟩ h2
    · exact absurd ⟨w1, w2⟩ h3
  have y3 : h.1 160 3 = Int32.ofInt (-1) := by
    rcases iv_int (o := 160) (k := 3) hR (by decide) with ⟨-, -, w⟩ | ⟨w, -, -⟩ | ⟨-, -, w⟩
    · exact absurd ⟨rfl, rfl⟩ w
    · exact absurd w (by decide)
    · rw [w]; rfl
  have n : ∀ i, ¬ i < 0 := Nat.not_lt_zero
  have cv : c_v 6 sp_C0 h := ⟨⟨z 6 0 (by decide) (by decide) (by decide), by decide, fun i hi => absurd hi (n i)⟩, ⟨z 6 4 (by decide) (by decide) (by decide), by decide, fun i hi => absurd hi (n i)⟩, ⟨z 6 10 (by decide) (by decide) (by decide), fun _ => rfl, (by show sp_28 0; unfold sp_28; decide)⟩, z 14 2 (by decide) (by decide) (by decide), by decide, fun i hi => absurd hi (n i)⟩
  have ct : tR sp_C0 h := ⟨⟨z 160 0 (by decide) (by decide) (by decide), by decide, fun i hi => absurd hi (n i)⟩, ⟨z 160 1 (by decide) (by decide) (by decide), by decide, fun i hi => absurd hi (n i)⟩, fun p e hp he => (by
    rw [z 160 (6 + 3 * p) (by decide) (by omega) (by omega)]
    refine ⟨?_, by decide⟩
    have key : ∀ e, e < 5 → sp_bit 0 (nI e) = false := by decide +kernel
    rw [key e he]
    show false = (decide (e < 0) && _)
    rw [decide_eq_false (n e)]
    rfl), ⟨z 160 2 (by decide) (by decide) (by decide), fun _ => rfl, (by show sp_28 0; unfold sp_28; decide)⟩, by decide, fun j hj => absurd hj (n j), fun w => absurd w (by decide), fun _ => rfl, y3⟩
  refine ⟨sp_C0, s00 (fun _ => 0), (0, fun _ => s00 (fun _ => 0)), (fun _ => false, fun _ => s00 (fun _ => 0), fun _ => 0), 0, ⟨cI_0, sI_00 cI_0 (fun p hp => absurd hp (n p)), fun j hj => absurd hj (n j), fun m hm w => (by cases w), Nat.zero_le _⟩, ⟨sJ_00, fun j hj => absurd hj (n j), fun m hm w => (by cases w)⟩, ⟨6, Or.inl rfl, (iv_c0 hR).1, cv, fun i hi => absurd hi (n i), ⟨⟨z _ _ (by decide) (by decide) (by decide), z _ _ (by decide) (by decide) (by decide)⟩, fun i hi => ⟨z _ _ (by decide) (by omega) (by omega), z _ _ (by decide) (by omega) (by omega)⟩, fun i hi => ⟨z _ _ (by decide) (by omega) (by omega), z _ _ (by decide) (by omega) (by omega)⟩⟩, ⟨Nat.zero_le _, z _ _ (by decide) (by decide) (by decide), 0, by decide, z _ _ (by decide) (by decide) (by decide), fun j hj => absurd hj (n j)⟩, fun m hm => ⟨z _ _ (by omega) (by omega) (by omega), fun w => (by cases w)⟩, z _ _ (by decide) (by decide) (by decide)⟩, ct, fun e he => absurd he (n e), ⟨⟨z _ _ (by decide) (by decide) (by decide), z _ _ (by decide) (by decide) (by decide)⟩, fun i hi => absurd hi (n i), fun i hi => z _ _ (by decide) (by omega) (by omega), fun i hi => ⟨z _ _ (by decide) (by omega) (by omega), z _ _ (by decide) (by omega) (by omega)⟩⟩, ⟨Nat.zero_le _, z _ _ (by decide) (by decide) (by decide), fun j hj => absurd hj (n j)⟩, fun m hm => ⟨z _ _ (by decide) (by omega) (by omega), fun w => (by cases w)⟩, z _ _ (by decide) (by decide) (by decide)⟩
variable {C : sp_C} {D : Nat} {s : dS} {H : dH} {M : dMk} {x : Nat}
theorem jH_1 (h1 : sJ C D s) (h2 : ∀ j, j < H.1 → sJ C D (H.2 j)) : ∀ j, j < (hP1 H s).1 → sJ C D ((hP1 H s).2 j) := fun j hj => by
  have hj : j < min (H.1 + 1) 16 := hj
  show sJ C D (if j = 0 then s else H.2 (j - 1))
  by_cases e : j = 0
  · rw [if_pos e]; exact h1
  · rw [if_neg e]; exact h2 _ (by omega)
theorem j_day (i : KI C D s H M x) (j : KJ C D s H M) : KJf C (D + 1) (f_day C s H M x) := by
  have j7 := KJ_up (E := D + 1) (by omega) j
  exact ⟨sJ_day i.1 i.2.1 j.1, jH_1 j7.1 j7.2.1, j7.2.2⟩
theorem j_lot (i : KI C D s H M x) (j : KJ C D s H M) (a b : Int32) : KJf C (D + 1) (f_lot C s H M x a b) := by
  have h6 := i.1.1.1
  have j7 := KJ_up (E := D + 1) (by omega) j
  rcases c_87 h6 a with e | ⟨p, hp, rfl⟩
  · rw [f_lot1 e]; exact j7
  · rcases c_60 (lo := 0) (hi := 4) (by decide) (by decide) b with e | ⟨l, -, hl, rfl⟩
    · rw [f_lot2 hp h6 e]; exact j7
    · rw [f_lot3 hp h6 (by omega)]
      exact ⟨j7.1, jH_1 j7.1 j7.2.1, j7.2.2⟩
theorem j_ask (i : KI C D s H M x) (j : KJ C D s H M) (a : Int32) : KJf C (D + 1) (f_ask C s H M x a) := by
  have h6 := i.1.1.1
  have j7 := KJ_up (E := D + 1) (by omega) j
  rcases c_87 h6 a with e | ⟨p, hp, rfl⟩
  · rw [f_ask1 e]; exact j7
  · rw [f_ask2 hp h6]
    exact ⟨j7.1, jH_1 j7.1 j7.2.1, j7.2.2⟩
theorem j_undo (j : KJ C D s H M) : KJf C (D + 1) (f_undo s H M x) := by
  have j7 := KJ_up (E := D + 1) (by omega) j
  by_cases e : H.1 = 0
  · rw [f_undo1 e]; exact j7
  · rw [f_undo2 (by omega)]
    exact ⟨j7.2.1 0 (by omega), fun k hk => j7.2.1 (k + 1) (by have hk : k < H.1 - 1 := hk; omega), j7.2.2⟩
theorem j_see (i : KI C D s H M x) (j : KJ C D s H M) (a b : Int32) : KJf C (D + 1) (f_see C s H M x a b) := by
  have h5 := i.1.1.2
  have j7 := KJ_up (E := D + 1) (by omega) j
  have hx := i.2.2.2.2
  rcases c_93 h5 a with e | ⟨p, hp, rfl⟩
  · rw [f_see1 e]; exact j7
  · rcases c_60b b with e | ⟨l, h1, h2, rfl⟩
    · rw [f_see2 hp h5 e]; exact j7
    · by_cases e : x = 8
      · rw [f_see3 hp h5 h1 h2 e]; exact j7
      · rw [f_see4 hp h5 h1 h2 (by omega)]; exact j7
theorem j_mark (j : KJ C D s H M) (a : Int32) {z : Int} (hz : 0 ≤ z ∧ z ≤ 1) : KJf C (D + 1) (f_mark s H M x a z) := by
  have j7 := KJ_up (E := D + 1) (by omega) j
  rcases c_60 (lo := 0) (hi := 3) (by decide) (by decide) a with e | ⟨m, -, hm, rfl⟩
  · rw [f_mark1 e]; exact j7
  · have zz : z = 0 ∨ z = 1 := by omega
    rcases zz with rfl | rfl
    · rw [f_mark2 (by omega)]
      refine ⟨j7.1, j7.2.1, fun k hk w => ?_⟩
      show sJ C (D + 1) (if k = m then s else M.2.1 k)
      by_cases e : k = m
      · rw [if_pos e]; exact j7.1
      · have w : (if k = m then true else M.1 k) = true := w
        rw [if_neg e] at w
        rw [if_neg e]
        exact j7.2.2 k hk w
    · by_cases e : M.1 m = true
      · rw [f_mark4 (by omega) e]
        exact ⟨j7.2.2 m (by omega) e, fun k hk => absurd hk (Nat.not_lt_zero k), j7.2.2⟩
      · rw [f_mark3 (by omega) (Bool.eq_false_iff.mpr e)]; exact j7
end
