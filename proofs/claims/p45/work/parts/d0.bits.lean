/-! BITS GATHERED PERSON BY PERSON -/
theorem b65 (x y : Int32) : (d_65 x y = 0) ↔ ¬ ((x >>> (y &&& 31)) &&& (Int32.ofInt 1)) = (Int32.ofInt 1) := by
  rw [d_65_b, bit_1]
  cases sp_bit x y <;> decide
theorem b6_eq {x y : Int32} {P : Nat} (h6 : P ≤ 6) (hx : bN x < 2 ^ P) (hy : bN y < 2 ^ P) (hb : ∀ e, e < P → sp_bit x (nI e) = sp_bit y (nI e)) : x = y := by
  refine bN_inj (Nat.eq_of_testBit_eq fun i => ?_)
  by_cases hi : i < P
  · rw [← sp_bit_tg (by omega), ← sp_bit_tg (by omega)]
    exact hb i hi
  · have h2 : 2 ^ P ≤ 2 ^ i := Nat.pow_le_pow_right (show 2 > 0 by decide) (by omega)
    rw [Nat.testBit_lt_two_pow (Nat.lt_of_lt_of_le hx h2), Nat.testBit_lt_two_pow (Nat.lt_of_lt_of_le hy h2)]
theorem d_229_b {C : sp_C} {p q : Nat} (h5 : dE C ≤ 5) (hq : q < dE C) : (d_229 C p (nI q) = 0) ↔ sp_bit (dG C q) (nI p) = false := by
  unfold d_229
  have hB := (dB_b (C := C) (p := p) h5).2 q (by omega)
  rw [decide_eq_true hq, Bool.true_and] at hB
  by_cases h : ((dB C p) >>> ((nI q) &&& 31)) &&& (Int32.ofInt 1) = Int32.ofInt 1
  · rw [if_neg (fun z => z h)]
    have := (bit_1 _ _).mp h
    rw [hB] at this
    rw [this]
    exact ⟨fun z => absurd z (by decide), fun z => by cases z⟩
  · rw [if_pos h]
    refine ⟨fun _ => ?_, fun _ => rfl⟩
    cases hx : sp_bit (dG C q) (nI p) with
    | false => rfl
    | true => exact absurd ((bit_1 _ _).mpr (hB.trans hx)) h
/-- those of k .. k + m - 1 for which c is so, into a -/
def fo (c : Nat → Bool) : Nat → Nat → Int32 → Int32
  | 0, _, a => a
  | m + 1, k, a => fo c m (k + 1) (if c k = true then a ||| ((Int32.ofInt 1) <<< ((nI k) &&& 31)) else a)
theorem fo_b {c : Nat → Bool} : ∀ (m k : Nat) (a : Int32), k + m ≤ 6 → bN a < 2 ^ k → bN (fo c m k a) < 2 ^ (k + m) ∧ ∀ p, p < 6 → sp_bit (fo c m k a) (nI p) = (sp_bit a (nI p) || (decide (k ≤ p ∧ p < k + m) && c p)) := by
  intro m
  induction m with
  | zero =>
    intro k a hk ha
    refine ⟨ha, fun p hp => ?_⟩
    rw [decide_eq_false (by omega), Bool.false_and, Bool.or_false]
    rfl
  | succ m ih =>
    intro k a hk ha
    have h2 : 2 ^ k ≤ 2 ^ (k + 1) := Nat.pow_le_pow_right (show 2 > 0 by decide) (by omega)
    rw [fo, show k + (m + 1) = k + 1 + m by omega]
    cases hc : c k with
    | true =>
      rw [if_pos rfl]
      obtain ⟨i1, i2⟩ := ih (k + 1) (a ||| ((Int32.ofInt 1) <<< ((nI k) &&& 31))) (by omega) (by
        rw [bN_or, bN_1s (by omega)]
        exact Nat.or_lt_two_pow (Nat.lt_of_lt_of_le ha h2) (Nat.pow_lt_pow_right (by decide) (by omega)))
      refine ⟨i1, fun p hp => ?_⟩
      rw [i2 p hp, bit_or (by omega) (by omega)]
      by_cases ek : p = k
      · rw [ek, hc, decide_eq_true rfl, decide_eq_true (show k ≤ k ∧ k < k + 1 + m by omega)]
        simp only [Bool.or_true, Bool.true_or, Bool.and_true]
      · rw [decide_eq_false (fun w => ek w.symm), Bool.or_false, show decide (k + 1 ≤ p ∧ p < k + 1 + m) = decide (k ≤ p ∧ p < k + 1 + m) from decide_eq_decide.mpr (by omega)]
    | false =>
      rw [if_neg (by decide)]
      obtain ⟨i1, i2⟩ := ih (k + 1) a (by omega) (Nat.lt_of_lt_of_le ha h2)
      refine ⟨i1, fun p hp => ?_⟩
      rw [i2 p hp]
      by_cases ek : p = k
      · rw [ek, hc, Bool.and_false, Bool.and_false]
      · rw [show decide (k + 1 ≤ p ∧ p < k + 1 + m) = decide (k ≤ p ∧ p < k + 1 + m) from decide_eq_decide.mpr (by omega)]
theorem fo_0 {c : Nat → Bool} {P : Nat} (h6 : P ≤ 6) : bN (fo c P 0 (Int32.ofInt 0)) < 2 ^ P ∧ ∀ p, p < P → sp_bit (fo c P 0 (Int32.ofInt 0)) (nI p) = c p := by
  obtain ⟨i1, i2⟩ := fo_b (c := c) P 0 (Int32.ofInt 0) (by omega) (by decide)
  rw [Nat.zero_add] at i1
  refine ⟨i1, fun p hp => ?_⟩
  have key : ∀ e, e < 6 → sp_bit (Int32.ofInt 0) (nI e) = false := by decide +kernel
  rw [i2 p (by omega), key p (by omega), Bool.false_or, decide_eq_true (by omega), Bool.true_and]
/-- who is to come, as the reference gathers it -/
theorem inv_f {C : sp_C} {q : Nat} (h5 : dE C ≤ 5) (hq : q < dE C) : ∀ (m k : Nat) (a : Int32), d_228_4 C (nI q) m k a = fo (fun p => sp_bit (dG C q) (nI p)) m k a := by
  intro m
  induction m with
  | zero => exact fun _ _ => rfl
  | succ m ih =>
    intro k a
    rw [d_228_4, fo]
    by_cases e : d_229 C k (nI q) = 0
    · rw [if_pos e, or0]
      have e2 : sp_bit (dG C q) (nI k) = false := (d_229_b h5 hq).mp e
      rw [e2, if_neg (by decide)]
      exact ih _ _
    · rw [if_neg e]
      have e2 : sp_bit (dG C q) (nI k) = true := by
        cases hx : sp_bit (dG C q) (nI k) with
        | true => rfl
        | false => exact absurd ((d_229_b h5 hq).mpr hx) e
      rw [e2, if_pos rfl]
      exact ih _ _
theorem inv_e {C : sp_C} {q : Nat} (hc : cI C) (hq : q < dE C) : d_228 C (nI q) = dG C q := by
  have h6 := hc.1.1
  have h5 := hc.1.2
  obtain ⟨i1, i2⟩ := fo_0 (c := fun p => sp_bit (dG C q) (nI p)) h6
  refine b6_eq h6 (x := d_228 C (nI q)) ?_ (hc.2.2.1 q hq).2.2 (fun p hp => ?_)
  · unfold d_228
    rw [inv_f h5 hq]
    exact i1
  · unfold d_228
    rw [inv_f h5 hq]
    exact i2 p hp
/-- the next day of both is one -/
theorem nx_e {C : sp_C} {D : Nat} {s : dS} (hc : cI C) (hs : sI C D s) (hD : D ≤ 4100) : d_233 C C s = d_118 C s ∧ d_233_s C C s = d_118_s C s := by
  have w := day_e (V := C) hc hs hD (fun _ _ => rfl) (d_224_01 C (s.1 + Int32.ofInt 1))
  unfold d_233 d_233_s d_118 d_118_s
  rw [d_68_e]
  exact w
theorem nx_s {C : sp_C} {D : Nat} {s : dS} (hc : cI C) (hs : sI C D s) : sI C (D + 1) (d_118_s C s) := sI_day hc hs
