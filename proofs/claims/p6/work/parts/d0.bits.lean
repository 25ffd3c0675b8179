section
/-! BITS GATHERED PERSON BY PERSON -/
theorem b65 (x y : Int32) : (d_65 x y = 0) ↔ ¬ ((x >>> (y &&& 31)) &&& (Int32.ofInt 1)) = (Int32.ofInt 1) := by
  rw [d_65_b, bit_1]
  cases sp_bit x y <;> decide
theorem b6_eq {x y : Int32} {P : Nat} (h6 : P ≤ 6) (hx : bN x < 2 ^ P) (hy : bN y < 2 ^ P) (hb : ∀ e, e < P → sp_bit x (nI e) = sp_bit y (nI e)) : x = y := by
  refine bN_inj (Nat.eq_of_testBit_eq fun i => ?_)
  by_cases hi : i < P
  · rw [← sp_bit_tg (by omega), ← sp_bit_tg (by omega)]
    exact hb i hi
  · have h2 : 2 ^ P ≤ 2 ^ i := Nat.pow_le_pow_right (show 2 > 0 by decide) (by omega)
    rw [Nat.testBit_lt_two_pow (Nat.lt_of_lt_of_le hx h2), Nat.testBit_lt_two_pow (Nat.lt_of_lt_of_le hy h2)]
theorem d_229_b {C : sp_C} {p q : Nat} (h5 : dE C ≤ 5) (hq : q < dE C) : (d_229 C p (nI q) = 0) ↔ sp_bit (dG C q) (nI p) = false := by
  unfold d_229
  have hB := (dB_b (C := C) (p := p) h5).2 q (by omega)
  rw [decide_eq_true hq, Bool.true_and] at hB
  by_cases h : ((dB C p) >>> ((nI q) &&& 31)) &&& (Int32.ofInt 1) = Int32.ofInt 1
  · rw [if_neg (fun z => z h)]
    have := (bit_1 _ _).mp h
    rw [hB] at this
    rw [this]
    exact ⟨fun z => absurd z (by decide), fun z => by cases z⟩
  · rw [if_pos h]
    refine ⟨fun _ => ?_, fun _ => rfl⟩
    cases hx : sp_bit (dG C q) (nI p) with
    | false => rfl
    | true => exact absurd ((bit_1 _ _).mpr (hB.trans hx)) h
/-- those of k .. k + m - 1 for which c is so, into a -/
def fo (c : Nat → Bool) : Nat → Nat → Int32 → Int32
  | 0, _, a => a
  | m + 1, k, a => fo c m (k + 1) (if c k = true then a ||| ((Int32.ofInt 1) <<< ((nI k) &&& 31)) else a)
theorem fo_b {c : Nat → Bool} : ∀ (m k : Nat) (a : Int32), k + m ≤ 6 → bN a < 2 ^ k → bN (fo c m k a) < 2 ^ (k + m) ∧ ∀ p, p < 6 → sp_bit (fo c m k a) (nI p) = (sp_bit a (nI p) || (decide (k ≤ p ∧ p < k + m) && c p)) := by
  intro m
  induction m with
  | zero =>
    intro k a hk ha
    refine ⟨ha, fun p hp => ?_⟩
    rw [decide_eq_false (by omega), Bool.false_and, Bool.or_false]
    rfl
  | succ m ih =>
    intro k a hk ha
    have h2 : 2 ^ k ≤ 2 ^ (k + 1) := Nat.pow_le_pow_right (show 2 > 0 by decide) (by omega)
    rw [fo, show k + (m + 1) = k + 1 + m by omega]
    cases hc : c k with
    | true =>
      rw [if_pos rfl]
      obtain ⟨i1, i2⟩ := ih (k + 1) (a ||| ((Int32.ofInt 1) <<< ((nI k) &&& 31))) (by omega) (by
        rw [bN_or, bN_1s (by omega)]
        exact Nat.or_lt_two_pow (Nat.lt_of_lt_of_le ha h2) (Nat.pow_lt_pow_right (by decide) (by omega)))
      refine ⟨i1, fun p hp => ?_⟩
      rw [i2 p hp, bit_or (by omega) (by omega)]
      by_cases ek : p = k
      · rw [ek, hc, decide_eq_true rfl, decide_eq_true (show k ≤ k ∧ k < k + 1 + m by omega)]
        simp only [Bool.or_true, Bool.true_or, Bool.and_true]
      · rw [decide_eq_false (fun w => ek w.symm), Bool.or_false, show decide (k + 1 ≤ p ∧ p < k + 1 + m) = decide (k ≤ p ∧ p < k + 1 + m) from decide_eq_decide.mpr (by omega)]
    | false =>
      rw [if_neg (by decide)]
      obtain ⟨i1, i2⟩ := ih (k + 1) a (by omega) (Nat.lt_of_lt_of_le ha h2)
      refine ⟨i1, fun p hp => ?_⟩
      rw [i2 p hp]
      by_cases ek : p = k
      · rw [ek, hc, Bool.and_false, Bool.and_false]
      · rw [show decide (k + 1 ≤ p ∧ p < k + 1 + m) = decide (k ≤ p ∧ p < k + 1 + m) from decide_eq_decide.mpr (by omega)]
theorem fo_0 {c : Nat → Bool} {P : Nat} (h6 : P ≤ 6) : bN (fo c P 0 (Int32.ofInt 0)) < 2 ^ P ∧ ∀ p, p < P → sp_bit (fo c P 0 (Int32.ofInt 0)) (nI p) = c p := by
  obtain ⟨i1, i2⟩ := fo_b (c := c) P 0 (Int32.ofInt 0) (by omega) (by decide)
  rw [Nat.zero_add] at i1
  refine ⟨i1, fun p hp => ?_⟩
  have key : ∀ e, e < 6 → sp_bit (Int32.ofInt 0) (nI e) = false := by decide +kernel
  rw [i2 p (by omega), key p (by omega), Bool.false_or, decide_eq_true (by omega), Bool.true_and]
/-- who is to come, as the reference gathers it -/
theorem inv_f {C : sp_C} {q : Nat} (h5 : dE C ≤ 5) (hq : q < dE C) : ∀ (m k : Nat) (a : Int32), d_228_4 C (nI q) m k a = fo (fun p => sp_bit (dG C q) (nI p)) m k a := by
  intro m
  induction m with
  | zero => exact fun _ _ => rfl
  | succ m ih =>
    intro k a
    rw [d_228_4, fo]
    by_cases e : d_229 C k (nI q) = 0
    · rw [if_pos e, or0]
      have e2 : sp_bit (dG C q) (nI k) = false := (d_229_b h5 hq).mp e
      rw [e2, if_neg (by decide)]
      exact ih _ _
    · rw [if_neg e]
      have e2 : sp_bit (dG C q) (nI k) = true := by
        cases hx : sp_bit (dG C q) (nI k) with
        | true => rfl
        | false => exact absurd ((d_229_b h5 hq).mpr hx) e
      rw [e2, if_pos rfl]
      exact ih _ _
theorem inv_e {C : sp_C} {q : Nat} (hc : cI C) (hq : q < dE C) : d_228 C (nI q) = dG C q := by
  have h6 := hc.1.1
  have h5 := hc.1.2
  obtain ⟨i1, i2⟩ := fo_0 (c := fun p => sp_bit (dG C q) (nI p)) h6
  refine b6_eq h6 (x := d_228 C (nI q)) ?_ (hc.2.2.1 q hq).2.2 (fun p hp => ?_)
  · unfold d_228
    rw [inv_f h5 hq]
    exact i1
  · unfold d_228
    rw [inv_f h5 hq]
    exact i2 p hp
/-- the next day of both is one -/
theorem nx_e {C : sp_C} {D : Nat} {s : dS} (hc : cI C) (hs : sI C D s) (hD : D ≤ 4100) : d_233 C C s = d_118 C s ∧ d_233_s C C s = d_118_s C s := by
  have w := day_e (V := C) hc hs hD (fun _ _ => rfl) (d_224_01 C (s.1 + Int32.ofInt 1))
  unfold d_233 d_233_s d_118 d_118_s
  rw [d_68_e]
  exact w
theorem nx_s {C : sp_C} {D : Nat} {s : dS} (hc : cI C) (hs : sI C D s) : sI C (D + 1) (d_118_s C s) := sI_day hc hs
end
section
/-! PERSON AND EVENT -/
variable {h : am_H} {Q : am_Q} {C V : sp_C} {x y z w : Int32} {e l p q : Nat} {s : dS}
def d_86 (C : sp_C) (s : dS) (p : Nat) (w : Int32) : Int32 := (if w = Int32.ofInt 0 then dK C p else (if w = Int32.ofInt 1 then s.2.2.1 p else (if w = Int32.ofInt 2 then d_88 C s p (d_68 C s.1) else (if w = Int32.ofInt 3 then d_91 C p else (if w = Int32.ofInt 4 then s.2.2.2.1 p else (Int8.ofInt (-2)).toInt32)))))
theorem d_86_N6 (hP : ex_P h) (hI : cI C) (hT : c_v 6 C h) (hD : c_d 6 C h) (hR : h.2.2.1 0 3 = some 6) (hS : sC 36 s h) (hp : p < dP C) (hQ : Q (some (.int (d_86 C s p w))) h) : am_call am_cod 5 86 [.ref 0, .int (nI p), .int w] h Q := by
  have h6 := hT.1.2.1
  have h5 := hT.2.1.2.1
  refine pz_call (n := 86) (nL := 3) (rt := (some .int)) (rows := am_r86) (d := 4) (by decide +kernel) (by decide +kernel) rfl (by funext pc; rfl) (ex_175 hP) (by exact Nat.le_of_ble_eq_true rfl) ?_
  refine am_goX 3 (show am_rc h 0 10 ∧ 0 ≤ 8 ∧ h.2.2.2.2 + am_al 87 ≤ 175 ∧ am_call am_cod 4 87 [.ref 0, .int (nI p)] h (fun vv h' => pz_S 3 (some .int) am_r86 4 Q 5 [(0, .ref 0), (1, .int (nI p)), (2, .int w)] (vv.toList ++ []) h') from ⟨Or.inl ⟨by decide, ex_0 hP⟩, by decide, ex_lim hP rfl, am_call.up (d_87_t6 hP hT hR ?_) (by decide)⟩)
  rw [show d_87 C (nI p) = Int32.ofInt 1 from (v_87 hp)]
  refine am_goX 1 (show (¬ (Int32.ofInt 1) = 0 → pz_S 3 (some .int) am_r86 4 Q 11 [(0, .ref 0), (1, .int (nI p)), (2, .int w)] [] h) ∧ (¬ ¬ (Int32.ofInt 1) = 0 → pz_S 3 (some .int) am_r86 4 Q 8 [(0, .ref 0), (1, .int (nI p)), (2, .int w)] [] h) from ⟨fun _ => ?_, fun hz => absurd (by decide) hz⟩)
  refine am_goX 2 (show ((w.toInt < 0 ∨ 4 < w.toInt) → pz_S 3 (some .int) am_r86 4 Q 114 [(0, .ref 0), (1, .int (nI p)), (2, .int w)] [] h) ∧ (∀ j : Nat, w.toInt = 0 + (j : Int) → 0 + (j : Int) ≤ 4 → pz_S 3 (some .int) am_r86 4 Q ((12 : Int) + ((#[36, 46, 56, 83, 92] : Array Int)[j]?).getD 0).toNat [(0, .ref 0), (1, .int (nI p)), (2, .int w)] [] h) from ⟨fun hd => ?_, fun j hj1 hj2 => ?_⟩)
  · have c1 : ¬ w = Int32.ofInt 0 := fun w => by rw [w] at hd; revert hd; decide
    have c2 : ¬ w = Int32.ofInt 1 := fun w => by rw [w] at hd; revert hd; decide
    have c3 : ¬ w = Int32.ofInt 2 := fun w => by rw [w] at hd; revert hd; decide
    have c4 : ¬ w = Int32.ofInt 3 := fun w => by rw [w] at hd; revert hd; decide
    have c5 : ¬ w = Int32.ofInt 4 := fun w => by rw [w] at hd; revert hd; decide
    exact am_goX 2 (show (∃ ty, (some .int) = some ty ∧ narrow ty (.int ((Int8.ofInt (-2)).toInt32)) = .int ((Int8.ofInt (-2)).toInt32)) ∧ h.2.2.2.2 = 175 ∧ _ from ⟨⟨.int, rfl, rfl⟩, ex_175 hP, dn_q ((if_neg c1).trans ((if_neg c2).trans ((if_neg c3).trans ((if_neg c4).trans (if_neg c5))))) hQ⟩)
  · have hj : j = 0 ∨ j = 1 ∨ j = 2 ∨ j = 3 ∨ j = 4 := by omega
    rcases hj with rfl | rfl | rfl | rfl | rfl
    · have c1 : w = Int32.ofInt 0 := Int32.toInt_inj.mp (hj1.trans (by decide))
      show pz_S 3 (some .int) am_r86 4 Q 48 [(0, .ref 0), (1, .int (nI p)), (2, .int w)] [] h
      refine am_goX 2 (show am_sh h 0 = some (10, 0) ∧ pz_S 3 (some .int) am_r86 4 Q 52 [(0, .ref 0), (1, .int (nI p)), (2, .int w)] [am_rf (h.2.2.1 0 3)] h from ⟨ex_0 hP, ?_⟩)
      rw [show am_rf (h.2.2.1 0 3) = .ref 6 from congrArg am_rf (hR)]
      refine am_goX 1 (show am_sh h 6 = some (0, 0) ∧ pz_S 3 (some .int) am_r86 4 Q 55 [(0, .ref 0), (1, .int (nI p)), (2, .int w)] [am_rf (h.2.2.1 6 2)] h from ⟨ex_6 hP, ?_⟩)
      rw [show am_rf (h.2.2.1 6 2) = .ref 8 from congrArg am_rf (ex_r6_2 hP)]
      refine am_goX 2 (show ∃ jj nn : Nat, am_sh h 8 = some (13, nn) ∧ jj < nn ∧ nI p = nI jj ∧ pz_S 3 (some .int) am_r86 4 Q 57 [(0, .ref 0), (1, .int (nI p)), (2, .int w)] [.int (h.1 8 jj)] h from ⟨p, 6, ex_8 hP, (by omega), rfl, ?_⟩)
      rw [show h.1 8 p = dK C p from (hT.1.2.2 p (by omega)).1]
      exact am_goX 1 (show (∃ ty, (some .int) = some ty ∧ narrow ty (.int (dK C p)) = .int (dK C p)) ∧ h.2.2.2.2 = 175 ∧ _ from ⟨⟨.int, rfl, rfl⟩, ex_175 hP, dn_q (if_pos c1) hQ⟩)
    · have c2 : w = Int32.ofInt 1 := Int32.toInt_inj.mp (hj1.trans (by decide))
      have c1 : ¬ w = Int32.ofInt 0 := by rw [c2]; decide
      show pz_S 3 (some .int) am_r86 4 Q 58 [(0, .ref 0), (1, .int (nI p)), (2, .int w)] [] h
      refine am_goX 2 (show am_sh h 0 = some (10, 0) ∧ pz_S 3 (some .int) am_r86 4 Q 62 [(0, .ref 0), (1, .int (nI p)), (2, .int w)] [am_rf (h.2.2.1 0 7)] h from ⟨ex_0 hP, ?_⟩)
      rw [show am_rf (h.2.2.1 0 7) = .ref 36 from congrArg am_rf (ex_r0_7 hP)]
      refine am_goX 1 (show am_sh h 36 = some (6, 0) ∧ pz_S 3 (some .int) am_r86 4 Q 65 [(0, .ref 0), (1, .int (nI p)), (2, .int w)] [am_rf (h.2.2.1 36 2)] h from ⟨ex_36 hP, ?_⟩)
      rw [show am_rf (h.2.2.1 36 2) = .ref 37 from congrArg am_rf (ex_r36_2 hP)]
      refine am_goX 2 (show ∃ jj nn : Nat, am_sh h 37 = some (13, nn) ∧ jj < nn ∧ nI p = nI jj ∧ pz_S 3 (some .int) am_r86 4 Q 67 [(0, .ref 0), (1, .int (nI p)), (2, .int w)] [.int (h.1 37 jj)] h from ⟨p, 6, ex_37 hP, (by omega), rfl, ?_⟩)
      rw [show h.1 37 p = s.2.2.1 p from (hS.2.1 p (by omega)).1]
      exact am_goX 1 (show (∃ ty, (some .int) = some ty ∧ narrow ty (.int (s.2.2.1 p)) = .int (s.2.2.1 p)) ∧ h.2.2.2.2 = 175 ∧ _ from ⟨⟨.int, rfl, rfl⟩, ex_175 hP, dn_q ((if_neg c1).trans (if_pos c2)) hQ⟩)
    · have c3 : w = Int32.ofInt 2 := Int32.toInt_inj.mp (hj1.trans (by decide))
      have c1 : ¬ w = Int32.ofInt 0 := by rw [c3]; decide
      have c2 : ¬ w = Int32.ofInt 1 := by rw [c3]; decide
      show pz_S 3 (some .int) am_r86 4 Q 68 [(0, .ref 0), (1, .int (nI p)), (2, .int w)] [] h
      refine am_goX 2 (show am_sh h 0 = some (10, 0) ∧ pz_S 3 (some .int) am_r86 4 Q 72 [(0, .ref 0), (1, .int (nI p)), (2, .int w)] [am_rf (h.2.2.1 0 3)] h from ⟨ex_0 hP, ?_⟩)
      rw [show am_rf (h.2.2.1 0 3) = .ref 6 from congrArg am_rf (hR)]
      refine am_goX 3 (show am_sh h 0 = some (10, 0) ∧ pz_S 3 (some .int) am_r86 4 Q 77 [(0, .ref 0), (1, .int (nI p)), (2, .int w)] [am_rf (h.2.2.1 0 7), .int (nI p), .ref 6] h from ⟨ex_0 hP, ?_⟩)
      rw [show am_rf (h.2.2.1 0 7) = .ref 36 from congrArg am_rf (ex_r0_7 hP)]
      refine am_goX 2 (show am_sh h 0 = some (10, 0) ∧ pz_S 3 (some .int) am_r86 4 Q 81 [(0, .ref 0), (1, .int (nI p)), (2, .int w)] [am_rf (h.2.2.1 0 3), .ref 36, .int (nI p), .ref 6] h from ⟨ex_0 hP, ?_⟩)
      rw [show am_rf (h.2.2.1 0 3) = .ref 6 from congrArg am_rf (hR)]
      refine am_goX 2 (show am_sh h 0 = some (10, 0) ∧ pz_S 3 (some .int) am_r86 4 Q 85 [(0, .ref 0), (1, .int (nI p)), (2, .int w)] [am_rf (h.2.2.1 0 7), .ref 6, .ref 36, .int (nI p), .ref 6] h from ⟨ex_0 hP, ?_⟩)
      rw [show am_rf (h.2.2.1 0 7) = .ref 36 from congrArg am_rf (ex_r0_7 hP)]
      refine am_goX 1 (show am_sh h 36 = some (6, 0) ∧ pz_S 3 (some .int) am_r86 4 Q 88 [(0, .ref 0), (1, .int (nI p)), (2, .int w)] [.int (h.1 36 0), .ref 6, .ref 36, .int (nI p), .ref 6] h from ⟨ex_36 hP, ?_⟩)
      rw [show h.1 36 0 = s.1 from hS.1.1]
      refine am_goX 1 (show am_rc h 6 0 ∧ 3 ≤ 8 ∧ h.2.2.2.2 + am_al 68 ≤ 175 ∧ am_call am_cod 4 68 [.ref 6, .int s.1] h (fun vv h' => pz_S 3 (some .int) am_r86 4 Q 91 [(0, .ref 0), (1, .int (nI p)), (2, .int w)] (vv.toList ++ [.ref 36, .int (nI p), .ref 6]) h') from ⟨Or.inl ⟨by decide, ex_6 hP⟩, by decide, ex_lim hP rfl, am_call.up (d_68_t6 hP hT ?_) (by decide)⟩)
      refine am_goX 1 (show am_rc h 6 0 ∧ 0 ≤ 8 ∧ h.2.2.2.2 + am_al 88 ≤ 175 ∧ am_call am_cod 4 88 [.ref 6, .int (nI p), .ref 36, .int (d_68 C s.1)] h (fun vv h' => pz_S 3 (some .int) am_r86 4 Q 94 [(0, .ref 0), (1, .int (nI p)), (2, .int w)] (vv.toList ++ []) h') from ⟨Or.inl ⟨by decide, ex_6 hP⟩, by decide, ex_lim hP rfl, am_call.up (d_88_t6_36 hP hI hT hD hS (fC_0 (c := 6) (h := h)) (by omega) ?_) (by decide)⟩)
      exact am_goX 1 (show (∃ ty, (some .int) = some ty ∧ narrow ty (.int (d_88 C s p (d_68 C s.1))) = .int (d_88 C s p (d_68 C s.1))) ∧ h.2.2.2.2 = 175 ∧ _ from ⟨⟨.int, rfl, rfl⟩, ex_175 hP, dn_q ((if_neg c1).trans ((if_neg c2).trans (if_pos c3))) hQ⟩)
    · have c4 : w = Int32.ofInt 3 := Int32.toInt_inj.mp (hj1.trans (by decide))
      have c1 : ¬ w = Int32.ofInt 0 := by rw [c4]; decide
      have c2 : ¬ w = Int32.ofInt 1 := by rw [c4]; decide
      have c3 : ¬ w = Int32.ofInt 2 := by rw [c4]; decide
      show pz_S 3 (some .int) am_r86 4 Q 95 [(0, .ref 0), (1, .int (nI p)), (2, .int w)] [] h
      refine am_goX 2 (show am_sh h 0 = some (10, 0) ∧ pz_S 3 (some .int) am_r86 4 Q 99 [(0, .ref 0), (1, .int (nI p)), (2, .int w)] [am_rf (h.2.2.1 0 3)] h from ⟨ex_0 hP, ?_⟩)
      rw [show am_rf (h.2.2.1 0 3) = .ref 6 from congrArg am_rf (hR)]
      refine am_goX 2 (show am_rc h 6 0 ∧ 0 ≤ 8 ∧ h.2.2.2.2 + am_al 91 ≤ 175 ∧ am_call am_cod 4 91 [.ref 6, .int (nI p)] h (fun vv h' => pz_S 3 (some .int) am_r86 4 Q 103 [(0, .ref 0), (1, .int (nI p)), (2, .int w)] (vv.toList ++ []) h') from ⟨Or.inl ⟨by decide, ex_6 hP⟩, by decide, ex_lim hP rfl, am_call.up (d_91_t6 hP hT ?_) (by decide)⟩)
      exact am_goX 1 (show (∃ ty, (some .int) = some ty ∧ narrow ty (.int (d_91 C p)) = .int (d_91 C p)) ∧ h.2.2.2.2 = 175 ∧ _ from ⟨⟨.int, rfl, rfl⟩, ex_175 hP, dn_q ((if_neg c1).trans ((if_neg c2).trans ((if_neg c3).trans (if_pos c4)))) hQ⟩)
    · have c5 : w = Int32.ofInt 4 := Int32.toInt_inj.mp (hj1.trans (by decide))
      have c1 : ¬ w = Int32.ofInt 0 := by rw [c5]; decide
      have c2 : ¬ w = Int32.ofInt 1 := by rw [c5]; decide
      have c3 : ¬ w = Int32.ofInt 2 := by rw [c5]; decide
      have c4 : ¬ w = Int32.ofInt 3 := by rw [c5]; decide
      show pz_S 3 (some .int) am_r86 4 Q 104 [(0, .ref 0), (1, .int (nI p)), (2, .int w)] [] h
      refine am_goX 2 (show am_sh h 0 = some (10, 0) ∧ pz_S 3 (some .int) am_r86 4 Q 108 [(0, .ref 0), (1, .int (nI p)), (2, .int w)] [am_rf (h.2.2.1 0 7)] h from ⟨ex_0 hP, ?_⟩)
      rw [show am_rf (h.2.2.1 0 7) = .ref 36 from congrArg am_rf (ex_r0_7 hP)]
      refine am_goX 1 (show am_sh h 36 = some (6, 0) ∧ pz_S 3 (some .int) am_r86 4 Q 111 [(0, .ref 0), (1, .int (nI p)), (2, .int w)] [am_rf (h.2.2.1 36 3)] h from ⟨ex_36 hP, ?_⟩)
      rw [show am_rf (h.2.2.1 36 3) = .ref 38 from congrArg am_rf (ex_r36_3 hP)]
      refine am_goX 2 (show ∃ jj nn : Nat, am_sh h 38 = some (13, nn) ∧ jj < nn ∧ nI p = nI jj ∧ pz_S 3 (some .int) am_r86 4 Q 113 [(0, .ref 0), (1, .int (nI p)), (2, .int w)] [.int (h.1 38 jj)] h from ⟨p, 6, ex_38 hP, (by omega), rfl, ?_⟩)
      rw [show h.1 38 p = s.2.2.2.1 p from (hS.2.1 p (by omega)).2]
      exact am_goX 1 (show (∃ ty, (some .int) = some ty ∧ narrow ty (.int (s.2.2.2.1 p)) = .int (s.2.2.2.1 p)) ∧ h.2.2.2.2 = 175 ∧ _ from ⟨⟨.int, rfl, rfl⟩, ex_175 hP, dn_q ((if_neg c1).trans ((if_neg c2).trans ((if_neg c3).trans ((if_neg c4).trans (if_pos c5))))) hQ⟩)
def d_86x  : Int32 := (Int8.ofInt (-2)).toInt32
theorem d_86_xN6 (hP : ex_P h) (hI : cI C) (hT : c_v 6 C h) (hD : c_d 6 C h) (hR : h.2.2.1 0 3 = some 6) (hS : sC 36 s h) (ey : d_87 C y = Int32.ofInt 0) (hQ : Q (some (.int d_86x)) h) : am_call am_cod 5 86 [.ref 0, .int y, .int w] h Q := by
  have h6 := hT.1.2.1
  have h5 := hT.2.1.2.1
  refine pz_call (n := 86) (nL := 3) (rt := (some .int)) (rows := am_r86) (d := 4) (by decide +kernel) (by decide +kernel) rfl (by funext pc; rfl) (ex_175 hP) (by exact Nat.le_of_ble_eq_true rfl) ?_
  refine am_goX 3 (show am_rc h 0 10 ∧ 0 ≤ 8 ∧ h.2.2.2.2 + am_al 87 ≤ 175 ∧ am_call am_cod 4 87 [.ref 0, .int y] h (fun vv h' => pz_S 3 (some .int) am_r86 4 Q 5 [(0, .ref 0), (1, .int y), (2, .int w)] (vv.toList ++ []) h') from ⟨Or.inl ⟨by decide, ex_0 hP⟩, by decide, ex_lim hP rfl, am_call.up (d_87_t6 hP hT hR ?_) (by decide)⟩)
  rw [show d_87 C y = Int32.ofInt 0 from ey]
  refine am_goX 1 (show (¬ (Int32.ofInt 0) = 0 → pz_S 3 (some .int) am_r86 4 Q 11 [(0, .ref 0), (1, .int y), (2, .int w)] [] h) ∧ (¬ ¬ (Int32.ofInt 0) = 0 → pz_S 3 (some .int) am_r86 4 Q 8 [(0, .ref 0), (1, .int y), (2, .int w)] [] h) from ⟨fun hz => absurd hz (by decide), fun _ => ?_⟩)
  exact am_goX 2 (show (∃ ty, (some .int) = some ty ∧ narrow ty (.int ((Int8.ofInt (-2)).toInt32)) = .int ((Int8.ofInt (-2)).toInt32)) ∧ h.2.2.2.2 = 175 ∧ _ from ⟨⟨.int, rfl, rfl⟩, ex_175 hP, hQ⟩)
def d_92 (C : sp_C) (s : dS) (e : Nat) (w : Int32) : Int32 := (if w = Int32.ofInt 0 then dW C e else (if w = Int32.ofInt 1 then dN C e else (if w = Int32.ofInt 2 then dG C e else (if w = Int32.ofInt 3 then s.2.2.2.2.1 e else (if w = Int32.ofInt 4 then s.2.2.2.2.2 e else (Int8.ofInt (-2)).toInt32)))))
theorem d_92_N6 (hP : ex_P h) (hI : cI C) (hT : c_v 6 C h) (hD : c_d 6 C h) (hR : h.2.2.1 0 3 = some 6) (hS : sC 36 s h) (he : e < dE C) (hQ : Q (some (.int (d_92 C s e w))) h) : am_call am_cod 5 92 [.ref 0, .int (nI e), .int w] h Q := by
  have h6 := hT.1.2.1
  have h5 := hT.2.1.2.1
  refine pz_call (n := 92) (nL := 3) (rt := (some .int)) (rows := am_r92) (d := 4) (by decide +kernel) (by decide +kernel) rfl (by funext pc; rfl) (ex_175 hP) (by exact Nat.le_of_ble_eq_true rfl) ?_
  refine am_goX 3 (show am_rc h 0 10 ∧ 0 ≤ 8 ∧ h.2.2.2.2 + am_al 93 ≤ 175 ∧ am_call am_cod 4 93 [.ref 0, .int (nI e)] h (fun vv h' => pz_S 3 (some .int) am_r92 4 Q 5 [(0, .ref 0), (1, .int (nI e)), (2, .int w)] (vv.toList ++ []) h') from ⟨Or.inl ⟨by decide, ex_0 hP⟩, by decide, ex_lim hP rfl, am_call.up (d_93_t6 hP hT hR ?_) (by decide)⟩)
  rw [show d_93 C (nI e) = Int32.ofInt 1 from (v_93 he h5)]
  refine am_goX 1 (show (¬ (Int32.ofInt 1) = 0 → pz_S 3 (some .int) am_r92 4 Q 11 [(0, .ref 0), (1, .int (nI e)), (2, .int w)] [] h) ∧ (¬ ¬ (Int32.ofInt 1) = 0 → pz_S 3 (some .int) am_r92 4 Q 8 [(0, .ref 0), (1, .int (nI e)), (2, .int w)] [] h) from ⟨fun _ => ?_, fun hz => absurd (by decide) hz⟩)
  refine am_goX 2 (show ((w.toInt < 0 ∨ 4 < w.toInt) → pz_S 3 (some .int) am_r92 4 Q 98 [(0, .ref 0), (1, .int (nI e)), (2, .int w)] [] h) ∧ (∀ j : Nat, w.toInt = 0 + (j : Int) → 0 + (j : Int) ≤ 4 → pz_S 3 (some .int) am_r92 4 Q ((12 : Int) + ((#[36, 46, 56, 66, 76] : Array Int)[j]?).getD 0).toNat [(0, .ref 0), (1, .int (nI e)), (2, .int w)] [] h) from ⟨fun hd => ?_, fun j hj1 hj2 => ?_⟩)
  · have c6 : ¬ w = Int32.ofInt 0 := fun w => by rw [w] at hd; revert hd; decide
    have c7 : ¬ w = Int32.ofInt 1 := fun w => by rw [w] at hd; revert hd; decide
    have c8 : ¬ w = Int32.ofInt 2 := fun w => by rw [w] at hd; revert hd; decide
    have c9 : ¬ w = Int32.ofInt 3 := fun w => by rw [w] at hd; revert hd; decide
    have c10 : ¬ w = Int32.ofInt 4 := fun w => by rw [w] at hd; revert hd; decide
    exact am_goX 2 (show (∃ ty, (some .int) = some ty ∧ narrow ty (.int ((Int8.ofInt (-2)).toInt32)) = .int ((Int8.ofInt (-2)).toInt32)) ∧ h.2.2.2.2 = 175 ∧ _ from ⟨⟨.int, rfl, rfl⟩, ex_175 hP, dn_q ((if_neg c6).trans ((if_neg c7).trans ((if_neg c8).trans ((if_neg c9).trans (if_neg c10))))) hQ⟩)
  · have hj : j = 0 ∨ j = 1 ∨ j = 2 ∨ j = 3 ∨ j = 4 := by omega
    rcases hj with rfl | rfl | rfl | rfl | rfl
    · have c6 : w = Int32.ofInt 0 := Int32.toInt_inj.mp (hj1.trans (by decide))
      show pz_S 3 (some .int) am_r92 4 Q 48 [(0, .ref 0), (1, .int (nI e)), (2, .int w)] [] h
      refine am_goX 2 (show am_sh h 0 = some (10, 0) ∧ pz_S 3 (some .int) am_r92 4 Q 52 [(0, .ref 0), (1, .int (nI e)), (2, .int w)] [am_rf (h.2.2.1 0 3)] h from ⟨ex_0 hP, ?_⟩)
      rw [show am_rf (h.2.2.1 0 3) = .ref 6 from congrArg am_rf (hR)]
      refine am_goX 1 (show am_sh h 6 = some (0, 0) ∧ pz_S 3 (some .int) am_r92 4 Q 55 [(0, .ref 0), (1, .int (nI e)), (2, .int w)] [am_rf (h.2.2.1 6 6)] h from ⟨ex_6 hP, ?_⟩)
      rw [show am_rf (h.2.2.1 6 6) = .ref 11 from congrArg am_rf (ex_r6_6 hP)]
      refine am_goX 2 (show ∃ jj nn : Nat, am_sh h 11 = some (13, nn) ∧ jj < nn ∧ nI e = nI jj ∧ pz_S 3 (some .int) am_r92 4 Q 57 [(0, .ref 0), (1, .int (nI e)), (2, .int w)] [.int (h.1 11 jj)] h from ⟨e, 5, ex_11 hP, (by omega), rfl, ?_⟩)
      rw [show h.1 11 e = dW C e from hD e (by omega)]
      exact am_goX 1 (show (∃ ty, (some .int) = some ty ∧ narrow ty (.int (dW C e)) = .int (dW C e)) ∧ h.2.2.2.2 = 175 ∧ _ from ⟨⟨.int, rfl, rfl⟩, ex_175 hP, dn_q (if_pos c6) hQ⟩)
    · have c7 : w = Int32.ofInt 1 := Int32.toInt_inj.mp (hj1.trans (by decide))
      have c6 : ¬ w = Int32.ofInt 0 := by rw [c7]; decide
      show pz_S 3 (some .int) am_r92 4 Q 58 [(0, .ref 0), (1, .int (nI e)), (2, .int w)] [] h
      refine am_goX 2 (show am_sh h 0 = some (10, 0) ∧ pz_S 3 (some .int) am_r92 4 Q 62 [(0, .ref 0), (1, .int (nI e)), (2, .int w)] [am_rf (h.2.2.1 0 3)] h from ⟨ex_0 hP, ?_⟩)
      rw [show am_rf (h.2.2.1 0 3) = .ref 6 from congrArg am_rf (hR)]
      refine am_goX 1 (show am_sh h 6 = some (0, 0) ∧ pz_S 3 (some .int) am_r92 4 Q 65 [(0, .ref 0), (1, .int (nI e)), (2, .int w)] [am_rf (h.2.2.1 6 7)] h from ⟨ex_6 hP, ?_⟩)
      rw [show am_rf (h.2.2.1 6 7) = .ref 12 from congrArg am_rf (ex_r6_7 hP)]
      refine am_goX 2 (show ∃ jj nn : Nat, am_sh h 12 = some (13, nn) ∧ jj < nn ∧ nI e = nI jj ∧ pz_S 3 (some .int) am_r92 4 Q 67 [(0, .ref 0), (1, .int (nI e)), (2, .int w)] [.int (h.1 12 jj)] h from ⟨e, 5, ex_12 hP, (by omega), rfl, ?_⟩)
      rw [show h.1 12 e = dN C e from (hT.2.1.2.2 e (by omega)).1]
      exact am_goX 1 (show (∃ ty, (some .int) = some ty ∧ narrow ty (.int (dN C e)) = .int (dN C e)) ∧ h.2.2.2.2 = 175 ∧ _ from ⟨⟨.int, rfl, rfl⟩, ex_175 hP, dn_q ((if_neg c6).trans (if_pos c7)) hQ⟩)
    · have c8 : w = Int32.ofInt 2 := Int32.toInt_inj.mp (hj1.trans (by decide))
      have c6 : ¬ w = Int32.ofInt 0 := by rw [c8]; decide
      have c7 : ¬ w = Int32.ofInt 1 := by rw [c8]; decide
      show pz_S 3 (some .int) am_r92 4 Q 68 [(0, .ref 0), (1, .int (nI e)), (2, .int w)] [] h
      refine am_goX 2 (show am_sh h 0 = some (10, 0) ∧ pz_S 3 (some .int) am_r92 4 Q 72 [(0, .ref 0), (1, .int (nI e)), (2, .int w)] [am_rf (h.2.2.1 0 3)] h from ⟨ex_0 hP, ?_⟩)
      rw [show am_rf (h.2.2.1 0 3) = .ref 6 from congrArg am_rf (hR)]
      refine am_goX 1 (show am_sh h 6 = some (0, 0) ∧ pz_S 3 (some .int) am_r92 4 Q 75 [(0, .ref 0), (1, .int (nI e)), (2, .int w)] [am_rf (h.2.2.1 6 8)] h from ⟨ex_6 hP, ?_⟩)
      rw [show am_rf (h.2.2.1 6 8) = .ref 13 from congrArg am_rf (ex_r6_8 hP)]
      refine am_goX 2 (show ∃ jj nn : Nat, am_sh h 13 = some (13, nn) ∧ jj < nn ∧ nI e = nI jj ∧ pz_S 3 (some .int) am_r92 4 Q 77 [(0, .ref 0), (1, .int (nI e)), (2, .int w)] [.int (h.1 13 jj)] h from ⟨e, 5, ex_13 hP, (by omega), rfl, ?_⟩)
      rw [show h.1 13 e = dG C e from (hT.2.1.2.2 e (by omega)).2]
      exact am_goX 1 (show (∃ ty, (some .int) = some ty ∧ narrow ty (.int (dG C e)) = .int (dG C e)) ∧ h.2.2.2.2 = 175 ∧ _ from ⟨⟨.int, rfl, rfl⟩, ex_175 hP, dn_q ((if_neg c6).trans ((if_neg c7).trans (if_pos c8))) hQ⟩)
    · have c9 : w = Int32.ofInt 3 := Int32.toInt_inj.mp (hj1.trans (by decide))
      have c6 : ¬ w = Int32.ofInt 0 := by rw [c9]; decide
      have c7 : ¬ w = Int32.ofInt 1 := by rw [c9]; decide
      have c8 : ¬ w = Int32.ofInt 2 := by rw [c9]; decide
      show pz_S 3 (some .int) am_r92 4 Q 78 [(0, .ref 0), (1, .int (nI e)), (2, .int w)] [] h
      refine am_goX 2 (show am_sh h 0 = some (10, 0) ∧ pz_S 3 (some .int) am_r92 4 Q 82 [(0, .ref 0), (1, .int (nI e)), (2, .int w)] [am_rf (h.2.2.1 0 7)] h from ⟨ex_0 hP, ?_⟩)
      rw [show am_rf (h.2.2.1 0 7) = .ref 36 from congrArg am_rf (ex_r0_7 hP)]
      refine am_goX 1 (show am_sh h 36 = some (6, 0) ∧ pz_S 3 (some .int) am_r92 4 Q 85 [(0, .ref 0), (1, .int (nI e)), (2, .int w)] [am_rf (h.2.2.1 36 4)] h from ⟨ex_36 hP, ?_⟩)
      rw [show am_rf (h.2.2.1 36 4) = .ref 39 from congrArg am_rf (ex_r36_4 hP)]
      refine am_goX 2 (show ∃ jj nn : Nat, am_sh h 39 = some (13, nn) ∧ jj < nn ∧ nI e = nI jj ∧ pz_S 3 (some .int) am_r92 4 Q 87 [(0, .ref 0), (1, .int (nI e)), (2, .int w)] [.int (h.1 39 jj)] h from ⟨e, 5, ex_39 hP, (by omega), rfl, ?_⟩)
      rw [show h.1 39 e = s.2.2.2.2.1 e from (hS.2.2 e (by omega)).1]
      exact am_goX 1 (show (∃ ty, (some .int) = some ty ∧ narrow ty (.int (s.2.2.2.2.1 e)) = .int (s.2.2.2.2.1 e)) ∧ h.2.2.2.2 = 175 ∧ _ from ⟨⟨.int, rfl, rfl⟩, ex_175 hP, dn_q ((if_neg c6).trans ((if_neg c7).trans ((if_neg c8).trans (if_pos c9)))) hQ⟩)
    · have c10 : w = Int32.ofInt 4 := Int32.toInt_inj.mp (hj1.trans (by decide))
      have c6 : ¬ w = Int32.ofInt 0 := by rw [c10]; decide
      have c7 : ¬ w = Int32.ofInt 1 := by rw [c10]; decide
      have c8 : ¬ w = Int32.ofInt 2 := by rw [c10]; decide
      have c9 : ¬ w = Int32.ofInt 3 := by rw [c10]; decide
      show pz_S 3 (some .int) am_r92 4 Q 88 [(0, .ref 0), (1, .int (nI e)), (2, .int w)] [] h
      refine am_goX 2 (show am_sh h 0 = some (10, 0) ∧ pz_S 3 (some .int) am_r92 4 Q 92 [(0, .ref 0), (1, .int (nI e)), (2, .int w)] [am_rf (h.2.2.1 0 7)] h from ⟨ex_0 hP, ?_⟩)
      rw [show am_rf (h.2.2.1 0 7) = .ref 36 from congrArg am_rf (ex_r0_7 hP)]
      refine am_goX 1 (show am_sh h 36 = some (6, 0) ∧ pz_S 3 (some .int) am_r92 4 Q 95 [(0, .ref 0), (1, .int (nI e)), (2, .int w)] [am_rf (h.2.2.1 36 5)] h from ⟨ex_36 hP, ?_⟩)
      rw [show am_rf (h.2.2.1 36 5) = .ref 40 from congrArg am_rf (ex_r36_5 hP)]
      refine am_goX 2 (show ∃ jj nn : Nat, am_sh h 40 = some (13, nn) ∧ jj < nn ∧ nI e = nI jj ∧ pz_S 3 (some .int) am_r92 4 Q 97 [(0, .ref 0), (1, .int (nI e)), (2, .int w)] [.int (h.1 40 jj)] h from ⟨e, 5, ex_40 hP, (by omega), rfl, ?_⟩)
      rw [show h.1 40 e = s.2.2.2.2.2 e from (hS.2.2 e (by omega)).2]
      exact am_goX 1 (show (∃ ty, (some .int) = some ty ∧ narrow ty (.int (s.2.2.2.2.2 e)) = .int (s.2.2.2.2.2 e)) ∧ h.2.2.2.2 = 175 ∧ _ from ⟨⟨.int, rfl, rfl⟩, ex_175 hP, dn_q ((if_neg c6).trans ((if_neg c7).trans ((if_neg c8).trans ((if_neg c9).trans (if_pos c10))))) hQ⟩)
def d_92x  : Int32 := (Int8.ofInt (-2)).toInt32
theorem d_92_xN6 (hP : ex_P h) (hI : cI C) (hT : c_v 6 C h) (hD : c_d 6 C h) (hR : h.2.2.1 0 3 = some 6) (hS : sC 36 s h) (ey : d_93 C y = Int32.ofInt 0) (hQ : Q (some (.int d_92x)) h) : am_call am_cod 5 92 [.ref 0, .int y, .int w] h Q := by
  have h6 := hT.1.2.1
  have h5 := hT.2.1.2.1
  refine pz_call (n := 92) (nL := 3) (rt := (some .int)) (rows := am_r92) (d := 4) (by decide +kernel) (by decide +kernel) rfl (by funext pc; rfl) (ex_175 hP) (by exact Nat.le_of_ble_eq_true rfl) ?_
  refine am_goX 3 (show am_rc h 0 10 ∧ 0 ≤ 8 ∧ h.2.2.2.2 + am_al 93 ≤ 175 ∧ am_call am_cod 4 93 [.ref 0, .int y] h (fun vv h' => pz_S 3 (some .int) am_r92 4 Q 5 [(0, .ref 0), (1, .int y), (2, .int w)] (vv.toList ++ []) h') from ⟨Or.inl ⟨by decide, ex_0 hP⟩, by decide, ex_lim hP rfl, am_call.up (d_93_t6 hP hT hR ?_) (by decide)⟩)
  rw [show d_93 C y = Int32.ofInt 0 from ey]
  refine am_goX 1 (show (¬ (Int32.ofInt 0) = 0 → pz_S 3 (some .int) am_r92 4 Q 11 [(0, .ref 0), (1, .int y), (2, .int w)] [] h) ∧ (¬ ¬ (Int32.ofInt 0) = 0 → pz_S 3 (some .int) am_r92 4 Q 8 [(0, .ref 0), (1, .int y), (2, .int w)] [] h) from ⟨fun hz => absurd hz (by decide), fun _ => ?_⟩)
  exact am_goX 2 (show (∃ ty, (some .int) = some ty ∧ narrow ty (.int ((Int8.ofInt (-2)).toInt32)) = .int ((Int8.ofInt (-2)).toInt32)) ∧ h.2.2.2.2 = 175 ∧ _ from ⟨⟨.int, rfl, rfl⟩, ex_175 hP, hQ⟩)
theorem d_86_N17 (hP : ex_P h) (hI : cI C) (hT : c_v 17 C h) (hD : c_d 17 C h) (hR : h.2.2.1 0 3 = some 17) (hS : sC 36 s h) (hp : p < dP C) (hQ : Q (some (.int (d_86 C s p w))) h) : am_call am_cod 5 86 [.ref 0, .int (nI p), .int w] h Q := by
  have h6 := hT.1.2.1
  have h5 := hT.2.1.2.1
  refine pz_call (n := 86) (nL := 3) (rt := (some .int)) (rows := am_r86) (d := 4) (by decide +kernel) (by decide +kernel) rfl (by funext pc; rfl) (ex_175 hP) (by exact Nat.le_of_ble_eq_true rfl) ?_
  refine am_goX 3 (show am_rc h 0 10 ∧ 0 ≤ 8 ∧ h.2.2.2.2 + am_al 87 ≤ 175 ∧ am_call am_cod 4 87 [.ref 0, .int (nI p)] h (fun vv h' => pz_S 3 (some .int) am_r86 4 Q 5 [(0, .ref 0), (1, .int (nI p)), (2, .int w)] (vv.toList ++ []) h') from ⟨Or.inl ⟨by decide, ex_0 hP⟩, by decide, ex_lim hP rfl, am_call.up (d_87_t17 hP hT hR ?_) (by decide)⟩)
  rw [show d_87 C (nI p) = Int32.ofInt 1 from (v_87 hp)]
  refine am_goX 1 (show (¬ (Int32.ofInt 1) = 0 → pz_S 3 (some .int) am_r86 4 Q 11 [(0, .ref 0), (1, .int (nI p)), (2, .int w)] [] h) ∧ (¬ ¬ (Int32.ofInt 1) = 0 → pz_S 3 (some .int) am_r86 4 Q 8 [(0, .ref 0), (1, .int (nI p)), (2, .int w)] [] h) from ⟨fun _ => ?_, fun hz => absurd (by decide) hz⟩)
  refine am_goX 2 (show ((w.toInt < 0 ∨ 4 < w.toInt) → pz_S 3 (some .int) am_r86 4 Q 114 [(0, .ref 0), (1, .int (nI p)), (2, .int w)] [] h) ∧ (∀ j : Nat, w.toInt = 0 + (j : Int) → 0 + (j : Int) ≤ 4 → pz_S 3 (some .int) am_r86 4 Q ((12 : Int) + ((#[36, 46, 56, 83, 92] : Array Int)[j]?).getD 0).toNat [(0, .ref 0), (1, .int (nI p)), (2, .int w)] [] h) from ⟨fun hd => ?_, fun j hj1 hj2 => ?_⟩)
  · have c11 : ¬ w = Int32.ofInt 0 := fun w => by rw [w] at hd; revert hd; decide
    have c12 : ¬ w = Int32.ofInt 1 := fun w => by rw [w] at hd; revert hd; decide
    have c13 : ¬ w = Int32.ofInt 2 := fun w => by rw [w] at hd; revert hd; decide
    have c14 : ¬ w = Int32.ofInt 3 := fun w => by rw [w] at hd; revert hd; decide
    have c15 : ¬ w = Int32.ofInt 4 := fun w => by rw [w] at hd; revert hd; decide
    exact am_goX 2 (show (∃ ty, (some .int) = some ty ∧ narrow ty (.int ((Int8.ofInt (-2)).toInt32)) = .int ((Int8.ofInt (-2)).toInt32)) ∧ h.2.2.2.2 = 175 ∧ _ from ⟨⟨.int, rfl, rfl⟩, ex_175 hP, dn_q ((if_neg c11).trans ((if_neg c12).trans ((if_neg c13).trans ((if_neg c14).trans (if_neg c15))))) hQ⟩)
  · have hj : j = 0 ∨ j = 1 ∨ j = 2 ∨ j = 3 ∨ j = 4 := by omega
    rcases hj with rfl | rfl | rfl | rfl | rfl
    · have c11 : w = Int32.ofInt 0 := Int32.toInt_inj.mp (hj1.trans (by decide))
      show pz_S 3 (some .int) am_r86 4 Q 48 [(0, .ref 0), (1, .int (nI p)), (2, .int w)] [] h
      refine am_goX 2 (show am_sh h 0 = some (10, 0) ∧ pz_S 3 (some .int) am_r86 4 Q 52 [(0, .ref 0), (1, .int (nI p)), (2, .int w)] [am_rf (h.2.2.1 0 3)] h from ⟨ex_0 hP, ?_⟩)
      rw [show am_rf (h.2.2.1 0 3) = .ref 17 from congrArg am_rf (hR)]
      refine am_goX 1 (show am_sh h 17 = some (0, 0) ∧ pz_S 3 (some .int) am_r86 4 Q 55 [(0, .ref 0), (1, .int (nI p)), (2, .int w)] [am_rf (h.2.2.1 17 2)] h from ⟨ex_17 hP, ?_⟩)
      rw [show am_rf (h.2.2.1 17 2) = .ref 19 from congrArg am_rf (ex_r17_2 hP)]
      refine am_goX 2 (show ∃ jj nn : Nat, am_sh h 19 = some (13, nn) ∧ jj < nn ∧ nI p = nI jj ∧ pz_S 3 (some .int) am_r86 4 Q 57 [(0, .ref 0), (1, .int (nI p)), (2, .int w)] [.int (h.1 19 jj)] h from ⟨p, 6, ex_19 hP, (by omega), rfl, ?_⟩)
      rw [show h.1 19 p = dK C p from (hT.1.2.2 p (by omega)).1]
      exact am_goX 1 (show (∃ ty, (some .int) = some ty ∧ narrow ty (.int (dK C p)) = .int (dK C p)) ∧ h.2.2.2.2 = 175 ∧ _ from ⟨⟨.int, rfl, rfl⟩, ex_175 hP, dn_q (if_pos c11) hQ⟩)
    · have c12 : w = Int32.ofInt 1 := Int32.toInt_inj.mp (hj1.trans (by decide))
      have c11 : ¬ w = Int32.ofInt 0 := by rw [c12]; decide
      show pz_S 3 (some .int) am_r86 4 Q 58 [(0, .ref 0), (1, .int (nI p)), (2, .int w)] [] h
      refine am_goX 2 (show am_sh h 0 = some (10, 0) ∧ pz_S 3 (some .int) am_r86 4 Q 62 [(0, .ref 0), (1, .int (nI p)), (2, .int w)] [am_rf (h.2.2.1 0 7)] h from ⟨ex_0 hP, ?_⟩)
      rw [show am_rf (h.2.2.1 0 7) = .ref 36 from congrArg am_rf (ex_r0_7 hP)]
      refine am_goX 1 (show am_sh h 36 = some (6, 0) ∧ pz_S 3 (some .int) am_r86 4 Q 65 [(0, .ref 0), (1, .int (nI p)), (2, .int w)] [am_rf (h.2.2.1 36 2)] h from ⟨ex_36 hP, ?_⟩)
      rw [show am_rf (h.2.2.1 36 2) = .ref 37 from congrArg am_rf (ex_r36_2 hP)]
      refine am_goX 2 (show ∃ jj nn : Nat, am_sh h 37 = some (13, nn) ∧ jj < nn ∧ nI p = nI jj ∧ pz_S 3 (some .int) am_r86 4 Q 67 [(0, .ref 0), (1, .int (nI p)), (2, .int w)] [.int (h.1 37 jj)] h from ⟨p, 6, ex_37 hP, (by omega), rfl, ?_⟩)
      rw [show h.1 37 p = s.2.2.1 p from (hS.2.1 p (by omega)).1]
      exact am_goX 1 (show (∃ ty, (some .int) = some ty ∧ narrow ty (.int (s.2.2.1 p)) = .int (s.2.2.1 p)) ∧ h.2.2.2.2 = 175 ∧ _ from ⟨⟨.int, rfl, rfl⟩, ex_175 hP, dn_q ((if_neg c11).trans (if_pos c12)) hQ⟩)
    · have c13 : w = Int32.ofInt 2 := Int32.toInt_inj.mp (hj1.trans (by decide))
      have c11 : ¬ w = Int32.ofInt 0 := by rw [c13]; decide
      have c12 : ¬ w = Int32.ofInt 1 := by rw [c13]; decide
      show pz_S 3 (some .int) am_r86 4 Q 68 [(0, .ref 0), (1, .int (nI p)), (2, .int w)] [] h
      refine am_goX 2 (show am_sh h 0 = some (10, 0) ∧ pz_S 3 (some .int) am_r86 4 Q 72 [(0, .ref 0), (1, .int (nI p)), (2, .int w)] [am_rf (h.2.2.1 0 3)] h from ⟨ex_0 hP, ?_⟩)
      rw [show am_rf (h.2.2.1 0 3) = .ref 17 from congrArg am_rf (hR)]
      refine am_goX 3 (show am_sh h 0 = some (10, 0) ∧ pz_S 3 (some .int) am_r86 4 Q 77 [(0, .ref 0), (1, .int (nI p)), (2, .int w)] [am_rf (h.2.2.1 0 7), .int (nI p), .ref 17] h from ⟨ex_0 hP, ?_⟩)
      rw [show am_rf (h.2.2.1 0 7) = .ref 36 from congrArg am_rf (ex_r0_7 hP)]
      refine am_goX 2 (show am_sh h 0 = some (10, 0) ∧ pz_S 3 (some .int) am_r86 4 Q 81 [(0, .ref 0), (1, .int (nI p)), (2, .int w)] [am_rf (h.2.2.1 0 3), .ref 36, .int (nI p), .ref 17] h from ⟨ex_0 hP, ?_⟩)
      rw [show am_rf (h.2.2.1 0 3) = .ref 17 from congrArg am_rf (hR)]
      refine am_goX 2 (show am_sh h 0 = some (10, 0) ∧ pz_S 3 (some .int) am_r86 4 Q 85 [(0, .ref 0), (1, .int (nI p)), (2, .int w)] [am_rf (h.2.2.1 0 7), .ref 17, .ref 36, .int (nI p), .ref 17] h from ⟨ex_0 hP, ?_⟩)
      rw [show am_rf (h.2.2.1 0 7) = .ref 36 from congrArg am_rf (ex_r0_7 hP)]
      refine am_goX 1 (show am_sh h 36 = some (6, 0) ∧ pz_S 3 (some .int) am_r86 4 Q 88 [(0, .ref 0), (1, .int (nI p)), (2, .int w)] [.int (h.1 36 0), .ref 17, .ref 36, .int (nI p), .ref 17] h from ⟨ex_36 hP, ?_⟩)
      rw [show h.1 36 0 = s.1 from hS.1.1]
      refine am_goX 1 (show am_rc h 17 0 ∧ 3 ≤ 8 ∧ h.2.2.2.2 + am_al 68 ≤ 175 ∧ am_call am_cod 4 68 [.ref 17, .int s.1] h (fun vv h' => pz_S 3 (some .int) am_r86 4 Q 91 [(0, .ref 0), (1, .int (nI p)), (2, .int w)] (vv.toList ++ [.ref 36, .int (nI p), .ref 17]) h') from ⟨Or.inl ⟨by decide, ex_17 hP⟩, by decide, ex_lim hP rfl, am_call.up (d_68_t17 hP hT ?_) (by decide)⟩)
      refine am_goX 1 (show am_rc h 17 0 ∧ 0 ≤ 8 ∧ h.2.2.2.2 + am_al 88 ≤ 175 ∧ am_call am_cod 4 88 [.ref 17, .int (nI p), .ref 36, .int (d_68 C s.1)] h (fun vv h' => pz_S 3 (some .int) am_r86 4 Q 94 [(0, .ref 0), (1, .int (nI p)), (2, .int w)] (vv.toList ++ []) h') from ⟨Or.inl ⟨by decide, ex_17 hP⟩, by decide, ex_lim hP rfl, am_call.up (d_88_t17_36 hP hI hT hD hS (fC_0 (c := 17) (h := h)) (by omega) ?_) (by decide)⟩)
      exact am_goX 1 (show (∃ ty, (some .int) = some ty ∧ narrow ty (.int (d_88 C s p (d_68 C s.1))) = .int (d_88 C s p (d_68 C s.1))) ∧ h.2.2.2.2 = 175 ∧ _ from ⟨⟨.int, rfl, rfl⟩, ex_175 hP, dn_q ((if_neg c11).trans ((if_neg c12).trans (if_pos c13))) hQ⟩)
    · have c14 : w = Int32.ofInt 3 := Int32.toInt_inj.mp (hj1.trans (by decide))
      have c11 : ¬ w = Int32.ofInt 0 := by rw [c14]; decide
      have c12 : ¬ w = Int32.ofInt 1 := by rw [c14]; decide
      have c13 : ¬ w = Int32.ofInt 2 := by rw [c14]; decide
      show pz_S 3 (some .int) am_r86 4 Q 95 [(0, .ref 0), (1, .int (nI p)), (2, .int w)] [] h
      refine am_goX 2 (show am_sh h 0 = some (10, 0) ∧ pz_S 3 (some .int) am_r86 4 Q 99 [(0, .ref 0), (1, .int (nI p)), (2, .int w)] [am_rf (h.2.2.1 0 3)] h from ⟨ex_0 hP, ?_⟩)
      rw [show am_rf (h.2.2.1 0 3) = .ref 17 from congrArg am_rf (hR)]
      refine am_goX 2 (show am_rc h 17 0 ∧ 0 ≤ 8 ∧ h.2.2.2.2 + am_al 91 ≤ 175 ∧ am_call am_cod 4 91 [.ref 17, .int (nI p)] h (fun vv h' => pz_S 3 (some .int) am_r86 4 Q 103 [(0, .ref 0), (1, .int (nI p)), (2, .int w)] (vv.toList ++ []) h') from ⟨Or.inl ⟨by decide, ex_17 hP⟩, by decide, ex_lim hP rfl, am_call.up (d_91_t17 hP hT ?_) (by decide)⟩)
      exact am_goX 1 (show (∃ ty, (some .int) = some ty ∧ narrow ty (.int (d_91 C p)) = .int (d_91 C p)) ∧ h.2.2.2.2 = 175 ∧ _ from ⟨⟨.int, rfl, rfl⟩, ex_175 hP, dn_q ((if_neg c11).trans ((if_neg c12).trans ((if_neg c13).trans (if_pos c14)))) hQ⟩)
    · have c15 : w = Int32.ofInt 4 := Int32.toInt_inj.mp (hj1.trans (by decide))
      have c11 : ¬ w = Int32.ofInt 0 := by rw [c15]; decide
      have c12 : ¬ w = Int32.ofInt 1 := by rw [c15]; decide
      have c13 : ¬ w = Int32.ofInt 2 := by rw [c15]; decide
      have c14 : ¬ w = Int32.ofInt 3 := by rw [c15]; decide
      show pz_S 3 (some .int) am_r86 4 Q 104 [(0, .ref 0), (1, .int (nI p)), (2, .int w)] [] h
      refine am_goX 2 (show am_sh h 0 = some (10, 0) ∧ pz_S 3 (some .int) am_r86 4 Q 108 [(0, .ref 0), (1, .int (nI p)), (2, .int w)] [am_rf (h.2.2.1 0 7)] h from ⟨ex_0 hP, ?_⟩)
      rw [show am_rf (h.2.2.1 0 7) = .ref 36 from congrArg am_rf (ex_r0_7 hP)]
      refine am_goX 1 (show am_sh h 36 = some (6, 0) ∧ pz_S 3 (some .int) am_r86 4 Q 111 [(0, .ref 0), (1, .int (nI p)), (2, .int w)] [am_rf (h.2.2.1 36 3)] h from ⟨ex_36 hP, ?_⟩)
      rw [show am_rf (h.2.2.1 36 3) = .ref 38 from congrArg am_rf (ex_r36_3 hP)]
      refine am_goX 2 (show ∃ jj nn : Nat, am_sh h 38 = some (13, nn) ∧ jj < nn ∧ nI p = nI jj ∧ pz_S 3 (some .int) am_r86 4 Q 113 [(0, .ref 0), (1, .int (nI p)), (2, .int w)] [.int (h.1 38 jj)] h from ⟨p, 6, ex_38 hP, (by omega), rfl, ?_⟩)
      rw [show h.1 38 p = s.2.2.2.1 p from (hS.2.1 p (by omega)).2]
      exact am_goX 1 (show (∃ ty, (some .int) = some ty ∧ narrow ty (.int (s.2.2.2.1 p)) = .int (s.2.2.2.1 p)) ∧ h.2.2.2.2 = 175 ∧ _ from ⟨⟨.int, rfl, rfl⟩, ex_175 hP, dn_q ((if_neg c11).trans ((if_neg c12).trans ((if_neg c13).trans ((if_neg c14).trans (if_pos c15))))) hQ⟩)
theorem d_86_xN17 (hP : ex_P h) (hI : cI C) (hT : c_v 17 C h) (hD : c_d 17 C h) (hR : h.2.2.1 0 3 = some 17) (hS : sC 36 s h) (ey : d_87 C y = Int32.ofInt 0) (hQ : Q (some (.int d_86x)) h) : am_call am_cod 5 86 [.ref 0, .int y, .int w] h Q := by
  have h6 := hT.1.2.1
  have h5 := hT.2.1.2.1
  refine pz_call (n := 86) (nL := 3) (rt := (some .int)) (rows := am_r86) (d := 4) (by decide +kernel) (by decide +kernel) rfl (by funext pc; rfl) (ex_175 hP) (by exact Nat.le_of_ble_eq_true rfl) ?_
  refine am_goX 3 (show am_rc h 0 10 ∧ 0 ≤ 8 ∧ h.2.2.2.2 + am_al 87 ≤ 175 ∧ am_call am_cod 4 87 [.ref 0, .int y] h (fun vv h' => pz_S 3 (some .int) am_r86 4 Q 5 [(0, .ref 0), (1, .int y), (2, .int w)] (vv.toList ++ []) h') from ⟨Or.inl ⟨by decide, ex_0 hP⟩, by decide, ex_lim hP rfl, am_call.up (d_87_t17 hP hT hR ?_) (by decide)⟩)
  rw [show d_87 C y = Int32.ofInt 0 from ey]
  refine am_goX 1 (show (¬ (Int32.ofInt 0) = 0 → pz_S 3 (some .int) am_r86 4 Q 11 [(0, .ref 0), (1, .int y), (2, .int w)] [] h) ∧ (¬ ¬ (Int32.ofInt 0) = 0 → pz_S 3 (some .int) am_r86 4 Q 8 [(0, .ref 0), (1, .int y), (2, .int w)] [] h) from ⟨fun hz => absurd hz (by decide), fun _ => ?_⟩)
  exact am_goX 2 (show (∃ ty, (some .int) = some ty ∧ narrow ty (.int ((Int8.ofInt (-2)).toInt32)) = .int ((Int8.ofInt (-2)).toInt32)) ∧ h.2.2.2.2 = 175 ∧ _ from ⟨⟨.int, rfl, rfl⟩, ex_175 hP, hQ⟩)
theorem d_92_N17 (hP : ex_P h) (hI : cI C) (hT : c_v 17 C h) (hD : c_d 17 C h) (hR : h.2.2.1 0 3 = some 17) (hS : sC 36 s h) (he : e < dE C) (hQ : Q (some (.int (d_92 C s e w))) h) : am_call am_cod 5 92 [.ref 0, .int (nI e), .int w] h Q := by
  have h6 := hT.1.2.1
  have h5 := hT.2.1.2.1
  refine pz_call (n := 92) (nL := 3) (rt := (some .int)) (rows := am_r92) (d := 4) (by decide +kernel) (by decide +kernel) rfl (by funext pc; rfl) (ex_175 hP) (by exact Nat.le_of_ble_eq_true rfl) ?_
  refine am_goX 3 (show am_rc h 0 10 ∧ 0 ≤ 8 ∧ h.2.2.2.2 + am_al 93 ≤ 175 ∧ am_call am_cod 4 93 [.ref 0, .int (nI e)] h (fun vv h' => pz_S 3 (some .int) am_r92 4 Q 5 [(0, .ref 0), (1, .int (nI e)), (2, .int w)] (vv.toList ++ []) h') from ⟨Or.inl ⟨by decide, ex_0 hP⟩, by decide, ex_lim hP rfl, am_call.up (d_93_t17 hP hT hR ?_) (by decide)⟩)
  rw [show d_93 C (nI e) = Int32.ofInt 1 from (v_93 he h5)]
  refine am_goX 1 (show (¬ (Int32.ofInt 1) = 0 → pz_S 3 (some .int) am_r92 4 Q 11 [(0, .ref 0), (1, .int (nI e)), (2, .int w)] [] h) ∧ (¬ ¬ (Int32.ofInt 1) = 0 → pz_S 3 (some .int) am_r92 4 Q 8 [(0, .ref 0), (1, .int (nI e)), (2, .int w)] [] h) from ⟨fun _ => ?_, fun hz => absurd (by decide) hz⟩)
  refine am_goX 2 (show ((w.toInt < 0 ∨ 4 < w.toInt) → pz_S 3 (some .int) am_r92 4 Q 98 [(0, .ref 0), (1, .int (nI e)), (2, .int w)] [] h) ∧ (∀ j : Nat, w.toInt = 0 + (j : Int) → 0 + (j : Int) ≤ 4 → pz_S 3 (some .int) am_r92 4 Q ((12 : Int) + ((#[36, 46, 56, 66, 76] : Array Int)[j]?).getD 0).toNat [(0, .ref 0), (1, .int (nI e)), (2, .int w)] [] h) from ⟨fun hd => ?_, fun j hj1 hj2 => ?_⟩)
  · have c16 : ¬ w = Int32.ofInt 0 := fun w => by rw [w] at hd; revert hd; decide
    have c17 : ¬ w = Int32.ofInt 1 := fun w => by rw [w] at hd; revert hd; decide
    have c18 : ¬ w = Int32.ofInt 2 := fun w => by rw [w] at hd; revert hd; decide
    have c19 : ¬ w = Int32.ofInt 3 := fun w => by rw [w] at hd; revert hd; decide
    have c20 : ¬ w = Int32.ofInt 4 := fun w => by rw [w] at hd; revert hd; decide
    exact am_goX 2 (show (∃ ty, (some .int) = some ty ∧ narrow ty (.int ((Int8.ofInt (-2)).toInt32)) = .int ((Int8.ofInt (-2)).toInt32)) ∧ h.2.2.2.2 = 175 ∧ _ from ⟨⟨.int, rfl, rfl⟩, ex_175 hP, dn_q ((if_neg c16).trans ((if_neg c17).trans ((if_neg c18).trans ((if_neg c19).trans (if_neg c20))))) hQ⟩)
  · have hj : j = 0 ∨ j = 1 ∨ j = 2 ∨ j = 3 ∨ j = 4 := by omega
    rcases hj with rfl | rfl | rfl | rfl | rfl
    · have c16 : w = Int32.ofInt 0 := Int32.toInt_inj.mp (hj1.trans (by decide))
      show pz_S 3 (some .int) am_r92 4 Q 48 [(0, .ref 0), (1, .int (nI e)), (2, .int w)] [] h
      refine am_goX 2 (show am_sh h 0 = some (10, 0) ∧ pz_S 3 (some .int) am_r92 4 Q 52 [(0, .ref 0), (1, .int (nI e)), (2, .int w)] [am_rf (h.2.2.1 0 3)] h from ⟨ex_0 hP, ?_⟩)
      rw [show am_rf (h.2.2.1 0 3) = .ref 17 from congrArg am_rf (hR)]
      refine am_goX 1 (show am_sh h 17 = some (0, 0) ∧ pz_S 3 (some .int) am_r92 4 Q 55 [(0, .ref 0), (1, .int (nI e)), (2, .int w)] [am_rf (h.2.2.1 17 6)] h from ⟨ex_17 hP, ?_⟩)
      rw [show am_rf (h.2.2.1 17 6) = .ref 22 from congrArg am_rf (ex_r17_6 hP)]
      refine am_goX 2 (show ∃ jj nn : Nat, am_sh h 22 = some (13, nn) ∧ jj < nn ∧ nI e = nI jj ∧ pz_S 3 (some .int) am_r92 4 Q 57 [(0, .ref 0), (1, .int (nI e)), (2, .int w)] [.int (h.1 22 jj)] h from ⟨e, 5, ex_22 hP, (by omega), rfl, ?_⟩)
      rw [show h.1 22 e = dW C e from hD e (by omega)]
      exact am_goX 1 (show (∃ ty, (some .int) = some ty ∧ narrow ty (.int (dW C e)) = .int (dW C e)) ∧ h.2.2.2.2 = 175 ∧ _ from ⟨⟨.int, rfl, rfl⟩, ex_175 hP, dn_q (if_pos c16) hQ⟩)
    · have c17 : w = Int32.ofInt 1 := Int32.toInt_inj.mp (hj1.trans (by decide))
      have c16 : ¬ w = Int32.ofInt 0 := by rw [c17]; decide
      show pz_S 3 (some .int) am_r92 4 Q 58 [(0, .ref 0), (1, .int (nI e)), (2, .int w)] [] h
      refine am_goX 2 (show am_sh h 0 = some (10, 0) ∧ pz_S 3 (some .int) am_r92 4 Q 62 [(0, .ref 0), (1, .int (nI e)), (2, .int w)] [am_rf (h.2.2.1 0 3)] h from ⟨ex_0 hP, ?_⟩)
      rw [show am_rf (h.2.2.1 0 3) = .ref 17 from congrArg am_rf (hR)]
      refine am_goX 1 (show am_sh h 17 = some (0, 0) ∧ pz_S 3 (some .int) am_r92 4 Q 65 [(0, .ref 0), (1, .int (nI e)), (2, .int w)] [am_rf (h.2.2.1 17 7)] h from ⟨ex_17 hP, ?_⟩)
      rw [show am_rf (h.2.2.1 17 7) = .ref 23 from congrArg am_rf (ex_r17_7 hP)]
      refine am_goX 2 (show ∃ jj nn : Nat, am_sh h 23 = some (13, nn) ∧ jj < nn ∧ nI e = nI jj ∧ pz_S 3 (some .int) am_r92 4 Q 67 [(0, .ref 0), (1, .int (nI e)), (2, .int w)] [.int (h.1 23 jj)] h from ⟨e, 5, ex_23 hP, (by omega), rfl, ?_⟩)
      rw [show h.1 23 e = dN C e from (hT.2.1.2.2 e (by omega)).1]
      exact am_goX 1 (show (∃ ty, (some .int) = some ty ∧ narrow ty (.int (dN C e)) = .int (dN C e)) ∧ h.2.2.2.2 = 175 ∧ _ from ⟨⟨.int, rfl, rfl⟩, ex_175 hP, dn_q ((if_neg c16).trans (if_pos c17)) hQ⟩)
    · have c18 : w = Int32.ofInt 2 := Int32.toInt_inj.mp (hj1.trans (by decide))
      have c16 : ¬ w = Int32.ofInt 0 := by rw [c18]; decide
      have c17 : ¬ w = Int32.ofInt 1 := by rw [c18]; decide
      show pz_S 3 (some .int) am_r92 4 Q 68 [(0, .ref 0), (1, .int (nI e)), (2, .int w)] [] h
      refine am_goX 2 (show am_sh h 0 = some (10, 0) ∧ pz_S 3 (some .int) am_r92 4 Q 72 [(0, .ref 0), (1, .int (nI e)), (2, .int w)] [am_rf (h.2.2.1 0 3)] h from ⟨ex_0 hP, ?_⟩)
      rw [show am_rf (h.2.2.1 0 3) = .ref 17 from congrArg am_rf (hR)]
      refine am_goX 1 (show am_sh h 17 = some (0, 0) ∧ pz_S 3 (some .int) am_r92 4 Q 75 [(0, .ref 0), (1, .int (nI e)), (2, .int w)] [am_rf (h.2.2.1 17 8)] h from ⟨ex_17 hP, ?_⟩)
      rw [show am_rf (h.2.2.1 17 8) = .ref 24 from congrArg am_rf (ex_r17_8 hP)]
      refine am_goX 2 (show ∃ jj nn : Nat, am_sh h 24 = some (13, nn) ∧ jj < nn ∧ nI e = nI jj ∧ pz_S 3 (some .int) am_r92 4 Q 77 [(0, .ref 0), (1, .int (nI e)), (2, .int w)] [.int (h.1 24 jj)] h from ⟨e, 5, ex_24 hP, (by omega), rfl, ?_⟩)
      rw [show h.1 24 e = dG C e from (hT.2.1.2.2 e (by omega)).2]
      exact am_goX 1 (show (∃ ty, (some .int) = some ty ∧ narrow ty (.int (dG C e)) = .int (dG C e)) ∧ h.2.2.2.2 = 175 ∧ _ from ⟨⟨.int, rfl, rfl⟩, ex_175 hP, dn_q ((if_neg c16).trans ((if_neg c17).trans (if_pos c18))) hQ⟩)
    · have c19 : w = Int32.ofInt 3 := Int32.toInt_inj.mp (hj1.trans (by decide))
      have c16 : ¬ w = Int32.ofInt 0 := by rw [c19]; decide
      have c17 : ¬ w = Int32.ofInt 1 := by rw [c19]; decide
      have c18 : ¬ w = Int32.ofInt 2 := by rw [c19]; decide
      show pz_S 3 (some .int) am_r92 4 Q 78 [(0, .ref 0), (1, .int (nI e)), (2, .int w)] [] h
      refine am_goX 2 (show am_sh h 0 = some (10, 0) ∧ pz_S 3 (some .int) am_r92 4 Q 82 [(0, .ref 0), (1, .int (nI e)), (2, .int w)] [am_rf (h.2.2.1 0 7)] h from ⟨ex_0 hP, ?_⟩)
      rw [show am_rf (h.2.2.1 0 7) = .ref 36 from congrArg am_rf (ex_r0_7 hP)]
      refine am_goX 1 (show am_sh h 36 = some (6, 0) ∧ pz_S 3 (some .int) am_r92 4 Q 85 [(0, .ref 0), (1, .int (nI e)), (2, .int w)] [am_rf (h.2.2.1 36 4)] h from ⟨ex_36 hP, ?_⟩)
      rw [show am_rf (h.2.2.1 36 4) = .ref 39 from congrArg am_rf (ex_r36_4 hP)]
      refine am_goX 2 (show ∃ jj nn : Nat, am_sh h 39 = some (13, nn) ∧ jj < nn ∧ nI e = nI jj ∧ pz_S 3 (some .int) am_r92 4 Q 87 [(0, .ref 0), (1, .int (nI e)), (2, .int w)] [.int (h.1 39 jj)] h from ⟨e, 5, ex_39 hP, (by omega), rfl, ?_⟩)
      rw [show h.1 39 e = s.2.2.2.2.1 e from (hS.2.2 e (by omega)).1]
      exact am_goX 1 (show (∃ ty, (some .int) = some ty ∧ narrow ty (.int (s.2.2.2.2.1 e)) = .int (s.2.2.2.2.1 e)) ∧ h.2.2.2.2 = 175 ∧ _ from ⟨⟨.int, rfl, rfl⟩, ex_175 hP, dn_q ((if_neg c16).trans ((if_neg c17).trans ((if_neg c18).trans (if_pos c19)))) hQ⟩)
    · have c20 : w = Int32.ofInt 4 := Int32.toInt_inj.mp (hj1.trans (by decide))
      have c16 : ¬ w = Int32.ofInt 0 := by rw [c20]; decide
      have c17 : ¬ w = Int32.ofInt 1 := by rw [c20]; decide
      have c18 : ¬ w = Int32.ofInt 2 := by rw [c20]; decide
      have c19 : ¬ w = Int32.ofInt 3 := by rw [c20]; decide
      show pz_S 3 (some .int) am_r92 4 Q 88 [(0, .ref 0), (1, .int (nI e)), (2, .int w)] [] h
      refine am_goX 2 (show am_sh h 0 = some (10, 0) ∧ pz_S 3 (some .int) am_r92 4 Q 92 [(0, .ref 0), (1, .int (nI e)), (2, .int w)] [am_rf (h.2.2.1 0 7)] h from ⟨ex_0 hP, ?_⟩)
      rw [show am_rf (h.2.2.1 0 7) = .ref 36 from congrArg am_rf (ex_r0_7 hP)]
      refine am_goX 1 (show am_sh h 36 = some (6, 0) ∧ pz_S 3 (some .int) am_r92 4 Q 95 [(0, .ref 0), (1, .int (nI e)), (2, .int w)] [am_rf (h.2.2.1 36 5)] h from ⟨ex_36 hP, ?_⟩)
      rw [show am_rf (h.2.2.1 36 5) = .ref 40 from congrArg am_rf (ex_r36_5 hP)]
      refine am_goX 2 (show ∃ jj nn : Nat, am_sh h 40 = some (13, nn) ∧ jj < nn ∧ nI e = nI jj ∧ pz_S 3 (some .int) am_r92 4 Q 97 [(0, .ref 0), (1, .int (nI e)), (2, .int w)] [.int (h.1 40 jj)] h from ⟨e, 5, ex_40 hP, (by omega), rfl, ?_⟩)
      rw [show h.1 40 e = s.2.2.2.2.2 e from (hS.2.2 e (by omega)).2]
      exact am_goX 1 (show (∃ ty, (some .int) = some ty ∧ narrow ty (.int (s.2.2.2.2.2 e)) = .int (s.2.2.2.2.2 e)) ∧ h.2.2.2.2 = 175 ∧ _ from ⟨⟨.int, rfl, rfl⟩, ex_175 hP, dn_q ((if_neg c16).trans ((if_neg c17).trans ((if_neg c18).trans ((if_neg c19).trans (if_pos c20))))) hQ⟩)
theorem d_92_xN17 (hP : ex_P h) (hI : cI C) (hT : c_v 17 C h) (hD : c_d 17 C h) (hR : h.2.2.1 0 3 = some 17) (hS : sC 36 s h) (ey : d_93 C y = Int32.ofInt 0) (hQ : Q (some (.int d_92x)) h) : am_call am_cod 5 92 [.ref 0, .int y, .int w] h Q := by
  have h6 := hT.1.2.1
  have h5 := hT.2.1.2.1
  refine pz_call (n := 92) (nL := 3) (rt := (some .int)) (rows := am_r92) (d := 4) (by decide +kernel) (by decide +kernel) rfl (by funext pc; rfl) (ex_175 hP) (by exact Nat.le_of_ble_eq_true rfl) ?_
  refine am_goX 3 (show am_rc h 0 10 ∧ 0 ≤ 8 ∧ h.2.2.2.2 + am_al 93 ≤ 175 ∧ am_call am_cod 4 93 [.ref 0, .int y] h (fun vv h' => pz_S 3 (some .int) am_r92 4 Q 5 [(0, .ref 0), (1, .int y), (2, .int w)] (vv.toList ++ []) h') from ⟨Or.inl ⟨by decide, ex_0 hP⟩, by decide, ex_lim hP rfl, am_call.up (d_93_t17 hP hT hR ?_) (by decide)⟩)
  rw [show d_93 C y = Int32.ofInt 0 from ey]
  refine am_goX 1 (show (¬ (Int32.ofInt 0) = 0 → pz_S 3 (some .int) am_r92 4 Q 11 [(0, .ref 0), (1, .int y), (2, .int w)] [] h) ∧ (¬ ¬ (Int32.ofInt 0) = 0 → pz_S 3 (some .int) am_r92 4 Q 8 [(0, .ref 0), (1, .int y), (2, .int w)] [] h) from ⟨fun hz => absurd hz (by decide), fun _ => ?_⟩)
  exact am_goX 2 (show (∃ ty, (some .int) = some ty ∧ narrow ty (.int ((Int8.ofInt (-2)).toInt32)) = .int ((Int8.ofInt (-2)).toInt32)) ∧ h.2.2.2.2 = 175 ∧ _ from ⟨⟨.int, rfl, rfl⟩, ex_175 hP, hQ⟩)
def d_220_0 (C : sp_C) (s : dS) (p : Nat) : Int32 := dK C p
theorem d_220_M0 (hP : ex_P h) (hI : cI C) (hT : tR C h) (hO : ∀ e, e < dE C → h.1 172 e = dW V e) (hS : sR 0 (dP C) s h) (hp : p < dP C) (hQ : ∀ g, Q (some (.int (d_220_0 C s p))) g) : am_call am_cod 7 220 [.ref 154, .int (nI p), .int (Int32.ofInt 0)] h Q := by
  have h6 := hT.1.2.1
  have h5 := hT.2.1.2.1
  refine pz_call (n := 220) (nL := 3) (rt := (some .int)) (rows := am_r220) (d := 6) (by decide +kernel) (by decide +kernel) rfl (by funext pc; rfl) (ex_175 hP) (by exact Nat.le_of_ble_eq_true rfl) ?_
  refine am_goX 3 (show am_sh h 154 = some (11, 0) ∧ narrow (am_fty 11 0) (.int (Int32.ofInt 0)) = .int (Int32.ofInt 0) ∧ fits (am_fty 11 0) (.int (Int32.ofInt 0)) = true ∧ pz_S 3 (some .int) am_r220 6 Q 5 [(0, .ref 154), (1, .int (nI p)), (2, .int (Int32.ofInt 0))] [] (am_wI h 154 0 (Int32.ofInt 0)) from ⟨ex_154 hP, rfl, rfl, ?_⟩)
  have f22 : ex_P (am_wI h 154 0 (Int32.ofInt 0)) := hP
  have f23 : cI C := hI
  have f24 : tR C (am_wI h 154 0 (Int32.ofInt 0)) := tR_w (by omega) hT
  have f25 : ∀ e, e < dE C → (am_wI h 154 0 (Int32.ofInt 0)).1 172 e = dW V e := on_w (by omega) hO
  have f26 : sR 0 (dP C) s (am_wI h 154 0 (Int32.ofInt 0)) := sR_o (by omega) hS
  generalize am_wI h 154 0 (Int32.ofInt 0) = h21 at f22 f23 f24 f25 f26 ⊢
  refine am_goX 3 (show am_rc h21 154 11 ∧ 0 ≤ 8 ∧ h21.2.2.2.2 + am_al 221 ≤ 175 ∧ am_call am_cod 6 221 [.ref 154, .int (nI p)] h21 (fun vv h' => pz_S 3 (some .int) am_r220 6 Q 10 [(0, .ref 154), (1, .int (nI p)), (2, .int (Int32.ofInt 0))] (vv.toList ++ []) h') from ⟨Or.inl ⟨by decide, ex_154 f22⟩, by decide, ex_lim f22 rfl, am_call.up (d_221_r f22 f24 ?_) (by decide)⟩)
  rw [show d_221 C (nI p) = Int32.ofInt 1 from ((d_221_e _).trans (v_87 hp))]
  refine am_goX 1 (show ((Int32.ofInt 1) = 0 → pz_S 3 (some .int) am_r220 6 Q 22 [(0, .ref 154), (1, .int (nI p)), (2, .int (Int32.ofInt 0))] [] h21) ∧ (¬ ((Int32.ofInt 1) = 0) → pz_S 3 (some .int) am_r220 6 Q 13 [(0, .ref 154), (1, .int (nI p)), (2, .int (Int32.ofInt 0))] [] h21) from ⟨fun hz => absurd hz (by decide), fun _ => ?_⟩)
  refine am_goX 4 (show 0 ≤ 8 ∧ h21.2.2.2.2 + am_al 207 ≤ 175 ∧ am_call am_cod 6 207 [.int (Int32.ofInt 0), .int (Int32.ofInt 0), .int (Int32.ofInt 4)] h21 (fun vv h' => pz_S 3 (some .int) am_r220 6 Q 19 [(0, .ref 154), (1, .int (nI p)), (2, .int (Int32.ofInt 0))] (vv.toList ++ []) h') from ⟨by decide, ex_lim f22 rfl, am_call.up (d_207_w f22 ?_) (by decide)⟩)
  rw [show d_207 (Int32.ofInt 0) (Int32.ofInt 0) (Int32.ofInt 4) = Int32.ofInt 1 from (by decide)]
  refine am_goX 1 (show (¬ (Int32.ofInt 1) = 0 → pz_S 3 (some .int) am_r220 6 Q 25 [(0, .ref 154), (1, .int (nI p)), (2, .int (Int32.ofInt 0))] [] h21) ∧ (¬ ¬ (Int32.ofInt 1) = 0 → pz_S 3 (some .int) am_r220 6 Q 22 [(0, .ref 154), (1, .int (nI p)), (2, .int (Int32.ofInt 0))] [] h21) from ⟨fun _ => ?_, fun hz => absurd (by decide) hz⟩)
  refine am_goX 2 (show (¬ (Int32.ofInt 0) = 0 → pz_S 3 (some .int) am_r220 6 Q 38 [(0, .ref 154), (1, .int (nI p)), (2, .int (Int32.ofInt 0))] [] h21) ∧ (¬ ¬ (Int32.ofInt 0) = 0 → pz_S 3 (some .int) am_r220 6 Q 29 [(0, .ref 154), (1, .int (nI p)), (2, .int (Int32.ofInt 0))] [] h21) from ⟨fun hz => absurd hz (by decide), fun _ => ?_⟩)
  refine am_goX 4 (show am_rc h21 154 11 ∧ 0 ≤ 8 ∧ h21.2.2.2.2 + am_al 187 ≤ 175 ∧ am_call am_cod 6 187 [.ref 154, .int (nI p), .int (Int32.ofInt 0)] h21 (fun vv h' => pz_S 3 (some .int) am_r220 6 Q 35 [(0, .ref 154), (1, .int (nI p)), (2, .int (Int32.ofInt 0))] (vv.toList ++ []) h') from ⟨Or.inl ⟨by decide, ex_154 f22⟩, by decide, ex_lim f22 rfl, am_call.up (d_187_r0 f22 f24 (by omega) ?_) (by decide)⟩)
  exact am_goX 2 (show (∃ ty, (some .int) = some ty ∧ narrow ty (.int (dK C p)) = .int (dK C p)) ∧ h21.2.2.2.2 = 175 ∧ _ from ⟨⟨.int, rfl, rfl⟩, ex_175 f22, hQ _⟩)
def d_226_0 (C : sp_C) (s : dS) (q : Nat) : Int32 := dW C q
theorem d_226_M0 (hP : ex_P h) (hI : cI C) (hT : tR C h) (hO : ∀ e, e < dE C → h.1 172 e = dW V e) (hS : sR 0 (dP C) s h) (hq : q < dE C) (hQ : ∀ g, Q (some (.int (d_226_0 C s q))) g) : am_call am_cod 7 226 [.ref 154, .int (nI q), .int (Int32.ofInt 0)] h Q := by
  have h6 := hT.1.2.1
  have h5 := hT.2.1.2.1
  refine pz_call (n := 226) (nL := 3) (rt := (some .int)) (rows := am_r226) (d := 6) (by decide +kernel) (by decide +kernel) rfl (by funext pc; rfl) (ex_175 hP) (by exact Nat.le_of_ble_eq_true rfl) ?_
  refine am_goX 3 (show am_sh h 154 = some (11, 0) ∧ narrow (am_fty 11 0) (.int (Int32.ofInt 0)) = .int (Int32.ofInt 0) ∧ fits (am_fty 11 0) (.int (Int32.ofInt 0)) = true ∧ pz_S 3 (some .int) am_r226 6 Q 5 [(0, .ref 154), (1, .int (nI q)), (2, .int (Int32.ofInt 0))] [] (am_wI h 154 0 (Int32.ofInt 0)) from ⟨ex_154 hP, rfl, rfl, ?_⟩)
  have f28 : ex_P (am_wI h 154 0 (Int32.ofInt 0)) := hP
  have f29 : cI C := hI
  have f30 : tR C (am_wI h 154 0 (Int32.ofInt 0)) := tR_w (by omega) hT
  have f31 : ∀ e, e < dE C → (am_wI h 154 0 (Int32.ofInt 0)).1 172 e = dW V e := on_w (by omega) hO
  have f32 : sR 0 (dP C) s (am_wI h 154 0 (Int32.ofInt 0)) := sR_o (by omega) hS
  generalize am_wI h 154 0 (Int32.ofInt 0) = h27 at f28 f29 f30 f31 f32 ⊢
  refine am_goX 3 (show am_rc h27 154 11 ∧ 0 ≤ 8 ∧ h27.2.2.2.2 + am_al 227 ≤ 175 ∧ am_call am_cod 6 227 [.ref 154, .int (nI q)] h27 (fun vv h' => pz_S 3 (some .int) am_r226 6 Q 10 [(0, .ref 154), (1, .int (nI q)), (2, .int (Int32.ofInt 0))] (vv.toList ++ []) h') from ⟨Or.inl ⟨by decide, ex_154 f28⟩, by decide, ex_lim f28 rfl, am_call.up (d_227_r f28 f30 ?_) (by decide)⟩)
  rw [show d_227 C (nI q) = Int32.ofInt 1 from ((d_227_e _).trans (v_93 hq h5))]
  refine am_goX 1 (show ((Int32.ofInt 1) = 0 → pz_S 3 (some .int) am_r226 6 Q 22 [(0, .ref 154), (1, .int (nI q)), (2, .int (Int32.ofInt 0))] [] h27) ∧ (¬ ((Int32.ofInt 1) = 0) → pz_S 3 (some .int) am_r226 6 Q 13 [(0, .ref 154), (1, .int (nI q)), (2, .int (Int32.ofInt 0))] [] h27) from ⟨fun hz => absurd hz (by decide), fun _ => ?_⟩)
  refine am_goX 4 (show 0 ≤ 8 ∧ h27.2.2.2.2 + am_al 207 ≤ 175 ∧ am_call am_cod 6 207 [.int (Int32.ofInt 0), .int (Int32.ofInt 0), .int (Int32.ofInt 4)] h27 (fun vv h' => pz_S 3 (some .int) am_r226 6 Q 19 [(0, .ref 154), (1, .int (nI q)), (2, .int (Int32.ofInt 0))] (vv.toList ++ []) h') from ⟨by decide, ex_lim f28 rfl, am_call.up (d_207_w f28 ?_) (by decide)⟩)
  rw [show d_207 (Int32.ofInt 0) (Int32.ofInt 0) (Int32.ofInt 4) = Int32.ofInt 1 from (by decide)]
  refine am_goX 1 (show (¬ (Int32.ofInt 1) = 0 → pz_S 3 (some .int) am_r226 6 Q 25 [(0, .ref 154), (1, .int (nI q)), (2, .int (Int32.ofInt 0))] [] h27) ∧ (¬ ¬ (Int32.ofInt 1) = 0 → pz_S 3 (some .int) am_r226 6 Q 22 [(0, .ref 154), (1, .int (nI q)), (2, .int (Int32.ofInt 0))] [] h27) from ⟨fun _ => ?_, fun hz => absurd (by decide) hz⟩)
  refine am_goX 3 (show ((Int32.ofInt 2) ≤ (Int32.ofInt 0) → pz_S 3 (some .int) am_r226 6 Q 39 [(0, .ref 154), (1, .int (nI q)), (2, .int (Int32.ofInt 0))] [] h27) ∧ (¬ ((Int32.ofInt 2) ≤ (Int32.ofInt 0)) → pz_S 3 (some .int) am_r226 6 Q 30 [(0, .ref 154), (1, .int (nI q)), (2, .int (Int32.ofInt 0))] [] h27) from ⟨fun hz => absurd hz (by decide), fun _ => ?_⟩)
  refine am_goX 4 (show am_rc h27 154 11 ∧ 0 ≤ 8 ∧ h27.2.2.2.2 + am_al 184 ≤ 175 ∧ am_call am_cod 6 184 [.ref 154, .int (nI q), .int (Int32.ofInt 0)] h27 (fun vv h' => pz_S 3 (some .int) am_r226 6 Q 36 [(0, .ref 154), (1, .int (nI q)), (2, .int (Int32.ofInt 0))] (vv.toList ++ []) h') from ⟨Or.inl ⟨by decide, ex_154 f28⟩, by decide, ex_lim f28 rfl, am_call.up (d_184_r0 f28 f30 (by omega) ?_) (by decide)⟩)
  exact am_goX 2 (show (∃ ty, (some .int) = some ty ∧ narrow ty (.int (dW C q)) = .int (dW C q)) ∧ h27.2.2.2.2 = 175 ∧ _ from ⟨⟨.int, rfl, rfl⟩, ex_175 f28, hQ _⟩)
def d_220_1 (C : sp_C) (s : dS) (p : Nat) : Int32 := s.2.2.1 p
theorem d_220_M1 (hP : ex_P h) (hI : cI C) (hT : tR C h) (hO : ∀ e, e < dE C → h.1 172 e = dW V e) (hS : sR 0 (dP C) s h) (hp : p < dP C) (hQ : ∀ g, Q (some (.int (d_220_1 C s p))) g) : am_call am_cod 7 220 [.ref 154, .int (nI p), .int (Int32.ofInt 1)] h Q := by
  have h6 := hT.1.2.1
  have h5 := hT.2.1.2.1
  refine pz_call (n := 220) (nL := 3) (rt := (some .int)) (rows := am_r220) (d := 6) (by decide +kernel) (by decide +kernel) rfl (by funext pc; rfl) (ex_175 hP) (by exact Nat.le_of_ble_eq_true rfl) ?_
  refine am_goX 3 (show am_sh h 154 = some (11, 0) ∧ narrow (am_fty 11 0) (.int (Int32.ofInt 0)) = .int (Int32.ofInt 0) ∧ fits (am_fty 11 0) (.int (Int32.ofInt 0)) = true ∧ pz_S 3 (some .int) am_r220 6 Q 5 [(0, .ref 154), (1, .int (nI p)), (2, .int (Int32.ofInt 1))] [] (am_wI h 154 0 (Int32.ofInt 0)) from ⟨ex_154 hP, rfl, rfl, ?_⟩)
  have f34 : ex_P (am_wI h 154 0 (Int32.ofInt 0)) := hP
  have f35 : cI C := hI
  have f36 : tR C (am_wI h 154 0 (Int32.ofInt 0)) := tR_w (by omega) hT
  have f37 : ∀ e, e < dE C → (am_wI h 154 0 (Int32.ofInt 0)).1 172 e = dW V e := on_w (by omega) hO
  have f38 : sR 0 (dP C) s (am_wI h 154 0 (Int32.ofInt 0)) := sR_o (by omega) hS
  generalize am_wI h 154 0 (Int32.ofInt 0) = h33 at f34 f35 f36 f37 f38 ⊢
  refine am_goX 3 (show am_rc h33 154 11 ∧ 0 ≤ 8 ∧ h33.2.2.2.2 + am_al 221 ≤ 175 ∧ am_call am_cod 6 221 [.ref 154, .int (nI p)] h33 (fun vv h' => pz_S 3 (some .int) am_r220 6 Q 10 [(0, .ref 154), (1, .int (nI p)), (2, .int (Int32.ofInt 1))] (vv.toList ++ []) h') from ⟨Or.inl ⟨by decide, ex_154 f34⟩, by decide, ex_lim f34 rfl, am_call.up (d_221_r f34 f36 ?_) (by decide)⟩)
  rw [show d_221 C (nI p) = Int32.ofInt 1 from ((d_221_e _).trans (v_87 hp))]
  refine am_goX 1 (show ((Int32.ofInt 1) = 0 → pz_S 3 (some .int) am_r220 6 Q 22 [(0, .ref 154), (1, .int (nI p)), (2, .int (Int32.ofInt 1))] [] h33) ∧ (¬ ((Int32.ofInt 1) = 0) → pz_S 3 (some .int) am_r220 6 Q 13 [(0, .ref 154), (1, .int (nI p)), (2, .int (Int32.ofInt 1))] [] h33) from ⟨fun hz => absurd hz (by decide), fun _ => ?_⟩)
  refine am_goX 4 (show 0 ≤ 8 ∧ h33.2.2.2.2 + am_al 207 ≤ 175 ∧ am_call am_cod 6 207 [.int (Int32.ofInt 1), .int (Int32.ofInt 0), .int (Int32.ofInt 4)] h33 (fun vv h' => pz_S 3 (some .int) am_r220 6 Q 19 [(0, .ref 154), (1, .int (nI p)), (2, .int (Int32.ofInt 1))] (vv.toList ++ []) h') from ⟨by decide, ex_lim f34 rfl, am_call.up (d_207_w f34 ?_) (by decide)⟩)
  rw [show d_207 (Int32.ofInt 1) (Int32.ofInt 0) (Int32.ofInt 4) = Int32.ofInt 1 from (by decide)]
  refine am_goX 1 (show (¬ (Int32.ofInt 1) = 0 → pz_S 3 (some .int) am_r220 6 Q 25 [(0, .ref 154), (1, .int (nI p)), (2, .int (Int32.ofInt 1))] [] h33) ∧ (¬ ¬ (Int32.ofInt 1) = 0 → pz_S 3 (some .int) am_r220 6 Q 22 [(0, .ref 154), (1, .int (nI p)), (2, .int (Int32.ofInt 1))] [] h33) from ⟨fun _ => ?_, fun hz => absurd (by decide) hz⟩)
  refine am_goX 2 (show (¬ (Int32.ofInt 1) = 0 → pz_S 3 (some .int) am_r220 6 Q 38 [(0, .ref 154), (1, .int (nI p)), (2, .int (Int32.ofInt 1))] [] h33) ∧ (¬ ¬ (Int32.ofInt 1) = 0 → pz_S 3 (some .int) am_r220 6 Q 29 [(0, .ref 154), (1, .int (nI p)), (2, .int (Int32.ofInt 1))] [] h33) from ⟨fun _ => ?_, fun hz => absurd (by decide) hz⟩)
  refine am_goX 3 (show (¬ (Int32.ofInt 1) = (Int32.ofInt 1) → pz_S 3 (some .int) am_r220 6 Q 54 [(0, .ref 154), (1, .int (nI p)), (2, .int (Int32.ofInt 1))] [] h33) ∧ (¬ ¬ (Int32.ofInt 1) = (Int32.ofInt 1) → pz_S 3 (some .int) am_r220 6 Q 43 [(0, .ref 154), (1, .int (nI p)), (2, .int (Int32.ofInt 1))] [] h33) from ⟨fun hz => absurd hz (by decide), fun _ => ?_⟩)
  refine am_goX 2 (show am_sh h33 154 = some (11, 0) ∧ pz_S 3 (some .int) am_r220 6 Q 47 [(0, .ref 154), (1, .int (nI p)), (2, .int (Int32.ofInt 1))] [am_rf (h33.2.2.1 154 24)] h33 from ⟨ex_154 f34, ?_⟩)
  rw [show am_rf (h33.2.2.1 154 24) = .ref 170 from congrArg am_rf (ex_r154_24 f34)]
  refine am_goX 4 (show ∃ jj nn : Nat, am_sh h33 170 = some (13, nn) ∧ jj < nn ∧ (Int32.ofInt 2) + (nI p) = nI jj ∧ pz_S 3 (some .int) am_r220 6 Q 51 [(0, .ref 154), (1, .int (nI p)), (2, .int (Int32.ofInt 1))] [.int (h33.1 170 jj)] h33 from ⟨(2 + p), 1127, ex_170 f34, (by omega), (dn_a rfl rfl), ?_⟩)
  rw [show h33.1 170 (2 + p) = s.2.2.1 p from (by rw [show (2 + p) = 0 + 2 + p by omega]; exact f38.2.1 p (by omega))]
  exact am_goX 2 (show (∃ ty, (some .int) = some ty ∧ narrow ty (.int (s.2.2.1 p)) = .int (s.2.2.1 p)) ∧ h33.2.2.2.2 = 175 ∧ _ from ⟨⟨.int, rfl, rfl⟩, ex_175 f34, hQ _⟩)
def d_226_1 (C : sp_C) (s : dS) (q : Nat) : Int32 := dN C q
theorem d_226_M1 (hP : ex_P h) (hI : cI C) (hT : tR C h) (hO : ∀ e, e < dE C → h.1 172 e = dW V e) (hS : sR 0 (dP C) s h) (hq : q < dE C) (hQ : ∀ g, Q (some (.int (d_226_1 C s q))) g) : am_call am_cod 7 226 [.ref 154, .int (nI q), .int (Int32.ofInt 1)] h Q := by
  have h6 := hT.1.2.1
  have h5 := hT.2.1.2.1
  refine pz_call (n := 226) (nL := 3) (rt := (some .int)) (rows := am_r226) (d := 6) (by decide +kernel) (by decide +kernel) rfl (by funext pc; rfl) (ex_175 hP) (by exact Nat.le_of_ble_eq_true rfl) ?_
  refine am_goX 3 (show am_sh h 154 = some (11, 0) ∧ narrow (am_fty 11 0) (.int (Int32.ofInt 0)) = .int (Int32.ofInt 0) ∧ fits (am_fty 11 0) (.int (Int32.ofInt 0)) = true ∧ pz_S 3 (some .int) am_r226 6 Q 5 [(0, .ref 154), (1, .int (nI q)), (2, .int (Int32.ofInt 1))] [] (am_wI h 154 0 (Int32.ofInt 0)) from ⟨ex_154 hP, rfl, rfl, ?_⟩)
  have f40 : ex_P (am_wI h 154 0 (Int32.ofInt 0)) := hP
  have f41 : cI C := hI
  have f42 : tR C (am_wI h 154 0 (Int32.ofInt 0)) := tR_w (by omega) hT
  have f43 : ∀ e, e < dE C → (am_wI h 154 0 (Int32.ofInt 0)).1 172 e = dW V e := on_w (by omega) hO
  have f44 : sR 0 (dP C) s (am_wI h 154 0 (Int32.ofInt 0)) := sR_o (by omega) hS
  generalize am_wI h 154 0 (Int32.ofInt 0) = h39 at f40 f41 f42 f43 f44 ⊢
  refine am_goX 3 (show am_rc h39 154 11 ∧ 0 ≤ 8 ∧ h39.2.2.2.2 + am_al 227 ≤ 175 ∧ am_call am_cod 6 227 [.ref 154, .int (nI q)] h39 (fun vv h' => pz_S 3 (some .int) am_r226 6 Q 10 [(0, .ref 154), (1, .int (nI q)), (2, .int (Int32.ofInt 1))] (vv.toList ++ []) h') from ⟨Or.inl ⟨by decide, ex_154 f40⟩, by decide, ex_lim f40 rfl, am_call.up (d_227_r f40 f42 ?_) (by decide)⟩)
  rw [show d_227 C (nI q) = Int32.ofInt 1 from ((d_227_e _).trans (v_93 hq h5))]
  refine am_goX 1 (show ((Int32.ofInt 1) = 0 → pz_S 3 (some .int) am_r226 6 Q 22 [(0, .ref 154), (1, .int (nI q)), (2, .int (Int32.ofInt 1))] [] h39) ∧ (¬ ((Int32.ofInt 1) = 0) → pz_S 3 (some .int) am_r226 6 Q 13 [(0, .ref 154), (1, .int (nI q)), (2, .int (Int32.ofInt 1))] [] h39) from ⟨fun hz => absurd hz (by decide), fun _ => ?_⟩)
  refine am_goX 4 (show 0 ≤ 8 ∧ h39.2.2.2.2 + am_al 207 ≤ 175 ∧ am_call am_cod 6 207 [.int (Int32.ofInt 1), .int (Int32.ofInt 0), .int (Int32.ofInt 4)] h39 (fun vv h' => pz_S 3 (some .int) am_r226 6 Q 19 [(0, .ref 154), (1, .int (nI q)), (2, .int (Int32.ofInt 1))] (vv.toList ++ []) h') from ⟨by decide, ex_lim f40 rfl, am_call.up (d_207_w f40 ?_) (by decide)⟩)
  rw [show d_207 (Int32.ofInt 1) (Int32.ofInt 0) (Int32.ofInt 4) = Int32.ofInt 1 from (by decide)]
  refine am_goX 1 (show (¬ (Int32.ofInt 1) = 0 → pz_S 3 (some .int) am_r226 6 Q 25 [(0, .ref 154), (1, .int (nI q)), (2, .int (Int32.ofInt 1))] [] h39) ∧ (¬ ¬ (Int32.ofInt 1) = 0 → pz_S 3 (some .int) am_r226 6 Q 22 [(0, .ref 154), (1, .int (nI q)), (2, .int (Int32.ofInt 1))] [] h39) from ⟨fun _ => ?_, fun hz => absurd (by decide) hz⟩)
  refine am_goX 3 (show ((Int32.ofInt 2) ≤ (Int32.ofInt 1) → pz_S 3 (some .int) am_r226 6 Q 39 [(0, .ref 154), (1, .int (nI q)), (2, .int (Int32.ofInt 1))] [] h39) ∧ (¬ ((Int32.ofInt 2) ≤ (Int32.ofInt 1)) → pz_S 3 (some .int) am_r226 6 Q 30 [(0, .ref 154), (1, .int (nI q)), (2, .int (Int32.ofInt 1))] [] h39) from ⟨fun hz => absurd hz (by decide), fun _ => ?_⟩)
  refine am_goX 4 (show am_rc h39 154 11 ∧ 0 ≤ 8 ∧ h39.2.2.2.2 + am_al 184 ≤ 175 ∧ am_call am_cod 6 184 [.ref 154, .int (nI q), .int (Int32.ofInt 1)] h39 (fun vv h' => pz_S 3 (some .int) am_r226 6 Q 36 [(0, .ref 154), (1, .int (nI q)), (2, .int (Int32.ofInt 1))] (vv.toList ++ []) h') from ⟨Or.inl ⟨by decide, ex_154 f40⟩, by decide, ex_lim f40 rfl, am_call.up (d_184_r1 f40 f42 (by omega) ?_) (by decide)⟩)
  exact am_goX 2 (show (∃ ty, (some .int) = some ty ∧ narrow ty (.int (dN C q)) = .int (dN C q)) ∧ h39.2.2.2.2 = 175 ∧ _ from ⟨⟨.int, rfl, rfl⟩, ex_175 f40, hQ _⟩)
def d_220_2 (C : sp_C) (s : dS) (p : Nat) : Int32 := d_222 C s p
theorem d_220_M2 (hP : ex_P h) (hI : cI C) (hT : tR C h) (hO : ∀ e, e < dE C → h.1 172 e = dW V e) (hS : sR 0 (dP C) s h) (hp : p < dP C) (hQ : ∀ g, Q (some (.int (d_220_2 C s p))) g) : am_call am_cod 7 220 [.ref 154, .int (nI p), .int (Int32.ofInt 2)] h Q := by
  have h6 := hT.1.2.1
  have h5 := hT.2.1.2.1
  refine pz_call (n := 220) (nL := 3) (rt := (some .int)) (rows := am_r220) (d := 6) (by decide +kernel) (by decide +kernel) rfl (by funext pc; rfl) (ex_175 hP) (by exact Nat.le_of_ble_eq_true rfl) ?_
  refine am_goX 3 (show am_sh h 154 = some (11, 0) ∧ narrow (am_fty 11 0) (.int (Int32.ofInt 0)) = .int (Int32.ofInt 0) ∧ fits (am_fty 11 0) (.int (Int32.ofInt 0)) = true ∧ pz_S 3 (some .int) am_r220 6 Q 5 [(0, .ref 154), (1, .int (nI p)), (2, .int (Int32.ofInt 2))] [] (am_wI h 154 0 (Int32.ofInt 0)) from ⟨ex_154 hP, rfl, rfl, ?_⟩)
  have f46 : ex_P (am_wI h 154 0 (Int32.ofInt 0)) := hP
  have f47 : cI C := hI
  have f48 : tR C (am_wI h 154 0 (Int32.ofInt 0)) := tR_w (by omega) hT
  have f49 : ∀ e, e < dE C → (am_wI h 154 0 (Int32.ofInt 0)).1 172 e = dW V e := on_w (by omega) hO
  have f50 : sR 0 (dP C) s (am_wI h 154 0 (Int32.ofInt 0)) := sR_o (by omega) hS
  generalize am_wI h 154 0 (Int32.ofInt 0) = h45 at f46 f47 f48 f49 f50 ⊢
  refine am_goX 3 (show am_rc h45 154 11 ∧ 0 ≤ 8 ∧ h45.2.2.2.2 + am_al 221 ≤ 175 ∧ am_call am_cod 6 221 [.ref 154, .int (nI p)] h45 (fun vv h' => pz_S 3 (some .int) am_r220 6 Q 10 [(0, .ref 154), (1, .int (nI p)), (2, .int (Int32.ofInt 2))] (vv.toList ++ []) h') from ⟨Or.inl ⟨by decide, ex_154 f46⟩, by decide, ex_lim f46 rfl, am_call.up (d_221_r f46 f48 ?_) (by decide)⟩)
  rw [show d_221 C (nI p) = Int32.ofInt 1 from ((d_221_e _).trans (v_87 hp))]
  refine am_goX 1 (show ((Int32.ofInt 1) = 0 → pz_S 3 (some .int) am_r220 6 Q 22 [(0, .ref 154), (1, .int (nI p)), (2, .int (Int32.ofInt 2))] [] h45) ∧ (¬ ((Int32.ofInt 1) = 0) → pz_S 3 (some .int) am_r220 6 Q 13 [(0, .ref 154), (1, .int (nI p)), (2, .int (Int32.ofInt 2))] [] h45) from ⟨fun hz => absurd hz (by decide), fun _ => ?_⟩)
  refine am_goX 4 (show 0 ≤ 8 ∧ h45.2.2.2.2 + am_al 207 ≤ 175 ∧ am_call am_cod 6 207 [.int (Int32.ofInt 2), .int (Int32.ofInt 0), .int (Int32.ofInt 4)] h45 (fun vv h' => pz_S 3 (some .int) am_r220 6 Q 19 [(0, .ref 154), (1, .int (nI p)), (2, .int (Int32.ofInt 2))] (vv.toList ++ []) h') from ⟨by decide, ex_lim f46 rfl, am_call.up (d_207_w f46 ?_) (by decide)⟩)
  rw [show d_207 (Int32.ofInt 2) (Int32.ofInt 0) (Int32.ofInt 4) = Int32.ofInt 1 from (by decide)]
  refine am_goX 1 (show (¬ (Int32.ofInt 1) = 0 → pz_S 3 (some .int) am_r220 6 Q 25 [(0, .ref 154), (1, .int (nI p)), (2, .int (Int32.ofInt 2))] [] h45) ∧ (¬ ¬ (Int32.ofInt 1) = 0 → pz_S 3 (some .int) am_r220 6 Q 22 [(0, .ref 154), (1, .int (nI p)), (2, .int (Int32.ofInt 2))] [] h45) from ⟨fun _ => ?_, fun hz => absurd (by decide) hz⟩)
  refine am_goX 2 (show (¬ (Int32.ofInt 2) = 0 → pz_S 3 (some .int) am_r220 6 Q 38 [(0, .ref 154), (1, .int (nI p)), (2, .int (Int32.ofInt 2))] [] h45) ∧ (¬ ¬ (Int32.ofInt 2) = 0 → pz_S 3 (some .int) am_r220 6 Q 29 [(0, .ref 154), (1, .int (nI p)), (2, .int (Int32.ofInt 2))] [] h45) from ⟨fun _ => ?_, fun hz => absurd (by decide) hz⟩)
  refine am_goX 3 (show (¬ (Int32.ofInt 2) = (Int32.ofInt 1) → pz_S 3 (some .int) am_r220 6 Q 54 [(0, .ref 154), (1, .int (nI p)), (2, .int (Int32.ofInt 2))] [] h45) ∧ (¬ ¬ (Int32.ofInt 2) = (Int32.ofInt 1) → pz_S 3 (some .int) am_r220 6 Q 43 [(0, .ref 154), (1, .int (nI p)), (2, .int (Int32.ofInt 2))] [] h45) from ⟨fun _ => ?_, fun hz => absurd (by decide) hz⟩)
  refine am_goX 3 (show (¬ (Int32.ofInt 2) = (Int32.ofInt 2) → pz_S 3 (some .int) am_r220 6 Q 67 [(0, .ref 154), (1, .int (nI p)), (2, .int (Int32.ofInt 2))] [] h45) ∧ (¬ ¬ (Int32.ofInt 2) = (Int32.ofInt 2) → pz_S 3 (some .int) am_r220 6 Q 59 [(0, .ref 154), (1, .int (nI p)), (2, .int (Int32.ofInt 2))] [] h45) from ⟨fun hz => absurd hz (by decide), fun _ => ?_⟩)
  refine am_goX 3 (show am_rc h45 154 11 ∧ 0 ≤ 8 ∧ h45.2.2.2.2 + am_al 222 ≤ 175 ∧ am_call am_cod 6 222 [.ref 154, .int (nI p)] h45 (fun vv h' => pz_S 3 (some .int) am_r220 6 Q 64 [(0, .ref 154), (1, .int (nI p)), (2, .int (Int32.ofInt 2))] (vv.toList ++ []) h') from ⟨Or.inl ⟨by decide, ex_154 f46⟩, by decide, ex_lim f46 rfl, am_call.up (d_222_r0 f46 f47 f48 f49 f50 (fR_0 (h := h45)) (by omega) ?_) (by decide)⟩)
  exact am_goX 2 (show (∃ ty, (some .int) = some ty ∧ narrow ty (.int (d_222 C s p)) = .int (d_222 C s p)) ∧ h45.2.2.2.2 = 175 ∧ _ from ⟨⟨.int, rfl, rfl⟩, ex_175 f46, hQ _⟩)
def d_226_2 (C : sp_C) (s : dS) (q : Nat) : Int32 := d_228 C (nI q)
theorem d_226_M2 (hP : ex_P h) (hI : cI C) (hT : tR C h) (hO : ∀ e, e < dE C → h.1 172 e = dW V e) (hS : sR 0 (dP C) s h) (hq : q < dE C) (hQ : ∀ g, Q (some (.int (d_226_2 C s q))) g) : am_call am_cod 7 226 [.ref 154, .int (nI q), .int (Int32.ofInt 2)] h Q := by
  have h6 := hT.1.2.1
  have h5 := hT.2.1.2.1
  refine pz_call (n := 226) (nL := 3) (rt := (some .int)) (rows := am_r226) (d := 6) (by decide +kernel) (by decide +kernel) rfl (by funext pc; rfl) (ex_175 hP) (by exact Nat.le_of_ble_eq_true rfl) ?_
  refine am_goX 3 (show am_sh h 154 = some (11, 0) ∧ narrow (am_fty 11 0) (.int (Int32.ofInt 0)) = .int (Int32.ofInt 0) ∧ fits (am_fty 11 0) (.int (Int32.ofInt 0)) = true ∧ pz_S 3 (some .int) am_r226 6 Q 5 [(0, .ref 154), (1, .int (nI q)), (2, .int (Int32.ofInt 2))] [] (am_wI h 154 0 (Int32.ofInt 0)) from ⟨ex_154 hP, rfl, rfl, ?_⟩)
  have f52 : ex_P (am_wI h 154 0 (Int32.ofInt 0)) := hP
  have f53 : cI C := hI
  have f54 : tR C (am_wI h 154 0 (Int32.ofInt 0)) := tR_w (by omega) hT
  have f55 : ∀ e, e < dE C → (am_wI h 154 0 (Int32.ofInt 0)).1 172 e = dW V e := on_w (by omega) hO
  have f56 : sR 0 (dP C) s (am_wI h 154 0 (Int32.ofInt 0)) := sR_o (by omega) hS
  generalize am_wI h 154 0 (Int32.ofInt 0) = h51 at f52 f53 f54 f55 f56 ⊢
  refine am_goX 3 (show am_rc h51 154 11 ∧ 0 ≤ 8 ∧ h51.2.2.2.2 + am_al 227 ≤ 175 ∧ am_call am_cod 6 227 [.ref 154, .int (nI q)] h51 (fun vv h' => pz_S 3 (some .int) am_r226 6 Q 10 [(0, .ref 154), (1, .int (nI q)), (2, .int (Int32.ofInt 2))] (vv.toList ++ []) h') from ⟨Or.inl ⟨by decide, ex_154 f52⟩, by decide, ex_lim f52 rfl, am_call.up (d_227_r f52 f54 ?_) (by decide)⟩)
  rw [show d_227 C (nI q) = Int32.ofInt 1 from ((d_227_e _).trans (v_93 hq h5))]
  refine am_goX 1 (show ((Int32.ofInt 1) = 0 → pz_S 3 (some .int) am_r226 6 Q 22 [(0, .ref 154), (1, .int (nI q)), (2, .int (Int32.ofInt 2))] [] h51) ∧ (¬ ((Int32.ofInt 1) = 0) → pz_S 3 (some .int) am_r226 6 Q 13 [(0, .ref 154), (1, .int (nI q)), (2, .int (Int32.ofInt 2))] [] h51) from ⟨fun hz => absurd hz (by decide), fun _ => ?_⟩)
  refine am_goX 4 (show 0 ≤ 8 ∧ h51.2.2.2.2 + am_al 207 ≤ 175 ∧ am_call am_cod 6 207 [.int (Int32.ofInt 2), .int (Int32.ofInt 0), .int (Int32.ofInt 4)] h51 (fun vv h' => pz_S 3 (some .int) am_r226 6 Q 19 [(0, .ref 154), (1, .int (nI q)), (2, .int (Int32.ofInt 2))] (vv.toList ++ []) h') from ⟨by decide, ex_lim f52 rfl, am_call.up (d_207_w f52 ?_) (by decide)⟩)
  rw [show d_207 (Int32.ofInt 2) (Int32.ofInt 0) (Int32.ofInt 4) = Int32.ofInt 1 from (by decide)]
  refine am_goX 1 (show (¬ (Int32.ofInt 1) = 0 → pz_S 3 (some .int) am_r226 6 Q 25 [(0, .ref 154), (1, .int (nI q)), (2, .int (Int32.ofInt 2))] [] h51) ∧ (¬ ¬ (Int32.ofInt 1) = 0 → pz_S 3 (some .int) am_r226 6 Q 22 [(0, .ref 154), (1, .int (nI q)), (2, .int (Int32.ofInt 2))] [] h51) from ⟨fun _ => ?_, fun hz => absurd (by decide) hz⟩)
  refine am_goX 3 (show ((Int32.ofInt 2) ≤ (Int32.ofInt 2) → pz_S 3 (some .int) am_r226 6 Q 39 [(0, .ref 154), (1, .int (nI q)), (2, .int (Int32.ofInt 2))] [] h51) ∧ (¬ ((Int32.ofInt 2) ≤ (Int32.ofInt 2)) → pz_S 3 (some .int) am_r226 6 Q 30 [(0, .ref 154), (1, .int (nI q)), (2, .int (Int32.ofInt 2))] [] h51) from ⟨fun _ => ?_, fun hz => absurd (by decide) hz⟩)
  refine am_goX 3 (show (¬ (Int32.ofInt 2) = (Int32.ofInt 2) → pz_S 3 (some .int) am_r226 6 Q 52 [(0, .ref 154), (1, .int (nI q)), (2, .int (Int32.ofInt 2))] [] h51) ∧ (¬ ¬ (Int32.ofInt 2) = (Int32.ofInt 2) → pz_S 3 (some .int) am_r226 6 Q 44 [(0, .ref 154), (1, .int (nI q)), (2, .int (Int32.ofInt 2))] [] h51) from ⟨fun hz => absurd hz (by decide), fun _ => ?_⟩)
  refine am_goX 3 (show am_rc h51 154 11 ∧ 0 ≤ 8 ∧ h51.2.2.2.2 + am_al 228 ≤ 175 ∧ am_call am_cod 6 228 [.ref 154, .int (nI q)] h51 (fun vv h' => pz_S 3 (some .int) am_r226 6 Q 49 [(0, .ref 154), (1, .int (nI q)), (2, .int (Int32.ofInt 2))] (vv.toList ++ []) h') from ⟨Or.inl ⟨by decide, ex_154 f52⟩, by decide, ex_lim f52 rfl, am_call.up (d_228_r f52 f54 ?_) (by decide)⟩)
  exact am_goX 2 (show (∃ ty, (some .int) = some ty ∧ narrow ty (.int (d_228 C (nI q))) = .int (d_228 C (nI q))) ∧ h51.2.2.2.2 = 175 ∧ _ from ⟨⟨.int, rfl, rfl⟩, ex_175 f52, hQ _⟩)
def d_220_3 (C : sp_C) (s : dS) (p : Nat) : Int32 := dB C p
theorem d_220_M3 (hP : ex_P h) (hI : cI C) (hT : tR C h) (hO : ∀ e, e < dE C → h.1 172 e = dW V e) (hS : sR 0 (dP C) s h) (hp : p < dP C) (hQ : ∀ g, Q (some (.int (d_220_3 C s p))) g) : am_call am_cod 7 220 [.ref 154, .int (nI p), .int (Int32.ofInt 3)] h Q := by
  have h6 := hT.1.2.1
  have h5 := hT.2.1.2.1
  refine pz_call (n := 220) (nL := 3) (rt := (some .int)) (rows := am_r220) (d := 6) (by decide +kernel) (by decide +kernel) rfl (by funext pc; rfl) (ex_175 hP) (by exact Nat.le_of_ble_eq_true rfl) ?_
  refine am_goX 3 (show am_sh h 154 = some (11, 0) ∧ narrow (am_fty 11 0) (.int (Int32.ofInt 0)) = .int (Int32.ofInt 0) ∧ fits (am_fty 11 0) (.int (Int32.ofInt 0)) = true ∧ pz_S 3 (some .int) am_r220 6 Q 5 [(0, .ref 154), (1, .int (nI p)), (2, .int (Int32.ofInt 3))] [] (am_wI h 154 0 (Int32.ofInt 0)) from ⟨ex_154 hP, rfl, rfl, ?_⟩)
  have f58 : ex_P (am_wI h 154 0 (Int32.ofInt 0)) := hP
  have f59 : cI C := hI
  have f60 : tR C (am_wI h 154 0 (Int32.ofInt 0)) := tR_w (by omega) hT
  have f61 : ∀ e, e < dE C → (am_wI h 154 0 (Int32.ofInt 0)).1 172 e = dW V e := on_w (by omega) hO
  have f62 : sR 0 (dP C) s (am_wI h 154 0 (Int32.ofInt 0)) := sR_o (by omega) hS
  generalize am_wI h 154 0 (Int32.ofInt 0) = h57 at f58 f59 f60 f61 f62 ⊢
  refine am_goX 3 (show am_rc h57 154 11 ∧ 0 ≤ 8 ∧ h57.2.2.2.2 + am_al 221 ≤ 175 ∧ am_call am_cod 6 221 [.ref 154, .int (nI p)] h57 (fun vv h' => pz_S 3 (some .int) am_r220 6 Q 10 [(0, .ref 154), (1, .int (nI p)), (2, .int (Int32.ofInt 3))] (vv.toList ++ []) h') from ⟨Or.inl ⟨by decide, ex_154 f58⟩, by decide, ex_lim f58 rfl, am_call.up (d_221_r f58 f60 ?_) (by decide)⟩)
  rw [show d_221 C (nI p) = Int32.ofInt 1 from ((d_221_e _).trans (v_87 hp))]
  refine am_goX 1 (show ((Int32.ofInt 1) = 0 → pz_S 3 (some .int) am_r220 6 Q 22 [(0, .ref 154), (1, .int (nI p)), (2, .int (Int32.ofInt 3))] [] h57) ∧ (¬ ((Int32.ofInt 1) = 0) → pz_S 3 (some .int) am_r220 6 Q 13 [(0, .ref 154), (1, .int (nI p)), (2, .int (Int32.ofInt 3))] [] h57) from ⟨fun hz => absurd hz (by decide), fun _ => ?_⟩)
  refine am_goX 4 (show 0 ≤ 8 ∧ h57.2.2.2.2 + am_al 207 ≤ 175 ∧ am_call am_cod 6 207 [.int (Int32.ofInt 3), .int (Int32.ofInt 0), .int (Int32.ofInt 4)] h57 (fun vv h' => pz_S 3 (some .int) am_r220 6 Q 19 [(0, .ref 154), (1, .int (nI p)), (2, .int (Int32.ofInt 3))] (vv.toList ++ []) h') from ⟨by decide, ex_lim f58 rfl, am_call.up (d_207_w f58 ?_) (by decide)⟩)
  rw [show d_207 (Int32.ofInt 3) (Int32.ofInt 0) (Int32.ofInt 4) = Int32.ofInt 1 from (by decide)]
  refine am_goX 1 (show (¬ (Int32.ofInt 1) = 0 → pz_S 3 (some .int) am_r220 6 Q 25 [(0, .ref 154), (1, .int (nI p)), (2, .int (Int32.ofInt 3))] [] h57) ∧ (¬ ¬ (Int32.ofInt 1) = 0 → pz_S 3 (some .int) am_r220 6 Q 22 [(0, .ref 154), (1, .int (nI p)), (2, .int (Int32.ofInt 3))] [] h57) from ⟨fun _ => ?_, fun hz => absurd (by decide) hz⟩)
  refine am_goX 2 (show (¬ (Int32.ofInt 3) = 0 → pz_S 3 (some .int) am_r220 6 Q 38 [(0, .ref 154), (1, .int (nI p)), (2, .int (Int32.ofInt 3))] [] h57) ∧ (¬ ¬ (Int32.ofInt 3) = 0 → pz_S 3 (some .int) am_r220 6 Q 29 [(0, .ref 154), (1, .int (nI p)), (2, .int (Int32.ofInt 3))] [] h57) from ⟨fun _ => ?_, fun hz => absurd (by decide) hz⟩)
  refine am_goX 3 (show (¬ (Int32.ofInt 3) = (Int32.ofInt 1) → pz_S 3 (some .int) am_r220 6 Q 54 [(0, .ref 154), (1, .int (nI p)), (2, .int (Int32.ofInt 3))] [] h57) ∧ (¬ ¬ (Int32.ofInt 3) = (Int32.ofInt 1) → pz_S 3 (some .int) am_r220 6 Q 43 [(0, .ref 154), (1, .int (nI p)), (2, .int (Int32.ofInt 3))] [] h57) from ⟨fun _ => ?_, fun hz => absurd (by decide) hz⟩)
  refine am_goX 3 (show (¬ (Int32.ofInt 3) = (Int32.ofInt 2) → pz_S 3 (some .int) am_r220 6 Q 67 [(0, .ref 154), (1, .int (nI p)), (2, .int (Int32.ofInt 3))] [] h57) ∧ (¬ ¬ (Int32.ofInt 3) = (Int32.ofInt 2) → pz_S 3 (some .int) am_r220 6 Q 59 [(0, .ref 154), (1, .int (nI p)), (2, .int (Int32.ofInt 3))] [] h57) from ⟨fun _ => ?_, fun hz => absurd (by decide) hz⟩)
  refine am_goX 3 (show (¬ (Int32.ofInt 3) = (Int32.ofInt 3) → pz_S 3 (some .int) am_r220 6 Q 81 [(0, .ref 154), (1, .int (nI p)), (2, .int (Int32.ofInt 3))] [] h57) ∧ (¬ ¬ (Int32.ofInt 3) = (Int32.ofInt 3) → pz_S 3 (some .int) am_r220 6 Q 72 [(0, .ref 154), (1, .int (nI p)), (2, .int (Int32.ofInt 3))] [] h57) from ⟨fun hz => absurd hz (by decide), fun _ => ?_⟩)
  refine am_goX 4 (show am_rc h57 154 11 ∧ 0 ≤ 8 ∧ h57.2.2.2.2 + am_al 187 ≤ 175 ∧ am_call am_cod 6 187 [.ref 154, .int (nI p), .int (Int32.ofInt 2)] h57 (fun vv h' => pz_S 3 (some .int) am_r220 6 Q 78 [(0, .ref 154), (1, .int (nI p)), (2, .int (Int32.ofInt 3))] (vv.toList ++ []) h') from ⟨Or.inl ⟨by decide, ex_154 f58⟩, by decide, ex_lim f58 rfl, am_call.up (d_187_r2 f58 f60 (by omega) ?_) (by decide)⟩)
  exact am_goX 2 (show (∃ ty, (some .int) = some ty ∧ narrow ty (.int (dB C p)) = .int (dB C p)) ∧ h57.2.2.2.2 = 175 ∧ _ from ⟨⟨.int, rfl, rfl⟩, ex_175 f58, hQ _⟩)
def d_226_3 (C : sp_C) (s : dS) (q : Nat) : Int32 := s.2.2.2.2.1 q
theorem d_226_M3 (hP : ex_P h) (hI : cI C) (hT : tR C h) (hO : ∀ e, e < dE C → h.1 172 e = dW V e) (hS : sR 0 (dP C) s h) (hq : q < dE C) (hQ : ∀ g, Q (some (.int (d_226_3 C s q))) g) : am_call am_cod 7 226 [.ref 154, .int (nI q), .int (Int32.ofInt 3)] h Q := by
  have h6 := hT.1.2.1
  have h5 := hT.2.1.2.1
  refine pz_call (n := 226) (nL := 3) (rt := (some .int)) (rows := am_r226) (d := 6) (by decide +kernel) (by decide +kernel) rfl (by funext pc; rfl) (ex_175 hP) (by exact Nat.le_of_ble_eq_true rfl) ?_
  refine am_goX 3 (show am_sh h 154 = some (11, 0) ∧ narrow (am_fty 11 0) (.int (Int32.ofInt 0)) = .int (Int32.ofInt 0) ∧ fits (am_fty 11 0) (.int (Int32.ofInt 0)) = true ∧ pz_S 3 (some .int) am_r226 6 Q 5 [(0, .ref 154), (1, .int (nI q)), (2, .int (Int32.ofInt 3))] [] (am_wI h 154 0 (Int32.ofInt 0)) from ⟨ex_154 hP, rfl, rfl, ?_⟩)
  have f64 : ex_P (am_wI h 154 0 (Int32.ofInt 0)) := hP
  have f65 : cI C := hI
  have f66 : tR C (am_wI h 154 0 (Int32.ofInt 0)) := tR_w (by omega) hT
  have f67 : ∀ e, e < dE C → (am_wI h 154 0 (Int32.ofInt 0)).1 172 e = dW V e := on_w (by omega) hO
  have f68 : sR 0 (dP C) s (am_wI h 154 0 (Int32.ofInt 0)) := sR_o (by omega) hS
  generalize am_wI h 154 0 (Int32.ofInt 0) = h63 at f64 f65 f66 f67 f68 ⊢
  refine am_goX 3 (show am_rc h63 154 11 ∧ 0 ≤ 8 ∧ h63.2.2.2.2 + am_al 227 ≤ 175 ∧ am_call am_cod 6 227 [.ref 154, .int (nI q)] h63 (fun vv h' => pz_S 3 (some .int) am_r226 6 Q 10 [(0, .ref 154), (1, .int (nI q)), (2, .int (Int32.ofInt 3))] (vv.toList ++ []) h') from ⟨Or.inl ⟨by decide, ex_154 f64⟩, by decide, ex_lim f64 rfl, am_call.up (d_227_r f64 f66 ?_) (by decide)⟩)
  rw [show d_227 C (nI q) = Int32.ofInt 1 from ((d_227_e _).trans (v_93 hq h5))]
  refine am_goX 1 (show ((Int32.ofInt 1) = 0 → pz_S 3 (some .int) am_r226 6 Q 22 [(0, .ref 154), (1, .int (nI q)), (2, .int (Int32.ofInt 3))] [] h63) ∧ (¬ ((Int32.ofInt 1) = 0) → pz_S 3 (some .int) am_r226 6 Q 13 [(0, .ref 154), (1, .int (nI q)), (2, .int (Int32.ofInt 3))] [] h63) from ⟨fun hz => absurd hz (by decide), fun _ => ?_⟩)
  refine am_goX 4 (show 0 ≤ 8 ∧ h63.2.2.2.2 + am_al 207 ≤ 175 ∧ am_call am_cod 6 207 [.int (Int32.ofInt 3), .int (Int32.ofInt 0), .int (Int32.ofInt 4)] h63 (fun vv h' => pz_S 3 (some .int) am_r226 6 Q 19 [(0, .ref 154), (1, .int (nI q)), (2, .int (Int32.ofInt 3))] (vv.toList ++ []) h') from ⟨by decide, ex_lim f64 rfl, am_call.up (d_207_w f64 ?_) (by decide)⟩)
  rw [show d_207 (Int32.ofInt 3) (Int32.ofInt 0) (Int32.ofInt 4) = Int32.ofInt 1 from (by decide)]
  refine am_goX 1 (show (¬ (Int32.ofInt 1) = 0 → pz_S 3 (some .int) am_r226 6 Q 25 [(0, .ref 154), (1, .int (nI q)), (2, .int (Int32.ofInt 3))] [] h63) ∧ (¬ ¬ (Int32.ofInt 1) = 0 → pz_S 3 (some .int) am_r226 6 Q 22 [(0, .ref 154), (1, .int (nI q)), (2, .int (Int32.ofInt 3))] [] h63) from ⟨fun _ => ?_, fun hz => absurd (by decide) hz⟩)
  refine am_goX 3 (show ((Int32.ofInt 2) ≤ (Int32.ofInt 3) → pz_S 3 (some .int) am_r226 6 Q 39 [(0, .ref 154), (1, .int (nI q)), (2, .int (Int32.ofInt 3))] [] h63) ∧ (¬ ((Int32.ofInt 2) ≤ (Int32.ofInt 3)) → pz_S 3 (some .int) am_r226 6 Q 30 [(0, .ref 154), (1, .int (nI q)), (2, .int (Int32.ofInt 3))] [] h63) from ⟨fun _ => ?_, fun hz => absurd (by decide) hz⟩)
  refine am_goX 3 (show (¬ (Int32.ofInt 3) = (Int32.ofInt 2) → pz_S 3 (some .int) am_r226 6 Q 52 [(0, .ref 154), (1, .int (nI q)), (2, .int (Int32.ofInt 3))] [] h63) ∧ (¬ ¬ (Int32.ofInt 3) = (Int32.ofInt 2) → pz_S 3 (some .int) am_r226 6 Q 44 [(0, .ref 154), (1, .int (nI q)), (2, .int (Int32.ofInt 3))] [] h63) from ⟨fun _ => ?_, fun hz => absurd (by decide) hz⟩)
  refine am_goX 3 (show (¬ (Int32.ofInt 3) = (Int32.ofInt 3) → pz_S 3 (some .int) am_r226 6 Q 69 [(0, .ref 154), (1, .int (nI q)), (2, .int (Int32.ofInt 3))] [] h63) ∧ (¬ ¬ (Int32.ofInt 3) = (Int32.ofInt 3) → pz_S 3 (some .int) am_r226 6 Q 57 [(0, .ref 154), (1, .int (nI q)), (2, .int (Int32.ofInt 3))] [] h63) from ⟨fun hz => absurd hz (by decide), fun _ => ?_⟩)
  refine am_goX 2 (show am_sh h63 154 = some (11, 0) ∧ pz_S 3 (some .int) am_r226 6 Q 61 [(0, .ref 154), (1, .int (nI q)), (2, .int (Int32.ofInt 3))] [am_rf (h63.2.2.1 154 24)] h63 from ⟨ex_154 f64, ?_⟩)
  rw [show am_rf (h63.2.2.1 154 24) = .ref 170 from congrArg am_rf (ex_r154_24 f64)]
  refine am_goX 4 (show ∃ jj nn : Nat, am_sh h63 170 = some (13, nn) ∧ jj < nn ∧ ((Int8.ofInt 14).toInt32) + (nI q) = nI jj ∧ pz_S 3 (some .int) am_r226 6 Q 66 [(0, .ref 154), (1, .int (nI q)), (2, .int (Int32.ofInt 3))] [.int (h63.1 170 jj)] h63 from ⟨(14 + q), 1127, ex_170 f64, (by omega), (dn_a (show (Int8.ofInt 14).toInt32 = nI 14 by decide) rfl), ?_⟩)
  rw [show h63.1 170 (14 + q) = s.2.2.2.2.1 q from (by rw [show (14 + q) = 0 + 14 + q by omega]; exact (f68.2.2.2 q (by omega)).1)]
  exact am_goX 2 (show (∃ ty, (some .int) = some ty ∧ narrow ty (.int (s.2.2.2.2.1 q)) = .int (s.2.2.2.2.1 q)) ∧ h63.2.2.2.2 = 175 ∧ _ from ⟨⟨.int, rfl, rfl⟩, ex_175 f64, hQ _⟩)
def d_220_4 (C : sp_C) (s : dS) (p : Nat) : Int32 := s.2.2.2.1 p
theorem d_220_M4 (hP : ex_P h) (hI : cI C) (hT : tR C h) (hO : ∀ e, e < dE C → h.1 172 e = dW V e) (hS : sR 0 (dP C) s h) (hp : p < dP C) (hQ : ∀ g, Q (some (.int (d_220_4 C s p))) g) : am_call am_cod 7 220 [.ref 154, .int (nI p), .int (Int32.ofInt 4)] h Q := by
  have h6 := hT.1.2.1
  have h5 := hT.2.1.2.1
  refine pz_call (n := 220) (nL := 3) (rt := (some .int)) (rows := am_r220) (d := 6) (by decide +kernel) (by decide +kernel) rfl (by funext pc; rfl) (ex_175 hP) (by exact Nat.le_of_ble_eq_true rfl) ?_
  refine am_goX 3 (show am_sh h 154 = some (11, 0) ∧ narrow (am_fty 11 0) (.int (Int32.ofInt 0)) = .int (Int32.ofInt 0) ∧ fits (am_fty 11 0) (.int (Int32.ofInt 0)) = true ∧ pz_S 3 (some .int) am_r220 6 Q 5 [(0, .ref 154), (1, .int (nI p)), (2, .int (Int32.ofInt 4))] [] (am_wI h 154 0 (Int32.ofInt 0)) from ⟨ex_154 hP, rfl, rfl, ?_⟩)
  have f70 : ex_P (am_wI h 154 0 (Int32.ofInt 0)) := hP
  have f71 : cI C := hI
  have f72 : tR C (am_wI h 154 0 (Int32.ofInt 0)) := tR_w (by omega) hT
  have f73 : ∀ e, e < dE C → (am_wI h 154 0 (Int32.ofInt 0)).1 172 e = dW V e := on_w (by omega) hO
  have f74 : sR 0 (dP C) s (am_wI h 154 0 (Int32.ofInt 0)) := sR_o (by omega) hS
  generalize am_wI h 154 0 (Int32.ofInt 0) = h69 at f70 f71 f72 f73 f74 ⊢
  refine am_goX 3 (show am_rc h69 154 11 ∧ 0 ≤ 8 ∧ h69.2.2.2.2 + am_al 221 ≤ 175 ∧ am_call am_cod 6 221 [.ref 154, .int (nI p)] h69 (fun vv h' => pz_S 3 (some .int) am_r220 6 Q 10 [(0, .ref 154), (1, .int (nI p)), (2, .int (Int32.ofInt 4))] (vv.toList ++ []) h') from ⟨Or.inl ⟨by decide, ex_154 f70⟩, by decide, ex_lim f70 rfl, am_call.up (d_221_r f70 f72 ?_) (by decide)⟩)
  rw [show d_221 C (nI p) = Int32.ofInt 1 from ((d_221_e _).trans (v_87 hp))]
  refine am_goX 1 (show ((Int32.ofInt 1) = 0 → pz_S 3 (some .int) am_r220 6 Q 22 [(0, .ref 154), (1, .int (nI p)), (2, .int (Int32.ofInt 4))] [] h69) ∧ (¬ ((Int32.ofInt 1) = 0) → pz_S 3 (some .int) am_r220 6 Q 13 [(0, .ref 154), (1, .int (nI p)), (2, .int (Int32.ofInt 4))] [] h69) from ⟨fun hz => absurd hz (by decide), fun _ => ?_⟩)
  refine am_goX 4 (show 0 ≤ 8 ∧ h69.2.2.2.2 + am_al 207 ≤ 175 ∧ am_call am_cod 6 207 [.int (Int32.ofInt 4), .int (Int32.ofInt 0), .int (Int32.ofInt 4)] h69 (fun vv h' => pz_S 3 (some .int) am_r220 6 Q 19 [(0, .ref 154), (1, .int (nI p)), (2, .int (Int32.ofInt 4))] (vv.toList ++ []) h') from ⟨by decide, ex_lim f70 rfl, am_call.up (d_207_w f70 ?_) (by decide)⟩)
  rw [show d_207 (Int32.ofInt 4) (Int32.ofInt 0) (Int32.ofInt 4) = Int32.ofInt 1 from (by decide)]
  refine am_goX 1 (show (¬ (Int32.ofInt 1) = 0 → pz_S 3 (some .int) am_r220 6 Q 25 [(0, .ref 154), (1, .int (nI p)), (2, .int (Int32.ofInt 4))] [] h69) ∧ (¬ ¬ (Int32.ofInt 1) = 0 → pz_S 3 (some .int) am_r220 6 Q 22 [(0, .ref 154), (1, .int (nI p)), (2, .int (Int32.ofInt 4))] [] h69) from ⟨fun _ => ?_, fun hz => absurd (by decide) hz⟩)
  refine am_goX 2 (show (¬ (Int32.ofInt 4) = 0 → pz_S 3 (some .int) am_r220 6 Q 38 [(0, .ref 154), (1, .int (nI p)), (2, .int (Int32.ofInt 4))] [] h69) ∧ (¬ ¬ (Int32.ofInt 4) = 0 → pz_S 3 (some .int) am_r220 6 Q 29 [(0, .ref 154), (1, .int (nI p)), (2, .int (Int32.ofInt 4))] [] h69) from ⟨fun _ => ?_, fun hz => absurd (by decide) hz⟩)
  refine am_goX 3 (show (¬ (Int32.ofInt 4) = (Int32.ofInt 1) → pz_S 3 (some .int) am_r220 6 Q 54 [(0, .ref 154), (1, .int (nI p)), (2, .int (Int32.ofInt 4))] [] h69) ∧ (¬ ¬ (Int32.ofInt 4) = (Int32.ofInt 1) → pz_S 3 (some .int) am_r220 6 Q 43 [(0, .ref 154), (1, .int (nI p)), (2, .int (Int32.ofInt 4))] [] h69) from ⟨fun _ => ?_, fun hz => absurd (by decide) hz⟩)
  refine am_goX 3 (show (¬ (Int32.ofInt 4) = (Int32.ofInt 2) → pz_S 3 (some .int) am_r220 6 Q 67 [(0, .ref 154), (1, .int (nI p)), (2, .int (Int32.ofInt 4))] [] h69) ∧ (¬ ¬ (Int32.ofInt 4) = (Int32.ofInt 2) → pz_S 3 (some .int) am_r220 6 Q 59 [(0, .ref 154), (1, .int (nI p)), (2, .int (Int32.ofInt 4))] [] h69) from ⟨fun _ => ?_, fun hz => absurd (by decide) hz⟩)
  refine am_goX 3 (show (¬ (Int32.ofInt 4) = (Int32.ofInt 3) → pz_S 3 (some .int) am_r220 6 Q 81 [(0, .ref 154), (1, .int (nI p)), (2, .int (Int32.ofInt 4))] [] h69) ∧ (¬ ¬ (Int32.ofInt 4) = (Int32.ofInt 3) → pz_S 3 (some .int) am_r220 6 Q 72 [(0, .ref 154), (1, .int (nI p)), (2, .int (Int32.ofInt 4))] [] h69) from ⟨fun _ => ?_, fun hz => absurd (by decide) hz⟩)
  refine am_goX 2 (show am_sh h69 154 = some (11, 0) ∧ pz_S 3 (some .int) am_r220 6 Q 85 [(0, .ref 154), (1, .int (nI p)), (2, .int (Int32.ofInt 4))] [am_rf (h69.2.2.1 154 24)] h69 from ⟨ex_154 f70, ?_⟩)
  rw [show am_rf (h69.2.2.1 154 24) = .ref 170 from congrArg am_rf (ex_r154_24 f70)]
  refine am_goX 4 (show ∃ jj nn : Nat, am_sh h69 170 = some (13, nn) ∧ jj < nn ∧ ((Int8.ofInt 8).toInt32) + (nI p) = nI jj ∧ pz_S 3 (some .int) am_r220 6 Q 90 [(0, .ref 154), (1, .int (nI p)), (2, .int (Int32.ofInt 4))] [.int (h69.1 170 jj)] h69 from ⟨(8 + p), 1127, ex_170 f70, (by omega), (dn_a (show (Int8.ofInt 8).toInt32 = nI 8 by decide) rfl), ?_⟩)
  rw [show h69.1 170 (8 + p) = s.2.2.2.1 p from (by rw [show (8 + p) = 0 + 8 + p by omega]; exact f74.2.2.1 p (by omega))]
  exact am_goX 1 (show (∃ ty, (some .int) = some ty ∧ narrow ty (.int (s.2.2.2.1 p)) = .int (s.2.2.2.1 p)) ∧ h69.2.2.2.2 = 175 ∧ _ from ⟨⟨.int, rfl, rfl⟩, ex_175 f70, hQ _⟩)
def d_226_4 (C : sp_C) (s : dS) (q : Nat) : Int32 := s.2.2.2.2.2 q
theorem d_226_M4 (hP : ex_P h) (hI : cI C) (hT : tR C h) (hO : ∀ e, e < dE C → h.1 172 e = dW V e) (hS : sR 0 (dP C) s h) (hq : q < dE C) (hQ : ∀ g, Q (some (.int (d_226_4 C s q))) g) : am_call am_cod 7 226 [.ref 154, .int (nI q), .int (Int32.ofInt 4)] h Q := by
  have h6 := hT.1.2.1
  have h5 := hT.2.1.2.1
  refine pz_call (n := 226) (nL := 3) (rt := (some .int)) (rows := am_r226) (d := 6) (by decide +kernel) (by decide +kernel) rfl (by funext pc; rfl) (ex_175 hP) (by exact Nat.le_of_ble_eq_true rfl) ?_
  refine am_goX 3 (show am_sh h 154 = some (11, 0) ∧ narrow (am_fty 11 0) (.int (Int32.ofInt 0)) = .int (Int32.ofInt 0) ∧ fits (am_fty 11 0) (.int (Int32.ofInt 0)) = true ∧ pz_S 3 (some .int) am_r226 6 Q 5 [(0, .ref 154), (1, .int (nI q)), (2, .int (Int32.ofInt 4))] [] (am_wI h 154 0 (Int32.ofInt 0)) from ⟨ex_154 hP, rfl, rfl, ?_⟩)
  have f76 : ex_P (am_wI h 154 0 (Int32.ofInt 0)) := hP
  have f77 : cI C := hI
  have f78 : tR C (am_wI h 154 0 (Int32.ofInt 0)) := tR_w (by omega) hT
  have f79 : ∀ e, e < dE C → (am_wI h 154 0 (Int32.ofInt 0)).1 172 e = dW V e := on_w (by omega) hO
  have f80 : sR 0 (dP C) s (am_wI h 154 0 (Int32.ofInt 0)) := sR_o (by omega) hS
  generalize am_wI h 154 0 (Int32.ofInt 0) = h75 at f76 f77 f78 f79 f80 ⊢
  refine am_goX 3 (show am_rc h75 154 11 ∧ 0 ≤ 8 ∧ h75.2.2.2.2 + am_al 227 ≤ 175 ∧ am_call am_cod 6 227 [.ref 154, .int (nI q)] h75 (fun vv h' => pz_S 3 (some .int) am_r226 6 Q 10 [(0, .ref 154), (1, .int (nI q)), (2, .int (Int32.ofInt 4))] (vv.toList ++ []) h') from ⟨Or.inl ⟨by decide, ex_154 f76⟩, by decide, ex_lim f76 rfl, am_call.up (d_227_r f76 f78 ?_) (by decide)⟩)
  rw [show d_227 C (nI q) = Int32.ofInt 1 from ((d_227_e _).trans (v_93 hq h5))]
  refine am_goX 1 (show ((Int32.ofInt 1) = 0 → pz_S 3 (some .int) am_r226 6 Q 22 [(0, .ref 154), (1, .int (nI q)), (2, .int (Int32.ofInt 4))] [] h75) ∧ (¬ ((Int32.ofInt 1) = 0) → pz_S 3 (some .int) am_r226 6 Q 13 [(0, .ref 154), (1, .int (nI q)), (2, .int (Int32.ofInt 4))] [] h75) from ⟨fun hz => absurd hz (by decide), fun _ => ?_⟩)
  refine am_goX 4 (show 0 ≤ 8 ∧ h75.2.2.2.2 + am_al 207 ≤ 175 ∧ am_call am_cod 6 207 [.int (Int32.ofInt 4), .int (Int32.ofInt 0), .int (Int32.ofInt 4)] h75 (fun vv h' => pz_S 3 (some .int) am_r226 6 Q 19 [(0, .ref 154), (1, .int (nI q)), (2, .int (Int32.ofInt 4))] (vv.toList ++ []) h') from ⟨by decide, ex_lim f76 rfl, am_call.up (d_207_w f76 ?_) (by decide)⟩)
  rw [show d_207 (Int32.ofInt 4) (Int32.ofInt 0) (Int32.ofInt 4) = Int32.ofInt 1 from (by decide)]
  refine am_goX 1 (show (¬ (Int32.ofInt 1) = 0 → pz_S 3 (some .int) am_r226 6 Q 25 [(0, .ref 154), (1, .int (nI q)), (2, .int (Int32.ofInt 4))] [] h75) ∧ (¬ ¬ (Int32.ofInt 1) = 0 → pz_S 3 (some .int) am_r226 6 Q 22 [(0, .ref 154), (1, .int (nI q)), (2, .int (Int32.ofInt 4))] [] h75) from ⟨fun _ => ?_, fun hz => absurd (by decide) hz⟩)
  refine am_goX 3 (show ((Int32.ofInt 2) ≤ (Int32.ofInt 4) → pz_S 3 (some .int) am_r226 6 Q 39 [(0, .ref 154), (1, .int (nI q)), (2, .int (Int32.ofInt 4))] [] h75) ∧ (¬ ((Int32.ofInt 2) ≤ (Int32.ofInt 4)) → pz_S 3 (some .int) am_r226 6 Q 30 [(0, .ref 154), (1, .int (nI q)), (2, .int (Int32.ofInt 4))] [] h75) from ⟨fun _ => ?_, fun hz => absurd (by decide) hz⟩)
  refine am_goX 3 (show (¬ (Int32.ofInt 4) = (Int32.ofInt 2) → pz_S 3 (some .int) am_r226 6 Q 52 [(0, .ref 154), (1, .int (nI q)), (2, .int (Int32.ofInt 4))] [] h75) ∧ (¬ ¬ (Int32.ofInt 4) = (Int32.ofInt 2) → pz_S 3 (some .int) am_r226 6 Q 44 [(0, .ref 154), (1, .int (nI q)), (2, .int (Int32.ofInt 4))] [] h75) from ⟨fun _ => ?_, fun hz => absurd (by decide) hz⟩)
  refine am_goX 3 (show (¬ (Int32.ofInt 4) = (Int32.ofInt 3) → pz_S 3 (some .int) am_r226 6 Q 69 [(0, .ref 154), (1, .int (nI q)), (2, .int (Int32.ofInt 4))] [] h75) ∧ (¬ ¬ (Int32.ofInt 4) = (Int32.ofInt 3) → pz_S 3 (some .int) am_r226 6 Q 57 [(0, .ref 154), (1, .int (nI q)), (2, .int (Int32.ofInt 4))] [] h75) from ⟨fun _ => ?_, fun hz => absurd (by decide) hz⟩)
  refine am_goX 2 (show am_sh h75 154 = some (11, 0) ∧ pz_S 3 (some .int) am_r226 6 Q 73 [(0, .ref 154), (1, .int (nI q)), (2, .int (Int32.ofInt 4))] [am_rf (h75.2.2.1 154 24)] h75 from ⟨ex_154 f76, ?_⟩)
  rw [show am_rf (h75.2.2.1 154 24) = .ref 170 from congrArg am_rf (ex_r154_24 f76)]
  refine am_goX 4 (show ∃ jj nn : Nat, am_sh h75 170 = some (13, nn) ∧ jj < nn ∧ ((Int8.ofInt 19).toInt32) + (nI q) = nI jj ∧ pz_S 3 (some .int) am_r226 6 Q 78 [(0, .ref 154), (1, .int (nI q)), (2, .int (Int32.ofInt 4))] [.int (h75.1 170 jj)] h75 from ⟨(19 + q), 1127, ex_170 f76, (by omega), (dn_a (show (Int8.ofInt 19).toInt32 = nI 19 by decide) rfl), ?_⟩)
  rw [show h75.1 170 (19 + q) = s.2.2.2.2.2 q from (by rw [show (19 + q) = 0 + 19 + q by omega]; exact (f80.2.2.2 q (by omega)).2)]
  exact am_goX 1 (show (∃ ty, (some .int) = some ty ∧ narrow ty (.int (s.2.2.2.2.2 q)) = .int (s.2.2.2.2.2 q)) ∧ h75.2.2.2.2 = 175 ∧ _ from ⟨⟨.int, rfl, rfl⟩, ex_175 f76, hQ _⟩)
def d_220x  : Int32 := (Int8.ofInt (-2)).toInt32
theorem d_220_xM (hP : ex_P h) (hI : cI C) (hT : tR C h) (hO : ∀ e, e < dE C → h.1 172 e = dW V e) (hS : sR 0 (dP C) s h) (ey : d_87 C y = Int32.ofInt 0) (hQ : ∀ g, Q (some (.int d_220x)) g) : am_call am_cod 7 220 [.ref 154, .int y, .int w] h Q := by
  have h6 := hT.1.2.1
  have h5 := hT.2.1.2.1
  refine pz_call (n := 220) (nL := 3) (rt := (some .int)) (rows := am_r220) (d := 6) (by decide +kernel) (by decide +kernel) rfl (by funext pc; rfl) (ex_175 hP) (by exact Nat.le_of_ble_eq_true rfl) ?_
  refine am_goX 3 (show am_sh h 154 = some (11, 0) ∧ narrow (am_fty 11 0) (.int (Int32.ofInt 0)) = .int (Int32.ofInt 0) ∧ fits (am_fty 11 0) (.int (Int32.ofInt 0)) = true ∧ pz_S 3 (some .int) am_r220 6 Q 5 [(0, .ref 154), (1, .int y), (2, .int w)] [] (am_wI h 154 0 (Int32.ofInt 0)) from ⟨ex_154 hP, rfl, rfl, ?_⟩)
  have f82 : ex_P (am_wI h 154 0 (Int32.ofInt 0)) := hP
  have f83 : cI C := hI
  have f84 : tR C (am_wI h 154 0 (Int32.ofInt 0)) := tR_w (by omega) hT
  have f85 : ∀ e, e < dE C → (am_wI h 154 0 (Int32.ofInt 0)).1 172 e = dW V e := on_w (by omega) hO
  have f86 : sR 0 (dP C) s (am_wI h 154 0 (Int32.ofInt 0)) := sR_o (by omega) hS
  generalize am_wI h 154 0 (Int32.ofInt 0) = h81 at f82 f83 f84 f85 f86 ⊢
  refine am_goX 3 (show am_rc h81 154 11 ∧ 0 ≤ 8 ∧ h81.2.2.2.2 + am_al 221 ≤ 175 ∧ am_call am_cod 6 221 [.ref 154, .int y] h81 (fun vv h' => pz_S 3 (some .int) am_r220 6 Q 10 [(0, .ref 154), (1, .int y), (2, .int w)] (vv.toList ++ []) h') from ⟨Or.inl ⟨by decide, ex_154 f82⟩, by decide, ex_lim f82 rfl, am_call.up (d_221_r f82 f84 ?_) (by decide)⟩)
  rw [show d_221 C y = Int32.ofInt 0 from ((d_221_e _).trans ey)]
  refine am_goX 1 (show ((Int32.ofInt 0) = 0 → pz_S 3 (some .int) am_r220 6 Q 22 [(0, .ref 154), (1, .int y), (2, .int w)] [] h81) ∧ (¬ ((Int32.ofInt 0) = 0) → pz_S 3 (some .int) am_r220 6 Q 13 [(0, .ref 154), (1, .int y), (2, .int w)] [] h81) from ⟨fun _ => ?_, fun hz => absurd (by decide) hz⟩)
  exact am_goX 2 (show (∃ ty, (some .int) = some ty ∧ narrow ty (.int ((Int8.ofInt (-2)).toInt32)) = .int ((Int8.ofInt (-2)).toInt32)) ∧ h81.2.2.2.2 = 175 ∧ _ from ⟨⟨.int, rfl, rfl⟩, ex_175 f82, hQ _⟩)
def d_226x  : Int32 := (Int8.ofInt (-2)).toInt32
theorem d_226_xM (hP : ex_P h) (hI : cI C) (hT : tR C h) (hO : ∀ e, e < dE C → h.1 172 e = dW V e) (hS : sR 0 (dP C) s h) (ey : d_93 C y = Int32.ofInt 0) (hQ : ∀ g, Q (some (.int d_226x)) g) : am_call am_cod 7 226 [.ref 154, .int y, .int w] h Q := by
  have h6 := hT.1.2.1
  have h5 := hT.2.1.2.1
  refine pz_call (n := 226) (nL := 3) (rt := (some .int)) (rows := am_r226) (d := 6) (by decide +kernel) (by decide +kernel) rfl (by funext pc; rfl) (ex_175 hP) (by exact Nat.le_of_ble_eq_true rfl) ?_
  refine am_goX 3 (show am_sh h 154 = some (11, 0) ∧ narrow (am_fty 11 0) (.int (Int32.ofInt 0)) = .int (Int32.ofInt 0) ∧ fits (am_fty 11 0) (.int (Int32.ofInt 0)) = true ∧ pz_S 3 (some .int) am_r226 6 Q 5 [(0, .ref 154), (1, .int y), (2, .int w)] [] (am_wI h 154 0 (Int32.ofInt 0)) from ⟨ex_154 hP, rfl, rfl, ?_⟩)
  have f88 : ex_P (am_wI h 154 0 (Int32.ofInt 0)) := hP
  have f89 : cI C := hI
  have f90 : tR C (am_wI h 154 0 (Int32.ofInt 0)) := tR_w (by omega) hT
  have f91 : ∀ e, e < dE C → (am_wI h 154 0 (Int32.ofInt 0)).1 172 e = dW V e := on_w (by omega) hO
  have f92 : sR 0 (dP C) s (am_wI h 154 0 (Int32.ofInt 0)) := sR_o (by omega) hS
  generalize am_wI h 154 0 (Int32.ofInt 0) = h87 at f88 f89 f90 f91 f92 ⊢
  refine am_goX 3 (show am_rc h87 154 11 ∧ 0 ≤ 8 ∧ h87.2.2.2.2 + am_al 227 ≤ 175 ∧ am_call am_cod 6 227 [.ref 154, .int y] h87 (fun vv h' => pz_S 3 (some .int) am_r226 6 Q 10 [(0, .ref 154), (1, .int y), (2, .int w)] (vv.toList ++ []) h') from ⟨Or.inl ⟨by decide, ex_154 f88⟩, by decide, ex_lim f88 rfl, am_call.up (d_227_r f88 f90 ?_) (by decide)⟩)
  rw [show d_227 C y = Int32.ofInt 0 from ((d_227_e _).trans ey)]
  refine am_goX 1 (show ((Int32.ofInt 0) = 0 → pz_S 3 (some .int) am_r226 6 Q 22 [(0, .ref 154), (1, .int y), (2, .int w)] [] h87) ∧ (¬ ((Int32.ofInt 0) = 0) → pz_S 3 (some .int) am_r226 6 Q 13 [(0, .ref 154), (1, .int y), (2, .int w)] [] h87) from ⟨fun _ => ?_, fun hz => absurd (by decide) hz⟩)
  exact am_goX 2 (show (∃ ty, (some .int) = some ty ∧ narrow ty (.int ((Int8.ofInt (-2)).toInt32)) = .int ((Int8.ofInt (-2)).toInt32)) ∧ h87.2.2.2.2 = 175 ∧ _ from ⟨⟨.int, rfl, rfl⟩, ex_175 f88, hQ _⟩)
theorem d_220_yM (hP : ex_P h) (hI : cI C) (hT : tR C h) (hO : ∀ e, e < dE C → h.1 172 e = dW V e) (hS : sR 0 (dP C) s h) (hp : p < dP C) (ew : d_60 w (Int32.ofInt 0) (Int32.ofInt 4) = Int32.ofInt 0) (hQ : ∀ g, Q (some (.int d_220x)) g) : am_call am_cod 7 220 [.ref 154, .int (nI p), .int w] h Q := by
  have h6 := hT.1.2.1
  have h5 := hT.2.1.2.1
  refine pz_call (n := 220) (nL := 3) (rt := (some .int)) (rows := am_r220) (d := 6) (by decide +kernel) (by decide +kernel) rfl (by funext pc; rfl) (ex_175 hP) (by exact Nat.le_of_ble_eq_true rfl) ?_
  refine am_goX 3 (show am_sh h 154 = some (11, 0) ∧ narrow (am_fty 11 0) (.int (Int32.ofInt 0)) = .int (Int32.ofInt 0) ∧ fits (am_fty 11 0) (.int (Int32.ofInt 0)) = true ∧ pz_S 3 (some .int) am_r220 6 Q 5 [(0, .ref 154), (1, .int (nI p)), (2, .int w)] [] (am_wI h 154 0 (Int32.ofInt 0)) from ⟨ex_154 hP, rfl, rfl, ?_⟩)
  have f94 : ex_P (am_wI h 154 0 (Int32.ofInt 0)) := hP
  have f95 : cI C := hI
  have f96 : tR C (am_wI h 154 0 (Int32.ofInt 0)) := tR_w (by omega) hT
  have f97 : ∀ e, e < dE C → (am_wI h 154 0 (Int32.ofInt 0)).1 172 e = dW V e := on_w (by omega) hO
  have f98 : sR 0 (dP C) s (am_wI h 154 0 (Int32.ofInt 0)) := sR_o (by omega) hS
  generalize am_wI h 154 0 (Int32.ofInt 0) = h93 at f94 f95 f96 f97 f98 ⊢
  refine am_goX 3 (show am_rc h93 154 11 ∧ 0 ≤ 8 ∧ h93.2.2.2.2 + am_al 221 ≤ 175 ∧ am_call am_cod 6 221 [.ref 154, .int (nI p)] h93 (fun vv h' => pz_S 3 (some .int) am_r220 6 Q 10 [(0, .ref 154), (1, .int (nI p)), (2, .int w)] (vv.toList ++ []) h') from ⟨Or.inl ⟨by decide, ex_154 f94⟩, by decide, ex_lim f94 rfl, am_call.up (d_221_r f94 f96 ?_) (by decide)⟩)
  rw [show d_221 C (nI p) = Int32.ofInt 1 from ((d_221_e _).trans (v_87 hp))]
  refine am_goX 1 (show ((Int32.ofInt 1) = 0 → pz_S 3 (some .int) am_r220 6 Q 22 [(0, .ref 154), (1, .int (nI p)), (2, .int w)] [] h93) ∧ (¬ ((Int32.ofInt 1) = 0) → pz_S 3 (some .int) am_r220 6 Q 13 [(0, .ref 154), (1, .int (nI p)), (2, .int w)] [] h93) from ⟨fun hz => absurd hz (by decide), fun _ => ?_⟩)
  refine am_goX 4 (show 0 ≤ 8 ∧ h93.2.2.2.2 + am_al 207 ≤ 175 ∧ am_call am_cod 6 207 [.int w, .int (Int32.ofInt 0), .int (Int32.ofInt 4)] h93 (fun vv h' => pz_S 3 (some .int) am_r220 6 Q 19 [(0, .ref 154), (1, .int (nI p)), (2, .int w)] (vv.toList ++ []) h') from ⟨by decide, ex_lim f94 rfl, am_call.up (d_207_w f94 ?_) (by decide)⟩)
  rw [show d_207 w (Int32.ofInt 0) (Int32.ofInt 4) = Int32.ofInt 0 from ((d_207_e _ _ _).trans ew)]
  refine am_goX 1 (show (¬ (Int32.ofInt 0) = 0 → pz_S 3 (some .int) am_r220 6 Q 25 [(0, .ref 154), (1, .int (nI p)), (2, .int w)] [] h93) ∧ (¬ ¬ (Int32.ofInt 0) = 0 → pz_S 3 (some .int) am_r220 6 Q 22 [(0, .ref 154), (1, .int (nI p)), (2, .int w)] [] h93) from ⟨fun hz => absurd hz (by decide), fun _ => ?_⟩)
  exact am_goX 2 (show (∃ ty, (some .int) = some ty ∧ narrow ty (.int ((Int8.ofInt (-2)).toInt32)) = .int ((Int8.ofInt (-2)).toInt32)) ∧ h93.2.2.2.2 = 175 ∧ _ from ⟨⟨.int, rfl, rfl⟩, ex_175 f94, hQ _⟩)
theorem d_226_yM (hP : ex_P h) (hI : cI C) (hT : tR C h) (hO : ∀ e, e < dE C → h.1 172 e = dW V e) (hS : sR 0 (dP C) s h) (hq : q < dE C) (ew : d_60 w (Int32.ofInt 0) (Int32.ofInt 4) = Int32.ofInt 0) (hQ : ∀ g, Q (some (.int d_226x)) g) : am_call am_cod 7 226 [.ref 154, .int (nI q), .int w] h Q := by
  have h6 := hT.1.2.1
  have h5 := hT.2.1.2.1
  refine pz_call (n := 226) (nL := 3) (rt := (some .int)) (rows := am_r226) (d := 6) (by decide +kernel) (by decide +kernel) rfl (by funext pc; rfl) (ex_175 hP) (by exact Nat.le_of_ble_eq_true rfl) ?_
  refine am_goX 3 (show am_sh h 154 = some (11, 0) ∧ narrow (am_fty 11 0) (.int (Int32.ofInt 0)) = .int (Int32.ofInt 0) ∧ fits (am_fty 11 0) (.int (Int32.ofInt 0)) = true ∧ pz_S 3 (some .int) am_r226 6 Q 5 [(0, .ref 154), (1, .int (nI q)), (2, .int w)] [] (am_wI h 154 0 (Int32.ofInt 0)) from ⟨ex_154 hP, rfl, rfl, ?_⟩)
  have f100 : ex_P (am_wI h 154 0 (Int32.ofInt 0)) := hP
  have f101 : cI C := hI
  have f102 : tR C (am_wI h 154 0 (Int32.ofInt 0)) := tR_w (by omega) hT
  have f103 : ∀ e, e < dE C → (am_wI h 154 0 (Int32.ofInt 0)).1 172 e = dW V e := on_w (by omega) hO
  have f104 : sR 0 (dP C) s (am_wI h 154 0 (Int32.ofInt 0)) := sR_o (by omega) hS
  generalize am_wI h 154 0 (Int32.ofInt 0) = h99 at f100 f101 f102 f103 f104 ⊢
  refine am_goX 3 (show am_rc h99 154 11 ∧ 0 ≤ 8 ∧ h99.2.2.2.2 + am_al 227 ≤ 175 ∧ am_call am_cod 6 227 [.ref 154, .int (nI q)] h99 (fun vv h' => pz_S 3 (some .int) am_r226 6 Q 10 [(0, .ref 154), (1, .int (nI q)), (2, .int w)] (vv.toList ++ []) h') from ⟨Or.inl ⟨by decide, ex_154 f100⟩, by decide, ex_lim f100 rfl, am_call.up (d_227_r f100 f102 ?_) (by decide)⟩)
  rw [show d_227 C (nI q) = Int32.ofInt 1 from ((d_227_e _).trans (v_93 hq h5))]
  refine am_goX 1 (show ((Int32.ofInt 1) = 0 → pz_S 3 (some .int) am_r226 6 Q 22 [(0, .ref 154), (1, .int (nI q)), (2, .int w)] [] h99) ∧ (¬ ((Int32.ofInt 1) = 0) → pz_S 3 (some .int) am_r226 6 Q 13 [(0, .ref 154), (1, .int (nI q)), (2, .int w)] [] h99) from ⟨fun hz => absurd hz (by decide), fun _ => ?_⟩)
  refine am_goX 4 (show 0 ≤ 8 ∧ h99.2.2.2.2 + am_al 207 ≤ 175 ∧ am_call am_cod 6 207 [.int w, .int (Int32.ofInt 0), .int (Int32.ofInt 4)] h99 (fun vv h' => pz_S 3 (some .int) am_r226 6 Q 19 [(0, .ref 154), (1, .int (nI q)), (2, .int w)] (vv.toList ++ []) h') from ⟨by decide, ex_lim f100 rfl, am_call.up (d_207_w f100 ?_) (by decide)⟩)
  rw [show d_207 w (Int32.ofInt 0) (Int32.ofInt 4) = Int32.ofInt 0 from ((d_207_e _ _ _).trans ew)]
  refine am_goX 1 (show (¬ (Int32.ofInt 0) = 0 → pz_S 3 (some .int) am_r226 6 Q 25 [(0, .ref 154), (1, .int (nI q)), (2, .int w)] [] h99) ∧ (¬ ¬ (Int32.ofInt 0) = 0 → pz_S 3 (some .int) am_r226 6 Q 22 [(0, .ref 154), (1, .int (nI q)), (2, .int w)] [] h99) from ⟨fun hz => absurd hz (by decide), fun _ => ?_⟩)
  exact am_goX 2 (show (∃ ty, (some .int) = some ty ∧ narrow ty (.int ((Int8.ofInt (-2)).toInt32)) = .int ((Int8.ofInt (-2)).toInt32)) ∧ h99.2.2.2.2 = 175 ∧ _ from ⟨⟨.int, rfl, rfl⟩, ex_175 f100, hQ _⟩)
theorem to_one5 {C : sp_C} {D : Nat} {s : dS} (hs : sI C D s) (hD : D ≤ 4200) {p : Nat} (hp : p < dP C) : d_88 C s p (d_68 C s.1) = d_222 C s p := by
  rw [d_68_e, to_e hs hD hp (d_224_01 C _)]
  rfl
def a_pe (C : sp_C) (s : dS) (x w : Int32) : Int32 := if d_87 C x = Int32.ofInt 0 then (Int8.ofInt (-2)).toInt32 else d_86 C s x.toInt.toNat w
theorem a_pe1 {C : sp_C} {s : dS} {x w : Int32} (e : d_87 C x = Int32.ofInt 0) : a_pe C s x w = (Int8.ofInt (-2)).toInt32 := if_pos e
theorem a_pe2 {C : sp_C} {s : dS} {p : Nat} {w : Int32} (hp : p < dP C) (h6 : dP C ≤ 6) : a_pe C s (nI p) w = d_86 C s p w := by
  unfold a_pe
  rw [if_neg (v_87b hp h6), nI_tnn (by omega)]
theorem w_no {w : Int32} (ew : d_60 w (Int32.ofInt 0) (Int32.ofInt 4) = Int32.ofInt 0) {l : Nat} (hl : l < 5) : ¬ w = nI l := fun z => by
  rw [z, show d_60 (nI l) (Int32.ofInt 0) (Int32.ofInt 4) = Int32.ofInt 1 from v_60 (lo := 0) (hi := 4) (by omega) (by omega) (by decide)] at ew
  exact absurd ew (by decide)
theorem d_86_x {C : sp_C} {s : dS} {p : Nat} {w : Int32} (ew : d_60 w (Int32.ofInt 0) (Int32.ofInt 4) = Int32.ofInt 0) : d_86 C s p w = (Int8.ofInt (-2)).toInt32 := by
  unfold d_86
  rw [if_neg (show ¬ w = Int32.ofInt 0 from w_no ew (l := 0) (by decide)), if_neg (show ¬ w = Int32.ofInt 1 from w_no ew (l := 1) (by decide)), if_neg (show ¬ w = Int32.ofInt 2 from w_no ew (l := 2) (by decide)), if_neg (show ¬ w = Int32.ofInt 3 from w_no ew (l := 3) (by decide)), if_neg (show ¬ w = Int32.ofInt 4 from w_no ew (l := 4) (by decide))]
theorem q_86 {h : am_H} {C : sp_C} {D : Nat} {s : dS} {H : dH} {M : dMk} {n : Nat} (hI : iv_I h) (i : KI C D s H M n) (j : KC C s H M n h) (x w : Int32) : am_call am_cod 60 86 [.ref 0, .int x, .int w] h (fun v _ => v = some (.int (a_pe C s x w))) := by
  have hP := iv_P hI
  have hc := i.1
  have h6 := hc.1.1
  obtain ⟨c, c1, c2, c3, c4, c5, -⟩ := j
  rcases c_87 h6 x with e | ⟨p, hp, rfl⟩
  · rcases c1 with rfl | rfl
    · exact am_call.up (d_86_xN6 hP hc c3 c4 c2 c5 e (by rw [a_pe1 e]; rfl)) (by decide)
    · exact am_call.up (d_86_xN17 hP hc c3 c4 c2 c5 e (by rw [a_pe1 e]; rfl)) (by decide)
  · rcases c1 with rfl | rfl
    · exact am_call.up (d_86_N6 hP hc c3 c4 c2 c5 hp (by rw [a_pe2 hp h6])) (by decide)
    · exact am_call.up (d_86_N17 hP hc c3 c4 c2 c5 hp (by rw [a_pe2 hp h6])) (by decide)
theorem q_220 {h : am_H} {C : sp_C} {D : Nat} {s : dS} {H : dH} {M : dMk} {n : Nat} (hI : iv_I h) (i : KI C D s H M n) (hD : D ≤ 1000) (j : KR C s H M n h) (x w : Int32) : am_call am_cod 60 220 [.ref 154, .int x, .int w] h (fun v _ => v = some (.int (a_pe C s x w))) := by
  have hP := iv_P hI
  have hc := i.1
  have h6 := hc.1.1
  obtain ⟨r1, r2, r3, -⟩ := j
  rcases c_87 h6 x with e | ⟨p, hp, rfl⟩
  · exact am_call.up (d_220_xM hP hc r1 r2 r3 e (fun g => by rw [a_pe1 e]; rfl)) (by decide)
  · rw [a_pe2 hp h6]
    rcases c_60 (lo := 0) (hi := 4) (by decide) (by decide) w with ew | ⟨l, -, hl, rfl⟩
    · exact am_call.up (d_220_yM hP hc r1 r2 r3 hp ew (fun g => by rw [d_86_x ew]; rfl)) (by decide)
    · have ll : l = 0 ∨ l = 1 ∨ l = 2 ∨ l = 3 ∨ l = 4 := by omega
      rcases ll with rfl | rfl | rfl | rfl | rfl
      · exact am_call.up (d_220_M0 hP hc r1 r2 r3 hp (fun g => rfl)) (by decide)
      · exact am_call.up (d_220_M1 hP hc r1 r2 r3 hp (fun g => rfl)) (by decide)
      · refine am_call.up (d_220_M2 hP hc r1 r2 r3 hp (fun g => ?_)) (by decide)
        show some (Value.int (d_222 C s p)) = some (Value.int (d_88 C s p (d_68 C s.1)))
        rw [to_one5 i.2.1 (by omega) hp]
      · exact am_call.up (d_220_M3 hP hc r1 r2 r3 hp (fun g => rfl)) (by decide)
      · exact am_call.up (d_220_M4 hP hc r1 r2 r3 hp (fun g => rfl)) (by decide)
end
