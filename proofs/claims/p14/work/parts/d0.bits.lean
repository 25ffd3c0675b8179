section
/-! BITS GATHERED PERSON BY PERSON -/
theorem b65 (x y : Int32) : (d_65 x y = 0) ↔ ¬ ((x >>> (y &&& 31)) &&& (Int32.ofInt 1)) = (Int32.ofInt 1) := by
  rw [d_65_b, bit_1]
  cases sp_bit x y <;> decide
theorem b6_eq {x y : Int32} {P : Nat} (h6 : P ≤ 6) (hx : bN x < 2 ^ P) (hy : bN y < 2 ^ P) (hb : ∀ e, e < P → sp_bit x (nI e) = sp_bit y (nI e)) : x = y := by
  refine bN_inj (Nat.eq_of_testBit_eq fun i => ?_)
  by_cases hi : i < P
  · rw [← sp_bit_tg (by omega), ← sp_bit_tg (by omega)]
    exact hb i hi
  · have h2 : 2 ^ P ≤ 2 ^ i := Nat.pow_le_pow_right (show 2 > 0 by decide) (by omega)
    rw [Nat.testBit_lt_two_pow (Nat.lt_of_lt_of_le hx h2), Nat.testBit_lt_two_pow (Nat.lt_of_lt_of_le hy h2)]
theorem d_229_b {C : sp_C} {p q : Nat} (h5 : dE C ≤ 5) (hq : q < dE C) : (d_229 C p (nI q) = 0) ↔ sp_bit (dG C q) (nI p) = false := by
  unfold d_229
  have hB := (dB_b (C := C) (p := p) h5).2 q (by omega)
  rw [decide_eq_true hq, Bool.true_and] at hB
  by_cases h : ((dB C p) >>> ((nI q) &&& 31)) &&& (Int32.ofInt 1) = Int32.ofInt 1
  · rw [if_neg (fun z => z h)]
    have := (bit_1 _ _).mp h
    rw [hB] at this
    rw [this]
    exact ⟨fun z => absurd z (by decide), fun z => by cases z⟩
  · rw [if_pos h]
    refine ⟨fun _ => ?_, fun _ => rfl⟩
    cases hx : sp_bit (dG C q) (nI p) with
    | false => rfl
    | true => exact absurd ((bit_1 _ _).mpr (hB.trans hx)) h
/-- those of k .. k + m - 1 for which c is so, into a -/
def fo (c : Nat → Bool) : Nat → Nat → Int32 → Int32
  | 0, _, a => a
  | m + 1, k, a => fo c m (k + 1) (if c k = true then a ||| ((Int32.ofInt 1) <<< ((nI k) &&& 31)) else a)
theorem fo_b {c : Nat → Bool} : ∀ (m k : Nat) (a : Int32), k + m ≤ 6 → bN a < 2 ^ k → bN (fo c m k a) < 2 ^ (k + m) ∧ ∀ p, p < 6 → sp_bit (fo c m k a) (nI p) = (sp_bit a (nI p) || (decide (k ≤ p ∧ p < k + m) && c p)) := by
  intro m
  induction m with
  | zero =>
    intro k a hk ha
    refine ⟨ha, fun p hp => ?_⟩
    rw [decide_eq_false (by omega), Bool.false_and, Bool.or_false]
    rfl
  | succ m ih =>
    intro k a hk ha
    have h2 : 2 ^ k ≤ 2 ^ (k + 1) := Nat.pow_le_pow_right (show 2 > 0 by decide) (by omega)
    rw [fo, show k + (m + 1) = k + 1 + m by omega]
    cases hc : c k with
    | true =>
      rw [if_pos rfl]
      obtain ⟨i1, i2⟩ := ih (k + 1) (a ||| ((Int32.ofInt 1) <<< ((nI k) &&& 31))) (by omega) (by
        rw [bN_or, bN_1s (by omega)]
        exact Nat.or_lt_two_pow (Nat.lt_of_lt_of_le ha h2) (Nat.pow_lt_pow_right (by decide) (by omega)))
      refine ⟨i1, fun p hp => ?_⟩
      rw [i2 p hp, bit_or (by omega) (by omega)]
      by_cases ek : p = k
      · rw [ek, hc, decide_eq_true rfl, decide_eq_true (show k ≤ k ∧ k < k + 1 + m by omega)]
        simp only [Bool.or_true, Bool.true_or, Bool.and_true]
      · rw [decide_eq_false (fun w => ek w.symm), Bool.or_false, show decide (k + 1 ≤ p ∧ p < k + 1 + m) = decide (k ≤ p ∧ p < k + 1 + m) from decide_eq_decide.mpr (by omega)]
    | false =>
      rw [if_neg (by decide)]
      obtain ⟨i1, i2⟩ := ih (k + 1) a (by omega) (Nat.lt_of_lt_of_le ha h2)
      refine ⟨i1, fun p hp => ?_⟩
      rw [i2 p hp]
      by_cases ek : p = k
      · rw [ek, hc, Bool.and_false, Bool.and_false]
      · rw [show decide (k + 1 ≤ p ∧ p < k + 1 + m) = decide (k ≤ p ∧ p < k + 1 + m) from decide_eq_decide.mpr (by omega)]
theorem fo_0 {c : Nat → Bool} {P : Nat} (h6 : P ≤ 6) : bN (fo c P 0 (Int32.ofInt 0)) < 2 ^ P ∧ ∀ p, p < P → sp_bit (fo c P 0 (Int32.ofInt 0)) (nI p) = c p := by
  obtain ⟨i1, i2⟩ := fo_b (c := c) P 0 (Int32.ofInt 0) (by omega) (by decide)
  rw [Nat.zero_add] at i1
  refine ⟨i1, fun p hp => ?_⟩
  have key : ∀ e, e < 6 → sp_bit (Int32.ofInt 0) (nI e) = false := by decide +kernel
  rw [i2 p (by omega), key p (by omega), Bool.false_or, decide_eq_true (by omega), Bool.true_and]
/-- who is to come, as the reference gathers it -/
theorem inv_f {C : sp_C} {q : Nat} (h5 : dE C ≤ 5) (hq : q < dE C) : ∀ (m k : Nat) (a : Int32), d_228_4 C (nI q) m k a = fo (fun p => sp_bit (dG C q) (nI p)) m k a := by
  intro m
  induction m with
  | zero => exact fun _ _ => rfl
  | succ m ih =>
    intro k a
    rw [d_228_4, fo]
    by_cases e : d_229 C k (nI q) = 0
    · rw [if_pos e, or0]
      have e2 : sp_bit (dG C q) (nI k) = false := (d_229_b h5 hq).mp e
      rw [e2, if_neg (by decide)]
      exact ih _ _
    · rw [if_neg e]
      have e2 : sp_bit (dG C q) (nI k) = true := by
        cases hx : sp_bit (dG C q) (nI k) with
        | true => rfl
        | false => exact absurd ((d_229_b h5 hq).mpr hx) e
      rw [e2, if_pos rfl]
      exact ih _ _
theorem inv_e {C : sp_C} {q : Nat} (hc : cI C) (hq : q < dE C) : d_228 C (nI q) = dG C q := by
  have h6 := hc.1.1
  have h5 := hc.1.2
  obtain ⟨i1, i2⟩ := fo_0 (c := fun p => sp_bit (dG C q) (nI p)) h6
  refine b6_eq h6 (x := d_228 C (nI q)) ?_ (hc.2.2.1 q hq).2.2 (fun p hp => ?_)
  · unfold d_228
    rw [inv_f h5 hq]
    exact i1
  · unfold d_228
    rw [inv_f h5 hq]
    exact i2 p hp
/-- the next day of both is one -/
theorem nx_e {C : sp_C} {D : Nat} {s : dS} (hc : cI C) (hs : sI C D s) (hD : D ≤ 4100) : d_233 C C s = d_118 C s ∧ d_233_s C C s = d_118_s C s := by
  have w := day_e (V := C) hc hs hD (fun _ _ => rfl) (d_224_01 C (s.1 + Int32.ofInt 1))
  unfold d_233 d_233_s d_118 d_118_s
  rw [d_68_e]
  exact w
theorem nx_s {C : sp_C} {D : Nat} {s : dS} (hc : cI C) (hs : sI C D s) : sI C (D + 1) (d_118_s C s) := sI_day hc hs
end
section
/-! DAYS AHEAD: THE QUERIES -/
variable {h : am_H} {Q : am_Q} {C : sp_C} {x y z w : Int32} {e l p q : Nat} {s u : dS}
theorem v_60l {l : Nat} (h1 : 1 ≤ l) (h2 : l ≤ 60) : d_60 (nI l) (Int32.ofInt 1) ((Int8.ofInt 60).toInt32) = Int32.ofInt 1 := by
  rw [show (Int8.ofInt 60).toInt32 = nI 60 by decide]
  exact v_60 (lo := 1) (hi := 60) h1 h2 (by decide)
theorem c_60l (x : Int32) : d_60 x (Int32.ofInt 1) ((Int8.ofInt 60).toInt32) = Int32.ofInt 0 ∨ ∃ l, 1 ≤ l ∧ l ≤ 60 ∧ x = nI l := by
  rw [show (Int8.ofInt 60).toInt32 = nI 60 by decide]
  exact c_60 (lo := 1) (hi := 60) (by decide) (by decide) x
theorem sv2_121 : am_r121.all (fun q => sv2_ok q.2) = true := by decide +kernel
theorem sv2_249 : am_r249.all (fun q => sv2_ok q.2) = true := by decide +kernel
def d_121_23 (C : sp_C) (e : Nat) : Nat → Nat → dS → Int32
  | 0, _, _ => Int32.ofInt (-1)
  | m + 1, k, s => (if (d_65 (d_118 C s) (nI e)) = 0 then (d_121_23 C e m (k + 1) (d_118_s C s)) else nI k)
theorem d_121_23_A6 (he : e < dE C) : ∀ (m k : Nat) (s : dS) (h : am_H), k + m = 60 + 1 → (ex_P h) → (cI C) → (c_v 6 C h) → (c_d 6 C h) → (h.2.2.1 0 3 = some 6) → (sC 36 u h) → (sC 41 s h) → (∀ g, Q (some (.int (d_121_23 C e m k s))) g) → pz_S 3 (some .int) am_r121 8 Q 23 [(0, .ref 0), (1, .int (nI e)), (2, .int (nI k))] [] h := by
  intro m
  induction m with
  | zero =>
    intro k s h hk hP hI hT hD hR hN hS hQ
    have h6 := hT.1.2.1
    have h5 := hT.2.1.2.1
    refine am_goX 3 (show (((Int8.ofInt 60).toInt32) < (nI k) → pz_S 3 (some .int) am_r121 8 Q 48 [(0, .ref 0), (1, .int (nI e)), (2, .int (nI k))] [] h) ∧ (¬ (((Int8.ofInt 60).toInt32) < (nI k)) → pz_S 3 (some .int) am_r121 8 Q 29 [(0, .ref 0), (1, .int (nI e)), (2, .int (nI k))] [] h) from ⟨fun _ => ?_, fun hz => absurd (show nI 60 < nI k from nI_lt (by omega) (by omega)) hz⟩)
    exact am_goX 2 (show (∃ ty, (some .int) = some ty ∧ narrow ty (.int (Int32.ofInt (-1))) = .int (Int32.ofInt (-1))) ∧ h.2.2.2.2 = 175 ∧ _ from ⟨⟨.int, rfl, rfl⟩, ex_175 hP, hQ _⟩)
  | succ m ih =>
    intro k s h hk hP hI hT hD hR hN hS hQ
    have h6 := hT.1.2.1
    have h5 := hT.2.1.2.1
    refine am_goX 3 (show (((Int8.ofInt 60).toInt32) < (nI k) → pz_S 3 (some .int) am_r121 8 Q 48 [(0, .ref 0), (1, .int (nI e)), (2, .int (nI k))] [] h) ∧ (¬ (((Int8.ofInt 60).toInt32) < (nI k)) → pz_S 3 (some .int) am_r121 8 Q 29 [(0, .ref 0), (1, .int (nI e)), (2, .int (nI k))] [] h) from ⟨fun hz => absurd hz (show ¬ (nI 60 < nI k) by rw [nI_ltI (by omega) (by omega)]; omega), fun _ => ?_⟩)
    refine am_goX 2 (show am_rc h 0 10 ∧ 0 ≤ 8 ∧ h.2.2.2.2 + am_al 118 ≤ 175 ∧ am_call am_cod 8 118 [.ref 0] h (fun vv h' => pz_S 3 (some .int) am_r121 8 Q 33 [(0, .ref 0), (1, .int (nI e)), (2, .int (nI k))] (vv.toList ++ []) h') from ⟨Or.inl ⟨by decide, ex_0 hP⟩, by decide, ex_lim hP rfl, am_call.up (d_118_A6 hP hI hT hD hR hN hS (fun h11 f12 f13 f14 f15 f16 f17 f18 => ?_)) (by decide)⟩)
    refine am_goX 2 (show 0 ≤ 8 ∧ h11.2.2.2.2 + am_al 65 ≤ 175 ∧ am_call am_cod 8 65 [.int (d_118 C s), .int (nI e)] h11 (fun vv h' => pz_S 3 (some .int) am_r121 8 Q 37 [(0, .ref 0), (1, .int (nI e)), (2, .int (nI k))] (vv.toList ++ []) h') from ⟨by decide, ex_lim f12 rfl, am_call.up (d_65_w f12 ?_) (by decide)⟩)
    refine am_goX 1 (show ((d_65 (d_118 C s) (nI e)) = 0 → pz_S 3 (some .int) am_r121 8 Q 42 [(0, .ref 0), (1, .int (nI e)), (2, .int (nI k))] [] h11) ∧ (¬ ((d_65 (d_118 C s) (nI e)) = 0) → pz_S 3 (some .int) am_r121 8 Q 40 [(0, .ref 0), (1, .int (nI e)), (2, .int (nI k))] [] h11) from ⟨fun c19 => ?_, fun c19 => ?_⟩)
    · refine am_goX 2 (show 2 < 3 ∧ pz_S 3 (some .int) am_r121 8 Q 23 [(2, .int ((nI k) + (Int32.ofInt 1))), (0, .ref 0), (1, .int (nI e))] [] h11 from ⟨by decide, ?_⟩)
      rw [show (nI k) + (Int32.ofInt 1) = nI (k + 1) from (dn_a rfl rfl)]
      exact sv_S2 sv2_121 (by intro q hq; simp only [List.mem_cons, List.not_mem_nil, or_false] at hq; rcases hq with rfl | rfl | rfl <;> rfl) (ih (k + 1) (d_118_s C s) _ (by omega) f12 f13 f14 f15 f16 f17 f18 (fun g => dn_q (if_pos c19) (hQ g)))
    · exact am_goX 2 (show (∃ ty, (some .int) = some ty ∧ narrow ty (.int (nI k)) = .int (nI k)) ∧ h11.2.2.2.2 = 175 ∧ _ from ⟨⟨.int, rfl, rfl⟩, ex_175 f12, dn_q (if_neg c19) (hQ _)⟩)
def d_121 (C : sp_C) (u : dS) (e : Nat) : Int32 := d_121_23 C e 60 1 u
theorem d_121_A6 (hP : ex_P h) (hI : cI C) (hT : c_v 6 C h) (hD : c_d 6 C h) (hR : h.2.2.1 0 3 = some 6) (hN : sC 36 u h) (hS : sC 41 s h) (he : e < dE C) (hQ : ∀ g, Q (some (.int (d_121 C u e))) g) : am_call am_cod 9 121 [.ref 0, .int (nI e)] h Q := by
  have h6 := hT.1.2.1
  have h5 := hT.2.1.2.1
  refine pz_call (n := 121) (nL := 3) (rt := (some .int)) (rows := am_r121) (d := 8) (by decide +kernel) (by decide +kernel) rfl (by funext pc; rfl) (ex_175 hP) (by exact Nat.le_of_ble_eq_true rfl) ?_
  refine am_goX 3 (show am_rc h 0 10 ∧ 0 ≤ 8 ∧ h.2.2.2.2 + am_al 93 ≤ 175 ∧ am_call am_cod 8 93 [.ref 0, .int (nI e)] h (fun vv h' => pz_S 3 (some .int) am_r121 8 Q 5 [(0, .ref 0), (1, .int (nI e))] (vv.toList ++ []) h') from ⟨Or.inl ⟨by decide, ex_0 hP⟩, by decide, ex_lim hP rfl, am_call.up (d_93_t6 hP hT hR ?_) (by decide)⟩)
  rw [show d_93 C (nI e) = Int32.ofInt 1 from (v_93 he h5)]
  refine am_goX 1 (show (¬ (Int32.ofInt 1) = 0 → pz_S 3 (some .int) am_r121 8 Q 10 [(0, .ref 0), (1, .int (nI e))] [] h) ∧ (¬ ¬ (Int32.ofInt 1) = 0 → pz_S 3 (some .int) am_r121 8 Q 8 [(0, .ref 0), (1, .int (nI e))] [] h) from ⟨fun _ => ?_, fun hz => absurd (by decide) hz⟩)
  refine am_goX 2 (show am_sh h 0 = some (10, 0) ∧ pz_S 3 (some .int) am_r121 8 Q 14 [(0, .ref 0), (1, .int (nI e))] [am_rf (h.2.2.1 0 8)] h from ⟨ex_0 hP, ?_⟩)
  rw [show am_rf (h.2.2.1 0 8) = .ref 41 from congrArg am_rf (ex_r0_8 hP)]
  refine am_goX 2 (show am_sh h 0 = some (10, 0) ∧ pz_S 3 (some .int) am_r121 8 Q 18 [(0, .ref 0), (1, .int (nI e))] [am_rf (h.2.2.1 0 7), .ref 41] h from ⟨ex_0 hP, ?_⟩)
  rw [show am_rf (h.2.2.1 0 7) = .ref 36 from congrArg am_rf (ex_r0_7 hP)]
  refine am_goX 1 (show am_rc h 41 6 ∧ 0 ≤ 8 ∧ h.2.2.2.2 + am_al 99 ≤ 175 ∧ am_call am_cod 8 99 [.ref 41, .ref 36] h (fun vv h' => pz_S 3 (some .int) am_r121 8 Q 21 [(0, .ref 0), (1, .int (nI e))] (vv.toList ++ []) h') from ⟨Or.inl ⟨by decide, ex_41 hP⟩, by decide, ex_lim hP rfl, am_call.up (q_99 stO_41 stO_36 (by decide) hP (fun h1 f2 f3 f4 f5 => ?_)) (by decide)⟩)
  have f6 : sC 41 u h1 := sC_cp f5 hN
  have f7 : c_v 6 C h1 := c_v_fr (fun a k u1 u2 => f4 a k (by omega)) hT
  have f8 : c_d 6 C h1 := c_d_fr (fun k => f4 _ k (by omega)) hD
  have f9 : h1.2.2.1 0 3 = some 6 := (congrArg (fun q => q.2.1 0 3) f3).trans hR
  have f10 : sC 36 u h1 := sC_fr (fun a k u1 u2 => f4 a k (by omega)) hN
  refine am_goX 2 (show 2 < 3 ∧ pz_S 3 (some .int) am_r121 8 Q 23 [(2, .int (Int32.ofInt 1)), (0, .ref 0), (1, .int (nI e))] [] h1 from ⟨by decide, ?_⟩)
  exact sv_S2 sv2_121 (by intro q hq; simp only [List.mem_cons, List.not_mem_nil, or_false] at hq; rcases hq with rfl | rfl | rfl <;> rfl) (d_121_23_A6 he 60 1 u _ (by omega) f2 hI f7 f8 f9 f10 f6 hQ)
def d_121x  : Int32 := Int32.ofInt (-1)
theorem d_121_xA6 (hP : ex_P h) (hI : cI C) (hT : c_v 6 C h) (hD : c_d 6 C h) (hR : h.2.2.1 0 3 = some 6) (hN : sC 36 u h) (hS : sC 41 s h) (ey : d_93 C y = Int32.ofInt 0) (hQ : ∀ g, Q (some (.int d_121x)) g) : am_call am_cod 9 121 [.ref 0, .int y] h Q := by
  have h6 := hT.1.2.1
  have h5 := hT.2.1.2.1
  refine pz_call (n := 121) (nL := 3) (rt := (some .int)) (rows := am_r121) (d := 8) (by decide +kernel) (by decide +kernel) rfl (by funext pc; rfl) (ex_175 hP) (by exact Nat.le_of_ble_eq_true rfl) ?_
  refine am_goX 3 (show am_rc h 0 10 ∧ 0 ≤ 8 ∧ h.2.2.2.2 + am_al 93 ≤ 175 ∧ am_call am_cod 8 93 [.ref 0, .int y] h (fun vv h' => pz_S 3 (some .int) am_r121 8 Q 5 [(0, .ref 0), (1, .int y)] (vv.toList ++ []) h') from ⟨Or.inl ⟨by decide, ex_0 hP⟩, by decide, ex_lim hP rfl, am_call.up (d_93_t6 hP hT hR ?_) (by decide)⟩)
  rw [show d_93 C y = Int32.ofInt 0 from ey]
  refine am_goX 1 (show (¬ (Int32.ofInt 0) = 0 → pz_S 3 (some .int) am_r121 8 Q 10 [(0, .ref 0), (1, .int y)] [] h) ∧ (¬ ¬ (Int32.ofInt 0) = 0 → pz_S 3 (some .int) am_r121 8 Q 8 [(0, .ref 0), (1, .int y)] [] h) from ⟨fun hz => absurd hz (by decide), fun _ => ?_⟩)
  exact am_goX 2 (show (∃ ty, (some .int) = some ty ∧ narrow ty (.int (Int32.ofInt (-1))) = .int (Int32.ofInt (-1))) ∧ h.2.2.2.2 = 175 ∧ _ from ⟨⟨.int, rfl, rfl⟩, ex_175 hP, hQ _⟩)
theorem d_121_23_A17 (he : e < dE C) : ∀ (m k : Nat) (s : dS) (h : am_H), k + m = 60 + 1 → (ex_P h) → (cI C) → (c_v 17 C h) → (c_d 17 C h) → (h.2.2.1 0 3 = some 17) → (sC 36 u h) → (sC 41 s h) → (∀ g, Q (some (.int (d_121_23 C e m k s))) g) → pz_S 3 (some .int) am_r121 8 Q 23 [(0, .ref 0), (1, .int (nI e)), (2, .int (nI k))] [] h := by
  intro m
  induction m with
  | zero =>
    intro k s h hk hP hI hT hD hR hN hS hQ
    have h6 := hT.1.2.1
    have h5 := hT.2.1.2.1
    refine am_goX 3 (show (((Int8.ofInt 60).toInt32) < (nI k) → pz_S 3 (some .int) am_r121 8 Q 48 [(0, .ref 0), (1, .int (nI e)), (2, .int (nI k))] [] h) ∧ (¬ (((Int8.ofInt 60).toInt32) < (nI k)) → pz_S 3 (some .int) am_r121 8 Q 29 [(0, .ref 0), (1, .int (nI e)), (2, .int (nI k))] [] h) from ⟨fun _ => ?_, fun hz => absurd (show nI 60 < nI k from nI_lt (by omega) (by omega)) hz⟩)
    exact am_goX 2 (show (∃ ty, (some .int) = some ty ∧ narrow ty (.int (Int32.ofInt (-1))) = .int (Int32.ofInt (-1))) ∧ h.2.2.2.2 = 175 ∧ _ from ⟨⟨.int, rfl, rfl⟩, ex_175 hP, hQ _⟩)
  | succ m ih =>
    intro k s h hk hP hI hT hD hR hN hS hQ
    have h6 := hT.1.2.1
    have h5 := hT.2.1.2.1
    refine am_goX 3 (show (((Int8.ofInt 60).toInt32) < (nI k) → pz_S 3 (some .int) am_r121 8 Q 48 [(0, .ref 0), (1, .int (nI e)), (2, .int (nI k))] [] h) ∧ (¬ (((Int8.ofInt 60).toInt32) < (nI k)) → pz_S 3 (some .int) am_r121 8 Q 29 [(0, .ref 0), (1, .int (nI e)), (2, .int (nI k))] [] h) from ⟨fun hz => absurd hz (show ¬ (nI 60 < nI k) by rw [nI_ltI (by omega) (by omega)]; omega), fun _ => ?_⟩)
    refine am_goX 2 (show am_rc h 0 10 ∧ 0 ≤ 8 ∧ h.2.2.2.2 + am_al 118 ≤ 175 ∧ am_call am_cod 8 118 [.ref 0] h (fun vv h' => pz_S 3 (some .int) am_r121 8 Q 33 [(0, .ref 0), (1, .int (nI e)), (2, .int (nI k))] (vv.toList ++ []) h') from ⟨Or.inl ⟨by decide, ex_0 hP⟩, by decide, ex_lim hP rfl, am_call.up (d_118_A17 hP hI hT hD hR hN hS (fun h30 f31 f32 f33 f34 f35 f36 f37 => ?_)) (by decide)⟩)
    refine am_goX 2 (show 0 ≤ 8 ∧ h30.2.2.2.2 + am_al 65 ≤ 175 ∧ am_call am_cod 8 65 [.int (d_118 C s), .int (nI e)] h30 (fun vv h' => pz_S 3 (some .int) am_r121 8 Q 37 [(0, .ref 0), (1, .int (nI e)), (2, .int (nI k))] (vv.toList ++ []) h') from ⟨by decide, ex_lim f31 rfl, am_call.up (d_65_w f31 ?_) (by decide)⟩)
    refine am_goX 1 (show ((d_65 (d_118 C s) (nI e)) = 0 → pz_S 3 (some .int) am_r121 8 Q 42 [(0, .ref 0), (1, .int (nI e)), (2, .int (nI k))] [] h30) ∧ (¬ ((d_65 (d_118 C s) (nI e)) = 0) → pz_S 3 (some .int) am_r121 8 Q 40 [(0, .ref 0), (1, .int (nI e)), (2, .int (nI k))] [] h30) from ⟨fun c38 => ?_, fun c38 => ?_⟩)
    · refine am_goX 2 (show 2 < 3 ∧ pz_S 3 (some .int) am_r121 8 Q 23 [(2, .int ((nI k) + (Int32.ofInt 1))), (0, .ref 0), (1, .int (nI e))] [] h30 from ⟨by decide, ?_⟩)
      rw [show (nI k) + (Int32.ofInt 1) = nI (k + 1) from (dn_a rfl rfl)]
      exact sv_S2 sv2_121 (by intro q hq; simp only [List.mem_cons, List.not_mem_nil, or_false] at hq; rcases hq with rfl | rfl | rfl <;> rfl) (ih (k + 1) (d_118_s C s) _ (by omega) f31 f32 f33 f34 f35 f36 f37 (fun g => dn_q (if_pos c38) (hQ g)))
    · exact am_goX 2 (show (∃ ty, (some .int) = some ty ∧ narrow ty (.int (nI k)) = .int (nI k)) ∧ h30.2.2.2.2 = 175 ∧ _ from ⟨⟨.int, rfl, rfl⟩, ex_175 f31, dn_q (if_neg c38) (hQ _)⟩)
theorem d_121_A17 (hP : ex_P h) (hI : cI C) (hT : c_v 17 C h) (hD : c_d 17 C h) (hR : h.2.2.1 0 3 = some 17) (hN : sC 36 u h) (hS : sC 41 s h) (he : e < dE C) (hQ : ∀ g, Q (some (.int (d_121 C u e))) g) : am_call am_cod 9 121 [.ref 0, .int (nI e)] h Q := by
  have h6 := hT.1.2.1
  have h5 := hT.2.1.2.1
  refine pz_call (n := 121) (nL := 3) (rt := (some .int)) (rows := am_r121) (d := 8) (by decide +kernel) (by decide +kernel) rfl (by funext pc; rfl) (ex_175 hP) (by exact Nat.le_of_ble_eq_true rfl) ?_
  refine am_goX 3 (show am_rc h 0 10 ∧ 0 ≤ 8 ∧ h.2.2.2.2 + am_al 93 ≤ 175 ∧ am_call am_cod 8 93 [.ref 0, .int (nI e)] h (fun vv h' => pz_S 3 (some .int) am_r121 8 Q 5 [(0, .ref 0), (1, .int (nI e))] (vv.toList ++ []) h') from ⟨Or.inl ⟨by decide, ex_0 hP⟩, by decide, ex_lim hP rfl, am_call.up (d_93_t17 hP hT hR ?_) (by decide)⟩)
  rw [show d_93 C (nI e) = Int32.ofInt 1 from (v_93 he h5)]
  refine am_goX 1 (show (¬ (Int32.ofInt 1) = 0 → pz_S 3 (some .int) am_r121 8 Q 10 [(0, .ref 0), (1, .int (nI e))] [] h) ∧ (¬ ¬ (Int32.ofInt 1) = 0 → pz_S 3 (some .int) am_r121 8 Q 8 [(0, .ref 0), (1, .int (nI e))] [] h) from ⟨fun _ => ?_, fun hz => absurd (by decide) hz⟩)
  refine am_goX 2 (show am_sh h 0 = some (10, 0) ∧ pz_S 3 (some .int) am_r121 8 Q 14 [(0, .ref 0), (1, .int (nI e))] [am_rf (h.2.2.1 0 8)] h from ⟨ex_0 hP, ?_⟩)
  rw [show am_rf (h.2.2.1 0 8) = .ref 41 from congrArg am_rf (ex_r0_8 hP)]
  refine am_goX 2 (show am_sh h 0 = some (10, 0) ∧ pz_S 3 (some .int) am_r121 8 Q 18 [(0, .ref 0), (1, .int (nI e))] [am_rf (h.2.2.1 0 7), .ref 41] h from ⟨ex_0 hP, ?_⟩)
  rw [show am_rf (h.2.2.1 0 7) = .ref 36 from congrArg am_rf (ex_r0_7 hP)]
  refine am_goX 1 (show am_rc h 41 6 ∧ 0 ≤ 8 ∧ h.2.2.2.2 + am_al 99 ≤ 175 ∧ am_call am_cod 8 99 [.ref 41, .ref 36] h (fun vv h' => pz_S 3 (some .int) am_r121 8 Q 21 [(0, .ref 0), (1, .int (nI e))] (vv.toList ++ []) h') from ⟨Or.inl ⟨by decide, ex_41 hP⟩, by decide, ex_lim hP rfl, am_call.up (q_99 stO_41 stO_36 (by decide) hP (fun h20 f21 f22 f23 f24 => ?_)) (by decide)⟩)
  have f25 : sC 41 u h20 := sC_cp f24 hN
  have f26 : c_v 17 C h20 := c_v_fr (fun a k u1 u2 => f23 a k (by omega)) hT
  have f27 : c_d 17 C h20 := c_d_fr (fun k => f23 _ k (by omega)) hD
  have f28 : h20.2.2.1 0 3 = some 17 := (congrArg (fun q => q.2.1 0 3) f22).trans hR
  have f29 : sC 36 u h20 := sC_fr (fun a k u1 u2 => f23 a k (by omega)) hN
  refine am_goX 2 (show 2 < 3 ∧ pz_S 3 (some .int) am_r121 8 Q 23 [(2, .int (Int32.ofInt 1)), (0, .ref 0), (1, .int (nI e))] [] h20 from ⟨by decide, ?_⟩)
  exact sv_S2 sv2_121 (by intro q hq; simp only [List.mem_cons, List.not_mem_nil, or_false] at hq; rcases hq with rfl | rfl | rfl <;> rfl) (d_121_23_A17 he 60 1 u _ (by omega) f21 hI f26 f27 f28 f29 f25 hQ)
theorem d_121_xA17 (hP : ex_P h) (hI : cI C) (hT : c_v 17 C h) (hD : c_d 17 C h) (hR : h.2.2.1 0 3 = some 17) (hN : sC 36 u h) (hS : sC 41 s h) (ey : d_93 C y = Int32.ofInt 0) (hQ : ∀ g, Q (some (.int d_121x)) g) : am_call am_cod 9 121 [.ref 0, .int y] h Q := by
  have h6 := hT.1.2.1
  have h5 := hT.2.1.2.1
  refine pz_call (n := 121) (nL := 3) (rt := (some .int)) (rows := am_r121) (d := 8) (by decide +kernel) (by decide +kernel) rfl (by funext pc; rfl) (ex_175 hP) (by exact Nat.le_of_ble_eq_true rfl) ?_
  refine am_goX 3 (show am_rc h 0 10 ∧ 0 ≤ 8 ∧ h.2.2.2.2 + am_al 93 ≤ 175 ∧ am_call am_cod 8 93 [.ref 0, .int y] h (fun vv h' => pz_S 3 (some .int) am_r121 8 Q 5 [(0, .ref 0), (1, .int y)] (vv.toList ++ []) h') from ⟨Or.inl ⟨by decide, ex_0 hP⟩, by decide, ex_lim hP rfl, am_call.up (d_93_t17 hP hT hR ?_) (by decide)⟩)
  rw [show d_93 C y = Int32.ofInt 0 from ey]
  refine am_goX 1 (show (¬ (Int32.ofInt 0) = 0 → pz_S 3 (some .int) am_r121 8 Q 10 [(0, .ref 0), (1, .int y)] [] h) ∧ (¬ ¬ (Int32.ofInt 0) = 0 → pz_S 3 (some .int) am_r121 8 Q 8 [(0, .ref 0), (1, .int y)] [] h) from ⟨fun hz => absurd hz (by decide), fun _ => ?_⟩)
  exact am_goX 2 (show (∃ ty, (some .int) = some ty ∧ narrow ty (.int (Int32.ofInt (-1))) = .int (Int32.ofInt (-1))) ∧ h.2.2.2.2 = 175 ∧ _ from ⟨⟨.int, rfl, rfl⟩, ex_175 hP, hQ _⟩)
def d_249_11 (C : sp_C) (e : Nat) : Nat → Nat → dS → Int32
  | 0, _, _ => Int32.ofInt (-1)
  | m + 1, k, s => (if ¬ (((d_233 C C s) >>> ((nI e) &&& 31)) &&& (Int32.ofInt 1)) = (Int32.ofInt 1) then (d_249_11 C e m (k + 1) (d_233_s C C s)) else nI k)
theorem d_249_11_r1029 (he : e < dE C) : ∀ (m k : Nat) (s : dS) (h : am_H), k + m = 60 + 1 → (ex_P h) → (cI C) → (tR C h) → (∀ e, e < dE C → h.1 172 e = dW C e) → (sR 0 (dP C) u h) → (sR 1029 (dP C) s h) → (∀ g, Q (some (.int (d_249_11 C e m k s))) g) → pz_S 3 (some .int) am_r249 6 Q 11 [(0, .ref 154), (1, .int (nI e)), (2, .int (nI k))] [] h := by
  intro m
  induction m with
  | zero =>
    intro k s h hk hP hI hT hO hN hS hQ
    have h6 := hT.1.2.1
    have h5 := hT.2.1.2.1
    refine am_goX 3 (show (((Int8.ofInt 60).toInt32) < (nI k) → pz_S 3 (some .int) am_r249 6 Q 48 [(0, .ref 154), (1, .int (nI e)), (2, .int (nI k))] [] h) ∧ (¬ (((Int8.ofInt 60).toInt32) < (nI k)) → pz_S 3 (some .int) am_r249 6 Q 17 [(0, .ref 154), (1, .int (nI e)), (2, .int (nI k))] [] h) from ⟨fun _ => ?_, fun hz => absurd (show nI 60 < nI k from nI_lt (by omega) (by omega)) hz⟩)
    exact am_goX 2 (show (∃ ty, (some .int) = some ty ∧ narrow ty (.int (Int32.ofInt (-1))) = .int (Int32.ofInt (-1))) ∧ h.2.2.2.2 = 175 ∧ _ from ⟨⟨.int, rfl, rfl⟩, ex_175 hP, hQ _⟩)
  | succ m ih =>
    intro k s h hk hP hI hT hO hN hS hQ
    have h6 := hT.1.2.1
    have h5 := hT.2.1.2.1
    refine am_goX 3 (show (((Int8.ofInt 60).toInt32) < (nI k) → pz_S 3 (some .int) am_r249 6 Q 48 [(0, .ref 154), (1, .int (nI e)), (2, .int (nI k))] [] h) ∧ (¬ (((Int8.ofInt 60).toInt32) < (nI k)) → pz_S 3 (some .int) am_r249 6 Q 17 [(0, .ref 154), (1, .int (nI e)), (2, .int (nI k))] [] h) from ⟨fun hz => absurd hz (show ¬ (nI 60 < nI k) by rw [nI_ltI (by omega) (by omega)]; omega), fun _ => ?_⟩)
    refine am_goX 3 (show am_rc h 154 11 ∧ 0 ≤ 8 ∧ h.2.2.2.2 + am_al 227 ≤ 175 ∧ am_call am_cod 6 227 [.ref 154, .int (nI e)] h (fun vv h' => pz_S 3 (some .int) am_r249 6 Q 22 [(0, .ref 154), (1, .int (nI e)), (2, .int (nI k))] (vv.toList ++ []) h') from ⟨Or.inl ⟨by decide, ex_154 hP⟩, by decide, ex_lim hP rfl, am_call.up (d_227_r hP hT ?_) (by decide)⟩)
    rw [show d_227 C (nI e) = Int32.ofInt 1 from ((d_227_e _).trans (v_93 he h5))]
    refine am_goX 1 (show ((Int32.ofInt 1) = 0 → pz_S 3 (some .int) am_r249 6 Q 48 [(0, .ref 154), (1, .int (nI e)), (2, .int (nI k))] [] h) ∧ (¬ ((Int32.ofInt 1) = 0) → pz_S 3 (some .int) am_r249 6 Q 25 [(0, .ref 154), (1, .int (nI e)), (2, .int (nI k))] [] h) from ⟨fun hz => absurd hz (by decide), fun _ => ?_⟩)
    refine am_goX 3 (show am_rc h 154 11 ∧ 0 ≤ 8 ∧ h.2.2.2.2 + am_al 233 ≤ 175 ∧ am_call am_cod 6 233 [.ref 154, .int ((Int16.ofInt 1029).toInt32)] h (fun vv h' => pz_S 3 (some .int) am_r249 6 Q 32 [(0, .ref 154), (1, .int (nI e)), (2, .int (nI k))] (vv.toList ++ []) h') from ⟨Or.inl ⟨by decide, ex_154 hP⟩, by decide, ex_lim hP rfl, am_call.up (d_233_r1029 hP hI hT hO hN hS (fun h53 f54 f55 f56 f57 f58 f59 => ?_)) (by decide)⟩)
    refine am_goX 6 (show (¬ (((d_233 C C s) >>> ((nI e) &&& 31)) &&& (Int32.ofInt 1)) = (Int32.ofInt 1) → pz_S 3 (some .int) am_r249 6 Q 42 [(0, .ref 154), (1, .int (nI e)), (2, .int (nI k))] [] h53) ∧ (¬ ¬ (((d_233 C C s) >>> ((nI e) &&& 31)) &&& (Int32.ofInt 1)) = (Int32.ofInt 1) → pz_S 3 (some .int) am_r249 6 Q 40 [(0, .ref 154), (1, .int (nI e)), (2, .int (nI k))] [] h53) from ⟨fun c60 => ?_, fun c60 => ?_⟩)
    · refine am_goX 2 (show 2 < 3 ∧ pz_S 3 (some .int) am_r249 6 Q 11 [(2, .int ((nI k) + (Int32.ofInt 1))), (0, .ref 154), (1, .int (nI e))] [] h53 from ⟨by decide, ?_⟩)
      rw [show (nI k) + (Int32.ofInt 1) = nI (k + 1) from (dn_a rfl rfl)]
      exact sv_S2 sv2_249 (by intro q hq; simp only [List.mem_cons, List.not_mem_nil, or_false] at hq; rcases hq with rfl | rfl | rfl <;> rfl) (ih (k + 1) (d_233_s C C s) _ (by omega) f54 f55 f56 f57 f58 f59 (fun g => dn_q (if_pos c60) (hQ g)))
    · exact am_goX 2 (show (∃ ty, (some .int) = some ty ∧ narrow ty (.int (nI k)) = .int (nI k)) ∧ h53.2.2.2.2 = 175 ∧ _ from ⟨⟨.int, rfl, rfl⟩, ex_175 f54, dn_q (if_neg c60) (hQ _)⟩)
def d_249 (C : sp_C) (u : dS) (e : Nat) : Int32 := d_249_11 C e 60 1 u
theorem d_249_r1029 (hP : ex_P h) (hI : cI C) (hT : tR C h) (hO : ∀ e, e < dE C → h.1 172 e = dW C e) (hN : sR 0 (dP C) u h) (hS : sR 1029 (dP C) s h) (he : e < dE C) (hQ : ∀ g, Q (some (.int (d_249 C u e))) g) : am_call am_cod 7 249 [.ref 154, .int (nI e)] h Q := by
  have h6 := hT.1.2.1
  have h5 := hT.2.1.2.1
  refine pz_call (n := 249) (nL := 3) (rt := (some .int)) (rows := am_r249) (d := 6) (by decide +kernel) (by decide +kernel) rfl (by funext pc; rfl) (ex_175 hP) (by exact Nat.le_of_ble_eq_true rfl) ?_
  refine am_goX 3 (show am_sh h 154 = some (11, 0) ∧ narrow (am_fty 11 0) (.int (Int32.ofInt 0)) = .int (Int32.ofInt 0) ∧ fits (am_fty 11 0) (.int (Int32.ofInt 0)) = true ∧ pz_S 3 (some .int) am_r249 6 Q 5 [(0, .ref 154), (1, .int (nI e))] [] (am_wI h 154 0 (Int32.ofInt 0)) from ⟨ex_154 hP, rfl, rfl, ?_⟩)
  have f40 : ex_P (am_wI h 154 0 (Int32.ofInt 0)) := hP
  have f41 : cI C := hI
  have f42 : tR C (am_wI h 154 0 (Int32.ofInt 0)) := tR_w (by omega) hT
  have f43 : ∀ e, e < dE C → (am_wI h 154 0 (Int32.ofInt 0)).1 172 e = dW C e := on_w (by omega) hO
  have f44 : sR 0 (dP C) u (am_wI h 154 0 (Int32.ofInt 0)) := sR_o (by omega) hN
  have f45 : sR 1029 (dP C) s (am_wI h 154 0 (Int32.ofInt 0)) := sR_o (by omega) hS
  generalize am_wI h 154 0 (Int32.ofInt 0) = h39 at f40 f41 f42 f43 f44 f45 ⊢
  refine am_goX 2 (show am_rc h39 154 11 ∧ 0 ≤ 8 ∧ h39.2.2.2.2 + am_al 247 ≤ 175 ∧ am_call am_cod 6 247 [.ref 154] h39 (fun vv h' => pz_S 3 (some .int) am_r249 6 Q 9 [(0, .ref 154), (1, .int (nI e))] (vv.toList ++ []) h') from ⟨Or.inl ⟨by decide, ex_154 f40⟩, by decide, ex_lim f40 rfl, am_call.up (d_247_r1029 f40 f41 f42 f43 f44 f45 (fun h46 f47 f48 f49 f50 f51 f52 => ?_)) (by decide)⟩)
  refine am_goX 2 (show 2 < 3 ∧ pz_S 3 (some .int) am_r249 6 Q 11 [(2, .int (Int32.ofInt 1)), (0, .ref 154), (1, .int (nI e))] [] h46 from ⟨by decide, ?_⟩)
  exact sv_S2 sv2_249 (by intro q hq; simp only [List.mem_cons, List.not_mem_nil, or_false] at hq; rcases hq with rfl | rfl | rfl <;> rfl) (d_249_11_r1029 he 60 1 u _ (by omega) f47 f48 f49 f50 f51 f52 hQ)
def d_249x  : Int32 := Int32.ofInt (-1)
theorem d_249_xr (hP : ex_P h) (hI : cI C) (hT : tR C h) (hO : ∀ e, e < dE C → h.1 172 e = dW C e) (hN : sR 0 (dP C) u h) (hS : sR 1029 (dP C) s h) (ey : d_93 C y = Int32.ofInt 0) (hQ : ∀ g, Q (some (.int d_249x)) g) : am_call am_cod 7 249 [.ref 154, .int y] h Q := by
  have h6 := hT.1.2.1
  have h5 := hT.2.1.2.1
  refine pz_call (n := 249) (nL := 3) (rt := (some .int)) (rows := am_r249) (d := 6) (by decide +kernel) (by decide +kernel) rfl (by funext pc; rfl) (ex_175 hP) (by exact Nat.le_of_ble_eq_true rfl) ?_
  refine am_goX 3 (show am_sh h 154 = some (11, 0) ∧ narrow (am_fty 11 0) (.int (Int32.ofInt 0)) = .int (Int32.ofInt 0) ∧ fits (am_fty 11 0) (.int (Int32.ofInt 0)) = true ∧ pz_S 3 (some .int) am_r249 6 Q 5 [(0, .ref 154), (1, .int y)] [] (am_wI h 154 0 (Int32.ofInt 0)) from ⟨ex_154 hP, rfl, rfl, ?_⟩)
  have f62 : ex_P (am_wI h 154 0 (Int32.ofInt 0)) := hP
  have f63 : cI C := hI
  have f64 : tR C (am_wI h 154 0 (Int32.ofInt 0)) := tR_w (by omega) hT
  have f65 : ∀ e, e < dE C → (am_wI h 154 0 (Int32.ofInt 0)).1 172 e = dW C e := on_w (by omega) hO
  have f66 : sR 0 (dP C) u (am_wI h 154 0 (Int32.ofInt 0)) := sR_o (by omega) hN
  have f67 : sR 1029 (dP C) s (am_wI h 154 0 (Int32.ofInt 0)) := sR_o (by omega) hS
  generalize am_wI h 154 0 (Int32.ofInt 0) = h61 at f62 f63 f64 f65 f66 f67 ⊢
  refine am_goX 2 (show am_rc h61 154 11 ∧ 0 ≤ 8 ∧ h61.2.2.2.2 + am_al 247 ≤ 175 ∧ am_call am_cod 6 247 [.ref 154] h61 (fun vv h' => pz_S 3 (some .int) am_r249 6 Q 9 [(0, .ref 154), (1, .int y)] (vv.toList ++ []) h') from ⟨Or.inl ⟨by decide, ex_154 f62⟩, by decide, ex_lim f62 rfl, am_call.up (d_247_r1029 f62 f63 f64 f65 f66 f67 (fun h68 f69 f70 f71 f72 f73 f74 => ?_)) (by decide)⟩)
  refine am_goX 5 (show 2 < 3 ∧ (((Int8.ofInt 60).toInt32) < (Int32.ofInt 1) → pz_S 3 (some .int) am_r249 6 Q 48 [(2, .int (Int32.ofInt 1)), (0, .ref 154), (1, .int y)] [] h68) ∧ (¬ (((Int8.ofInt 60).toInt32) < (Int32.ofInt 1)) → pz_S 3 (some .int) am_r249 6 Q 17 [(2, .int (Int32.ofInt 1)), (0, .ref 154), (1, .int y)] [] h68) from ⟨by decide, fun hz => absurd hz (by decide), fun _ => ?_⟩)
  refine am_goX 3 (show am_rc h68 154 11 ∧ 0 ≤ 8 ∧ h68.2.2.2.2 + am_al 227 ≤ 175 ∧ am_call am_cod 6 227 [.ref 154, .int y] h68 (fun vv h' => pz_S 3 (some .int) am_r249 6 Q 22 [(2, .int (Int32.ofInt 1)), (0, .ref 154), (1, .int y)] (vv.toList ++ []) h') from ⟨Or.inl ⟨by decide, ex_154 f69⟩, by decide, ex_lim f69 rfl, am_call.up (d_227_r f69 f71 ?_) (by decide)⟩)
  rw [show d_227 C y = Int32.ofInt 0 from ((d_227_e _).trans ey)]
  refine am_goX 1 (show ((Int32.ofInt 0) = 0 → pz_S 3 (some .int) am_r249 6 Q 48 [(2, .int (Int32.ofInt 1)), (0, .ref 154), (1, .int y)] [] h68) ∧ (¬ ((Int32.ofInt 0) = 0) → pz_S 3 (some .int) am_r249 6 Q 25 [(2, .int (Int32.ofInt 1)), (0, .ref 154), (1, .int y)] [] h68) from ⟨fun _ => ?_, fun hz => absurd (by decide) hz⟩)
  exact am_goX 2 (show (∃ ty, (some .int) = some ty ∧ narrow ty (.int (Int32.ofInt (-1))) = .int (Int32.ofInt (-1))) ∧ h68.2.2.2.2 = 175 ∧ _ from ⟨⟨.int, rfl, rfl⟩, ex_175 f69, hQ _⟩)
theorem v_60m {l : Nat} (h1 : 1 ≤ l) (h2 : l ≤ 60) : ¬ d_60 (nI l) (Int32.ofInt 1) ((Int8.ofInt 60).toInt32) = Int32.ofInt 0 := by
  rw [v_60l h1 h2]
  decide
theorem qu_e {C : sp_C} {e : Nat} (hc : cI C) : ∀ (m k D : Nat) (s : dS), sI C D s → D + m ≤ 4100 → d_249_11 C e m k s = d_121_23 C e m k s := by
  intro m
  induction m with
  | zero => exact fun _ _ _ _ _ => rfl
  | succ m ih =>
    intro k D s hs hD
    rw [d_249_11, d_121_23, (nx_e hc hs (by omega)).2, (nx_e hc hs (by omega)).1]
    by_cases e0 : d_65 (d_118 C s) (nI e) = 0
    · rw [if_pos ((b65 _ _).mp e0), if_pos e0]
      exact ih _ (D + 1) _ (nx_s hc hs) (by omega)
    · rw [if_neg (fun z => e0 ((b65 _ _).mpr z)), if_neg e0]

def a_qu (C : sp_C) (s : dS) (x : Int32) : Int32 := if d_93 C x = Int32.ofInt 0 then Int32.ofInt (-1) else d_121 C s x.toInt.toNat
theorem q_121 {h : am_H} {C : sp_C} {D : Nat} {s : dS} {H : dH} {M : dMk} {n : Nat} (hI : iv_I h) (i : KI C D s H M n) (j : KC C s H M n h) (x : Int32) : am_call am_cod 60 121 [.ref 0, .int x] h (fun v _ => v = some (.int (a_qu C s x))) := by
  have hP := iv_P hI
  have hc := i.1
  have h6 := hc.1.1
  have h5 := hc.1.2
  have hs := i.2.1
  obtain ⟨c, c1, c2, c3, c4, c5, -⟩ := j
  rcases c_93 h5 x with e | ⟨p, hp, rfl⟩
  · rcases c1 with rfl | rfl
    · exact am_call.up (d_121_xA6 hP hc c3 c4 c2 c5 (sC_ex 41 h) e (fun g => (by unfold a_qu; rw [if_pos e]; rfl))) (by decide)
    · exact am_call.up (d_121_xA17 hP hc c3 c4 c2 c5 (sC_ex 41 h) e (fun g => (by unfold a_qu; rw [if_pos e]; rfl))) (by decide)
  · rcases c1 with rfl | rfl
    · exact am_call.up (d_121_A6 hP hc c3 c4 c2 c5 (sC_ex 41 h) hp (fun g => (by unfold a_qu; rw [if_neg (v_93b hp h5), nI_tnn (by omega)]))) (by decide)
    · exact am_call.up (d_121_A17 hP hc c3 c4 c2 c5 (sC_ex 41 h) hp (fun g => (by unfold a_qu; rw [if_neg (v_93b hp h5), nI_tnn (by omega)]))) (by decide)
theorem q_249 {h : am_H} {C : sp_C} {D : Nat} {s : dS} {H : dH} {M : dMk} {n : Nat} (hI : iv_I h) (i : KI C D s H M n) (hD : D ≤ 1000) (j : KR C s H M n h) (x : Int32) : am_call am_cod 60 249 [.ref 154, .int x] h (fun v _ => v = some (.int (a_qu C s x))) := by
  have hP := iv_P hI
  have hc := i.1
  have h6 := hc.1.1
  have h5 := hc.1.2
  have hs := i.2.1
  obtain ⟨r1, r2, r3, -⟩ := j
  rcases c_93 h5 x with e | ⟨p, hp, rfl⟩
  · exact am_call.up (d_249_xr hP hc r1 r2 r3 (sR_ex 1029 (dP C) h) e (fun g => (by unfold a_qu; rw [if_pos e]; rfl))) (by decide)
  · exact am_call.up (d_249_r1029 hP hc r1 r2 r3 (sR_ex 1029 (dP C) h) hp (fun g => (by unfold a_qu; rw [if_neg (v_93b hp h5), nI_tnn (by omega), show d_249 C s p = d_121 C s p from (qu_e hc 60 1 D s hs (by omega))]))) (by decide)
end
