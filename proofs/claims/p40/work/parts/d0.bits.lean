section
/-! BITS GATHERED PERSON BY PERSON -/
theorem b65 (x y : Int32) : (d_65 x y = 0) ↔ ¬ ((x >>> (y &&& 31)) &&& (Int32.ofInt 1)) = (Int32.ofInt 1) := by
  rw [d_65_b, bit_1]
  cases sp_bit x y <;> decide
theorem b6_eq {x y : Int32} {P : Nat} (h6 : P ≤ 6) (hx : bN x < 2 ^ P) (hy : bN y < 2 ^ P) (hb : ∀ e, e < P → sp_bit x (nI e) = sp_bit y (nI e)) : x = y := by
  refine bN_inj (Nat.eq_of_testBit_eq fun i => ?_)
  by_cases hi : i < P
  · rw [← sp_bit_tg (by omega), ← sp_bit_tg (by omega)]
    exact hb i hi
  · have h2 : 2 ^ P ≤ 2 ^ i := Nat.pow_le_pow_right (show 2 > 0 by decide) (by omega)
    rw [Nat.testBit_lt_two_pow (Nat.lt_of_lt_of_le hx h2), Nat.testBit_lt_two_pow (Nat.lt_of_lt_of_le hy h2)]
theorem d_229_b {C : sp_C} {p q : Nat} (h5 : dE C ≤ 5) (hq : q < dE C) : (d_229 C p (nI q) = 0) ↔ sp_bit (dG C q) (nI p) = false := by
  unfold d_229
  have hB := (dB_b (C := C) (p := p) h5).2 q (by omega)
  rw [decide_eq_true hq, Bool.true_and] at hB
  by_cases h : ((dB C p) >>> ((nI q) &&& 31)) &&& (Int32.ofInt 1) = Int32.ofInt 1
  · rw [if_neg (fun z => z h)]
    have := (bit_1 _ _).mp h
    rw [hB] at this
    rw [this]
    exact ⟨fun z => absurd z (by decide), fun z => by cases z⟩
  · rw [if_pos h]
    refine ⟨fun _ => ?_, fun _ => rfl⟩
    cases hx : sp_bit (dG C q) (nI p) with
    | false => rfl
    | true => exact absurd ((bit_1 _ _).mpr (hB.trans hx)) h
/-- those of k .. k + m - 1 for which c is so, into a -/
def fo (c : Nat → Bool) : Nat → Nat → Int32 → Int32
  | 0, _, a => a
  | m + 1, k, a => fo c m (k + 1) (if c k = true then a ||| ((Int32.ofInt 1) <<< ((nI k) &&& 31)) else a)
theorem fo_b {c : Nat → Bool} : ∀ (m k : Nat) (a : Int32), k + m ≤ 6 → bN a < 2 ^ k → bN (fo c m k a) < 2 ^ (k + m) ∧ ∀ p, p < 6 → sp_bit (fo c m k a) (nI p) = (sp_bit a (nI p) || (decide (k ≤ p ∧ p < k + m) && c p)) := by
  intro m
  induction m with
  | zero =>
    intro k a hk ha
    refine ⟨ha, fun p hp => ?_⟩
    rw [decide_eq_false (by omega), Bool.false_and, Bool.or_false]
    rfl
  | succ m ih =>
    intro k a hk ha
    have h2 : 2 ^ k ≤ 2 ^ (k + 1) := Nat.pow_le_pow_right (show 2 > 0 by decide) (by omega)
    rw [fo, show k + (m + 1) = k + 1 + m by omega]
    cases hc : c k with
    | true =>
      rw [if_pos rfl]
      obtain ⟨i1, i2⟩ := ih (k + 1) (a ||| ((Int32.ofInt 1) <<< ((nI k) &&& 31))) (by omega) (by
        rw [bN_or, bN_1s (by omega)]
        exact Nat.or_lt_two_pow (Nat.lt_of_lt_of_le ha h2) (Nat.pow_lt_pow_right (by decide) (by omega)))
      refine ⟨i1, fun p hp => ?_⟩
      rw [i2 p hp, bit_or (by omega) (by omega)]
      by_cases ek : p = k
      · rw [ek, hc, decide_eq_true rfl, decide_eq_true (show k ≤ k ∧ k < k + 1 + m by omega)]
        simp only [Bool.or_true, Bool.true_or, Bool.and_true]
      · rw [decide_eq_false (fun w => ek w.symm), Bool.or_false, show decide (k + 1 ≤ p ∧ p < k + 1 + m) = decide (k ≤ p ∧ p < k + 1 + m) from decide_eq_decide.mpr (by omega)]
    | false =>
      rw [if_neg (by decide)]
      obtain ⟨i1, i2⟩ := ih (k + 1) a (by omega) (Nat.lt_of_lt_of_le ha h2)
      refine ⟨i1, fun p hp => ?_⟩
      rw [i2 p hp]
      by_cases ek : p = k
      · rw [ek, hc, Bool.and_false, Bool.and_false]
      · rw [show decide (k + 1 ≤ p ∧ p < k + 1 + m) = decide (k ≤ p ∧ p < k + 1 + m) from decide_eq_decide.mpr (by omega)]
theorem fo_0 {c : Nat → Bool} {P : Nat} (h6 : P ≤ 6) : bN (fo c P 0 (Int32.ofInt 0)) < 2 ^ P ∧ ∀ p, p < P → sp_bit (fo c P 0 (Int32.ofInt 0)) (nI p) = c p := by
  obtain ⟨i1, i2⟩ := fo_b (c := c) P 0 (Int32.ofInt 0) (by omega) (by decide)
  rw [Nat.zero_add] at i1
  refine ⟨i1, fun p hp => ?_⟩
  have key : ∀ e, e < 6 → sp_bit (Int32.ofInt 0) (nI e) = false := by decide +kernel
  rw [i2 p (by omega), key p (by omega), Bool.false_or, decide_eq_true (by omega), Bool.true_and]
/-- who is to come, as the reference gathers it -/
theorem inv_f {C : sp_C} {q : Nat} (h5 : dE C ≤ 5) (hq : q < dE C) : ∀ (m k : Nat) (a : Int32), d_228_4 C (nI q) m k a = fo (fun p => sp_bit (dG C q) (nI p)) m k a := by
  intro m
  induction m with
  | zero => exact fun _ _ => rfl
  | succ m ih =>
    intro k a
    rw [d_228_4, fo]
    by_cases e : d_229 C k (nI q) = 0
    · rw [if_pos e, or0]
      have e2 : sp_bit (dG C q) (nI k) = false := (d_229_b h5 hq).mp e
      rw [e2, if_neg (by decide)]
      exact ih _ _
    · rw [if_neg e]
      have e2 : sp_bit (dG C q) (nI k) = true := by
        cases hx : sp_bit (dG C q) (nI k) with
        | true => rfl
        | false => exact absurd ((d_229_b h5 hq).mpr hx) e
      rw [e2, if_pos rfl]
      exact ih _ _
theorem inv_e {C : sp_C} {q : Nat} (hc : cI C) (hq : q < dE C) : d_228 C (nI q) = dG C q := by
  have h6 := hc.1.1
  have h5 := hc.1.2
  obtain ⟨i1, i2⟩ := fo_0 (c := fun p => sp_bit (dG C q) (nI p)) h6
  refine b6_eq h6 (x := d_228 C (nI q)) ?_ (hc.2.2.1 q hq).2.2 (fun p hp => ?_)
  · unfold d_228
    rw [inv_f h5 hq]
    exact i1
  · unfold d_228
    rw [inv_f h5 hq]
    exact i2 p hp
/-- the next day of both is one -/
theorem nx_e {C : sp_C} {D : Nat} {s : dS} (hc : cI C) (hs : sI C D s) (hD : D ≤ 4100) : d_233 C C s = d_118 C s ∧ d_233_s C C s = d_118_s C s := by
  have w := day_e (V := C) hc hs hD (fun _ _ => rfl) (d_224_01 C (s.1 + Int32.ofInt 1))
  unfold d_233 d_233_s d_118 d_118_s
  rw [d_68_e]
  exact w
theorem nx_s {C : sp_C} {D : Nat} {s : dS} (hc : cI C) (hs : sI C D s) : sI C (D + 1) (d_118_s C s) := sI_day hc hs
end
section
/-! STEADY -/
variable {h : am_H} {Q : am_Q} {C V : sp_C} {x y z w : Int32} {e l p q : Nat} {s : dS}
theorem sv2_158 : am_r158.all (fun q => sv2_ok q.2) = true := by decide +kernel
theorem sv2_159 : am_r159.all (fun q => sv2_ok q.2) = true := by decide +kernel
theorem sv2_260 : am_r260.all (fun q => sv2_ok q.2) = true := by decide +kernel
def d_159_4 (C : sp_C) (s : dS) (p : Nat) : Nat → Nat → Int32 → Int32
  | 0, _, a2 => a2
  | m + 1, k, a2 => d_159_4 C s p m (k + 1) (if ¬ (d_68 C (s.1 + (nI k))) = 0 then a2 + (Int32.ofInt 1) else (if ¬ (d_89 C s p) = 0 then a2 else a2 + (Int32.ofInt 1)))
theorem d_159_4_N6 (hP : ex_P h) (hI : cI C) (hT : c_v 6 C h) (hD : c_d 6 C h) (hR : h.2.2.1 0 3 = some 6) (hS : sC 36 s h) (hp : p < dP C) : ∀ (m k : Nat) (a2 : Int32), k + m = 28 + 1 → (pz_S 4 (some .int) am_r159 3 Q 53 [(2, .int (d_159_4 C s p m k a2))] [] h) → pz_S 4 (some .int) am_r159 3 Q 4 [(0, .ref 0), (1, .int (nI p)), (2, .int a2), (3, .int (nI k))] [] h := by
  intro m
  induction m with
  | zero =>
    intro k a2 hk hZ
    have h6 := hT.1.2.1
    have h5 := hT.2.1.2.1
    refine am_goX 3 (show (((Int8.ofInt 28).toInt32) < (nI k) → pz_S 4 (some .int) am_r159 3 Q 53 [(0, .ref 0), (1, .int (nI p)), (2, .int a2), (3, .int (nI k))] [] h) ∧ (¬ (((Int8.ofInt 28).toInt32) < (nI k)) → pz_S 4 (some .int) am_r159 3 Q 10 [(0, .ref 0), (1, .int (nI p)), (2, .int a2), (3, .int (nI k))] [] h) from ⟨fun _ => ?_, fun hz => absurd (show nI 28 < nI k from nI_lt (by omega) (by omega)) hz⟩)
    exact sv_S2 sv2_159 (by intro q hq; simp only [List.mem_cons, List.not_mem_nil, or_false] at hq; rcases hq with rfl <;> rfl) (hZ)
  | succ m ih =>
    intro k a2 hk hZ
    have h6 := hT.1.2.1
    have h5 := hT.2.1.2.1
    refine am_goX 3 (show (((Int8.ofInt 28).toInt32) < (nI k) → pz_S 4 (some .int) am_r159 3 Q 53 [(0, .ref 0), (1, .int (nI p)), (2, .int a2), (3, .int (nI k))] [] h) ∧ (¬ (((Int8.ofInt 28).toInt32) < (nI k)) → pz_S 4 (some .int) am_r159 3 Q 10 [(0, .ref 0), (1, .int (nI p)), (2, .int a2), (3, .int (nI k))] [] h) from ⟨fun hz => absurd hz (show ¬ (nI 28 < nI k) by rw [nI_ltI (by omega) (by omega)]; omega), fun _ => ?_⟩)
    refine am_goX 2 (show am_sh h 0 = some (10, 0) ∧ pz_S 4 (some .int) am_r159 3 Q 14 [(0, .ref 0), (1, .int (nI p)), (2, .int a2), (3, .int (nI k))] [am_rf (h.2.2.1 0 3)] h from ⟨ex_0 hP, ?_⟩)
    rw [show am_rf (h.2.2.1 0 3) = .ref 6 from congrArg am_rf (hR)]
    refine am_goX 2 (show am_sh h 0 = some (10, 0) ∧ pz_S 4 (some .int) am_r159 3 Q 18 [(0, .ref 0), (1, .int (nI p)), (2, .int a2), (3, .int (nI k))] [am_rf (h.2.2.1 0 7), .ref 6] h from ⟨ex_0 hP, ?_⟩)
    rw [show am_rf (h.2.2.1 0 7) = .ref 36 from congrArg am_rf (ex_r0_7 hP)]
    refine am_goX 1 (show am_sh h 36 = some (6, 0) ∧ pz_S 4 (some .int) am_r159 3 Q 21 [(0, .ref 0), (1, .int (nI p)), (2, .int a2), (3, .int (nI k))] [.int (h.1 36 0), .ref 6] h from ⟨ex_36 hP, ?_⟩)
    rw [show h.1 36 0 = s.1 from hS.1.1]
    refine am_goX 3 (show am_rc h 6 0 ∧ 0 ≤ 8 ∧ h.2.2.2.2 + am_al 68 ≤ 175 ∧ am_call am_cod 3 68 [.ref 6, .int (s.1 + (nI k))] h (fun vv h' => pz_S 4 (some .int) am_r159 3 Q 26 [(0, .ref 0), (1, .int (nI p)), (2, .int a2), (3, .int (nI k))] (vv.toList ++ []) h') from ⟨Or.inl ⟨by decide, ex_6 hP⟩, by decide, ex_lim hP rfl, am_call.up (d_68_t6 hP hT ?_) (by decide)⟩)
    suffices key : ∀ (v2 : Int32), v2 = (if ¬ (d_68 C (s.1 + (nI k))) = 0 then a2 + (Int32.ofInt 1) else (if ¬ (d_89 C s p) = 0 then a2 else a2 + (Int32.ofInt 1))) → pz_S 4 (some .int) am_r159 3 Q 47 [(0, .ref 0), (1, .int (nI p)), (2, .int v2), (3, .int (nI k))] [] h by
      refine am_goX 1 (show (¬ (d_68 C (s.1 + (nI k))) = 0 → pz_S 4 (some .int) am_r159 3 Q 44 [(0, .ref 0), (1, .int (nI p)), (2, .int a2), (3, .int (nI k))] [] h) ∧ (¬ ¬ (d_68 C (s.1 + (nI k))) = 0 → pz_S 4 (some .int) am_r159 3 Q 29 [(0, .ref 0), (1, .int (nI p)), (2, .int a2), (3, .int (nI k))] [] h) from ⟨fun c1 => ?_, fun c1 => ?_⟩)
      · refine am_goX 1 (show 2 < 4 ∧ pz_S 4 (some .int) am_r159 3 Q 47 [(2, .int (a2 + (Int32.ofInt 1))), (0, .ref 0), (1, .int (nI p)), (3, .int (nI k))] [] h from ⟨by decide, ?_⟩)
        exact sv_S2 sv2_159 (by intro q hq; simp only [List.mem_cons, List.not_mem_nil, or_false] at hq; rcases hq with rfl | rfl | rfl | rfl <;> rfl) (key _ (if_pos c1).symm)
      · refine am_goX 2 (show am_sh h 0 = some (10, 0) ∧ pz_S 4 (some .int) am_r159 3 Q 33 [(0, .ref 0), (1, .int (nI p)), (2, .int a2), (3, .int (nI k))] [am_rf (h.2.2.1 0 3)] h from ⟨ex_0 hP, ?_⟩)
        rw [show am_rf (h.2.2.1 0 3) = .ref 6 from congrArg am_rf (hR)]
        refine am_goX 3 (show am_sh h 0 = some (10, 0) ∧ pz_S 4 (some .int) am_r159 3 Q 38 [(0, .ref 0), (1, .int (nI p)), (2, .int a2), (3, .int (nI k))] [am_rf (h.2.2.1 0 7), .int (nI p), .ref 6] h from ⟨ex_0 hP, ?_⟩)
        rw [show am_rf (h.2.2.1 0 7) = .ref 36 from congrArg am_rf (ex_r0_7 hP)]
        refine am_goX 1 (show am_rc h 6 0 ∧ 0 ≤ 8 ∧ h.2.2.2.2 + am_al 89 ≤ 175 ∧ am_call am_cod 3 89 [.ref 6, .int (nI p), .ref 36] h (fun vv h' => pz_S 4 (some .int) am_r159 3 Q 41 [(0, .ref 0), (1, .int (nI p)), (2, .int a2), (3, .int (nI k))] (vv.toList ++ []) h') from ⟨Or.inl ⟨by decide, ex_6 hP⟩, by decide, ex_lim hP rfl, am_call.up (d_89_t6_36 hP hI hT hD hS (fC_0 (c := 6) (h := h)) (by omega) ?_) (by decide)⟩)
        suffices key : ∀ (v4 : Int32), v4 = (if ¬ (d_89 C s p) = 0 then a2 else a2 + (Int32.ofInt 1)) → pz_S 4 (some .int) am_r159 3 Q 47 [(0, .ref 0), (1, .int (nI p)), (2, .int v4), (3, .int (nI k))] [] h by
          refine am_goX 1 (show (¬ (d_89 C s p) = 0 → pz_S 4 (some .int) am_r159 3 Q 47 [(0, .ref 0), (1, .int (nI p)), (2, .int a2), (3, .int (nI k))] [] h) ∧ (¬ ¬ (d_89 C s p) = 0 → pz_S 4 (some .int) am_r159 3 Q 44 [(0, .ref 0), (1, .int (nI p)), (2, .int a2), (3, .int (nI k))] [] h) from ⟨fun c3 => ?_, fun c3 => ?_⟩)
          · exact sv_S2 sv2_159 (by intro q hq; simp only [List.mem_cons, List.not_mem_nil, or_false] at hq; rcases hq with rfl | rfl | rfl | rfl <;> rfl) (key _ (if_pos c3).symm)
          · refine am_goX 1 (show 2 < 4 ∧ pz_S 4 (some .int) am_r159 3 Q 47 [(2, .int (a2 + (Int32.ofInt 1))), (0, .ref 0), (1, .int (nI p)), (3, .int (nI k))] [] h from ⟨by decide, ?_⟩)
            exact sv_S2 sv2_159 (by intro q hq; simp only [List.mem_cons, List.not_mem_nil, or_false] at hq; rcases hq with rfl | rfl | rfl | rfl <;> rfl) (key _ (if_neg c3).symm)
        intro v4 e5
        subst e5
        exact sv_S2 sv2_159 (by intro q hq; simp only [List.mem_cons, List.not_mem_nil, or_false] at hq; rcases hq with rfl | rfl | rfl | rfl <;> rfl) (key _ (if_neg c1).symm)
    intro v2 e6
    subst e6
    refine am_goX 2 (show 3 < 4 ∧ pz_S 4 (some .int) am_r159 3 Q 4 [(3, .int ((nI k) + (Int32.ofInt 1))), (0, .ref 0), (1, .int (nI p)), (2, .int (if ¬ (d_68 C (s.1 + (nI k))) = 0 then a2 + (Int32.ofInt 1) else (if ¬ (d_89 C s p) = 0 then a2 else a2 + (Int32.ofInt 1))))] [] h from ⟨by decide, ?_⟩)
    rw [show (nI k) + (Int32.ofInt 1) = nI (k + 1) from (dn_a rfl rfl)]
    exact sv_S2 sv2_159 (by intro q hq; simp only [List.mem_cons, List.not_mem_nil, or_false] at hq; rcases hq with rfl | rfl | rfl | rfl <;> rfl) (ih (k + 1) (if ¬ (d_68 C (s.1 + (nI k))) = 0 then a2 + (Int32.ofInt 1) else (if ¬ (d_89 C s p) = 0 then a2 else a2 + (Int32.ofInt 1))) (by omega) hZ)
def d_159 (C : sp_C) (s : dS) (p : Nat) : Int32 := d_159_4 C s p 28 1 (Int32.ofInt 0)
theorem d_159_N6 (hP : ex_P h) (hI : cI C) (hT : c_v 6 C h) (hD : c_d 6 C h) (hR : h.2.2.1 0 3 = some 6) (hS : sC 36 s h) (hp : p < dP C) (hQ : Q (some (.int (d_159 C s p))) h) : am_call am_cod 4 159 [.ref 0, .int (nI p)] h Q := by
  have h6 := hT.1.2.1
  have h5 := hT.2.1.2.1
  refine pz_call (n := 159) (nL := 4) (rt := (some .int)) (rows := am_r159) (d := 3) (by decide +kernel) (by decide +kernel) rfl (by funext pc; rfl) (ex_175 hP) (by exact Nat.le_of_ble_eq_true rfl) ?_
  refine am_goX 4 (show 2 < 4 ∧ 3 < 4 ∧ pz_S 4 (some .int) am_r159 3 Q 4 [(3, .int (Int32.ofInt 1)), (2, .int (Int32.ofInt 0)), (0, .ref 0), (1, .int (nI p))] [] h from ⟨by decide, by decide, ?_⟩)
  refine sv_S2 sv2_159 (by intro q hq; simp only [List.mem_cons, List.not_mem_nil, or_false] at hq; rcases hq with rfl | rfl | rfl | rfl <;> rfl) (d_159_4_N6 hP hI hT hD hR hS hp 28 1 (Int32.ofInt 0) (by omega) ?_)
  exact am_goX 2 (show (∃ ty, (some .int) = some ty ∧ narrow ty (.int (d_159_4 C s p 28 1 (Int32.ofInt 0))) = .int (d_159_4 C s p 28 1 (Int32.ofInt 0))) ∧ h.2.2.2.2 = 175 ∧ _ from ⟨⟨.int, rfl, rfl⟩, ex_175 hP, hQ⟩)
def d_158_6 (C : sp_C) (s : dS) : Nat → Nat → Int32 → Int32 → Int32 × Int32
  | 0, _, a1, a2 => (a1, a2)
  | m + 1, k, a1, a2 => d_158_6 C s m (k + 1) (if (d_159 C s k) ≤ a1 then a1 else d_159 C s k) (if (d_159 C s k) ≤ a1 then a2 else nI k)
theorem d_158_6_N6 (hP : ex_P h) (hI : cI C) (hT : c_v 6 C h) (hD : c_d 6 C h) (hR : h.2.2.1 0 3 = some 6) (hS : sC 36 s h) : ∀ (m k : Nat) (a1 : Int32) (a2 : Int32), k + m = dP C → (pz_S 5 (some .int) am_r158 4 Q 41 [(2, .int ((d_158_6 C s m k a1 a2).2))] [] h) → pz_S 5 (some .int) am_r158 4 Q 6 [(0, .ref 0), (1, .int a1), (2, .int a2), (3, .int (nI k))] [] h := by
  intro m
  induction m with
  | zero =>
    intro k a1 a2 hk hZ
    have h6 := hT.1.2.1
    have h5 := hT.2.1.2.1
    refine am_goX 3 (show am_sh h 0 = some (10, 0) ∧ pz_S 5 (some .int) am_r158 4 Q 11 [(0, .ref 0), (1, .int a1), (2, .int a2), (3, .int (nI k))] [am_rf (h.2.2.1 0 3), .int (nI k)] h from ⟨ex_0 hP, ?_⟩)
    rw [show am_rf (h.2.2.1 0 3) = .ref 6 from congrArg am_rf (hR)]
    refine am_goX 1 (show am_sh h 6 = some (0, 0) ∧ pz_S 5 (some .int) am_r158 4 Q 14 [(0, .ref 0), (1, .int a1), (2, .int a2), (3, .int (nI k))] [.int (h.1 6 0), .int (nI k)] h from ⟨ex_6 hP, ?_⟩)
    rw [show h.1 6 0 = nI (dP C) from hT.1.1]
    refine am_goX 1 (show ((nI (dP C)) ≤ (nI k) → pz_S 5 (some .int) am_r158 4 Q 41 [(0, .ref 0), (1, .int a1), (2, .int a2), (3, .int (nI k))] [] h) ∧ (¬ ((nI (dP C)) ≤ (nI k)) → pz_S 5 (some .int) am_r158 4 Q 17 [(0, .ref 0), (1, .int a1), (2, .int a2), (3, .int (nI k))] [] h) from ⟨fun _ => ?_, fun hz => absurd (show nI (dP C) ≤ nI k from nI_le (by omega) (by omega)) hz⟩)
    exact sv_S2 sv2_158 (by intro q hq; simp only [List.mem_cons, List.not_mem_nil, or_false] at hq; rcases hq with rfl <;> rfl) (hZ)
  | succ m ih =>
    intro k a1 a2 hk hZ
    have h6 := hT.1.2.1
    have h5 := hT.2.1.2.1
    refine am_goX 3 (show am_sh h 0 = some (10, 0) ∧ pz_S 5 (some .int) am_r158 4 Q 11 [(0, .ref 0), (1, .int a1), (2, .int a2), (3, .int (nI k))] [am_rf (h.2.2.1 0 3), .int (nI k)] h from ⟨ex_0 hP, ?_⟩)
    rw [show am_rf (h.2.2.1 0 3) = .ref 6 from congrArg am_rf (hR)]
    refine am_goX 1 (show am_sh h 6 = some (0, 0) ∧ pz_S 5 (some .int) am_r158 4 Q 14 [(0, .ref 0), (1, .int a1), (2, .int a2), (3, .int (nI k))] [.int (h.1 6 0), .int (nI k)] h from ⟨ex_6 hP, ?_⟩)
    rw [show h.1 6 0 = nI (dP C) from hT.1.1]
    refine am_goX 1 (show ((nI (dP C)) ≤ (nI k) → pz_S 5 (some .int) am_r158 4 Q 41 [(0, .ref 0), (1, .int a1), (2, .int a2), (3, .int (nI k))] [] h) ∧ (¬ ((nI (dP C)) ≤ (nI k)) → pz_S 5 (some .int) am_r158 4 Q 17 [(0, .ref 0), (1, .int a1), (2, .int a2), (3, .int (nI k))] [] h) from ⟨fun hz => absurd hz (show ¬ (nI (dP C) ≤ nI k) by rw [nI_leI (by omega) (by omega)]; omega), fun _ => ?_⟩)
    refine am_goX 3 (show am_rc h 0 10 ∧ 0 ≤ 8 ∧ h.2.2.2.2 + am_al 159 ≤ 175 ∧ am_call am_cod 4 159 [.ref 0, .int (nI k)] h (fun vv h' => pz_S 5 (some .int) am_r158 4 Q 22 [(0, .ref 0), (1, .int a1), (2, .int a2), (3, .int (nI k))] (vv.toList ++ []) h') from ⟨Or.inl ⟨by decide, ex_0 hP⟩, by decide, ex_lim hP rfl, am_call.up (d_159_N6 hP hI hT hD hR hS (by omega) ?_) (by decide)⟩)
    suffices key : ∀ (v8 : Int32) (v9 : Int32), v8 = (if (d_159 C s k) ≤ a1 then a1 else d_159 C s k) → v9 = (if (d_159 C s k) ≤ a1 then a2 else nI k) → pz_S 5 (some .int) am_r158 4 Q 35 [(0, .ref 0), (1, .int v8), (2, .int v9), (3, .int (nI k))] [] h by
      refine am_goX 4 (show 4 < 5 ∧ ((d_159 C s k) ≤ a1 → pz_S 5 (some .int) am_r158 4 Q 35 [(4, .int (d_159 C s k)), (0, .ref 0), (1, .int a1), (2, .int a2), (3, .int (nI k))] [] h) ∧ (¬ ((d_159 C s k) ≤ a1) → pz_S 5 (some .int) am_r158 4 Q 30 [(4, .int (d_159 C s k)), (0, .ref 0), (1, .int a1), (2, .int a2), (3, .int (nI k))] [] h) from ⟨by decide, fun c7 => ?_, fun c7 => ?_⟩)
      · exact sv_S2 sv2_158 (by intro q hq; simp only [List.mem_cons, List.not_mem_nil, or_false] at hq; rcases hq with rfl | rfl | rfl | rfl <;> rfl) (key _ _ (if_pos c7).symm (if_pos c7).symm)
      · refine am_goX 4 (show 1 < 5 ∧ 2 < 5 ∧ pz_S 5 (some .int) am_r158 4 Q 35 [(2, .int (nI k)), (1, .int (d_159 C s k)), (4, .int (d_159 C s k)), (0, .ref 0), (3, .int (nI k))] [] h from ⟨by decide, by decide, ?_⟩)
        exact sv_S2 sv2_158 (by intro q hq; simp only [List.mem_cons, List.not_mem_nil, or_false] at hq; rcases hq with rfl | rfl | rfl | rfl <;> rfl) (key _ _ (if_neg c7).symm (if_neg c7).symm)
    intro v8 v9 e10 e11
    subst e10 e11
    refine am_goX 2 (show 3 < 5 ∧ pz_S 5 (some .int) am_r158 4 Q 6 [(3, .int ((nI k) + (Int32.ofInt 1))), (0, .ref 0), (1, .int (if (d_159 C s k) ≤ a1 then a1 else d_159 C s k)), (2, .int (if (d_159 C s k) ≤ a1 then a2 else nI k))] [] h from ⟨by decide, ?_⟩)
    rw [show (nI k) + (Int32.ofInt 1) = nI (k + 1) from (dn_a rfl rfl)]
    exact sv_S2 sv2_158 (by intro q hq; simp only [List.mem_cons, List.not_mem_nil, or_false] at hq; rcases hq with rfl | rfl | rfl | rfl <;> rfl) (ih (k + 1) (if (d_159 C s k) ≤ a1 then a1 else d_159 C s k) (if (d_159 C s k) ≤ a1 then a2 else nI k) (by omega) hZ)
def d_158 (C : sp_C) (s : dS) : Int32 := (d_158_6 C s (dP C) 0 (Int32.ofInt (-1)) (Int32.ofInt (-1))).2
theorem d_158_N6 (hP : ex_P h) (hI : cI C) (hT : c_v 6 C h) (hD : c_d 6 C h) (hR : h.2.2.1 0 3 = some 6) (hS : sC 36 s h)  (hQ : Q (some (.int (d_158 C s))) h) : am_call am_cod 5 158 [.ref 0] h Q := by
  have h6 := hT.1.2.1
  have h5 := hT.2.1.2.1
  refine pz_call (n := 158) (nL := 5) (rt := (some .int)) (rows := am_r158) (d := 4) (by decide +kernel) (by decide +kernel) rfl (by funext pc; rfl) (ex_175 hP) (by exact Nat.le_of_ble_eq_true rfl) ?_
  refine am_goX 6 (show 1 < 5 ∧ 2 < 5 ∧ 3 < 5 ∧ pz_S 5 (some .int) am_r158 4 Q 6 [(3, .int (Int32.ofInt 0)), (2, .int (Int32.ofInt (-1))), (1, .int (Int32.ofInt (-1))), (0, .ref 0)] [] h from ⟨by decide, by decide, by decide, ?_⟩)
  refine sv_S2 sv2_158 (by intro q hq; simp only [List.mem_cons, List.not_mem_nil, or_false] at hq; rcases hq with rfl | rfl | rfl | rfl <;> rfl) (d_158_6_N6 hP hI hT hD hR hS (dP C) 0 (Int32.ofInt (-1)) (Int32.ofInt (-1)) (by omega) ?_)
  exact am_goX 2 (show (∃ ty, (some .int) = some ty ∧ narrow ty (.int ((d_158_6 C s (dP C) 0 (Int32.ofInt (-1)) (Int32.ofInt (-1))).2)) = .int ((d_158_6 C s (dP C) 0 (Int32.ofInt (-1)) (Int32.ofInt (-1))).2)) ∧ h.2.2.2.2 = 175 ∧ _ from ⟨⟨.int, rfl, rfl⟩, ex_175 hP, hQ⟩)
theorem d_159_4_N17 (hP : ex_P h) (hI : cI C) (hT : c_v 17 C h) (hD : c_d 17 C h) (hR : h.2.2.1 0 3 = some 17) (hS : sC 36 s h) (hp : p < dP C) : ∀ (m k : Nat) (a2 : Int32), k + m = 28 + 1 → (pz_S 4 (some .int) am_r159 3 Q 53 [(2, .int (d_159_4 C s p m k a2))] [] h) → pz_S 4 (some .int) am_r159 3 Q 4 [(0, .ref 0), (1, .int (nI p)), (2, .int a2), (3, .int (nI k))] [] h := by
  intro m
  induction m with
  | zero =>
    intro k a2 hk hZ
    have h6 := hT.1.2.1
    have h5 := hT.2.1.2.1
    refine am_goX 3 (show (((Int8.ofInt 28).toInt32) < (nI k) → pz_S 4 (some .int) am_r159 3 Q 53 [(0, .ref 0), (1, .int (nI p)), (2, .int a2), (3, .int (nI k))] [] h) ∧ (¬ (((Int8.ofInt 28).toInt32) < (nI k)) → pz_S 4 (some .int) am_r159 3 Q 10 [(0, .ref 0), (1, .int (nI p)), (2, .int a2), (3, .int (nI k))] [] h) from ⟨fun _ => ?_, fun hz => absurd (show nI 28 < nI k from nI_lt (by omega) (by omega)) hz⟩)
    exact sv_S2 sv2_159 (by intro q hq; simp only [List.mem_cons, List.not_mem_nil, or_false] at hq; rcases hq with rfl <;> rfl) (hZ)
  | succ m ih =>
    intro k a2 hk hZ
    have h6 := hT.1.2.1
    have h5 := hT.2.1.2.1
    refine am_goX 3 (show (((Int8.ofInt 28).toInt32) < (nI k) → pz_S 4 (some .int) am_r159 3 Q 53 [(0, .ref 0), (1, .int (nI p)), (2, .int a2), (3, .int (nI k))] [] h) ∧ (¬ (((Int8.ofInt 28).toInt32) < (nI k)) → pz_S 4 (some .int) am_r159 3 Q 10 [(0, .ref 0), (1, .int (nI p)), (2, .int a2), (3, .int (nI k))] [] h) from ⟨fun hz => absurd hz (show ¬ (nI 28 < nI k) by rw [nI_ltI (by omega) (by omega)]; omega), fun _ => ?_⟩)
    refine am_goX 2 (show am_sh h 0 = some (10, 0) ∧ pz_S 4 (some .int) am_r159 3 Q 14 [(0, .ref 0), (1, .int (nI p)), (2, .int a2), (3, .int (nI k))] [am_rf (h.2.2.1 0 3)] h from ⟨ex_0 hP, ?_⟩)
    rw [show am_rf (h.2.2.1 0 3) = .ref 17 from congrArg am_rf (hR)]
    refine am_goX 2 (show am_sh h 0 = some (10, 0) ∧ pz_S 4 (some .int) am_r159 3 Q 18 [(0, .ref 0), (1, .int (nI p)), (2, .int a2), (3, .int (nI k))] [am_rf (h.2.2.1 0 7), .ref 17] h from ⟨ex_0 hP, ?_⟩)
    rw [show am_rf (h.2.2.1 0 7) = .ref 36 from congrArg am_rf (ex_r0_7 hP)]
    refine am_goX 1 (show am_sh h 36 = some (6, 0) ∧ pz_S 4 (some .int) am_r159 3 Q 21 [(0, .ref 0), (1, .int (nI p)), (2, .int a2), (3, .int (nI k))] [.int (h.1 36 0), .ref 17] h from ⟨ex_36 hP, ?_⟩)
    rw [show h.1 36 0 = s.1 from hS.1.1]
    refine am_goX 3 (show am_rc h 17 0 ∧ 0 ≤ 8 ∧ h.2.2.2.2 + am_al 68 ≤ 175 ∧ am_call am_cod 3 68 [.ref 17, .int (s.1 + (nI k))] h (fun vv h' => pz_S 4 (some .int) am_r159 3 Q 26 [(0, .ref 0), (1, .int (nI p)), (2, .int a2), (3, .int (nI k))] (vv.toList ++ []) h') from ⟨Or.inl ⟨by decide, ex_17 hP⟩, by decide, ex_lim hP rfl, am_call.up (d_68_t17 hP hT ?_) (by decide)⟩)
    suffices key : ∀ (v13 : Int32), v13 = (if ¬ (d_68 C (s.1 + (nI k))) = 0 then a2 + (Int32.ofInt 1) else (if ¬ (d_89 C s p) = 0 then a2 else a2 + (Int32.ofInt 1))) → pz_S 4 (some .int) am_r159 3 Q 47 [(0, .ref 0), (1, .int (nI p)), (2, .int v13), (3, .int (nI k))] [] h by
      refine am_goX 1 (show (¬ (d_68 C (s.1 + (nI k))) = 0 → pz_S 4 (some .int) am_r159 3 Q 44 [(0, .ref 0), (1, .int (nI p)), (2, .int a2), (3, .int (nI k))] [] h) ∧ (¬ ¬ (d_68 C (s.1 + (nI k))) = 0 → pz_S 4 (some .int) am_r159 3 Q 29 [(0, .ref 0), (1, .int (nI p)), (2, .int a2), (3, .int (nI k))] [] h) from ⟨fun c12 => ?_, fun c12 => ?_⟩)
      · refine am_goX 1 (show 2 < 4 ∧ pz_S 4 (some .int) am_r159 3 Q 47 [(2, .int (a2 + (Int32.ofInt 1))), (0, .ref 0), (1, .int (nI p)), (3, .int (nI k))] [] h from ⟨by decide, ?_⟩)
        exact sv_S2 sv2_159 (by intro q hq; simp only [List.mem_cons, List.not_mem_nil, or_false] at hq; rcases hq with rfl | rfl | rfl | rfl <;> rfl) (key _ (if_pos c12).symm)
      · refine am_goX 2 (show am_sh h 0 = some (10, 0) ∧ pz_S 4 (some .int) am_r159 3 Q 33 [(0, .ref 0), (1, .int (nI p)), (2, .int a2), (3, .int (nI k))] [am_rf (h.2.2.1 0 3)] h from ⟨ex_0 hP, ?_⟩)
        rw [show am_rf (h.2.2.1 0 3) = .ref 17 from congrArg am_rf (hR)]
        refine am_goX 3 (show am_sh h 0 = some (10, 0) ∧ pz_S 4 (some .int) am_r159 3 Q 38 [(0, .ref 0), (1, .int (nI p)), (2, .int a2), (3, .int (nI k))] [am_rf (h.2.2.1 0 7), .int (nI p), .ref 17] h from ⟨ex_0 hP, ?_⟩)
        rw [show am_rf (h.2.2.1 0 7) = .ref 36 from congrArg am_rf (ex_r0_7 hP)]
        refine am_goX 1 (show am_rc h 17 0 ∧ 0 ≤ 8 ∧ h.2.2.2.2 + am_al 89 ≤ 175 ∧ am_call am_cod 3 89 [.ref 17, .int (nI p), .ref 36] h (fun vv h' => pz_S 4 (some .int) am_r159 3 Q 41 [(0, .ref 0), (1, .int (nI p)), (2, .int a2), (3, .int (nI k))] (vv.toList ++ []) h') from ⟨Or.inl ⟨by decide, ex_17 hP⟩, by decide, ex_lim hP rfl, am_call.up (d_89_t17_36 hP hI hT hD hS (fC_0 (c := 17) (h := h)) (by omega) ?_) (by decide)⟩)
        suffices key : ∀ (v15 : Int32), v15 = (if ¬ (d_89 C s p) = 0 then a2 else a2 + (Int32.ofInt 1)) → pz_S 4 (some .int) am_r159 3 Q 47 [(0, .ref 0), (1, .int (nI p)), (2, .int v15), (3, .int (nI k))] [] h by
          refine am_goX 1 (show (¬ (d_89 C s p) = 0 → pz_S 4 (some .int) am_r159 3 Q 47 [(0, .ref 0), (1, .int (nI p)), (2, .int a2), (3, .int (nI k))] [] h) ∧ (¬ ¬ (d_89 C s p) = 0 → pz_S 4 (some .int) am_r159 3 Q 44 [(0, .ref 0), (1, .int (nI p)), (2, .int a2), (3, .int (nI k))] [] h) from ⟨fun c14 => ?_, fun c14 => ?_⟩)
          · exact sv_S2 sv2_159 (by intro q hq; simp only [List.mem_cons, List.not_mem_nil, or_false] at hq; rcases hq with rfl | rfl | rfl | rfl <;> rfl) (key _ (if_pos c14).symm)
          · refine am_goX 1 (show 2 < 4 ∧ pz_S 4 (some .int) am_r159 3 Q 47 [(2, .int (a2 + (Int32.ofInt 1))), (0, .ref 0), (1, .int (nI p)), (3, .int (nI k))] [] h from ⟨by decide, ?_⟩)
            exact sv_S2 sv2_159 (by intro q hq; simp only [List.mem_cons, List.not_mem_nil, or_false] at hq; rcases hq with rfl | rfl | rfl | rfl <;> rfl) (key _ (if_neg c14).symm)
        intro v15 e16
        subst e16
        exact sv_S2 sv2_159 (by intro q hq; simp only [List.mem_cons, List.not_mem_nil, or_false] at hq; rcases hq with rfl | rfl | rfl | rfl <;> rfl) (key _ (if_neg c12).symm)
    intro v13 e17
    subst e17
    refine am_goX 2 (show 3 < 4 ∧ pz_S 4 (some .int) am_r159 3 Q 4 [(3, .int ((nI k) + (Int32.ofInt 1))), (0, .ref 0), (1, .int (nI p)), (2, .int (if ¬ (d_68 C (s.1 + (nI k))) = 0 then a2 + (Int32.ofInt 1) else (if ¬ (d_89 C s p) = 0 then a2 else a2 + (Int32.ofInt 1))))] [] h from ⟨by decide, ?_⟩)
    rw [show (nI k) + (Int32.ofInt 1) = nI (k + 1) from (dn_a rfl rfl)]
    exact sv_S2 sv2_159 (by intro q hq; simp only [List.mem_cons, List.not_mem_nil, or_false] at hq; rcases hq with rfl | rfl | rfl | rfl <;> rfl) (ih (k + 1) (if ¬ (d_68 C (s.1 + (nI k))) = 0 then a2 + (Int32.ofInt 1) else (if ¬ (d_89 C s p) = 0 then a2 else a2 + (Int32.ofInt 1))) (by omega) hZ)
theorem d_159_N17 (hP : ex_P h) (hI : cI C) (hT : c_v 17 C h) (hD : c_d 17 C h) (hR : h.2.2.1 0 3 = some 17) (hS : sC 36 s h) (hp : p < dP C) (hQ : Q (some (.int (d_159 C s p))) h) : am_call am_cod 4 159 [.ref 0, .int (nI p)] h Q := by
  have h6 := hT.1.2.1
  have h5 := hT.2.1.2.1
  refine pz_call (n := 159) (nL := 4) (rt := (some .int)) (rows := am_r159) (d := 3) (by decide +kernel) (by decide +kernel) rfl (by funext pc; rfl) (ex_175 hP) (by exact Nat.le_of_ble_eq_true rfl) ?_
  refine am_goX 4 (show 2 < 4 ∧ 3 < 4 ∧ pz_S 4 (some .int) am_r159 3 Q 4 [(3, .int (Int32.ofInt 1)), (2, .int (Int32.ofInt 0)), (0, .ref 0), (1, .int (nI p))] [] h from ⟨by decide, by decide, ?_⟩)
  refine sv_S2 sv2_159 (by intro q hq; simp only [List.mem_cons, List.not_mem_nil, or_false] at hq; rcases hq with rfl | rfl | rfl | rfl <;> rfl) (d_159_4_N17 hP hI hT hD hR hS hp 28 1 (Int32.ofInt 0) (by omega) ?_)
  exact am_goX 2 (show (∃ ty, (some .int) = some ty ∧ narrow ty (.int (d_159_4 C s p 28 1 (Int32.ofInt 0))) = .int (d_159_4 C s p 28 1 (Int32.ofInt 0))) ∧ h.2.2.2.2 = 175 ∧ _ from ⟨⟨.int, rfl, rfl⟩, ex_175 hP, hQ⟩)
theorem d_158_6_N17 (hP : ex_P h) (hI : cI C) (hT : c_v 17 C h) (hD : c_d 17 C h) (hR : h.2.2.1 0 3 = some 17) (hS : sC 36 s h) : ∀ (m k : Nat) (a1 : Int32) (a2 : Int32), k + m = dP C → (pz_S 5 (some .int) am_r158 4 Q 41 [(2, .int ((d_158_6 C s m k a1 a2).2))] [] h) → pz_S 5 (some .int) am_r158 4 Q 6 [(0, .ref 0), (1, .int a1), (2, .int a2), (3, .int (nI k))] [] h := by
  intro m
  induction m with
  | zero =>
    intro k a1 a2 hk hZ
    have h6 := hT.1.2.1
    have h5 := hT.2.1.2.1
    refine am_goX 3 (show am_sh h 0 = some (10, 0) ∧ pz_S 5 (some .int) am_r158 4 Q 11 [(0, .ref 0), (1, .int a1), (2, .int a2), (3, .int (nI k))] [am_rf (h.2.2.1 0 3), .int (nI k)] h from ⟨ex_0 hP, ?_⟩)
    rw [show am_rf (h.2.2.1 0 3) = .ref 17 from congrArg am_rf (hR)]
    refine am_goX 1 (show am_sh h 17 = some (0, 0) ∧ pz_S 5 (some .int) am_r158 4 Q 14 [(0, .ref 0), (1, .int a1), (2, .int a2), (3, .int (nI k))] [.int (h.1 17 0), .int (nI k)] h from ⟨ex_17 hP, ?_⟩)
    rw [show h.1 17 0 = nI (dP C) from hT.1.1]
    refine am_goX 1 (show ((nI (dP C)) ≤ (nI k) → pz_S 5 (some .int) am_r158 4 Q 41 [(0, .ref 0), (1, .int a1), (2, .int a2), (3, .int (nI k))] [] h) ∧ (¬ ((nI (dP C)) ≤ (nI k)) → pz_S 5 (some .int) am_r158 4 Q 17 [(0, .ref 0), (1, .int a1), (2, .int a2), (3, .int (nI k))] [] h) from ⟨fun _ => ?_, fun hz => absurd (show nI (dP C) ≤ nI k from nI_le (by omega) (by omega)) hz⟩)
    exact sv_S2 sv2_158 (by intro q hq; simp only [List.mem_cons, List.not_mem_nil, or_false] at hq; rcases hq with rfl <;> rfl) (hZ)
  | succ m ih =>
    intro k a1 a2 hk hZ
    have h6 := hT.1.2.1
    have h5 := hT.2.1.2.1
    refine am_goX 3 (show am_sh h 0 = some (10, 0) ∧ pz_S 5 (some .int) am_r158 4 Q 11 [(0, .ref 0), (1, .int a1), (2, .int a2), (3, .int (nI k))] [am_rf (h.2.2.1 0 3), .int (nI k)] h from ⟨ex_0 hP, ?_⟩)
    rw [show am_rf (h.2.2.1 0 3) = .ref 17 from congrArg am_rf (hR)]
    refine am_goX 1 (show am_sh h 17 = some (0, 0) ∧ pz_S 5 (some .int) am_r158 4 Q 14 [(0, .ref 0), (1, .int a1), (2, .int a2), (3, .int (nI k))] [.int (h.1 17 0), .int (nI k)] h from ⟨ex_17 hP, ?_⟩)
    rw [show h.1 17 0 = nI (dP C) from hT.1.1]
    refine am_goX 1 (show ((nI (dP C)) ≤ (nI k) → pz_S 5 (some .int) am_r158 4 Q 41 [(0, .ref 0), (1, .int a1), (2, .int a2), (3, .int (nI k))] [] h) ∧ (¬ ((nI (dP C)) ≤ (nI k)) → pz_S 5 (some .int) am_r158 4 Q 17 [(0, .ref 0), (1, .int a1), (2, .int a2), (3, .int (nI k))] [] h) from ⟨fun hz => absurd hz (show ¬ (nI (dP C) ≤ nI k) by rw [nI_leI (by omega) (by omega)]; omega), fun _ => ?_⟩)
    refine am_goX 3 (show am_rc h 0 10 ∧ 0 ≤ 8 ∧ h.2.2.2.2 + am_al 159 ≤ 175 ∧ am_call am_cod 4 159 [.ref 0, .int (nI k)] h (fun vv h' => pz_S 5 (some .int) am_r158 4 Q 22 [(0, .ref 0), (1, .int a1), (2, .int a2), (3, .int (nI k))] (vv.toList ++ []) h') from ⟨Or.inl ⟨by decide, ex_0 hP⟩, by decide, ex_lim hP rfl, am_call.up (d_159_N17 hP hI hT hD hR hS (by omega) ?_) (by decide)⟩)
    suffices key : ∀ (v19 : Int32) (v20 : Int32), v19 = (if (d_159 C s k) ≤ a1 then a1 else d_159 C s k) → v20 = (if (d_159 C s k) ≤ a1 then a2 else nI k) → pz_S 5 (some .int) am_r158 4 Q 35 [(0, .ref 0), (1, .int v19), (2, .int v20), (3, .int (nI k))] [] h by
      refine am_goX 4 (show 4 < 5 ∧ ((d_159 C s k) ≤ a1 → pz_S 5 (some .int) am_r158 4 Q 35 [(4, .int (d_159 C s k)), (0, .ref 0), (1, .int a1), (2, .int a2), (3, .int (nI k))] [] h) ∧ (¬ ((d_159 C s k) ≤ a1) → pz_S 5 (some .int) am_r158 4 Q 30 [(4, .int (d_159 C s k)), (0, .ref 0), (1, .int a1), (2, .int a2), (3, .int (nI k))] [] h) from ⟨by decide, fun c18 => ?_, fun c18 => ?_⟩)
      · exact sv_S2 sv2_158 (by intro q hq; simp only [List.mem_cons, List.not_mem_nil, or_false] at hq; rcases hq with rfl | rfl | rfl | rfl <;> rfl) (key _ _ (if_pos c18).symm (if_pos c18).symm)
      · refine am_goX 4 (show 1 < 5 ∧ 2 < 5 ∧ pz_S 5 (some .int) am_r158 4 Q 35 [(2, .int (nI k)), (1, .int (d_159 C s k)), (4, .int (d_159 C s k)), (0, .ref 0), (3, .int (nI k))] [] h from ⟨by decide, by decide, ?_⟩)
        exact sv_S2 sv2_158 (by intro q hq; simp only [List.mem_cons, List.not_mem_nil, or_false] at hq; rcases hq with rfl | rfl | rfl | rfl <;> rfl) (key _ _ (if_neg c18).symm (if_neg c18).symm)
    intro v19 v20 e21 e22
    subst e21 e22
    refine am_goX 2 (show 3 < 5 ∧ pz_S 5 (some .int) am_r158 4 Q 6 [(3, .int ((nI k) + (Int32.ofInt 1))), (0, .ref 0), (1, .int (if (d_159 C s k) ≤ a1 then a1 else d_159 C s k)), (2, .int (if (d_159 C s k) ≤ a1 then a2 else nI k))] [] h from ⟨by decide, ?_⟩)
    rw [show (nI k) + (Int32.ofInt 1) = nI (k + 1) from (dn_a rfl rfl)]
    exact sv_S2 sv2_158 (by intro q hq; simp only [List.mem_cons, List.not_mem_nil, or_false] at hq; rcases hq with rfl | rfl | rfl | rfl <;> rfl) (ih (k + 1) (if (d_159 C s k) ≤ a1 then a1 else d_159 C s k) (if (d_159 C s k) ≤ a1 then a2 else nI k) (by omega) hZ)
theorem d_158_N17 (hP : ex_P h) (hI : cI C) (hT : c_v 17 C h) (hD : c_d 17 C h) (hR : h.2.2.1 0 3 = some 17) (hS : sC 36 s h)  (hQ : Q (some (.int (d_158 C s))) h) : am_call am_cod 5 158 [.ref 0] h Q := by
  have h6 := hT.1.2.1
  have h5 := hT.2.1.2.1
  refine pz_call (n := 158) (nL := 5) (rt := (some .int)) (rows := am_r158) (d := 4) (by decide +kernel) (by decide +kernel) rfl (by funext pc; rfl) (ex_175 hP) (by exact Nat.le_of_ble_eq_true rfl) ?_
  refine am_goX 6 (show 1 < 5 ∧ 2 < 5 ∧ 3 < 5 ∧ pz_S 5 (some .int) am_r158 4 Q 6 [(3, .int (Int32.ofInt 0)), (2, .int (Int32.ofInt (-1))), (1, .int (Int32.ofInt (-1))), (0, .ref 0)] [] h from ⟨by decide, by decide, by decide, ?_⟩)
  refine sv_S2 sv2_158 (by intro q hq; simp only [List.mem_cons, List.not_mem_nil, or_false] at hq; rcases hq with rfl | rfl | rfl | rfl <;> rfl) (d_158_6_N17 hP hI hT hD hR hS (dP C) 0 (Int32.ofInt (-1)) (Int32.ofInt (-1)) (by omega) ?_)
  exact am_goX 2 (show (∃ ty, (some .int) = some ty ∧ narrow ty (.int ((d_158_6 C s (dP C) 0 (Int32.ofInt (-1)) (Int32.ofInt (-1))).2)) = .int ((d_158_6 C s (dP C) 0 (Int32.ofInt (-1)) (Int32.ofInt (-1))).2)) ∧ h.2.2.2.2 = 175 ∧ _ from ⟨⟨.int, rfl, rfl⟩, ex_175 hP, hQ⟩)
def d_260_25 (C : sp_C) (s : dS) (n3 : Nat) : Nat → Nat → Int32 → Int32
  | 0, _, a4 => a4
  | m + 1, k, a4 => d_260_25 C s n3 m (k + 1) (a4 + (if ¬ (d_225 (s.1 + (nI k)) (d_223 C s n3) (d_224 C (s.1 + (nI k)))) = ((s.1 + (nI k)) - (s.1 + (nI k)) / ((Int8.ofInt 7).toInt32) * ((Int8.ofInt 7).toInt32)) then Int32.ofInt 0 else Int32.ofInt 1))
theorem d_260_25_M (x1 : Int32) (x2 : Int32) (n3 : Nat) (hP : ex_P h) (hI : cI C) (hT : tR C h) (hO : ∀ e, e < dE C → h.1 172 e = dW V e) (hS : sR 0 (dP C) s h) (hp : n3 < dP C) : ∀ (m k : Nat) (a4 : Int32), k + m = 28 + 1 → (pz_S 7 (some .int) am_r260 2 Q 84 [(0, .ref 154), (1, .int x1), (2, .int x2), (3, .int (nI n3)), (4, .int (d_260_25 C s n3 m k a4))] [] h) → pz_S 7 (some .int) am_r260 2 Q 25 [(0, .ref 154), (1, .int x1), (2, .int x2), (3, .int (nI n3)), (4, .int a4), (5, .int (nI k))] [] h := by
  intro m
  induction m with
  | zero =>
    intro k a4 hk hZ
    have h6 := hT.1.2.1
    have h5 := hT.2.1.2.1
    refine am_goX 3 (show (((Int8.ofInt 28).toInt32) < (nI k) → pz_S 7 (some .int) am_r260 2 Q 84 [(0, .ref 154), (1, .int x1), (2, .int x2), (3, .int (nI n3)), (4, .int a4), (5, .int (nI k))] [] h) ∧ (¬ (((Int8.ofInt 28).toInt32) < (nI k)) → pz_S 7 (some .int) am_r260 2 Q 32 [(0, .ref 154), (1, .int x1), (2, .int x2), (3, .int (nI n3)), (4, .int a4), (5, .int (nI k))] [] h) from ⟨fun _ => ?_, fun hz => absurd (show nI 28 < nI k from nI_lt (by omega) (by omega)) hz⟩)
    exact sv_S2 sv2_260 (by intro q hq; simp only [List.mem_cons, List.not_mem_nil, or_false] at hq; rcases hq with rfl | rfl | rfl | rfl | rfl <;> rfl) (hZ)
  | succ m ih =>
    intro k a4 hk hZ
    have h6 := hT.1.2.1
    have h5 := hT.2.1.2.1
    refine am_goX 3 (show (((Int8.ofInt 28).toInt32) < (nI k) → pz_S 7 (some .int) am_r260 2 Q 84 [(0, .ref 154), (1, .int x1), (2, .int x2), (3, .int (nI n3)), (4, .int a4), (5, .int (nI k))] [] h) ∧ (¬ (((Int8.ofInt 28).toInt32) < (nI k)) → pz_S 7 (some .int) am_r260 2 Q 32 [(0, .ref 154), (1, .int x1), (2, .int x2), (3, .int (nI n3)), (4, .int a4), (5, .int (nI k))] [] h) from ⟨fun hz => absurd hz (show ¬ (nI 28 < nI k) by rw [nI_ltI (by omega) (by omega)]; omega), fun _ => ?_⟩)
    refine am_goX 2 (show am_sh h 154 = some (11, 0) ∧ pz_S 7 (some .int) am_r260 2 Q 36 [(0, .ref 154), (1, .int x1), (2, .int x2), (3, .int (nI n3)), (4, .int a4), (5, .int (nI k))] [am_rf (h.2.2.1 154 24)] h from ⟨ex_154 hP, ?_⟩)
    rw [show am_rf (h.2.2.1 154 24) = .ref 170 from congrArg am_rf (ex_r154_24 hP)]
    refine am_goX 2 (show ∃ jj nn : Nat, am_sh h 170 = some (13, nn) ∧ jj < nn ∧ Int32.ofInt 0 = nI jj ∧ pz_S 7 (some .int) am_r260 2 Q 38 [(0, .ref 154), (1, .int x1), (2, .int x2), (3, .int (nI n3)), (4, .int a4), (5, .int (nI k))] [.int (h.1 170 jj)] h from ⟨0, 1127, ex_170 hP, (by omega), rfl, ?_⟩)
    rw [show h.1 170 0 = s.1 from hS.1.1]
    refine am_goX 9 (show 6 < 7 ∧ am_rc h 154 11 ∧ 2 ≤ 8 ∧ h.2.2.2.2 + am_al 223 ≤ 175 ∧ am_call am_cod 2 223 [.ref 154, .int (Int32.ofInt 0), .int (nI n3)] h (fun vv h' => pz_S 7 (some .int) am_r260 2 Q 53 [(6, .int (s.1 + (nI k))), (0, .ref 154), (1, .int x1), (2, .int x2), (3, .int (nI n3)), (4, .int a4), (5, .int (nI k))] (vv.toList ++ [.int (s.1 + (nI k)), .int a4]) h') from ⟨by decide, Or.inl ⟨by decide, ex_154 hP⟩, by decide, ex_lim hP rfl, am_call.up (d_223_r0 hP hI hT hO hS (fR_0 (h := h)) (by omega) ?_) (by decide)⟩)
    refine am_goX 3 (show am_rc h 154 11 ∧ 3 ≤ 8 ∧ h.2.2.2.2 + am_al 224 ≤ 175 ∧ am_call am_cod 2 224 [.ref 154, .int (s.1 + (nI k))] h (fun vv h' => pz_S 7 (some .int) am_r260 2 Q 59 [(6, .int (s.1 + (nI k))), (0, .ref 154), (1, .int x1), (2, .int x2), (3, .int (nI n3)), (4, .int a4), (5, .int (nI k))] (vv.toList ++ [.int (d_223 C s n3), .int (s.1 + (nI k)), .int a4]) h') from ⟨Or.inl ⟨by decide, ex_154 hP⟩, by decide, ex_lim hP rfl, am_call.up (d_224_r hP hT ?_) (by decide)⟩)
    refine am_goX 1 (show 1 ≤ 8 ∧ h.2.2.2.2 + am_al 225 ≤ 175 ∧ am_call am_cod 2 225 [.int (s.1 + (nI k)), .int (d_223 C s n3), .int (d_224 C (s.1 + (nI k)))] h (fun vv h' => pz_S 7 (some .int) am_r260 2 Q 62 [(6, .int (s.1 + (nI k))), (0, .ref 154), (1, .int x1), (2, .int x2), (3, .int (nI n3)), (4, .int a4), (5, .int (nI k))] (vv.toList ++ [.int a4]) h') from ⟨by decide, ex_lim hP rfl, am_call.up (d_225_w hP ?_) (by decide)⟩)
    suffices key : ∀ (v30 : Int32), v30 = (if ¬ (d_225 (s.1 + (nI k)) (d_223 C s n3) (d_224 C (s.1 + (nI k)))) = ((s.1 + (nI k)) - (s.1 + (nI k)) / ((Int8.ofInt 7).toInt32) * ((Int8.ofInt 7).toInt32)) then Int32.ofInt 0 else Int32.ofInt 1) → pz_S 7 (some .int) am_r260 2 Q 75 [(0, .ref 154), (1, .int x1), (2, .int x2), (3, .int (nI n3)), (5, .int (nI k))] [.int v30, .int a4] h by
      refine am_goX 4 (show ¬ ((Int8.ofInt 7).toInt32) = 0 ∧ (¬ (d_225 (s.1 + (nI k)) (d_223 C s n3) (d_224 C (s.1 + (nI k)))) = ((s.1 + (nI k)) - (s.1 + (nI k)) / ((Int8.ofInt 7).toInt32) * ((Int8.ofInt 7).toInt32)) → pz_S 7 (some .int) am_r260 2 Q 74 [(6, .int (s.1 + (nI k))), (0, .ref 154), (1, .int x1), (2, .int x2), (3, .int (nI n3)), (4, .int a4), (5, .int (nI k))] [.int a4] h) ∧ (¬ ¬ (d_225 (s.1 + (nI k)) (d_223 C s n3) (d_224 C (s.1 + (nI k)))) = ((s.1 + (nI k)) - (s.1 + (nI k)) / ((Int8.ofInt 7).toInt32) * ((Int8.ofInt 7).toInt32)) → pz_S 7 (some .int) am_r260 2 Q 70 [(6, .int (s.1 + (nI k))), (0, .ref 154), (1, .int x1), (2, .int x2), (3, .int (nI n3)), (4, .int a4), (5, .int (nI k))] [.int a4] h) from ⟨by decide, fun c29 => ?_, fun c29 => ?_⟩)
      · refine am_goX 1 (show pz_S 7 (some .int) am_r260 2 Q 75 [(6, .int (s.1 + (nI k))), (0, .ref 154), (1, .int x1), (2, .int x2), (3, .int (nI n3)), (4, .int a4), (5, .int (nI k))] [.int (Int32.ofInt 0), .int a4] h from ?_)
        exact sv_S2 sv2_260 (by intro q hq; simp only [List.mem_cons, List.not_mem_nil, or_false] at hq; rcases hq with rfl | rfl | rfl | rfl | rfl <;> rfl) (key _ (if_pos c29).symm)
      · refine am_goX 2 (show pz_S 7 (some .int) am_r260 2 Q 75 [(6, .int (s.1 + (nI k))), (0, .ref 154), (1, .int x1), (2, .int x2), (3, .int (nI n3)), (4, .int a4), (5, .int (nI k))] [.int (Int32.ofInt 1), .int a4] h from ?_)
        exact sv_S2 sv2_260 (by intro q hq; simp only [List.mem_cons, List.not_mem_nil, or_false] at hq; rcases hq with rfl | rfl | rfl | rfl | rfl <;> rfl) (key _ (if_neg c29).symm)
    intro v30 e31
    subst e31
    refine am_goX 4 (show 4 < 7 ∧ 5 < 7 ∧ pz_S 7 (some .int) am_r260 2 Q 25 [(5, .int ((nI k) + (Int32.ofInt 1))), (4, .int (a4 + (if ¬ (d_225 (s.1 + (nI k)) (d_223 C s n3) (d_224 C (s.1 + (nI k)))) = ((s.1 + (nI k)) - (s.1 + (nI k)) / ((Int8.ofInt 7).toInt32) * ((Int8.ofInt 7).toInt32)) then Int32.ofInt 0 else Int32.ofInt 1))), (0, .ref 154), (1, .int x1), (2, .int x2), (3, .int (nI n3))] [] h from ⟨by decide, by decide, ?_⟩)
    rw [show (nI k) + (Int32.ofInt 1) = nI (k + 1) from (dn_a rfl rfl)]
    exact sv_S2 sv2_260 (by intro q hq; simp only [List.mem_cons, List.not_mem_nil, or_false] at hq; rcases hq with rfl | rfl | rfl | rfl | rfl | rfl <;> rfl) (ih (k + 1) (a4 + (if ¬ (d_225 (s.1 + (nI k)) (d_223 C s n3) (d_224 C (s.1 + (nI k)))) = ((s.1 + (nI k)) - (s.1 + (nI k)) / ((Int8.ofInt 7).toInt32) * ((Int8.ofInt 7).toInt32)) then Int32.ofInt 0 else Int32.ofInt 1)) (by omega) hZ)
def d_260_11 (C : sp_C) (s : dS) : Nat → Nat → Int32 → Int32 → Int32 × Int32
  | 0, _, a1, a2 => (a1, a2)
  | m + 1, k, a1, a2 => d_260_11 C s m (k + 1) (if (d_260_25 C s k 28 1 (Int32.ofInt 0)) ≤ a2 then a1 else nI k) (if (d_260_25 C s k 28 1 (Int32.ofInt 0)) ≤ a2 then a2 else d_260_25 C s k 28 1 (Int32.ofInt 0))
theorem d_260_11_M (hP : ex_P h) (hI : cI C) (hT : tR C h) (hO : ∀ e, e < dE C → h.1 172 e = dW V e) (hS : sR 0 (dP C) s h) : ∀ (m k : Nat) (a1 : Int32) (a2 : Int32), k + m = dP C → (pz_S 7 (some .int) am_r260 2 Q 115 [(1, .int ((d_260_11 C s m k a1 a2).1))] [] h) → pz_S 7 (some .int) am_r260 2 Q 11 [(0, .ref 154), (1, .int a1), (2, .int a2), (3, .int (nI k))] [] h := by
  intro m
  induction m with
  | zero =>
    intro k a1 a2 hk hZ
    have h6 := hT.1.2.1
    have h5 := hT.2.1.2.1
    refine am_goX 3 (show am_rc h 154 11 ∧ 1 ≤ 8 ∧ h.2.2.2.2 + am_al 186 ≤ 175 ∧ am_call am_cod 2 186 [.ref 154] h (fun vv h' => pz_S 7 (some .int) am_r260 2 Q 16 [(0, .ref 154), (1, .int a1), (2, .int a2), (3, .int (nI k))] (vv.toList ++ [.int (nI k)]) h') from ⟨Or.inl ⟨by decide, ex_154 hP⟩, by decide, ex_lim hP rfl, am_call.up (d_186_r hP hT ?_) (by decide)⟩)
    refine am_goX 1 (show ((nI (dP C)) ≤ (nI k) → pz_S 7 (some .int) am_r260 2 Q 115 [(0, .ref 154), (1, .int a1), (2, .int a2), (3, .int (nI k))] [] h) ∧ (¬ ((nI (dP C)) ≤ (nI k)) → pz_S 7 (some .int) am_r260 2 Q 19 [(0, .ref 154), (1, .int a1), (2, .int a2), (3, .int (nI k))] [] h) from ⟨fun _ => ?_, fun hz => absurd (show nI (dP C) ≤ nI k from nI_le (by omega) (by omega)) hz⟩)
    exact sv_S2 sv2_260 (by intro q hq; simp only [List.mem_cons, List.not_mem_nil, or_false] at hq; rcases hq with rfl <;> rfl) (hZ)
  | succ m ih =>
    intro k a1 a2 hk hZ
    have h6 := hT.1.2.1
    have h5 := hT.2.1.2.1
    refine am_goX 3 (show am_rc h 154 11 ∧ 1 ≤ 8 ∧ h.2.2.2.2 + am_al 186 ≤ 175 ∧ am_call am_cod 2 186 [.ref 154] h (fun vv h' => pz_S 7 (some .int) am_r260 2 Q 16 [(0, .ref 154), (1, .int a1), (2, .int a2), (3, .int (nI k))] (vv.toList ++ [.int (nI k)]) h') from ⟨Or.inl ⟨by decide, ex_154 hP⟩, by decide, ex_lim hP rfl, am_call.up (d_186_r hP hT ?_) (by decide)⟩)
    refine am_goX 1 (show ((nI (dP C)) ≤ (nI k) → pz_S 7 (some .int) am_r260 2 Q 115 [(0, .ref 154), (1, .int a1), (2, .int a2), (3, .int (nI k))] [] h) ∧ (¬ ((nI (dP C)) ≤ (nI k)) → pz_S 7 (some .int) am_r260 2 Q 19 [(0, .ref 154), (1, .int a1), (2, .int a2), (3, .int (nI k))] [] h) from ⟨fun hz => absurd hz (show ¬ (nI (dP C) ≤ nI k) by rw [nI_leI (by omega) (by omega)]; omega), fun _ => ?_⟩)
    refine am_goX 4 (show 4 < 7 ∧ 5 < 7 ∧ pz_S 7 (some .int) am_r260 2 Q 25 [(5, .int (Int32.ofInt 1)), (4, .int (Int32.ofInt 0)), (0, .ref 154), (1, .int a1), (2, .int a2), (3, .int (nI k))] [] h from ⟨by decide, by decide, ?_⟩)
    refine sv_S2 sv2_260 (by intro q hq; simp only [List.mem_cons, List.not_mem_nil, or_false] at hq; rcases hq with rfl | rfl | rfl | rfl | rfl | rfl <;> rfl) (d_260_25_M a1 a2 k hP hI hT hO hS (by omega) 28 1 (Int32.ofInt 0) (by omega) ?_)
    suffices key : ∀ (v30 : Int32), v30 = (if (d_260_25 C s k 28 1 (Int32.ofInt 0)) ≤ a2 then a1 else nI k) → pz_S 7 (some .int) am_r260 2 Q 95 [(0, .ref 154), (2, .int a2), (3, .int (nI k)), (4, .int (d_260_25 C s k 28 1 (Int32.ofInt 0)))] [.int v30] h by
      refine am_goX 3 (show ((d_260_25 C s k 28 1 (Int32.ofInt 0)) ≤ a2 → pz_S 7 (some .int) am_r260 2 Q 94 [(0, .ref 154), (1, .int a1), (2, .int a2), (3, .int (nI k)), (4, .int (d_260_25 C s k 28 1 (Int32.ofInt 0)))] [] h) ∧ (¬ ((d_260_25 C s k 28 1 (Int32.ofInt 0)) ≤ a2) → pz_S 7 (some .int) am_r260 2 Q 90 [(0, .ref 154), (1, .int a1), (2, .int a2), (3, .int (nI k)), (4, .int (d_260_25 C s k 28 1 (Int32.ofInt 0)))] [] h) from ⟨fun c29 => ?_, fun c29 => ?_⟩)
      · refine am_goX 1 (show pz_S 7 (some .int) am_r260 2 Q 95 [(0, .ref 154), (1, .int a1), (2, .int a2), (3, .int (nI k)), (4, .int (d_260_25 C s k 28 1 (Int32.ofInt 0)))] [.int a1] h from ?_)
        exact sv_S2 sv2_260 (by intro q hq; simp only [List.mem_cons, List.not_mem_nil, or_false] at hq; rcases hq with rfl | rfl | rfl | rfl <;> rfl) (key _ (if_pos c29).symm)
      · refine am_goX 2 (show pz_S 7 (some .int) am_r260 2 Q 95 [(0, .ref 154), (1, .int a1), (2, .int a2), (3, .int (nI k)), (4, .int (d_260_25 C s k 28 1 (Int32.ofInt 0)))] [.int (nI k)] h from ?_)
        exact sv_S2 sv2_260 (by intro q hq; simp only [List.mem_cons, List.not_mem_nil, or_false] at hq; rcases hq with rfl | rfl | rfl | rfl <;> rfl) (key _ (if_neg c29).symm)
    intro v30 e31
    subst e31
    suffices key : ∀ (v33 : Int32), v33 = (if (d_260_25 C s k 28 1 (Int32.ofInt 0)) ≤ a2 then a2 else d_260_25 C s k 28 1 (Int32.ofInt 0)) → pz_S 7 (some .int) am_r260 2 Q 108 [(0, .ref 154), (1, .int (if (d_260_25 C s k 28 1 (Int32.ofInt 0)) ≤ a2 then a1 else nI k)), (3, .int (nI k))] [.int v33] h by
      refine am_goX 4 (show 1 < 7 ∧ ((d_260_25 C s k 28 1 (Int32.ofInt 0)) ≤ a2 → pz_S 7 (some .int) am_r260 2 Q 107 [(1, .int (if (d_260_25 C s k 28 1 (Int32.ofInt 0)) ≤ a2 then a1 else nI k)), (0, .ref 154), (2, .int a2), (3, .int (nI k)), (4, .int (d_260_25 C s k 28 1 (Int32.ofInt 0)))] [] h) ∧ (¬ ((d_260_25 C s k 28 1 (Int32.ofInt 0)) ≤ a2) → pz_S 7 (some .int) am_r260 2 Q 102 [(1, .int (if (d_260_25 C s k 28 1 (Int32.ofInt 0)) ≤ a2 then a1 else nI k)), (0, .ref 154), (2, .int a2), (3, .int (nI k)), (4, .int (d_260_25 C s k 28 1 (Int32.ofInt 0)))] [] h) from ⟨by decide, fun c32 => ?_, fun c32 => ?_⟩)
      · refine am_goX 1 (show pz_S 7 (some .int) am_r260 2 Q 108 [(1, .int (if (d_260_25 C s k 28 1 (Int32.ofInt 0)) ≤ a2 then a1 else nI k)), (0, .ref 154), (2, .int a2), (3, .int (nI k)), (4, .int (d_260_25 C s k 28 1 (Int32.ofInt 0)))] [.int a2] h from ?_)
        exact sv_S2 sv2_260 (by intro q hq; simp only [List.mem_cons, List.not_mem_nil, or_false] at hq; rcases hq with rfl | rfl | rfl <;> rfl) (key _ (if_pos c32).symm)
      · refine am_goX 2 (show pz_S 7 (some .int) am_r260 2 Q 108 [(1, .int (if (d_260_25 C s k 28 1 (Int32.ofInt 0)) ≤ a2 then a1 else nI k)), (0, .ref 154), (2, .int a2), (3, .int (nI k)), (4, .int (d_260_25 C s k 28 1 (Int32.ofInt 0)))] [.int (d_260_25 C s k 28 1 (Int32.ofInt 0))] h from ?_)
        exact sv_S2 sv2_260 (by intro q hq; simp only [List.mem_cons, List.not_mem_nil, or_false] at hq; rcases hq with rfl | rfl | rfl <;> rfl) (key _ (if_neg c32).symm)
    intro v33 e34
    subst e34
    refine am_goX 3 (show 2 < 7 ∧ 3 < 7 ∧ pz_S 7 (some .int) am_r260 2 Q 11 [(3, .int ((nI k) + (Int32.ofInt 1))), (2, .int (if (d_260_25 C s k 28 1 (Int32.ofInt 0)) ≤ a2 then a2 else d_260_25 C s k 28 1 (Int32.ofInt 0))), (0, .ref 154), (1, .int (if (d_260_25 C s k 28 1 (Int32.ofInt 0)) ≤ a2 then a1 else nI k))] [] h from ⟨by decide, by decide, ?_⟩)
    rw [show (nI k) + (Int32.ofInt 1) = nI (k + 1) from (dn_a rfl rfl)]
    exact sv_S2 sv2_260 (by intro q hq; simp only [List.mem_cons, List.not_mem_nil, or_false] at hq; rcases hq with rfl | rfl | rfl | rfl <;> rfl) (ih (k + 1) (if (d_260_25 C s k 28 1 (Int32.ofInt 0)) ≤ a2 then a1 else nI k) (if (d_260_25 C s k 28 1 (Int32.ofInt 0)) ≤ a2 then a2 else d_260_25 C s k 28 1 (Int32.ofInt 0)) (by omega) hZ)
def d_260 (C : sp_C) (s : dS) : Int32 := (d_260_11 C s (dP C) 0 (Int32.ofInt (-1)) (Int32.ofInt (-1))).1
theorem d_260_M (hP : ex_P h) (hI : cI C) (hT : tR C h) (hO : ∀ e, e < dE C → h.1 172 e = dW V e) (hS : sR 0 (dP C) s h)  (hQ : ∀ g, Q (some (.int (d_260 C s))) g) : am_call am_cod 3 260 [.ref 154] h Q := by
  have h6 := hT.1.2.1
  have h5 := hT.2.1.2.1
  refine pz_call (n := 260) (nL := 7) (rt := (some .int)) (rows := am_r260) (d := 2) (by decide +kernel) (by decide +kernel) rfl (by funext pc; rfl) (ex_175 hP) (by exact Nat.le_of_ble_eq_true rfl) ?_
  refine am_goX 3 (show am_sh h 154 = some (11, 0) ∧ narrow (am_fty 11 0) (.int (Int32.ofInt 0)) = .int (Int32.ofInt 0) ∧ fits (am_fty 11 0) (.int (Int32.ofInt 0)) = true ∧ pz_S 7 (some .int) am_r260 2 Q 5 [(0, .ref 154)] [] (am_wI h 154 0 (Int32.ofInt 0)) from ⟨ex_154 hP, rfl, rfl, ?_⟩)
  have f24 : ex_P (am_wI h 154 0 (Int32.ofInt 0)) := hP
  have f25 : cI C := hI
  have f26 : tR C (am_wI h 154 0 (Int32.ofInt 0)) := tR_w (by omega) hT
  have f27 : ∀ e, e < dE C → (am_wI h 154 0 (Int32.ofInt 0)).1 172 e = dW V e := on_w (by omega) hO
  have f28 : sR 0 (dP C) s (am_wI h 154 0 (Int32.ofInt 0)) := sR_o (by omega) hS
  generalize am_wI h 154 0 (Int32.ofInt 0) = h23 at f24 f25 f26 f27 f28 ⊢
  refine am_goX 6 (show 1 < 7 ∧ 2 < 7 ∧ 3 < 7 ∧ pz_S 7 (some .int) am_r260 2 Q 11 [(3, .int (Int32.ofInt 0)), (2, .int (Int32.ofInt (-1))), (1, .int (Int32.ofInt (-1))), (0, .ref 154)] [] h23 from ⟨by decide, by decide, by decide, ?_⟩)
  refine sv_S2 sv2_260 (by intro q hq; simp only [List.mem_cons, List.not_mem_nil, or_false] at hq; rcases hq with rfl | rfl | rfl | rfl <;> rfl) (d_260_11_M f24 f25 f26 f27 f28 (dP C) 0 (Int32.ofInt (-1)) (Int32.ofInt (-1)) (by omega) ?_)
  exact am_goX 2 (show (∃ ty, (some .int) = some ty ∧ narrow ty (.int ((d_260_11 C s (dP C) 0 (Int32.ofInt (-1)) (Int32.ofInt (-1))).1)) = .int ((d_260_11 C s (dP C) 0 (Int32.ofInt (-1)) (Int32.ofInt (-1))).1)) ∧ h23.2.2.2.2 = 175 ∧ _ from ⟨⟨.int, rfl, rfl⟩, ex_175 f24, hQ _⟩)
theorem sd_1 {C : sp_C} {D : Nat} {s : dS} (hs : sI C D s) (hD : D ≤ 4000) {p : Nat} (hp : p < dP C) {k : Nat} (hk : k ≤ 100) : (d_225 (s.1 + nI k) (d_223 C s p) (d_224 C (s.1 + nI k)) = (s.1 + nI k) - (s.1 + nI k) / ((Int8.ofInt 7).toInt32) * ((Int8.ofInt 7).toInt32)) ↔ (¬ d_68 C (s.1 + nI k) = 0 ∨ d_89 C s p = 0) := by
  obtain ⟨⟨d, hd, e1⟩, hl, -⟩ := hs
  obtain ⟨l, l5, e2⟩ := hl p hp
  rw [e1, nI_add, d_68_e, (k90a (show d + k < 4352 by omega)).2]
  have key : ∀ l, l < 5 → (nI l - Int32.ofInt 2 = 0 ↔ l = 2) := by decide +kernel
  rcases d_224_01 C (nI (d + k)) with w | w
  · rw [w]
    unfold d_223 d_89
    rw [e2]
    by_cases hg : ¬ dK C p = Int32.ofInt 3
    · rw [if_pos hg, to_2 (show d + k ≤ 4200 by omega) l5, key l l5]
      constructor
      · intro h
        have h := (nI_eq (by omega) (by omega)).mp h
        exact Or.inr (by omega)
      · rintro (h | rfl)
        · exact absurd rfl h
        · congr 1
          omega
    · rw [if_neg hg]
      unfold d_225
      rw [if_pos (by decide), xw_i0, show nI (d + k) + (Int8.ofInt 7).toInt32 = nI (d + k + 7) from nI_add _ 7, (k90a (show d + k + 7 < 4352 by omega)).2]
      exact ⟨fun _ => Or.inr rfl, fun _ => by congr 1; omega⟩
  · rw [w]
    unfold d_225
    rw [if_neg (show ¬ ¬ Int32.ofInt 1 = Int32.ofInt 1 from fun q => q rfl), (k90a (show d + k < 4352 by omega)).2]
    exact ⟨fun _ => Or.inl (by decide), fun _ => rfl⟩
theorem st_25 {C : sp_C} {D : Nat} {s : dS} (hs : sI C D s) (hD : D ≤ 4000) {p : Nat} (hp : p < dP C) : ∀ (m k : Nat) (a : Int32), k + m = 29 → d_260_25 C s p m k a = d_159_4 C s p m k a := by
  intro m
  induction m with
  | zero => exact fun _ _ _ => rfl
  | succ m ih =>
    intro k a hk
    rw [d_260_25, d_159_4]
    have w := sd_1 hs hD hp (show k ≤ 100 by omega)
    by_cases e1 : d_68 C (s.1 + nI k) = 0
    · rw [if_neg (show ¬ ¬ d_68 C (s.1 + nI k) = 0 from fun z => z e1)]
      by_cases e2 : d_89 C s p = 0
      · rw [if_neg (show ¬ ¬ d_89 C s p = 0 from fun z => z e2), if_neg (fun z => z (w.mpr (Or.inr e2)))]
        exact ih _ _ (by omega)
      · rw [if_pos e2, if_pos (fun z => (w.mp z).elim (fun q => q e1) e2), show a + Int32.ofInt 0 = a from Int32.add_zero _]
        exact ih _ _ (by omega)
    · rw [if_pos e1, if_neg (fun z => z (w.mpr (Or.inl e1)))]
      exact ih _ _ (by omega)
theorem st_e {C : sp_C} {D : Nat} {s : dS} (hs : sI C D s) (hD : D ≤ 4000) : ∀ (m k : Nat) (a b : Int32), k + m = dP C → d_260_11 C s m k b a = ((d_158_6 C s m k a b).2, (d_158_6 C s m k a b).1) := by
  intro m
  induction m with
  | zero => exact fun _ _ _ _ => rfl
  | succ m ih =>
    intro k a b hk
    have e0 : d_260_25 C s k 28 1 (Int32.ofInt 0) = d_159 C s k := st_25 hs hD (by omega) 28 1 _ (by omega)
    rw [d_260_11, d_158_6, e0]
    exact ih _ _ _ (by omega)
theorem q_158 {h : am_H} {C : sp_C} {D : Nat} {s : dS} {H : dH} {M : dMk} {n : Nat} (hI : iv_I h) (i : KI C D s H M n) (j : KC C s H M n h) : am_call am_cod 60 158 [.ref 0] h (fun v _ => v = some (.int (d_158 C s))) := by
  have hP := iv_P hI
  have hc := i.1
  obtain ⟨c, c1, c2, c3, c4, c5, -⟩ := j
  rcases c1 with rfl | rfl
  · exact am_call.up (d_158_N6 hP hc c3 c4 c2 c5 rfl) (by decide)
  · exact am_call.up (d_158_N17 hP hc c3 c4 c2 c5 rfl) (by decide)
theorem q_260 {h : am_H} {C : sp_C} {D : Nat} {s : dS} {H : dH} {M : dMk} {n : Nat} (hI : iv_I h) (i : KI C D s H M n) (hD : D ≤ 1000) (j : KR C s H M n h) : am_call am_cod 60 260 [.ref 154] h (fun v _ => v = some (.int (d_158 C s))) := by
  have hP := iv_P hI
  have hc := i.1
  obtain ⟨r1, r2, r3, -⟩ := j
  have e : d_260 C s = d_158 C s := by
    unfold d_260 d_158
    rw [st_e i.2.1 (by omega) (dP C) 0 (Int32.ofInt (-1)) (Int32.ofInt (-1)) (by omega)]
  exact am_call.up (d_260_M hP hc r1 r2 r3 (fun g => by rw [e])) (by decide)
end
