/-! THE CLASS'S TOKEN AT HAND -/
variable {h h0 : am_H} {sz p a n : Nat} {T : Nat → Int32} {Q : am_Q}
theorem i32_nI {x : Int32} (h0 : 0 ≤ x.toInt) : x = nI x.toInt.toNat := by
  have := x.toInt_lt
  refine Int32.toInt_inj.mp ?_
  rw [nI_toInt (by omega)]
  omega
theorem tk_all {f : Int32 → Bool} {sz : Nat} : ∀ (m k : Nat), k ≤ sz → sz ≤ k + m → ∀ j, k ≤ j → j < tk_go f T sz k → f (T j) = true := by
  intro m
  induction m with
  | zero =>
    intro k hk hm j h1 h2
    rw [tk_go_n (fun w => absurd w (by omega))] at h2
    omega
  | succ m ih =>
    intro k hk hm j h1 h2
    by_cases w : k < sz ∧ f (T k) = true
    · by_cases ej : j = k
      · rw [ej]
        exact w.2
      · rw [tk_go_y w.1 w.2] at h2
        exact ih (k + 1) (by omega) (by omega) j (by omega) h2
    · rw [tk_go_n (fun z => by
        cases hb : f (T k) with
        | false => rfl
        | true => exact absurd ⟨z, hb⟩ w)] at h2
      omega
def tk_r (T : Nat → Int32) (b p j : Nat) : Nat := (T (p + j)).toInt.toNat - b
theorem lt_let {x : Int32} (e : pz_let x = true) : 97 ≤ x.toInt ∧ x.toInt ≤ 122 := by
  unfold pz_let at e
  simp only [Bool.and_eq_true, Bool.not_eq_true', decide_eq_false_iff_not, Int32.lt_iff_toInt_lt] at e
  have e1 : ¬ x.toInt < 97 := e.1
  have e2 : ¬ 122 < x.toInt := e.2
  omega
theorem lt_dig {x : Int32} (e : pz_dig x = true) : 48 ≤ x.toInt ∧ x.toInt ≤ 57 := by
  unfold pz_dig at e
  simp only [Bool.and_eq_true, Bool.not_eq_true', decide_eq_false_iff_not, Int32.lt_iff_toInt_lt] at e
  have e1 : ¬ x.toInt < 48 := e.1
  have e2 : ¬ 57 < x.toInt := e.2
  omega
theorem cw_eq : ∀ {n : Nat}, (∀ j, j < n → pz_let (T (p + j)) = true) → n ≤ 8 → tk_lv T p n = Int64.ofNat (bse 37 0 (tk_r T 96 p) n) ∧ cw T p n = Int64.ofNat (bse 256 96 (tk_r T 96 p) n) ∧ bsv (tk_r T 96 p) n
  | 0, _, _ => ⟨rfl, rfl, fun i hi => absurd hi (Nat.not_lt_zero i)⟩
  | n + 1, hT, hn => by
    obtain ⟨e1, e2, e3⟩ := cw_eq (n := n) (fun j hj => hT j (by omega)) (by omega)
    have hb := lt_let (hT n (by omega))
    have hx := i32_nI (x := T (p + n)) (by omega)
    have hv : bsv (tk_r T 96 p) (n + 1) := by
      intro i hi
      have hb := lt_let (hT i hi)
      unfold tk_r
      omega
    have hm : (T (p + n)).toInt.toNat = 96 + tk_r T 96 p n := by
      unfold tk_r
      omega
    refine ⟨?_, ?_, hv⟩
    · show (bif Nat.blt n 8 then am_kl 26 * tk_lv T p n + (tk_rk (T (p + n))).toInt64 else tk_lv T p n) = Int64.ofNat (37 * bse 37 0 (tk_r T 96 p) n + (0 + tk_r T 96 p n))
      rw [tk_blt.mpr (show n < 8 by omega)]
      show am_kl 26 * tk_lv T p n + (tk_rk (T (p + n))).toInt64 = _
      unfold tk_rk
      rw [hT n (by omega), e1]
      show Int64.ofNat 37 * _ + (T (p + n) - nI 96).toInt64 = _
      rw [hx, hm, tk_sub (by omega), Int64.ofNat_add, Int64.ofNat_mul, Nat.zero_add, Nat.add_sub_cancel_left]
      congr 1
      have h4 := hv n (by omega)
      exact Int64.toInt_inj.mp (by rw [Int32.toInt_toInt64, nI_toInt (by omega), Int64.toInt_ofNat_of_lt (by omega)])
    · show ((cw T p n) <<< (((Int8.ofInt 8).toInt32).toInt64 &&& 63)) ||| (T (p + n)).toInt64 = Int64.ofNat (256 * bse 256 96 (tk_r T 96 p) n + (96 + tk_r T 96 p n))
      have h4 := hv n (by omega)
      have h5 := bse_lt (B := 256) (f := 96) (by decide) e3
      have h6 : 256 ^ n ≤ 256 ^ 7 := Nat.pow_le_pow_right (by omega) (by omega)
      have h7 : (256 : Nat) ^ 7 = 2 ^ 56 := by decide +kernel
      rw [e2, hx, hm, ← i64_sh (by omega) (by omega)]
      congr 1
      exact Int64.toInt_inj.mp (by rw [Int32.toInt_toInt64, nI_toInt (by omega), Int64.toInt_ofNat_of_lt (by omega)])
theorem cn_lt {r : Nat → Nat} : ∀ {n : Nat}, (∀ i, i < n → r i ≤ 9) → bse 10 0 r n < 10 ^ n
  | 0, _ => Nat.lt_succ_self 0
  | n + 1, h => by
    have ih := cn_lt (n := n) (fun i hi => h i (by omega))
    have hr := h n (by omega)
    show 10 * bse 10 0 r n + (0 + r n) < 10 ^ n * 10
    omega
theorem cn_eq : ∀ {n : Nat}, (∀ j, j < n → pz_dig (T (p + j)) = true) → n ≤ 4 → tk_dv T p n = Int64.ofNat (bse 10 0 (tk_r T 48 p) n) ∧ cn T p n = nI (bse 10 0 (tk_r T 48 p) n) ∧ ∀ i, i < n → tk_r T 48 p i ≤ 9
  | 0, _, _ => ⟨rfl, rfl, fun i hi => absurd hi (Nat.not_lt_zero i)⟩
  | n + 1, hT, hn => by
    obtain ⟨e1, e2, e3⟩ := cn_eq (n := n) (fun j hj => hT j (by omega)) (by omega)
    have hb := lt_dig (hT n (by omega))
    have hx := i32_nI (x := T (p + n)) (by omega)
    have hv : ∀ i, i < n + 1 → tk_r T 48 p i ≤ 9 := by
      intro i hi
      have hb := lt_dig (hT i hi)
      unfold tk_r
      omega
    have hm : (T (p + n)).toInt.toNat = tk_r T 48 p n + 48 := by
      unfold tk_r
      omega
    have h4 := hv n (by omega)
    refine ⟨?_, ?_, hv⟩
    · show (bif Nat.blt n 4 then am_kl 27 * tk_dv T p n + (T (p + n)).toInt64 - am_kl 28 else tk_dv T p n) = Int64.ofNat (10 * bse 10 0 (tk_r T 48 p) n + (0 + tk_r T 48 p n))
      rw [tk_blt.mpr (show n < 4 by omega)]
      show Int64.ofNat 10 * tk_dv T p n + (T (p + n)).toInt64 - Int64.ofNat 48 = _
      have h5 : (nI (tk_r T 48 p n + 48)).toInt64 = Int64.ofNat (tk_r T 48 p n + 48) := Int64.toInt_inj.mp (by rw [Int32.toInt_toInt64, nI_toInt (by omega), Int64.toInt_ofNat_of_lt (by omega)])
      rw [e1, hx, hm, h5, Int64.ofNat_add, ← Int64.add_assoc, Int64.add_sub_cancel, Int64.ofNat_add, Int64.ofNat_mul, Nat.zero_add]
    · show cn T p n * nI 10 + (T (p + n) - nI 48) = nI (10 * bse 10 0 (tk_r T 48 p) n + (0 + tk_r T 48 p n))
      rw [e2, hx, hm, tk_sub (by omega), Nat.add_sub_cancel, Nat.zero_add, ← nI_add, Nat.mul_comm]
      congr 1
      exact (Int32.ofNat_mul _ _).symm
/-- the kind of the token at a place, where it ends -/
def kz (T : Nat → Int32) (sz p : Nat) : Int32 := bif Nat.blt p sz then tk_kd T sz p else 0
def ez (T : Nat → Int32) (sz p : Nat) : Nat := bif Nat.blt p sz then tk_en T sz p else p
def c_p (T : Nat → Int32) (sz p : Nat) (h : am_H) : Prop := h.1 1 3 = nI p ∧ h.1 1 2 = ck (kz T sz p) ∧ h.1 1 4 = nI (ez T sz p) ∧ (kz T sz p = 1 → cwk (tk_vl T sz p) (h.2.1 1 5)) ∧ (kz T sz p = 2 → cnk (tk_vl T sz p) (h.1 1 6))
theorem cs_kw (hps : p < sz) (hl : pz_let (T p) = true) : kz T sz p = (bif Nat.blt 8 (tk_go pz_let T sz p - p) then 4 else 1) ∧ ez T sz p = tk_go pz_let T sz p ∧ tk_vl T sz p = tk_lv T p (tk_go pz_let T sz p - p) := by
  unfold kz ez tk_kd tk_en tk_vl
  rw [tk_blt.mpr hps, hl]
  exact ⟨rfl, rfl, rfl⟩
theorem cs_kn (hps : p < sz) (hl : pz_let (T p) = false) (hd : pz_dig (T p) = true) : kz T sz p = (bif Nat.blt 4 (tk_go pz_dig T sz p - p) then 4 else 2) ∧ ez T sz p = tk_go pz_dig T sz p ∧ tk_vl T sz p = tk_dv T p (tk_go pz_dig T sz p - p) := by
  unfold kz ez tk_kd tk_en tk_vl
  rw [tk_blt.mpr hps, hl, hd]
  exact ⟨rfl, rfl, rfl⟩
theorem cs_ks (hps : p < sz) (hl : pz_let (T p) = false) (hd : pz_dig (T p) = false) : kz T sz p = (bif tk_sn (T p) then 3 else 4) ∧ ez T sz p = p + 1 ∧ tk_vl T sz p = (T p).toInt64 := by
  unfold kz ez tk_kd tk_en tk_vl
  rw [tk_blt.mpr hps, hl, hd]
  exact ⟨rfl, rfl, rfl⟩
theorem cs_ke (hps : ¬ p < sz) : kz T sz p = 0 ∧ ez T sz p = p := by
  unfold kz ez
  rw [tk_bltf hps]
  exact ⟨rfl, rfl⟩
/-- after stepWord -/
theorem c_pw (hps : p < sz) (hl : pz_let (T p) = true) (e3 : h.1 1 3 = nI p) (e4 : h.1 1 4 = nI (tk_go pz_let T sz p)) (e5 : h.2.1 1 5 = cw T p (tk_go pz_let T sz p - p)) (e2 : h.1 1 2 = (bif Nat.blt 8 (tk_go pz_let T sz p - p) then 0 else 1)) : c_p T sz p h := by
  obtain ⟨k1, k2, k3⟩ := cs_kw hps hl
  have hge := tk_ge pz_let T (Nat.le_of_lt hps)
  unfold c_p
  rw [k1, k2, k3]
  cases hb : Nat.blt 8 (tk_go pz_let T sz p - p) with
  | true =>
    rw [hb] at e2
    exact ⟨e3, e2, e4, fun w => absurd w (by decide), fun w => absurd w (by decide)⟩
  | false =>
    rw [hb] at e2
    refine ⟨e3, e2, e4, fun _ => ?_, fun w => absurd w (by decide)⟩
    have hn : tk_go pz_let T sz p - p ≤ 8 := by
      rcases Nat.lt_or_ge 8 (tk_go pz_let T sz p - p) with w | w
      · rw [tk_blt.mpr w] at hb
        cases hb
      · exact w
    have hall := tk_all (T := T) (f := pz_let) (sz := sz) sz p (by omega) (by omega)
    obtain ⟨w1, w2, w3⟩ := cw_eq (T := T) (p := p) (n := tk_go pz_let T sz p - p) (fun j hj => hall (p + j) (by omega) (by omega)) hn
    exact ⟨_, _, hn, w3, w1, e5.trans w2⟩
theorem c_pn (hps : p < sz) (hl : pz_let (T p) = false) (hd : pz_dig (T p) = true) (e3 : h.1 1 3 = nI p) (e4 : h.1 1 4 = nI (tk_go pz_dig T sz p)) (e5 : h.1 1 6 = cn T p (tk_go pz_dig T sz p - p)) (e2 : h.1 1 2 = (bif Nat.blt 4 (tk_go pz_dig T sz p - p) then 0 else 2)) : c_p T sz p h := by
  obtain ⟨k1, k2, k3⟩ := cs_kn hps hl hd
  have hge := tk_ge pz_dig T (Nat.le_of_lt hps)
  unfold c_p
  rw [k1, k2, k3]
  cases hb : Nat.blt 4 (tk_go pz_dig T sz p - p) with
  | true =>
    rw [hb] at e2
    exact ⟨e3, e2, e4, fun w => absurd w (by decide), fun w => absurd w (by decide)⟩
  | false =>
    rw [hb] at e2
    refine ⟨e3, e2, e4, fun w => absurd w (by decide), fun _ => ?_⟩
    have hn : tk_go pz_dig T sz p - p ≤ 4 := by
      rcases Nat.lt_or_ge 4 (tk_go pz_dig T sz p - p) with w | w
      · rw [tk_blt.mpr w] at hb
        cases hb
      · exact w
    have hall := tk_all (T := T) (f := pz_dig) (sz := sz) sz p (by omega) (by omega)
    obtain ⟨w1, w2, w3⟩ := cn_eq (T := T) (p := p) (n := tk_go pz_dig T sz p - p) (fun j hj => hall (p + j) (by omega) (by omega)) hn
    have h5 := cn_lt w3
    have h6 : 10 ^ (tk_go pz_dig T sz p - p) ≤ 10 ^ 4 := Nat.pow_le_pow_right (by omega) hn
    exact ⟨_, by omega, w1, e5.trans w2⟩
/-- the tokens, as the spec has them -/
def tt (T : Nat → Int32) (sz : Nat) : sp_T := fun a => (kz T sz (tk_pl T sz a), tk_vl T sz (tk_pl T sz a), tk_pl T sz a)
/-- the token at hand is the a-th -/
def c_t (T : Nat → Int32) (sz a : Nat) (h : am_H) : Prop := (ex_P h ∧ sz ≤ 1000 ∧ (∀ q, q < sz → 0 ≤ (T q).toInt ∧ (T q).toInt ≤ 126)) ∧ h.1 1 1 = nI sz ∧ (∀ q, q < sz → h.1 2 q = T q) ∧ h.1 1 7 = 0 ∧ a ≤ tk_pl T sz a ∧ tk_pl T sz a ≤ sz ∧ c_p T sz (tk_pl T sz a) h
theorem sg_b : st_b 0 0 = 40 ∧ st_b 0 1 = 41 ∧ st_b 0 2 = 60 ∧ st_b 0 3 = 61 ∧ st_b 0 4 = 43 ∧ st_b 0 5 = 45 ∧ st_b 0 6 = 42 ∧ st_b 0 7 = 59 ∧ am_sln.getD 0 0 = 8 := by decide +kernel
def sg_r (x : Int32) : Int32 := bif tk_sn x then 0 else -1
/-- the first of the signs from i on that is x, or -1 -/
def sg_i (x : Int32) : Nat → Nat → Int32
  | 0, _ => Int32.ofInt (-1)
  | m + 1, i => bif decide (st_b 0 i = x) then nI i else sg_i x m (i + 1)
theorem sg_ok {x : Int32} : decide (sg_i x 8 0 < 0) = !tk_sn x := by
  obtain ⟨b0, b1, b2, b3, b4, b5, b6, b7, -⟩ := sg_b
  simp only [sg_i, b0, b1, b2, b3, b4, b5, b6, b7]
  by_cases c0 : x = 40
  · subst c0; decide +kernel
  by_cases c1 : x = 41
  · subst c1; decide +kernel
  by_cases c2 : x = 60
  · subst c2; decide +kernel
  by_cases c3 : x = 61
  · subst c3; decide +kernel
  by_cases c4 : x = 43
  · subst c4; decide +kernel
  by_cases c5 : x = 45
  · subst c5; decide +kernel
  by_cases c6 : x = 42
  · subst c6; decide +kernel
  by_cases c7 : x = 59
  · subst c7; decide +kernel
  rw [decide_eq_false (show ¬ (40 : Int32) = x from fun e => c0 e.symm), decide_eq_false (show ¬ (41 : Int32) = x from fun e => c1 e.symm), decide_eq_false (show ¬ (60 : Int32) = x from fun e => c2 e.symm), decide_eq_false (show ¬ (61 : Int32) = x from fun e => c3 e.symm), decide_eq_false (show ¬ (43 : Int32) = x from fun e => c4 e.symm), decide_eq_false (show ¬ (45 : Int32) = x from fun e => c5 e.symm), decide_eq_false (show ¬ (42 : Int32) = x from fun e => c6 e.symm), decide_eq_false (show ¬ (59 : Int32) = x from fun e => c7 e.symm)]
  have e : tk_sn x = false := by
    unfold tk_sn
    rw [decide_eq_false (show ¬ x = (Int8.ofInt 40).toInt32 from c0), decide_eq_false (show ¬ x = (Int8.ofInt 41).toInt32 from c1), decide_eq_false (show ¬ x = (Int8.ofInt 59).toInt32 from c7), decide_eq_false (show ¬ x = (Int8.ofInt 61).toInt32 from c3), decide_eq_false (show ¬ x = (Int8.ofInt 60).toInt32 from c2), decide_eq_false (show ¬ x = (Int8.ofInt 43).toInt32 from c4), decide_eq_false (show ¬ x = (Int8.ofInt 45).toInt32 from c5), decide_eq_false (show ¬ x = (Int8.ofInt 42).toInt32 from c6)]
    rfl
  rw [e]
  decide +kernel
theorem sg_30l {x y : Int32} (hP : ex_P h) : ∀ (m i : Nat), i + m = 8 → Q (some (.int (sg_i x m i))) h → pz_S 6 (some .int) am_r30 0 Q 7 [(5, .int (nI i)), (4, .int x), (0, .ref (5000000 + 0)), (1, .int y), (2, .int (nI 0)), (3, .int (nI 8))] [] h := by
  intro m
  induction m with
  | zero =>
    intro i hi hQ
    refine am_goX 3 (show (nI 8 ≤ nI i → pz_S 6 (some .int) am_r30 0 Q 31 [(5, .int (nI i)), (4, .int x), (0, .ref (5000000 + 0)), (1, .int y), (2, .int (nI 0)), (3, .int (nI 8))] [] h) ∧ (¬ nI 8 ≤ nI i → pz_S 6 (some .int) am_r30 0 Q 13 [(5, .int (nI i)), (4, .int x), (0, .ref (5000000 + 0)), (1, .int y), (2, .int (nI 0)), (3, .int (nI 8))] [] h) from ⟨fun _ => ?_, fun z => absurd (nI_le (by omega) (by omega)) z⟩)
    exact am_goX 2 (show (∃ ty, (some FieldType.int) = some ty ∧ narrow ty (.int (Int32.ofInt (-1))) = .int (Int32.ofInt (-1))) ∧ h.2.2.2.2 = 175 ∧ _ from ⟨⟨.int, rfl, rfl⟩, ex_175 hP, hQ⟩)
  | succ m ih =>
    intro i hi hQ
    refine am_goX 3 (show (nI 8 ≤ nI i → pz_S 6 (some .int) am_r30 0 Q 31 [(5, .int (nI i)), (4, .int x), (0, .ref (5000000 + 0)), (1, .int y), (2, .int (nI 0)), (3, .int (nI 8))] [] h) ∧ (¬ nI 8 ≤ nI i → pz_S 6 (some .int) am_r30 0 Q 13 [(5, .int (nI i)), (4, .int x), (0, .ref (5000000 + 0)), (1, .int y), (2, .int (nI 0)), (3, .int (nI 8))] [] h) from ⟨fun z => absurd (by rw [nI_leI (by omega) (by omega)] at z; exact z) (by omega : ¬ 8 ≤ i), fun _ => ?_⟩)
    refine am_goX 3 (show (∃ j n : Nat, am_sh h (5000000 + 0) = some (15, n) ∧ j < n ∧ nI i = nI j ∧ pz_S 6 (some .int) am_r30 0 Q 17 [(5, .int (nI i)), (4, .int x), (0, .ref (5000000 + 0)), (1, .int y), (2, .int (nI 0)), (3, .int (nI 8))] [.int (h.1 (5000000 + 0) j)] h) ∨ (∃ q9 j : Nat, q9 < 26 ∧ 5000000 + 0 = 5000000 + q9 ∧ j < am_sln.getD q9 0 ∧ nI i = nI j ∧ pz_S 6 (some .int) am_r30 0 Q 17 [(5, .int (nI i)), (4, .int x), (0, .ref (5000000 + 0)), (1, .int y), (2, .int (nI 0)), (3, .int (nI 8))] [.int (st_b q9 j)] h) from Or.inr ⟨0, i, by decide, rfl, by rw [sg_b.2.2.2.2.2.2.2.2]; omega, rfl, ?_⟩)
    refine am_goX 2 (show (¬ st_b 0 i = x → pz_S 6 (some .int) am_r30 0 Q 25 [(5, .int (nI i)), (4, .int x), (0, .ref (5000000 + 0)), (1, .int y), (2, .int (nI 0)), (3, .int (nI 8))] [] h) ∧ (¬ ¬ st_b 0 i = x → pz_S 6 (some .int) am_r30 0 Q 22 [(5, .int (nI i)), (4, .int x), (0, .ref (5000000 + 0)), (1, .int y), (2, .int (nI 0)), (3, .int (nI 8))] [] h) from ⟨fun hc => ?_, fun hc => ?_⟩)
    · refine am_goX 2 (show 5 < 6 ∧ pz_S 6 (some .int) am_r30 0 Q 7 [(5, .int (nI i + Int32.ofInt 1)), (4, .int x), (0, .ref (5000000 + 0)), (1, .int y), (2, .int (nI 0)), (3, .int (nI 8))] [] h from ⟨by decide, ?_⟩)
      rw [xw_i1]
      have e : sg_i x (m + 1) i = sg_i x m (i + 1) := by
        show (bif decide (st_b 0 i = x) then nI i else sg_i x m (i + 1)) = _
        rw [decide_eq_false hc]
        rfl
      rw [e] at hQ
      exact ih (i + 1) (by omega) hQ
    · have e : sg_i x (m + 1) i = nI i := by
        show (bif decide (st_b 0 i = x) then nI i else sg_i x m (i + 1)) = _
        rw [decide_eq_true (Decidable.not_not.mp hc)]
        rfl
      rw [e] at hQ
      exact am_goX 2 (show (∃ ty, (some FieldType.int) = some ty ∧ narrow ty (.int (nI i)) = .int (nI i)) ∧ h.2.2.2.2 = 175 ∧ _ from ⟨⟨.int, rfl, rfl⟩, ex_175 hP, hQ⟩)
theorem sg_30 {x : Int32} (hP : ex_P h) (hx : 0 ≤ x.toInt ∧ x.toInt ≤ 126) (hQ : Q (some (.int (sg_i x 8 0))) h) : am_call am_cod 1 30 [.ref (5000000 + 0), .int x, .int (nI 0), .int (nI 8)] h Q := by
  refine pz_call (n := 30) (nL := 6) (rt := (some .int)) (rows := am_r30) (d := 0) (by decide +kernel) (by decide +kernel) rfl (by funext pc; rfl) (ex_175 hP) (by exact Nat.le_of_ble_eq_true rfl) ?_
  refine am_goX 5 (show 4 < 6 ∧ 5 < 6 ∧ pz_S 6 (some .int) am_r30 0 Q 7 [(5, .int (nI 0)), (4, .int x.toInt8.toInt32), (0, .ref (5000000 + 0)), (1, .int x), (2, .int (nI 0)), (3, .int (nI 8))] [] h from ⟨by decide, by decide, ?_⟩)
  have e : x.toInt8.toInt32 = x := by
    refine Int32.toInt_inj.mp ?_
    rw [Int8.toInt_toInt32, Int32.toInt_toInt8]
    exact Int.bmod_eq_of_le (by omega) (by omega)
  rw [e]
  exact sg_30l hP 8 0 rfl hQ
theorem sg_28 (hP : ex_P h) (hQ : Q (some (.int (nI 0))) h) : am_call am_cod 1 28 [.int (nI 0), .int (Int32.ofInt 0)] h Q := by
  refine pz_call (n := 28) (nL := 2) (rt := (some .int)) (rows := am_r28) (d := 0) (by decide +kernel) (by decide +kernel) rfl (by funext pc; rfl) (ex_175 hP) (by exact Nat.le_of_ble_eq_true rfl) ?_
  refine am_goX 3 (show (nI 0 < Int32.ofInt 0 → pz_S 2 (some .int) am_r28 0 Q 9 [(0, .int (nI 0)), (1, .int (Int32.ofInt 0))] [] h) ∧ (¬ nI 0 < Int32.ofInt 0 → pz_S 2 (some .int) am_r28 0 Q 5 [(0, .int (nI 0)), (1, .int (Int32.ofInt 0))] [] h) from ⟨fun z => absurd z (by decide), fun _ => ?_⟩)
  exact am_goX 3 (show (∃ ty, (some FieldType.int) = some ty ∧ narrow ty (.int (nI 0)) = .int (nI 0)) ∧ h.2.2.2.2 = 175 ∧ _ from ⟨⟨.int, rfl, rfl⟩, ex_175 hP, hQ⟩)
theorem sg_29 (hP : ex_P h) (hQ : Q (some (.int (nI 8))) h) : am_call am_cod 1 29 [.int (nI 8), .int (nI 8)] h Q := by
  refine pz_call (n := 29) (nL := 2) (rt := (some .int)) (rows := am_r29) (d := 0) (by decide +kernel) (by decide +kernel) rfl (by funext pc; rfl) (ex_175 hP) (by exact Nat.le_of_ble_eq_true rfl) ?_
  refine am_goX 3 (show (nI 8 < nI 8 → pz_S 2 (some .int) am_r29 0 Q 9 [(0, .int (nI 8)), (1, .int (nI 8))] [] h) ∧ (¬ nI 8 < nI 8 → pz_S 2 (some .int) am_r29 0 Q 5 [(0, .int (nI 8)), (1, .int (nI 8))] [] h) from ⟨fun z => absurd z (by decide), fun _ => ?_⟩)
  exact am_goX 3 (show (∃ ty, (some FieldType.int) = some ty ∧ narrow ty (.int (nI 8)) = .int (nI 8)) ∧ h.2.2.2.2 = 175 ∧ _ from ⟨⟨.int, rfl, rfl⟩, ex_175 hP, hQ⟩)
theorem sg_27 {x : Int32} (hP : ex_P h) (hx : 0 ≤ x.toInt ∧ x.toInt ≤ 126) (hQ : Q (some (.int (Int32.ofInt 1))) h) : am_call am_cod 1 27 [.int x] h Q := by
  refine pz_call (n := 27) (nL := 1) (rt := (some .boolean)) (rows := am_r27) (d := 0) (by decide +kernel) (by decide +kernel) rfl (by funext pc; rfl) (ex_175 hP) (by exact Nat.le_of_ble_eq_true rfl) ?_
  refine am_goX 2 (show (x < 0 → pz_S 1 (some .boolean) am_r27 0 Q 15 [(0, .int x)] [] h) ∧ (¬ x < 0 → pz_S 1 (some .boolean) am_r27 0 Q 4 [(0, .int x)] [] h) from ⟨fun z => absurd (Int32.lt_iff_toInt_lt.mp z) (by rw [show (0 : Int32).toInt = 0 from rfl]; omega), fun _ => ?_⟩)
  refine am_goX 3 (show ((Int16.ofInt 255).toInt32 < x → pz_S 1 (some .boolean) am_r27 0 Q 15 [(0, .int x)] [] h) ∧ (¬ (Int16.ofInt 255).toInt32 < x → pz_S 1 (some .boolean) am_r27 0 Q 11 [(0, .int x)] [] h) from ⟨fun z => absurd (Int32.lt_iff_toInt_lt.mp z) (by rw [show ((Int16.ofInt 255).toInt32).toInt = 255 from rfl]; omega), fun _ => ?_⟩)
  exact am_goX 3 (show (∃ ty, (some FieldType.boolean) = some ty ∧ narrow ty (.int (Int32.ofInt 1)) = .int (Int32.ofInt 1)) ∧ h.2.2.2.2 = 175 ∧ _ from ⟨⟨.boolean, rfl, rfl⟩, ex_175 hP, hQ⟩)
theorem sg_26 {x : Int32} (hP : ex_P h) (hx : 0 ≤ x.toInt ∧ x.toInt ≤ 126) (hQ : Q (some (.int (sg_i x 8 0))) h) : am_call am_cod 2 26 [.ref (5000000 + 0), .int x, .int (nI 0), .int (nI 8)] h Q := by
  refine pz_call (n := 26) (nL := 4) (rt := (some .int)) (rows := am_r26) (d := 1) (by decide +kernel) (by decide +kernel) rfl (by funext pc; rfl) (ex_175 hP) (by exact Nat.le_of_ble_eq_true rfl) ?_
  refine am_goX 2 (show 0 ≤ 8 ∧ h.2.2.2.2 + am_al 27 ≤ 175 ∧ am_call am_cod 1 27 [.int x] h (fun vv h' => pz_S 4 (some .int) am_r26 1 Q 4 [(0, .ref (5000000 + 0)), (1, .int x), (2, .int (nI 0)), (3, .int (nI 8))] (vv.toList ++ []) h') from ⟨by decide, ex_lim hP rfl, sg_27 hP hx ?_⟩)
  refine am_goX 1 (show (¬ Int32.ofInt 1 = 0 → pz_S 4 (some .int) am_r26 1 Q 9 [(0, .ref (5000000 + 0)), (1, .int x), (2, .int (nI 0)), (3, .int (nI 8))] [] h) ∧ (¬ ¬ Int32.ofInt 1 = 0 → pz_S 4 (some .int) am_r26 1 Q 7 [(0, .ref (5000000 + 0)), (1, .int x), (2, .int (nI 0)), (3, .int (nI 8))] [] h) from ⟨fun _ => ?_, fun z => absurd (by decide) z⟩)
  refine am_goX 3 (show 0 ≤ 8 ∧ h.2.2.2.2 + am_al 28 ≤ 175 ∧ am_call am_cod 1 28 [.int (nI 0), .int (Int32.ofInt 0)] h (fun vv h' => pz_S 4 (some .int) am_r26 1 Q 14 [(0, .ref (5000000 + 0)), (1, .int x), (2, .int (nI 0)), (3, .int (nI 8))] (vv.toList ++ []) h') from ⟨by decide, ex_lim hP rfl, sg_28 hP ?_⟩)
  refine am_goX 3 (show 2 < 4 ∧ pz_S 4 (some .int) am_r26 1 Q 17 [(2, .int (nI 0)), (0, .ref (5000000 + 0)), (1, .int x), (3, .int (nI 8))] [.ref (5000000 + 0), .int (nI 8)] h from ⟨by decide, ?_⟩)
  refine am_goX 1 (show (∃ t n : Nat, am_sh h (5000000 + 0) = some (t, n) ∧ 12 ≤ t ∧ pz_S 4 (some .int) am_r26 1 Q 18 [(2, .int (nI 0)), (0, .ref (5000000 + 0)), (1, .int x), (3, .int (nI 8))] [.int (nI n), .int (nI 8)] h) ∨ (∃ q9 : Nat, q9 < 26 ∧ 5000000 + 0 = 5000000 + q9 ∧ pz_S 4 (some .int) am_r26 1 Q 18 [(2, .int (nI 0)), (0, .ref (5000000 + 0)), (1, .int x), (3, .int (nI 8))] [.int (nI (am_sln.getD q9 0)), .int (nI 8)] h) from Or.inr ⟨0, by decide, rfl, ?_⟩)
  rw [sg_b.2.2.2.2.2.2.2.2]
  refine am_goX 1 (show 0 ≤ 8 ∧ h.2.2.2.2 + am_al 29 ≤ 175 ∧ am_call am_cod 1 29 [.int (nI 8), .int (nI 8)] h (fun vv h' => pz_S 4 (some .int) am_r26 1 Q 21 [(2, .int (nI 0)), (0, .ref (5000000 + 0)), (1, .int x), (3, .int (nI 8))] (vv.toList ++ []) h') from ⟨by decide, ex_lim hP rfl, sg_29 hP ?_⟩)
  refine am_goX 4 (show 3 < 4 ∧ (nI 0 < nI 8 → pz_S 4 (some .int) am_r26 1 Q 29 [(3, .int (nI 8)), (2, .int (nI 0)), (0, .ref (5000000 + 0)), (1, .int x)] [] h) ∧ (¬ nI 0 < nI 8 → pz_S 4 (some .int) am_r26 1 Q 27 [(3, .int (nI 8)), (2, .int (nI 0)), (0, .ref (5000000 + 0)), (1, .int x)] [] h) from ⟨by decide, fun _ => ?_, fun z => absurd (by decide) z⟩)
  refine am_goX 5 (show 0 ≤ 8 ∧ h.2.2.2.2 + am_al 30 ≤ 175 ∧ am_call am_cod 1 30 [.ref (5000000 + 0), .int x, .int (nI 0), .int (nI 8)] h (fun vv h' => pz_S 4 (some .int) am_r26 1 Q 36 [(3, .int (nI 8)), (2, .int (nI 0)), (0, .ref (5000000 + 0)), (1, .int x)] (vv.toList ++ []) h') from ⟨by decide, ex_lim hP rfl, sg_30 hP hx ?_⟩)
  exact am_goX 1 (show (∃ ty, (some FieldType.int) = some ty ∧ narrow ty (.int (sg_i x 8 0)) = .int (sg_i x 8 0)) ∧ h.2.2.2.2 = 175 ∧ _ from ⟨⟨.int, rfl, rfl⟩, ex_175 hP, hQ⟩)
theorem sg_22 {x : Int32} (hP : ex_P h) (hx : 0 ≤ x.toInt ∧ x.toInt ≤ 126) (hQ : Q (some (.int (sg_i x 8 0))) h) : am_call am_cod 3 22 [.ref (4000000 + 0), .int x, .int (Int32.ofInt 0)] h Q := by
  refine pz_call (n := 22) (nL := 3) (rt := (some .int)) (rows := am_r22) (d := 2) (by decide +kernel) (by decide +kernel) rfl (by funext pc; rfl) (ex_175 hP) (by exact Nat.le_of_ble_eq_true rfl) ?_
  refine am_goX 2 (show am_rc h (4000000 + 0) 20 ∧ 0 ≤ 8 ∧ h.2.2.2.2 + am_al 23 ≤ 175 ∧ am_call am_cod 2 23 [.ref (4000000 + 0)] h (fun vv h' => pz_S 3 (some .int) am_r22 2 Q 4 [(0, .ref (4000000 + 0)), (1, .int x), (2, .int (Int32.ofInt 0))] (vv.toList ++ []) h') from ⟨st_rc (by decide), by decide, ex_lim hP rfl, am_call.up (st_lat (by decide) hP ?_) (by decide)⟩)
  refine am_goX 1 (show ((1 : Int32) = 0 → pz_S 3 (some .int) am_r22 2 Q 23 [(0, .ref (4000000 + 0)), (1, .int x), (2, .int (Int32.ofInt 0))] [] h) ∧ (¬ (1 : Int32) = 0 → pz_S 3 (some .int) am_r22 2 Q 7 [(0, .ref (4000000 + 0)), (1, .int x), (2, .int (Int32.ofInt 0))] [] h) from ⟨fun z => absurd z (by decide), fun _ => ?_⟩)
  refine am_goX 2 (show ∃ q9 : Nat, q9 < 26 ∧ 4000000 + 0 = 4000000 + q9 ∧ pz_S 3 (some .int) am_r22 2 Q 11 [(0, .ref (4000000 + 0)), (1, .int x), (2, .int (Int32.ofInt 0))] [.ref (5000000 + q9)] h from ⟨0, by decide, rfl, ?_⟩)
  refine am_goX 4 (show am_rc h (4000000 + 0) 20 ∧ 3 ≤ 8 ∧ h.2.2.2.2 + am_al 24 ≤ 175 ∧ am_call am_cod 2 24 [.ref (4000000 + 0)] h (fun vv h' => pz_S 3 (some .int) am_r22 2 Q 17 [(0, .ref (4000000 + 0)), (1, .int x), (2, .int (Int32.ofInt 0))] (vv.toList ++ [.int (Int32.ofInt 0), .int x, .ref (5000000 + 0)]) h') from ⟨st_rc (by decide), by decide, ex_lim hP rfl, st_len (by decide) hP ?_⟩)
  rw [sg_b.2.2.2.2.2.2.2.2]
  refine am_goX 1 (show 0 ≤ 8 ∧ h.2.2.2.2 + am_al 26 ≤ 175 ∧ am_call am_cod 2 26 [.ref (5000000 + 0), .int x, .int (Int32.ofInt 0), .int (nI 8)] h (fun vv h' => pz_S 3 (some .int) am_r22 2 Q 20 [(0, .ref (4000000 + 0)), (1, .int x), (2, .int (Int32.ofInt 0))] (vv.toList ++ []) h') from ⟨by decide, ex_lim hP rfl, sg_26 hP hx ?_⟩)
  exact am_goX 2 (show (∃ ty, (some FieldType.int) = some ty ∧ narrow ty (.int (sg_i x 8 0)) = .int (sg_i x 8 0)) ∧ h.2.2.2.2 = 175 ∧ _ from ⟨⟨.int, rfl, rfl⟩, ex_175 hP, hQ⟩)
theorem sg_21 {x : Int32} (hP : ex_P h) (hx : 0 ≤ x.toInt ∧ x.toInt ≤ 126) (hQ : Q (some (.int (sg_i x 8 0))) h) : am_call am_cod 4 21 [.ref (4000000 + 0), .int x] h Q := by
  refine pz_call (n := 21) (nL := 2) (rt := (some .int)) (rows := am_r21) (d := 3) (by decide +kernel) (by decide +kernel) rfl (by funext pc; rfl) (ex_175 hP) (by exact Nat.le_of_ble_eq_true rfl) ?_
  refine am_goX 4 (show am_rc h (4000000 + 0) 20 ∧ 0 ≤ 8 ∧ h.2.2.2.2 + am_al 22 ≤ 175 ∧ am_call am_cod 3 22 [.ref (4000000 + 0), .int x, .int (Int32.ofInt 0)] h (fun vv h' => pz_S 2 (some .int) am_r21 3 Q 6 [(0, .ref (4000000 + 0)), (1, .int x)] (vv.toList ++ []) h') from ⟨st_rc (by decide), by decide, ex_lim hP rfl, sg_22 hP hx ?_⟩)
  exact am_goX 1 (show (∃ ty, (some FieldType.int) = some ty ∧ narrow ty (.int (sg_i x 8 0)) = .int (sg_i x 8 0)) ∧ h.2.2.2.2 = 175 ∧ _ from ⟨⟨.int, rfl, rfl⟩, ex_175 hP, hQ⟩)
theorem cs_st_l (hend : ∀ h1, ctp h0 sz T h1 → h1.1 1 4 = nI p → pz_S 1 none am_r18 4 Q 52 [(0, .ref 1)] [] h1) (hz : sz ≤ 1000) : ∀ (m k : Nat) (h : am_H), sz ≤ k + m → k ≤ sz → p = tk_go tk_bl T sz k → ctp h0 sz T h → h.1 1 4 = nI k → pz_S 1 none am_r18 4 Q 0 [(0, .ref 1)] [] h := by
  intro m
  induction m with
  | zero =>
    intro k h hm hks hq l e4
    have hP := l.1
    refine am_goX 4 (show am_sh h 1 = some (7, 0) ∧ am_sh h 1 = some (7, 0) ∧ pz_S 1 none am_r18 4 Q 8 [(0, .ref 1)] [.int (h.1 1 1), .int (h.1 1 4)] h from ⟨ex_1 hP, ex_1 hP, ?_⟩)
    rw [e4, l.2.2.1]
    refine am_goX 1 (show ((nI sz) ≤ (nI k) → pz_S 1 none am_r18 4 Q 52 [(0, .ref 1)] [] h) ∧ (¬ ((nI sz) ≤ (nI k)) → pz_S 1 none am_r18 4 Q 11 [(0, .ref 1)] [] h) from ⟨fun hc => ?_, fun hc => ?_⟩)
    · have hge : sz ≤ k := by
        rw [nI_leI (by omega) (by omega)] at hc
        exact hc
      have ek : p = k := hq.trans (tk_go_n (fun w => absurd w (by omega)))
      exact hend h l (by rw [ek]; exact e4)
    · exact absurd (nI_le (by omega) (by omega)) hc
  | succ m ih =>
    intro k h hm hks hq l e4
    have hP := l.1
    refine am_goX 4 (show am_sh h 1 = some (7, 0) ∧ am_sh h 1 = some (7, 0) ∧ pz_S 1 none am_r18 4 Q 8 [(0, .ref 1)] [.int (h.1 1 1), .int (h.1 1 4)] h from ⟨ex_1 hP, ex_1 hP, ?_⟩)
    rw [e4, l.2.2.1]
    refine am_goX 1 (show ((nI sz) ≤ (nI k) → pz_S 1 none am_r18 4 Q 52 [(0, .ref 1)] [] h) ∧ (¬ ((nI sz) ≤ (nI k)) → pz_S 1 none am_r18 4 Q 11 [(0, .ref 1)] [] h) from ⟨fun hc => ?_, fun hc => ?_⟩)
    · have hge : sz ≤ k := by
        rw [nI_leI (by omega) (by omega)] at hc
        exact hc
      have ek : p = k := hq.trans (tk_go_n (fun w => absurd w (by omega)))
      exact hend h l (by rw [ek]; exact e4)
    have hks0 : k < sz := by
      rcases Nat.lt_or_ge k sz with w | w
      · exact w
      · exact absurd (nI_le w (by omega)) hc
    clear hc
    have k39 : tk_bl (T k) = true → pz_S 1 none am_r18 4 Q 39 [(0, .ref 1)] [] h := by
      intro eb
      refine am_goX 6 (show (Value.ref 1).category = 1 ∧ am_sh h 1 = some (7, 0) ∧ am_sh h 1 = some (7, 0) ∧ narrow (am_fty 7 4) (.int (((h.1 1 4) + (Int32.ofInt 1)))) = .int (((h.1 1 4) + (Int32.ofInt 1))) ∧ fits (am_fty 7 4) (.int (((h.1 1 4) + (Int32.ofInt 1)))) = true ∧ pz_S 1 none am_r18 4 Q 49 [(0, .ref 1)] [] (am_wI h 1 4 (((h.1 1 4) + (Int32.ofInt 1)))) from ⟨rfl, ex_1 hP, ex_1 hP, rfl, rfl, ?_⟩)
      rw [e4, xw_i1]
      have l2 := ct1_4 (v := nI (k + 1)) l
      have y4 : (am_wI h 1 4 (nI (k + 1))).1 1 4 = nI (k + 1) := em_we h 1 4 _
      generalize am_wI h 1 4 (nI (k + 1)) = h2 at l2 y4 ⊢
      refine am_goX 1 (show pz_S 1 none am_r18 4 Q 0 [(0, .ref 1)] [] h2 from ?_)
      exact ih (k + 1) h2 (by omega) (by omega) (hq.trans (tk_go_y hks0 eb)) l2 y4
    refine am_goX 2 (show am_sh h 1 = some (7, 0) ∧ pz_S 1 none am_r18 4 Q 15 [(0, .ref 1)] [am_rf (h.2.2.1 1 0)] h from ⟨ex_1 hP, ?_⟩)
    rw [ex_r1_0 hP]
    refine am_goX 3 (show am_sh h 1 = some (7, 0) ∧ ∃ jj nn : Nat, am_sh h 2 = some (12, nn) ∧ jj < nn ∧ (h.1 1 4) = nI jj ∧ pz_S 1 none am_r18 4 Q 20 [(0, .ref 1)] [.int (h.1 2 jj)] h from ⟨ex_1 hP, k, 1000, ex_2 hP, by omega, e4, ?_⟩)
    rw [l.2.2.2.1 k hks0]
    refine am_goX 2 (show ((T k) = (Int8.ofInt 10).toInt32 → pz_S 1 none am_r18 4 Q 39 [(0, .ref 1)] [] h) ∧ (¬ ((T k) = (Int8.ofInt 10).toInt32) → pz_S 1 none am_r18 4 Q 25 [(0, .ref 1)] [] h) from ⟨fun hc => ?_, fun hc => ?_⟩)
    · exact k39 (by unfold tk_bl; rw [decide_eq_true hc]; rfl)
    have hc1 := hc
    clear hc
    refine am_goX 2 (show am_sh h 1 = some (7, 0) ∧ pz_S 1 none am_r18 4 Q 29 [(0, .ref 1)] [am_rf (h.2.2.1 1 0)] h from ⟨ex_1 hP, ?_⟩)
    rw [ex_r1_0 hP]
    refine am_goX 3 (show am_sh h 1 = some (7, 0) ∧ ∃ jj nn : Nat, am_sh h 2 = some (12, nn) ∧ jj < nn ∧ (h.1 1 4) = nI jj ∧ pz_S 1 none am_r18 4 Q 34 [(0, .ref 1)] [.int (h.1 2 jj)] h from ⟨ex_1 hP, k, 1000, ex_2 hP, by omega, e4, ?_⟩)
    rw [l.2.2.2.1 k hks0]
    refine am_goX 2 (show (¬ (T k) = (Int8.ofInt 32).toInt32 → pz_S 1 none am_r18 4 Q 52 [(0, .ref 1)] [] h) ∧ (¬ ¬ (T k) = (Int8.ofInt 32).toInt32 → pz_S 1 none am_r18 4 Q 39 [(0, .ref 1)] [] h) from ⟨fun hc => ?_, fun hc => ?_⟩)
    · have ef : tk_bl (T k) = false := by
        unfold tk_bl
        rw [decide_eq_false hc1, decide_eq_false hc]
        rfl
      have ek : p = k := hq.trans (tk_go_n (fun w => ef))
      exact hend h l (by rw [ek]; exact e4)
    · exact k39 (by unfold tk_bl; rw [decide_eq_true (Decidable.not_not.mp hc), Bool.or_true])
theorem cs_st {k : Nat} (hz : sz ≤ 1000) (hch : ∀ q, q < sz → 0 ≤ (T q).toInt ∧ (T q).toInt ≤ 126) (hks : k ≤ sz) (l : ctp h0 sz T h) (e4 : h.1 1 4 = nI k) (hQ : ∀ h1, ctp h0 sz T h1 → c_p T sz (tk_go tk_bl T sz k) h1 → Q none h1) : am_call am_cod 5 18 [.ref 1] h Q := by
  have hP := l.1
  have hge := tk_ge tk_bl T hks
  refine pz_call (n := 18) (nL := 1) (rt := none) (rows := am_r18) (d := 4) (by decide +kernel) (by decide +kernel) rfl (by funext pc; rfl) (ex_175 hP) (by exact Nat.le_of_ble_eq_true rfl) ?_
  refine cs_st_l (p := tk_go tk_bl T sz k) ?_ hz sz k h (by omega) hks rfl l e4
  generalize tk_go tk_bl T sz k = p at hQ hge
  intro h9 l9 e49
  have hP9 := l9.1
  refine am_goX 4 (show am_sh h9 1 = some (7, 0) ∧ am_sh h9 1 = some (7, 0) ∧ narrow (am_fty 7 3) (.int ((h9.1 1 4))) = .int ((h9.1 1 4)) ∧ fits (am_fty 7 3) (.int ((h9.1 1 4))) = true ∧ pz_S 1 none am_r18 4 Q 60 [(0, .ref 1)] [] (am_wI h9 1 3 ((h9.1 1 4))) from ⟨ex_1 hP9, ex_1 hP9, rfl, rfl, ?_⟩)
  rw [e49]
  have l1 := ct1_3 (v := nI p) l9
  have x3 : (am_wI h9 1 3 (nI p)).1 1 3 = nI p := em_we h9 1 3 _
  have x4 : (am_wI h9 1 3 (nI p)).1 1 4 = nI p := by rw [em_wn h9 _ (by omega)]; exact e49
  generalize am_wI h9 1 3 (nI p) = h1 at l1 x3 x4 ⊢
  refine am_goX 4 (show am_sh h1 1 = some (7, 0) ∧ am_sh h1 1 = some (7, 0) ∧ pz_S 1 none am_r18 4 Q 68 [(0, .ref 1)] [.int (h1.1 1 1), .int (h1.1 1 3)] h1 from ⟨ex_1 l1.1, ex_1 l1.1, ?_⟩)
  rw [x3, l1.2.2.1]
  refine am_goX 1 (show ((nI p) < (nI sz) → pz_S 1 none am_r18 4 Q 79 [(0, .ref 1)] [] h1) ∧ (¬ ((nI p) < (nI sz)) → pz_S 1 none am_r18 4 Q 71 [(0, .ref 1)] [] h1) from ⟨fun hc => ?_, fun hc => ?_⟩)
  rotate_left
  · have hps : ¬ p < sz := fun w => hc (nI_lt w (by omega))
    refine am_goX 3 (show am_sh h1 1 = some (7, 0) ∧ narrow (am_fty 7 2) (.int ((Int32.ofInt 4))) = .int ((Int32.ofInt 4)) ∧ fits (am_fty 7 2) (.int ((Int32.ofInt 4))) = true ∧ pz_S 1 none am_r18 4 Q 76 [(0, .ref 1)] [] (am_wI h1 1 2 ((Int32.ofInt 4))) from ⟨ex_1 l1.1, rfl, rfl, ?_⟩)
    have l2 := ct1_2 (v := Int32.ofInt 4) l1
    have y2 : (am_wI h1 1 2 (Int32.ofInt 4)).1 1 2 = Int32.ofInt 4 := em_we h1 1 2 _
    have y3 : (am_wI h1 1 2 (Int32.ofInt 4)).1 1 3 = nI p := by rw [em_wn h1 _ (by omega)]; exact x3
    have y4 : (am_wI h1 1 2 (Int32.ofInt 4)).1 1 4 = nI p := by rw [em_wn h1 _ (by omega)]; exact x4
    generalize am_wI h1 1 2 (Int32.ofInt 4) = h2 at l2 y2 y3 y4 ⊢
    obtain ⟨k1, k2⟩ := cs_ke (T := T) hps
    exact am_goX 2 (show (none : Option FieldType) = none ∧ h2.2.2.2.2 = 175 ∧ _ from ⟨rfl, ex_175 l2.1, hQ h2 l2 (by unfold c_p; rw [k1, k2]; exact ⟨y3, y2, y4, fun w => absurd w (by decide), fun w => absurd w (by decide)⟩)⟩)
  have hps : p < sz := by
    rw [nI_ltI (by omega) (by omega)] at hc
    exact hc
  clear hc
  have k149 : pz_let (T p) = false → pz_dig (T p) = false → pz_S 1 none am_r18 4 Q 149 [(0, .ref 1)] [] h1 := by
    intro ul ud
    obtain ⟨k1, k2, k3⟩ := cs_ks hps ul ud
    refine am_goX 4 (show am_sh h1 1 = some (7, 0) ∧ pz_S 1 none am_r18 4 Q 156 [(0, .ref 1)] [am_rf (h1.2.2.1 1 0), .ref (4000000 + 0), .ref 1] h1 from ⟨ex_1 l1.1, ?_⟩)
    rw [ex_r1_0 l1.1]
    refine am_goX 3 (show am_sh h1 1 = some (7, 0) ∧ ∃ jj nn : Nat, am_sh h1 2 = some (12, nn) ∧ jj < nn ∧ (h1.1 1 3) = nI jj ∧ pz_S 1 none am_r18 4 Q 161 [(0, .ref 1)] [.int (h1.1 2 jj), .ref (4000000 + 0), .ref 1] h1 from ⟨ex_1 l1.1, p, 1000, ex_2 l1.1, by omega, x3, ?_⟩)
    rw [l1.2.2.2.1 p hps]
    refine am_goX 1 (show am_rc h1 (4000000 + 0) 20 ∧ 1 ≤ 8 ∧ h1.2.2.2.2 + am_al 21 ≤ 175 ∧ am_call am_cod 4 21 [.ref (4000000 + 0), .int (T p)] h1 (fun vv h' => pz_S 1 none am_r18 4 Q 164 [(0, .ref 1)] (vv.toList ++ [.ref 1]) h') from ⟨st_rc (by decide), by decide, ex_lim l1.1 rfl, sg_21 l1.1 (hch p hps) ?_⟩)
    refine am_goX 1 (show ((sg_i (T p) 8 0) < 0 → pz_S 1 none am_r18 4 Q 171 [(0, .ref 1)] [.ref 1] h1) ∧ (¬ ((sg_i (T p) 8 0) < 0) → pz_S 1 none am_r18 4 Q 167 [(0, .ref 1)] [.ref 1] h1) from ⟨fun hc => ?_, fun hc => ?_⟩)
    · have es : tk_sn (T p) = false := by
        have e := sg_ok (x := T p)
        rw [decide_eq_true hc] at e
        cases hb : tk_sn (T p) with
        | false => rfl
        | true =>
          rw [hb] at e
          cases e
      refine am_goX 2 (show am_sh h1 1 = some (7, 0) ∧ narrow (am_fty 7 2) (.int ((Int32.ofInt 0))) = .int ((Int32.ofInt 0)) ∧ fits (am_fty 7 2) (.int ((Int32.ofInt 0))) = true ∧ pz_S 1 none am_r18 4 Q 175 [(0, .ref 1)] [] (am_wI h1 1 2 ((Int32.ofInt 0))) from ⟨ex_1 l1.1, rfl, rfl, ?_⟩)
      have l2 := ct1_2 (v := Int32.ofInt 0) l1
      have y2 : (am_wI h1 1 2 (Int32.ofInt 0)).1 1 2 = Int32.ofInt 0 := em_we h1 1 2 _
      have y3 : (am_wI h1 1 2 (Int32.ofInt 0)).1 1 3 = nI p := by rw [em_wn h1 _ (by omega)]; exact x3
      have y4 : (am_wI h1 1 2 (Int32.ofInt 0)).1 1 4 = nI p := by rw [em_wn h1 _ (by omega)]; exact x4
      generalize am_wI h1 1 2 (Int32.ofInt 0) = h2 at l2 y2 y3 y4 ⊢
      refine am_goX 6 (show (Value.ref 1).category = 1 ∧ am_sh h2 1 = some (7, 0) ∧ am_sh h2 1 = some (7, 0) ∧ narrow (am_fty 7 4) (.int (((h2.1 1 4) + (Int32.ofInt 1)))) = .int (((h2.1 1 4) + (Int32.ofInt 1))) ∧ fits (am_fty 7 4) (.int (((h2.1 1 4) + (Int32.ofInt 1)))) = true ∧ pz_S 1 none am_r18 4 Q 185 [(0, .ref 1)] [] (am_wI h2 1 4 (((h2.1 1 4) + (Int32.ofInt 1)))) from ⟨rfl, ex_1 l2.1, ex_1 l2.1, rfl, rfl, ?_⟩)
      rw [y4, xw_i1]
      have l3 := ct1_4 (v := nI (p + 1)) l2
      have w2 : (am_wI h2 1 4 (nI (p + 1))).1 1 2 = Int32.ofInt 0 := by rw [em_wn h2 _ (by omega)]; exact y2
      have w3 : (am_wI h2 1 4 (nI (p + 1))).1 1 3 = nI p := by rw [em_wn h2 _ (by omega)]; exact y3
      have w4 : (am_wI h2 1 4 (nI (p + 1))).1 1 4 = nI (p + 1) := em_we h2 1 4 _
      generalize am_wI h2 1 4 (nI (p + 1)) = h3 at l3 w2 w3 w4 ⊢
      exact am_goX 1 (show (none : Option FieldType) = none ∧ h3.2.2.2.2 = 175 ∧ _ from ⟨rfl, ex_175 l3.1, hQ h3 l3 (by unfold c_p; rw [k1, k2, es]; exact ⟨w3, w2, w4, fun w => absurd w (by decide), fun w => absurd w (by decide)⟩)⟩)
    · have es : tk_sn (T p) = true := by
        have e := sg_ok (x := T p)
        rw [decide_eq_false hc] at e
        cases hb : tk_sn (T p) with
        | true => rfl
        | false =>
          rw [hb] at e
          cases e
      refine am_goX 3 (show am_sh h1 1 = some (7, 0) ∧ narrow (am_fty 7 2) (.int ((Int32.ofInt 3))) = .int ((Int32.ofInt 3)) ∧ fits (am_fty 7 2) (.int ((Int32.ofInt 3))) = true ∧ pz_S 1 none am_r18 4 Q 175 [(0, .ref 1)] [] (am_wI h1 1 2 ((Int32.ofInt 3))) from ⟨ex_1 l1.1, rfl, rfl, ?_⟩)
      have l2 := ct1_2 (v := Int32.ofInt 3) l1
      have y2 : (am_wI h1 1 2 (Int32.ofInt 3)).1 1 2 = Int32.ofInt 3 := em_we h1 1 2 _
      have y3 : (am_wI h1 1 2 (Int32.ofInt 3)).1 1 3 = nI p := by rw [em_wn h1 _ (by omega)]; exact x3
      have y4 : (am_wI h1 1 2 (Int32.ofInt 3)).1 1 4 = nI p := by rw [em_wn h1 _ (by omega)]; exact x4
      generalize am_wI h1 1 2 (Int32.ofInt 3) = h2 at l2 y2 y3 y4 ⊢
      refine am_goX 6 (show (Value.ref 1).category = 1 ∧ am_sh h2 1 = some (7, 0) ∧ am_sh h2 1 = some (7, 0) ∧ narrow (am_fty 7 4) (.int (((h2.1 1 4) + (Int32.ofInt 1)))) = .int (((h2.1 1 4) + (Int32.ofInt 1))) ∧ fits (am_fty 7 4) (.int (((h2.1 1 4) + (Int32.ofInt 1)))) = true ∧ pz_S 1 none am_r18 4 Q 185 [(0, .ref 1)] [] (am_wI h2 1 4 (((h2.1 1 4) + (Int32.ofInt 1)))) from ⟨rfl, ex_1 l2.1, ex_1 l2.1, rfl, rfl, ?_⟩)
      rw [y4, xw_i1]
      have l3 := ct1_4 (v := nI (p + 1)) l2
      have w2 : (am_wI h2 1 4 (nI (p + 1))).1 1 2 = Int32.ofInt 3 := by rw [em_wn h2 _ (by omega)]; exact y2
      have w3 : (am_wI h2 1 4 (nI (p + 1))).1 1 3 = nI p := by rw [em_wn h2 _ (by omega)]; exact y3
      have w4 : (am_wI h2 1 4 (nI (p + 1))).1 1 4 = nI (p + 1) := em_we h2 1 4 _
      generalize am_wI h2 1 4 (nI (p + 1)) = h3 at l3 w2 w3 w4 ⊢
      exact am_goX 1 (show (none : Option FieldType) = none ∧ h3.2.2.2.2 = 175 ∧ _ from ⟨rfl, ex_175 l3.1, hQ h3 l3 (by unfold c_p; rw [k1, k2, es]; exact ⟨w3, w2, w4, fun w => absurd w (by decide), fun w => absurd w (by decide)⟩)⟩)
  have k114 : pz_let (T p) = false → pz_S 1 none am_r18 4 Q 114 [(0, .ref 1)] [] h1 := by
    intro ul
    refine am_goX 2 (show am_sh h1 1 = some (7, 0) ∧ pz_S 1 none am_r18 4 Q 118 [(0, .ref 1)] [am_rf (h1.2.2.1 1 0)] h1 from ⟨ex_1 l1.1, ?_⟩)
    rw [ex_r1_0 l1.1]
    refine am_goX 3 (show am_sh h1 1 = some (7, 0) ∧ ∃ jj nn : Nat, am_sh h1 2 = some (12, nn) ∧ jj < nn ∧ (h1.1 1 3) = nI jj ∧ pz_S 1 none am_r18 4 Q 123 [(0, .ref 1)] [.int (h1.1 2 jj)] h1 from ⟨ex_1 l1.1, p, 1000, ex_2 l1.1, by omega, x3, ?_⟩)
    rw [l1.2.2.2.1 p hps]
    refine am_goX 2 (show ((T p) < (Int8.ofInt 48).toInt32 → pz_S 1 none am_r18 4 Q 149 [(0, .ref 1)] [] h1) ∧ (¬ ((T p) < (Int8.ofInt 48).toInt32) → pz_S 1 none am_r18 4 Q 128 [(0, .ref 1)] [] h1) from ⟨fun hc => ?_, fun hc => ?_⟩)
    · exact k149 ul (by unfold pz_dig; rw [decide_eq_true hc]; rfl)
    have hc1 := hc
    clear hc
    refine am_goX 2 (show am_sh h1 1 = some (7, 0) ∧ pz_S 1 none am_r18 4 Q 132 [(0, .ref 1)] [am_rf (h1.2.2.1 1 0)] h1 from ⟨ex_1 l1.1, ?_⟩)
    rw [ex_r1_0 l1.1]
    refine am_goX 3 (show am_sh h1 1 = some (7, 0) ∧ ∃ jj nn : Nat, am_sh h1 2 = some (12, nn) ∧ jj < nn ∧ (h1.1 1 3) = nI jj ∧ pz_S 1 none am_r18 4 Q 137 [(0, .ref 1)] [.int (h1.1 2 jj)] h1 from ⟨ex_1 l1.1, p, 1000, ex_2 l1.1, by omega, x3, ?_⟩)
    rw [l1.2.2.2.1 p hps]
    refine am_goX 2 (show ((Int8.ofInt 57).toInt32 < (T p) → pz_S 1 none am_r18 4 Q 149 [(0, .ref 1)] [] h1) ∧ (¬ ((Int8.ofInt 57).toInt32 < (T p)) → pz_S 1 none am_r18 4 Q 142 [(0, .ref 1)] [] h1) from ⟨fun hc => ?_, fun hc => ?_⟩)
    · exact k149 ul (by unfold pz_dig; rw [decide_eq_true hc, Bool.not_true, Bool.and_false])
    have ud : pz_dig (T p) = true := by
      unfold pz_dig
      rw [decide_eq_false hc1, decide_eq_false hc]
      rfl
    refine am_goX 2 (show am_rc h1 1 7 ∧ 0 ≤ 8 ∧ h1.2.2.2.2 + am_al 20 ≤ 175 ∧ am_call am_cod 4 20 [.ref 1] h1 (fun vv h' => pz_S 1 none am_r18 4 Q 146 [(0, .ref 1)] (vv.toList ++ []) h') from ⟨Or.inl ⟨by decide, ex_1 l1.1⟩, by decide, ex_lim l1.1 rfl, am_call.up (cs_num hz (by omega) l1 x3 x4 (fun h2 l2 y3 y4 yw y2 => ?_)) (by decide)⟩)
    exact am_goX 2 (show (none : Option FieldType) = none ∧ h2.2.2.2.2 = 175 ∧ _ from ⟨rfl, ex_175 l2.1, hQ h2 l2 (c_pn hps ul ud y3 y4 yw y2)⟩)
  refine am_goX 2 (show am_sh h1 1 = some (7, 0) ∧ pz_S 1 none am_r18 4 Q 83 [(0, .ref 1)] [am_rf (h1.2.2.1 1 0)] h1 from ⟨ex_1 l1.1, ?_⟩)
  rw [ex_r1_0 l1.1]
  refine am_goX 3 (show am_sh h1 1 = some (7, 0) ∧ ∃ jj nn : Nat, am_sh h1 2 = some (12, nn) ∧ jj < nn ∧ (h1.1 1 3) = nI jj ∧ pz_S 1 none am_r18 4 Q 88 [(0, .ref 1)] [.int (h1.1 2 jj)] h1 from ⟨ex_1 l1.1, p, 1000, ex_2 l1.1, by omega, x3, ?_⟩)
  rw [l1.2.2.2.1 p hps]
  refine am_goX 2 (show ((T p) < (Int8.ofInt 97).toInt32 → pz_S 1 none am_r18 4 Q 114 [(0, .ref 1)] [] h1) ∧ (¬ ((T p) < (Int8.ofInt 97).toInt32) → pz_S 1 none am_r18 4 Q 93 [(0, .ref 1)] [] h1) from ⟨fun hc => ?_, fun hc => ?_⟩)
  · exact k114 (by unfold pz_let; rw [decide_eq_true hc]; rfl)
  have hc1 := hc
  clear hc
  refine am_goX 2 (show am_sh h1 1 = some (7, 0) ∧ pz_S 1 none am_r18 4 Q 97 [(0, .ref 1)] [am_rf (h1.2.2.1 1 0)] h1 from ⟨ex_1 l1.1, ?_⟩)
  rw [ex_r1_0 l1.1]
  refine am_goX 3 (show am_sh h1 1 = some (7, 0) ∧ ∃ jj nn : Nat, am_sh h1 2 = some (12, nn) ∧ jj < nn ∧ (h1.1 1 3) = nI jj ∧ pz_S 1 none am_r18 4 Q 102 [(0, .ref 1)] [.int (h1.1 2 jj)] h1 from ⟨ex_1 l1.1, p, 1000, ex_2 l1.1, by omega, x3, ?_⟩)
  rw [l1.2.2.2.1 p hps]
  refine am_goX 2 (show ((Int8.ofInt 122).toInt32 < (T p) → pz_S 1 none am_r18 4 Q 114 [(0, .ref 1)] [] h1) ∧ (¬ ((Int8.ofInt 122).toInt32 < (T p)) → pz_S 1 none am_r18 4 Q 107 [(0, .ref 1)] [] h1) from ⟨fun hc => ?_, fun hc => ?_⟩)
  · exact k114 (by unfold pz_let; rw [decide_eq_true hc, Bool.not_true, Bool.and_false])
  have ul : pz_let (T p) = true := by
    unfold pz_let
    rw [decide_eq_false hc1, decide_eq_false hc]
    rfl
  refine am_goX 2 (show am_rc h1 1 7 ∧ 0 ≤ 8 ∧ h1.2.2.2.2 + am_al 19 ≤ 175 ∧ am_call am_cod 4 19 [.ref 1] h1 (fun vv h' => pz_S 1 none am_r18 4 Q 111 [(0, .ref 1)] (vv.toList ++ []) h') from ⟨Or.inl ⟨by decide, ex_1 l1.1⟩, by decide, ex_lim l1.1 rfl, am_call.up (cs_word hz (by omega) l1 x3 x4 (fun h2 l2 y3 y4 yw y2 => ?_)) (by decide)⟩)
  exact am_goX 2 (show (none : Option FieldType) = none ∧ h2.2.2.2.2 = 175 ∧ _ from ⟨rfl, ex_175 l2.1, hQ h2 l2 (c_pw hps ul y3 y4 yw y2)⟩)
theorem ez_gt (hps : p < sz) : p + 1 ≤ ez T sz p ∧ ez T sz p ≤ sz := by
  cases hl : pz_let (T p) with
  | true =>
    rw [(cs_kw hps hl).2.1, tk_go_y hps hl]
    have := tk_ge pz_let T (show p + 1 ≤ sz by omega)
    omega
  | false =>
    cases hd : pz_dig (T p) with
    | true =>
      rw [(cs_kn hps hl hd).2.1, tk_go_y hps hd]
      have := tk_ge pz_dig T (show p + 1 ≤ sz by omega)
      omega
    | false =>
      rw [(cs_ks hps hl hd).2.1]
      omega
theorem tk_plS (hps : tk_pl T sz a < sz) : tk_pl T sz (a + 1) = tk_go tk_bl T sz (ez T sz (tk_pl T sz a)) := by
  show tk_go tk_bl T sz (tk_en T sz (tk_pl T sz a)) = _
  unfold ez
  rw [tk_blt.mpr hps]
  rfl
theorem kz_lt (e : ¬ kz T sz p = 0) : p < sz := by
  rcases Nat.lt_or_ge p sz with w | w
  · exact w
  · exact absurd (cs_ke (T := T) (by omega)).1 e
theorem c_step (l : c_t T sz a h) (hk : ¬ (tt T sz a).1 = 0) (hQ : ∀ h1, c_t T sz (a + 1) h1 → fr1 h h1 → Q none h1) : am_call am_cod 5 18 [.ref 1] h Q := by
  obtain ⟨⟨hP, hz, hch⟩, l1, l2, l3, l4, l5, l6⟩ := l
  have hps : tk_pl T sz a < sz := kz_lt hk
  have he := ez_gt (T := T) hps
  have hg := tk_ge tk_bl T he.2
  refine cs_st (h0 := h) hz hch he.2 ⟨hP, fr1_refl h, l1, l2, rfl⟩ l6.2.2.1 (fun h1 m c => hQ h1 ⟨⟨m.1, hz, hch⟩, m.2.2.1, m.2.2.2.1, m.2.2.2.2.trans l3, ?_, ?_, ?_⟩ m.2.1)
  · rw [tk_plS hps]
    omega
  · rw [tk_plS hps]
    omega
  · rw [tk_plS hps]
    exact c
theorem c_begin (hP : ex_P h) (hz : sz ≤ 1000) (hch : ∀ q, q < sz → 0 ≤ (T q).toInt ∧ (T q).toInt ≤ 126) (l1 : h.1 1 1 = nI sz) (l2 : ∀ q, q < sz → h.1 2 q = T q) (hQ : ∀ h1, c_t T sz 0 h1 → fr1 h h1 → Q none h1) : am_call am_cod 6 17 [.ref 1] h Q := by
  refine pz_call (n := 17) (nL := 1) (rt := none) (rows := am_r17) (d := 5) (by decide +kernel) (by decide +kernel) rfl (by funext pc; rfl) (ex_175 hP) (by exact Nat.le_of_ble_eq_true rfl) ?_
  refine am_goX 3 (show am_sh h 1 = some (7, 0) ∧ narrow (am_fty 7 7) (.int ((Int32.ofInt 0))) = .int ((Int32.ofInt 0)) ∧ fits (am_fty 7 7) (.int ((Int32.ofInt 0))) = true ∧ pz_S 1 none am_r17 5 Q 5 [(0, .ref 1)] [] (am_wI h 1 7 ((Int32.ofInt 0))) from ⟨ex_1 hP, rfl, rfl, ?_⟩)
  have f1 : fr1 h (am_wI h 1 7 (Int32.ofInt 0)) := ⟨rfl, fun o k ho => ⟨em_wn h _ (by omega), rfl⟩⟩
  have m1 : (am_wI h 1 7 (Int32.ofInt 0)).1 1 1 = nI sz := by rw [em_wn h _ (by omega)]; exact l1
  have m2 : ∀ q, q < sz → (am_wI h 1 7 (Int32.ofInt 0)).1 2 q = T q := fun q hq => by rw [em_wn h _ (by omega)]; exact l2 q hq
  have m3 : (am_wI h 1 7 (Int32.ofInt 0)).1 1 7 = 0 := em_we h 1 7 _
  have hP1 : ex_P (am_wI h 1 7 (Int32.ofInt 0)) := hP
  generalize am_wI h 1 7 (Int32.ofInt 0) = h1 at f1 m1 m2 m3 hP1 ⊢
  refine am_goX 3 (show am_sh h1 1 = some (7, 0) ∧ narrow (am_fty 7 4) (.int ((Int32.ofInt 0))) = .int ((Int32.ofInt 0)) ∧ fits (am_fty 7 4) (.int ((Int32.ofInt 0))) = true ∧ pz_S 1 none am_r17 5 Q 10 [(0, .ref 1)] [] (am_wI h1 1 4 ((Int32.ofInt 0))) from ⟨ex_1 hP1, rfl, rfl, ?_⟩)
  have l3 := ct1_4 (h0 := h1) (v := Int32.ofInt 0) (⟨hP1, fr1_refl h1, m1, m2, rfl⟩ : ctp h1 sz T h1)
  have m4 : (am_wI h1 1 4 (Int32.ofInt 0)).1 1 4 = nI 0 := em_we h1 1 4 _
  generalize am_wI h1 1 4 (Int32.ofInt 0) = h2 at l3 m4 ⊢
  refine am_goX 2 (show am_rc h2 1 7 ∧ 0 ≤ 8 ∧ h2.2.2.2.2 + am_al 18 ≤ 175 ∧ am_call am_cod 5 18 [.ref 1] h2 (fun vv h' => pz_S 1 none am_r17 5 Q 14 [(0, .ref 1)] (vv.toList ++ []) h') from ⟨Or.inl ⟨by decide, ex_1 l3.1⟩, by decide, ex_lim l3.1 rfl, cs_st hz hch (Nat.zero_le _) l3 m4 (fun h3 m c => ?_)⟩)
  have hg := tk_ge tk_bl T (Nat.zero_le sz)
  exact am_goX 1 (show (none : Option FieldType) = none ∧ h3.2.2.2.2 = 175 ∧ _ from ⟨rfl, ex_175 m.1, hQ h3 ⟨⟨m.1, hz, hch⟩, m.2.2.1, m.2.2.2.1, m.2.2.2.2.trans m3, Nat.zero_le _, hg.2, c⟩ (fr1_tr f1 m.2.1)⟩)
