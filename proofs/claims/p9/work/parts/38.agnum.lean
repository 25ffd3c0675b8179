/-! THE SECOND CHECKER IS SOUND: numbers of one instruction -/
variable {ρ ρ' : Nat → Int} {env env' : ag_e}
theorem ag_pI_inv {st : List ag_v} {k : ag_f → List ag_v → Bool} (hs : ag_pI st k = true) : ∃ f r, st = .inl f :: r ∧ k f r = true := by
  unfold ag_pI at hs
  split at hs
  · exact ⟨_, _, rfl, hs⟩
  · cases hs
theorem ag_pL_inv {st : List ag_v} {k : ag_f → List ag_v → Bool} (hs : ag_pL st k = true) : ∃ f r, st = .inr (.inl f) :: r ∧ k f r = true := by
  unfold ag_pL at hs
  split at hs
  · exact ⟨_, _, rfl, hs⟩
  · cases hs
theorem ag_pR_inv {st : List ag_v} {k : Nat → List ag_v → Bool} (hs : ag_pR st k = true) : ∃ o r, st = .inr (.inr o) :: r ∧ k o r = true := by
  unfold ag_pR at hs
  split at hs
  · exact ⟨_, _, rfl, hs⟩
  · cases hs
theorem ag_pV_inv {st : List ag_v} {k : ag_v → List ag_v → Bool} (hs : ag_pV st k = true) : ∃ v r, st = v :: r ∧ k v r = true := by
  unfold ag_pV at hs
  split at hs
  · exact ⟨_, _, rfl, hs⟩
  · cases hs
theorem ag_li_inv {lv : ag_l} {i : Nat} {k : ag_f → Bool} (hs : ag_li lv i k = true) : ∃ f, ag_lv lv i = some (.inl f) ∧ k f = true := by
  unfold ag_li at hs
  split at hs
  · exact ⟨_, ‹_›, hs⟩
  · cases hs
theorem ag_ll_inv {lv : ag_l} {i : Nat} {k : ag_f → Bool} (hs : ag_ll lv i k = true) : ∃ f, ag_lv lv i = some (.inr (.inl f)) ∧ k f = true := by
  unfold ag_ll at hs
  split at hs
  · exact ⟨_, ‹_›, hs⟩
  · cases hs
theorem ag_la_inv {lv : ag_l} {i : Nat} {k : Nat → Bool} (hs : ag_la lv i k = true) : ∃ o, ag_lv lv i = some (.inr (.inr o)) ∧ k o = true := by
  unfold ag_la at hs
  split at hs
  · exact ⟨_, ‹_›, hs⟩
  · cases hs
/-- two ints that are their sums -/
theorem ag_mII_ok (hin : ag_in ρ env) {x y : ag_f} (hx : ag_wt env.length x) (hy : ag_wt env.length y) {k : ag_e → ag_f → Int → Int → ag_f → Int → Int → Bool} (hs : ag_mI env y (fun env y c d => ag_mI env x (fun env x a b => k env y c d x a b)) = true) : ∃ ρ' env' y' c d x' a b, ag_xt ρ env ρ' env' ∧ (ag_wt env'.length y' ∧ (Int32.ofInt (ag_ev ρ y)).toInt = ag_ev ρ' y' ∧ c ≤ ag_ev ρ' y' ∧ ag_ev ρ' y' ≤ d) ∧ (ag_wt env'.length x' ∧ (Int32.ofInt (ag_ev ρ x)).toInt = ag_ev ρ' x' ∧ a ≤ ag_ev ρ' x' ∧ ag_ev ρ' x' ≤ b) ∧ k env' y' c d x' a b = true := by
  obtain ⟨ρ1, e1, y1, c, d, x1, w1, -, t1, l1, u1, h1⟩ := ag_mI_ok hin hy hs
  obtain ⟨ρ2, e2, x2, a, b, z1, w2, -, t2, l2, u2, h2⟩ := ag_mI_ok x1.2.2 (hx.up x1.1) h1
  rw [ag_ev_same x1.2.1 hx] at t2
  have s := ag_ev_same z1.2.1 w1
  exact ⟨ρ2, e2, y1, c, d, x2, a, b, x1.trans z1, ⟨w1.up z1.1, by rw [s]; exact t1, by rw [s]; exact l1, by rw [s]; exact u1⟩, ⟨w2, t2, l2, u2⟩, h2⟩
theorem ag_mLL_ok (hin : ag_in ρ env) {x y : ag_f} (hx : ag_wt env.length x) (hy : ag_wt env.length y) {k : ag_e → ag_f → Int → Int → ag_f → Int → Int → Bool} (hs : ag_mL env y (fun env y c d => ag_mL env x (fun env x a b => k env y c d x a b)) = true) : ∃ ρ' env' y' c d x' a b, ag_xt ρ env ρ' env' ∧ (ag_wt env'.length y' ∧ (Int64.ofInt (ag_ev ρ y)).toInt = ag_ev ρ' y' ∧ c ≤ ag_ev ρ' y' ∧ ag_ev ρ' y' ≤ d) ∧ (ag_wt env'.length x' ∧ (Int64.ofInt (ag_ev ρ x)).toInt = ag_ev ρ' x' ∧ a ≤ ag_ev ρ' x' ∧ ag_ev ρ' x' ≤ b) ∧ k env' y' c d x' a b = true := by
  obtain ⟨ρ1, e1, y1, c, d, x1, w1, -, t1, l1, u1, h1⟩ := ag_mL_ok hin hy hs
  obtain ⟨ρ2, e2, x2, a, b, z1, w2, -, t2, l2, u2, h2⟩ := ag_mL_ok x1.2.2 (hx.up x1.1) h1
  rw [ag_ev_same x1.2.1 hx] at t2
  have s := ag_ev_same z1.2.1 w1
  exact ⟨ρ2, e2, y1, c, d, x2, a, b, x1.trans z1, ⟨w1.up z1.1, by rw [s]; exact t1, by rw [s]; exact l1, by rw [s]; exact u1⟩, ⟨w2, t2, l2, u2⟩, h2⟩
/-- an int in an interval, or any -/
theorem ag_opt_ok (hin : ag_in ρ env) {w : Option (Int × Int)} {v : Int32} (hv : ∀ z, w = some z → z.1 ≤ v.toInt ∧ v.toInt ≤ z.2) {k : ag_e → ag_f → Bool} (hs : ag_oI env w k = true) : ∃ ρ' env' f, ag_xt ρ env ρ' env' ∧ ag_wt env'.length f ∧ ag_ev ρ' f = v.toInt ∧ k env' f = true := by
  cases w with
  | some z => exact ag_nw_ok hin (hv z rfl).1 (hv z rfl).2 hs
  | none => exact ag_nI_ok hin v hs
theorem ag_optL_ok (hin : ag_in ρ env) {w : Option (Int × Int)} {v : Int64} (hv : ∀ z, w = some z → z.1 ≤ v.toInt ∧ v.toInt ≤ z.2) {k : ag_e → ag_f → Bool} (hs : ag_oL env w k = true) : ∃ ρ' env' f, ag_xt ρ env ρ' env' ∧ ag_wt env'.length f ∧ ag_ev ρ' f = v.toInt ∧ k env' f = true := by
  cases w with
  | some z => exact ag_nw_ok hin (hv z rfl).1 (hv z rfl).2 hs
  | none => exact ag_nL_ok hin v hs
theorem ag_b2_ok (hin : ag_in ρ env) {st : List ag_v} (hws : ag_ws env.length st) {g : Int → Int → Int → Int → Option (Int × Int)} {f : Int32 → Int32 → Int32} (hg : ∀ (x y : Int32) (a b c d : Int), a ≤ x.toInt → x.toInt ≤ b → c ≤ y.toInt → y.toInt ≤ d → ∀ z, g a b c d = some z → z.1 ≤ (f x y).toInt ∧ (f x y).toInt ≤ z.2) {K : ag_e → ag_f → List ag_v → Bool} (hs : ag_b2 env st g f K = true) : ∃ y x r, st = .inl y :: .inl x :: r ∧ ∃ ρ' env' z, ag_xt ρ env ρ' env' ∧ ag_wt env'.length z ∧ Int32.ofInt (ag_ev ρ' z) = f (Int32.ofInt (ag_ev ρ x)) (Int32.ofInt (ag_ev ρ y)) ∧ K env' z r = true := by
  obtain ⟨y, r1, rfl, hs1⟩ := ag_pI_inv hs
  obtain ⟨x, r, rfl, hs2⟩ := ag_pI_inv hs1
  clear hs hs1
  have hs := hs2
  refine ⟨y, x, r, rfl, ?_⟩
  have hy : ag_wt env.length y := hws _ List.mem_cons_self
  have hx : ag_wt env.length x := hws _ (List.mem_cons_of_mem _ List.mem_cons_self)
  obtain ⟨ρ1, e1, y1, c, d, x1, a, b, q1, ⟨wy, ty, ly, uy⟩, ⟨wx, tx, lx, ux⟩, hs⟩ := ag_mII_ok hin hx hy hs
  cases hb : (decide (a = b) && decide (c = d)) with
  | true =>
    rw [hb] at hs
    simp only [Bool.and_eq_true, decide_eq_true_eq] at hb
    refine ⟨ρ1, e1, _, q1, ag_wt_k, ?_, hs⟩
    have ea : Int32.ofInt a = Int32.ofInt (ag_ev ρ x) := by
      have : a = (Int32.ofInt (ag_ev ρ x)).toInt := by omega
      rw [this, Int32.ofInt_toInt]
    have ec : Int32.ofInt c = Int32.ofInt (ag_ev ρ y) := by
      have : c = (Int32.ofInt (ag_ev ρ y)).toInt := by omega
      rw [this, Int32.ofInt_toInt]
    rw [ag_ev_k, Int32.ofInt_toInt, ea, ec]
  | false =>
    rw [hb] at hs
    dsimp only [cond] at hs
    obtain ⟨ρ2, e2, z, q2, wz, ez, hk⟩ := ag_opt_ok q1.2.2 (v := f (Int32.ofInt (ag_ev ρ x)) (Int32.ofInt (ag_ev ρ y))) (hg _ _ a b c d (by omega) (by omega) (by omega) (by omega)) hs
    exact ⟨ρ2, e2, z, q1.trans q2, wz, by rw [ez, Int32.ofInt_toInt], hk⟩
theorem ag_noG_ok (f : Int32 → Int32 → Int32) : ∀ (x y : Int32) (a b c d : Int), a ≤ x.toInt → x.toInt ≤ b → c ≤ y.toInt → y.toInt ≤ d → ∀ z, ag_noG a b c d = some z → z.1 ≤ (f x y).toInt ∧ (f x y).toInt ≤ z.2 := by
  intro x y a b c d _ _ _ _ z h
  cases h
theorem ag_and_le (x : Int32) {j : Nat} (hj : j < 2 ^ 31) : ∃ i, i ≤ j ∧ x &&& nI j = nI i := by
  refine ⟨x.toBitVec.toNat &&& j, Nat.and_le_right, ?_⟩
  apply Int32.toBitVec_inj.mp
  apply BitVec.eq_of_toNat_eq
  rw [Int32.toBitVec_and, BitVec.toNat_and, pk_tn (by omega), pk_tn (Nat.lt_of_le_of_lt Nat.and_le_right (by omega))]
theorem ag_nIx {x : Int32} (h : 0 ≤ x.toInt) : ∃ j : Nat, j < 2 ^ 31 ∧ x = nI j ∧ x.toInt = (j : Int) := by
  have r := ag_i32r x
  refine ⟨x.toInt.toNat, by omega, ?_, by omega⟩
  apply Int32.toInt_inj.mp
  rw [nI_toInt (by omega)]
  omega
theorem ag_andG_ok : ∀ (x y : Int32) (a b c d : Int), a ≤ x.toInt → x.toInt ≤ b → c ≤ y.toInt → y.toInt ≤ d → ∀ z, ag_andG a b c d = some z → z.1 ≤ (x &&& y).toInt ∧ (x &&& y).toInt ≤ z.2 := by
  intro x y a b c d h1 h2 h3 h4 z hz
  unfold ag_andG at hz
  cases hb : (decide (0 ≤ c) && decide (c = d)) with
  | true =>
    rw [hb] at hz
    simp only [Bool.and_eq_true, decide_eq_true_eq] at hb
    cases hz
    obtain ⟨j, hj, e, e2⟩ := ag_nIx (x := y) (by omega)
    obtain ⟨i, hi, e3⟩ := ag_and_le x hj
    rw [e, e3, nI_toInt (by omega)]
    exact ⟨by show (0 : Int) ≤ _; omega, by show _ ≤ c; omega⟩
  | false =>
    rw [hb] at hz
    dsimp only [cond] at hz
    cases hb2 : (decide (0 ≤ a) && decide (a = b)) with
    | true =>
      rw [hb2] at hz
      simp only [Bool.and_eq_true, decide_eq_true_eq] at hb2
      cases hz
      obtain ⟨j, hj, e, e2⟩ := ag_nIx (x := x) (by omega)
      obtain ⟨i, hi, e3⟩ := ag_and_le y hj
      rw [Int32.and_comm, e, e3, nI_toInt (by omega)]
      exact ⟨by show (0 : Int) ≤ _; omega, by show _ ≤ a; omega⟩
    | false =>
      rw [hb2] at hz
      cases hz
theorem ag_shl1 : ∀ j, j < 31 → ((1 : Int32) <<< (nI j &&& 31)).toInt = ((2 ^ j : Nat) : Int) := by decide +kernel
theorem ag_shlG_ok : ∀ (x y : Int32) (a b c d : Int), a ≤ x.toInt → x.toInt ≤ b → c ≤ y.toInt → y.toInt ≤ d → ∀ z, ag_shlG a b c d = some z → z.1 ≤ (x <<< (y &&& 31)).toInt ∧ (x <<< (y &&& 31)).toInt ≤ z.2 := by
  intro x y a b c d h1 h2 h3 h4 z hz
  unfold ag_shlG at hz
  cases hb : (decide (a = 1) && (decide (b = 1) && (decide (0 ≤ c) && decide (d ≤ 30)))) with
  | true =>
    rw [hb] at hz
    simp only [Bool.and_eq_true, decide_eq_true_eq] at hb
    have hz := Option.some.inj hz
    obtain ⟨j, hj, e, e2⟩ := ag_nIx (x := y) (by omega)
    have ex : x = 1 := Int32.toInt_inj.mp (show x.toInt = 1 by omega)
    rw [ex, e, ag_shl1 j (by omega), ← hz]
    have p1 : 1 ≤ 2 ^ j := Nat.one_le_two_pow
    have p2 : 2 ^ j ≤ 2 ^ d.toNat := Nat.pow_le_pow_right (by decide) (by omega)
    refine ⟨by show (1 : Int) ≤ _; omega, ?_⟩
    show ((2 ^ j : Nat) : Int) ≤ 2 ^ d.toNat
    have p3 : ((2 ^ d.toNat : Nat) : Int) = 2 ^ d.toNat := by
      rw [Int.natCast_pow]
      rfl
    rw [← p3]
    omega
  | false =>
    rw [hb] at hz
    cases hz
theorem ag_divI {x y : Int32} (hy : 0 < y.toInt) : (x / y).toInt = x.toInt.tdiv y.toInt := Int32.toInt_div_of_ne_right x y (fun z => by rw [z] at hy; exact absurd hy (by decide))
theorem ag_divL {x y : Int64} (hy : 0 < y.toInt) : (x / y).toInt = x.toInt.tdiv y.toInt := Int64.toInt_div_of_ne_right x y (fun z => by rw [z] at hy; exact absurd hy (by decide))
theorem ag_div_in {X Y a b c d : Int} (h1 : a ≤ X) (h2 : X ≤ b) (h3 : c ≤ Y) (h4 : Y ≤ d) {z : Int × Int} (hz : ag_divG a b c d = some z) : z.1 ≤ X.tdiv Y ∧ X.tdiv Y ≤ z.2 := by
  unfold ag_divG at hz
  cases hb : (decide (0 ≤ a) && (decide (0 < c) && decide (c = d))) with
  | true =>
    rw [hb] at hz
    simp only [Bool.and_eq_true, decide_eq_true_eq] at hb
    have hz := Option.some.inj hz
    have e : Y = c := by omega
    rw [Int.tdiv_eq_ediv_of_nonneg (by omega), e, ← hz]
    exact ⟨Int.ediv_le_ediv (by omega) h1, Int.ediv_le_ediv (by omega) h2⟩
  | false =>
    rw [hb] at hz
    cases hz
theorem ag_rem_in {X Y a b c d : Int} (h1 : a ≤ X) (h2 : X ≤ b) (h3 : c ≤ Y) (h4 : Y ≤ d) (hY : 0 < Y) {z : Int × Int} (hz : ag_remG a b c d = some z) : z.1 ≤ X.tmod Y ∧ X.tmod Y ≤ z.2 := by
  unfold ag_remG at hz
  have u := Int.tmod_lt_of_pos X hY
  have l := Int.lt_tmod_of_pos X hY
  rw [ae_cond] at hz
  by_cases e1 : 0 < c
  · rw [if_pos e1, ae_cond] at hz
    by_cases e0 : a = b ∧ c = d
    · rw [if_pos e0] at hz
      have hz := Option.some.inj hz
      have eX : X = a := by omega
      have eY : Y = c := by omega
      rw [← hz, eX, eY]
      exact ⟨Int.le_refl _, Int.le_refl _⟩
    rw [if_neg e0, ae_cond] at hz
    by_cases e2 : 0 ≤ a
    · rw [if_pos e2] at hz
      have hz := Option.some.inj hz
      rw [← hz]
      have n := Int.tmod_nonneg Y (show 0 ≤ X by omega)
      exact ⟨n, by show _ ≤ d - 1; omega⟩
    · rw [if_neg e2] at hz
      have hz := Option.some.inj hz
      rw [← hz]
      exact ⟨by show 1 - d ≤ _; omega, by show _ ≤ d - 1; omega⟩
  · rw [if_neg e1] at hz
    cases hz
theorem ag_remI {x y : Int32} (hy : 0 < y.toInt) : (x - x / y * y).toInt = x.toInt.tmod y.toInt := by
  have u := Int.tmod_lt_of_pos x.toInt hy
  have l := Int.lt_tmod_of_pos x.toInt hy
  have r := ag_i32r y
  have e1 : x / y = Int32.ofInt (x.toInt.tdiv y.toInt) := by rw [← ag_divI hy, Int32.ofInt_toInt]
  have e2 : x - x / y * y = Int32.ofInt (x.toInt.tmod y.toInt) := by
    rw [Int.tmod_def, Int.mul_comm, Int32.ofInt_sub, Int32.ofInt_mul, Int32.ofInt_toInt, Int32.ofInt_toInt, ← e1]
  rw [e2, ag_i32 (by omega) (by omega)]
theorem ag_remL {x y : Int64} (hy : 0 < y.toInt) : (x - x / y * y).toInt = x.toInt.tmod y.toInt := by
  have u := Int.tmod_lt_of_pos x.toInt hy
  have l := Int.lt_tmod_of_pos x.toInt hy
  have r := ag_i64r y
  have e1 : x / y = Int64.ofInt (x.toInt.tdiv y.toInt) := by rw [← ag_divL hy, Int64.ofInt_toInt]
  have e2 : x - x / y * y = Int64.ofInt (x.toInt.tmod y.toInt) := by
    rw [Int.tmod_def, Int.mul_comm, Int64.ofInt_sub, Int64.ofInt_mul, Int64.ofInt_toInt, Int64.ofInt_toInt, ← e1]
  rw [e2, ag_i64 (by omega) (by omega)]
theorem ag_lcmp_in (x y : Int64) : -1 ≤ (lg_cmp x y).toInt ∧ (lg_cmp x y).toInt ≤ 1 := by
  unfold lg_cmp
  split
  · decide
  · split <;> decide
theorem ag_i2c_in (x : Int32) : 0 ≤ ((x.toUInt32 % 65536).toInt32).toInt ∧ ((x.toUInt32 % 65536).toInt32).toInt ≤ 65535 := by
  have hm : x.toBitVec.toNat % 65536 < 65536 := Nat.mod_lt _ (by decide)
  rw [pk_char, nI_toInt (by omega)]
  omega
theorem ag_i2c_id {x : Int32} (h1 : 0 ≤ x.toInt) (h2 : x.toInt ≤ 65535) : (x.toUInt32 % 65536).toInt32 = x := by
  obtain ⟨j, hj, e, e2⟩ := ag_nIx h1
  rw [e, pk_char, pk_tn (by omega), Nat.mod_eq_of_lt (by omega)]
theorem ag_vp {ty : FieldType} {x : Int32} (h : narrow ty (.int x) = .int x) : vp_nar ty x = x := by
  unfold vp_nar
  rw [h]
theorem ag_sw_off : ∀ (l : List (Int × Int)) (df k : Int), Op.lookupswitch.offset l df k = df ∨ ∃ q ∈ l, Op.lookupswitch.offset l df k = q.2
  | [], df, k => Or.inl rfl
  | (a, o) :: r, df, k => by
    rw [Op.lookupswitch.offset_cons]
    by_cases h : a = k
    · rw [if_pos h]
      exact Or.inr ⟨(a, o), List.mem_cons_self, rfl⟩
    · rw [if_neg h]
      rcases ag_sw_off r df k with e | ⟨q, hq, e⟩
      · exact Or.inl e
      · exact Or.inr ⟨q, List.mem_cons_of_mem _ hq, e⟩
theorem ag_i2b_in (x : Int32) : -128 ≤ (x.toInt8.toInt32).toInt ∧ (x.toInt8.toInt32).toInt ≤ 127 := by
  rw [Int8.toInt_toInt32]
  have h1 := x.toInt8.toInt_lt
  have h2 := x.toInt8.le_toInt
  omega
theorem ag_i2b_id {x : Int32} (h1 : -128 ≤ x.toInt) (h2 : x.toInt ≤ 127) : x.toInt8.toInt32 = x := by
  apply Int32.toInt_inj.mp
  rw [Int8.toInt_toInt32, Int32.toInt_toInt8]
  exact Int.bmod_eq_of_le (by omega) (by omega)
theorem ag_sby_in (q j : Nat) : 0 ≤ ((am_sby.getD q []).getD j 0).toInt ∧ ((am_sby.getD q []).getD j 0).toInt ≤ 127 := by
  have h1 : am_sby.all (fun l => l.all (fun x => decide (0 ≤ x.toInt) && decide (x.toInt ≤ 127))) = true := by decide +kernel
  rw [List.getD_eq_getElem?_getD (l := am_sby.getD q [])]
  cases hx : (am_sby.getD q [])[j]? with
  | none => exact ⟨by decide, by decide⟩
  | some x =>
    rw [List.getD_eq_getElem?_getD] at hx
    cases hl : am_sby[q]? with
    | none => rw [hl] at hx; cases hx
    | some l =>
      rw [hl] at hx
      have h2 := List.all_eq_true.mp (List.all_eq_true.mp h1 l (List.mem_of_getElem? hl)) x (List.mem_of_getElem? hx)
      rw [Bool.and_eq_true, decide_eq_true_eq, decide_eq_true_eq] at h2
      exact h2
