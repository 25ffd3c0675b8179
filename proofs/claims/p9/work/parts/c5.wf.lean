/-! WHAT EVERY CANTON THAT WAS READ KEEPS -/
variable {τ : sp_T} {p : sp_S → sp_R} {s s' t : sp_S}
/-- how many values wait behind a part (none: too many, or too few) -/
def ls1 (x : Int32) (k : Nat) : Option Nat := if (-4 : Int32) ≤ x then (if k < 32 then some (k + 1) else none) else if x = -5 then (if 0 < k then some k else none) else (if 1 < k then some (k - 1) else none)
def lst : List Int32 → Nat → Option Nat
  | [], k => some k
  | x :: L, k => (ls1 x k).bind (lst L)
theorem lst_app : ∀ (L M : List Int32) (k : Nat), lst (L ++ M) k = (lst L k).bind (lst M)
  | [], M, k => rfl
  | x :: L, M, k => by
    show (ls1 x k).bind (lst (L ++ M)) = ((ls1 x k).bind (lst L)).bind (lst M)
    cases ls1 x k with
    | none => rfl
    | some j => exact lst_app L M j
def lval (B : Nat) (L : List Int32) : Prop := ∀ k, k + B ≤ 32 → lst L k = some (k + 1)
def ltail (B : Nat) (L : List Int32) : Prop := ∀ k, k + B ≤ 32 → lst L (k + 1) = some (k + 1)
theorem lval_le {B B' : Nat} {L : List Int32} (h : B ≤ B') (l : lval B L) : lval B' L := fun k hk => l k (by omega)
theorem ltail_0 {B : Nat} : ltail B [] := fun _ _ => rfl
theorem ls1_b {x : Int32} {k : Nat} (h1 : ¬ (-4 : Int32) ≤ x) (h2 : ¬ x = -5) : ls1 x (k + 2) = some (k + 1) := by
  unfold ls1
  rw [if_neg h1, if_neg h2, if_pos (by omega)]
  rfl
theorem ltail_1 {B B' : Nat} {L M : List Int32} {x : Int32} (h1 : ¬ (-4 : Int32) ≤ x) (h2 : ¬ x = -5) (hB : B + 1 ≤ B') (l : lval B L) (m : ltail B' M) : ltail B' (L ++ x :: M) := fun k hk => by
  rw [lst_app, l (k + 1) (by omega)]
  show (ls1 x (k + 2)).bind (lst M) = _
  rw [ls1_b h1 h2]
  exact m k hk
theorem lval_t {B B' : Nat} {L M : List Int32} (hB : B ≤ B') (l : lval B L) (m : ltail B' M) : lval B' (L ++ M) := fun k hk => by
  rw [lst_app, l k (by omega)]
  exact m k hk
/-- what is laid behind -/
def lad (C : sp_C) (L : List Int32) : sp_C := L.foldl sp_em C
def spV (p : sp_S → sp_R) (B : Nat) : Prop := ∀ s s', p s = .inr s' → ∃ L, s'.2 = lad s.2 L ∧ lval B L
theorem lad_app (C : sp_C) (L M : List Int32) : lad C (L ++ M) = lad (lad C L) M := List.foldl_append
theorem spV_pL {B : Nat} (hp : spV p B) : ∀ (m : Nat) (s s' : sp_S), sp_pL τ p m s = .inr s' → ∃ L, s'.2 = lad s.2 L ∧ ltail (B + 1) L
  | 0, s, s', e => by
    cases e
    exact ⟨[], rfl, ltail_0⟩
  | m + 1, s, s', e => by
    unfold sp_pL at e
    cases h1 : sp_s τ s.1 (Int8.ofInt 42).toInt32 with
    | true =>
      rw [h1] at e
      obtain ⟨t, e1, e2⟩ := sp_bI e
      obtain ⟨L, l1, l2⟩ := hp _ _ e1
      obtain ⟨M, m1, m2⟩ := spV_pL hp m _ _ e2
      refine ⟨L ++ (Int8.ofInt (-12)).toInt32 :: M, ?_, ltail_1 (by decide) (by decide) (by omega) l2 m2⟩
      rw [lad_app]
      show s'.2 = lad (sp_em (lad s.2 L) _) M
      rw [m1, l1]
    | false =>
      rw [h1] at e
      cases e
      exact ⟨[], rfl, ltail_0⟩
theorem spV_p {B : Nat} (hp : spV p B) : spV (sp_p τ p) (B + 1) := fun s s' e => by
  obtain ⟨t, e1, e2⟩ := sp_bI e
  obtain ⟨L, l1, l2⟩ := hp _ _ e1
  obtain ⟨M, m1, m2⟩ := spV_pL hp _ _ _ e2
  exact ⟨L ++ M, by rw [lad_app, m1, l1], lval_t (by omega) l2 m2⟩
theorem spV_sL {B : Nat} (hp : spV p B) : ∀ (m : Nat) (s s' : sp_S), sp_sL τ p m s = .inr s' → ∃ L, s'.2 = lad s.2 L ∧ ltail (B + 2) L
  | 0, s, s', e => by
    cases e
    exact ⟨[], rfl, ltail_0⟩
  | m + 1, s, s', e => by
    unfold sp_sL at e
    cases h1 : sp_s τ s.1 (Int8.ofInt 43).toInt32 with
    | true =>
      rw [h1] at e
      obtain ⟨t, e1, e2⟩ := sp_bI e
      obtain ⟨L, l1, l2⟩ := spV_p hp _ _ e1
      obtain ⟨M, m1, m2⟩ := spV_sL hp m _ _ e2
      refine ⟨L ++ (Int8.ofInt (-10)).toInt32 :: M, ?_, ltail_1 (by decide) (by decide) (by omega) l2 m2⟩
      rw [lad_app]
      show s'.2 = lad (sp_em (lad s.2 L) _) M
      rw [m1, l1]
    | false =>
      rw [h1] at e
      cases h2 : sp_s τ s.1 (Int8.ofInt 45).toInt32 with
      | true =>
        rw [h2] at e
        obtain ⟨t, e1, e2⟩ := sp_bI e
        obtain ⟨L, l1, l2⟩ := spV_p hp _ _ e1
        obtain ⟨M, m1, m2⟩ := spV_sL hp m _ _ e2
        refine ⟨L ++ (Int8.ofInt (-11)).toInt32 :: M, ?_, ltail_1 (by decide) (by decide) (by omega) l2 m2⟩
        rw [lad_app]
        show s'.2 = lad (sp_em (lad s.2 L) _) M
        rw [m1, l1]
      | false =>
        rw [h2] at e
        cases e
        exact ⟨[], rfl, ltail_0⟩
theorem spV_su {B : Nat} (hp : spV p B) : spV (sp_su τ p) (B + 2) := fun s s' e => by
  obtain ⟨t, e1, e2⟩ := sp_bI e
  obtain ⟨L, l1, l2⟩ := spV_p hp _ _ e1
  obtain ⟨M, m1, m2⟩ := spV_sL hp _ _ _ e2
  exact ⟨L ++ M, by rw [lad_app, m1, l1], lval_t (by omega) l2 m2⟩
theorem spV_te {B : Nat} (hp : spV p B) : spV (sp_te τ p) (B + 3) := fun s s' e => by
  obtain ⟨t, e1, e2⟩ := sp_bI e
  obtain ⟨L, l1, l2⟩ := spV_su hp _ _ e1
  cases h1 : sp_s τ t.1 (Int8.ofInt 60).toInt32 with
  | true =>
    rw [h1] at e2
    obtain ⟨u, e3, e4⟩ := sp_bI e2
    cases e4
    obtain ⟨M, m1, m2⟩ := spV_su hp _ _ e3
    refine ⟨L ++ (M ++ [(Int8.ofInt (-8)).toInt32]), ?_, lval_t (by omega) l2 (ltail_1 (B := B + 2) (by decide) (by decide) (by omega) m2 ltail_0)⟩
    rw [lad_app, lad_app]
    show sp_em u.2 _ = sp_em (lad (lad s.2 L) M) _
    rw [m1, l1]
  | false =>
    rw [h1] at e2
    cases h2 : sp_s τ t.1 (Int8.ofInt 61).toInt32 with
    | true =>
      rw [h2] at e2
      obtain ⟨u, e3, e4⟩ := sp_bI e2
      cases e4
      obtain ⟨M, m1, m2⟩ := spV_su hp _ _ e3
      refine ⟨L ++ (M ++ [(Int8.ofInt (-9)).toInt32]), ?_, lval_t (by omega) l2 (ltail_1 (B := B + 2) (by decide) (by decide) (by omega) m2 ltail_0)⟩
      rw [lad_app, lad_app]
      show sp_em u.2 _ = sp_em (lad (lad s.2 L) M) _
      rw [m1, l1]
    | false =>
      rw [h2] at e2
      cases e2
      exact ⟨L, l1, lval_le (by omega) l2⟩
theorem spV_wL {B : Nat} (hp : spV p B) : ∀ (m : Nat) (s s' : sp_S), sp_wL τ p m s = .inr s' → ∃ L, s'.2 = lad s.2 L ∧ ltail (B + 4) L
  | 0, s, s', e => by
    cases e
    exact ⟨[], rfl, ltail_0⟩
  | m + 1, s, s', e => by
    unfold sp_wL at e
    cases h1 : sp_w τ s.1 1891 with
    | true =>
      rw [h1] at e
      obtain ⟨t, e1, e2⟩ := sp_bI e
      obtain ⟨L, l1, l2⟩ := spV_te hp _ _ e1
      obtain ⟨M, m1, m2⟩ := spV_wL hp m _ _ e2
      refine ⟨L ++ (Int8.ofInt (-6)).toInt32 :: M, ?_, ltail_1 (by decide) (by decide) (by omega) l2 m2⟩
      rw [lad_app]
      show s'.2 = lad (sp_em (lad s.2 L) _) M
      rw [m1, l1]
    | false =>
      rw [h1] at e
      cases h2 : sp_w τ s.1 573 with
      | true =>
        rw [h2] at e
        obtain ⟨t, e1, e2⟩ := sp_bI e
        obtain ⟨L, l1, l2⟩ := spV_te hp _ _ e1
        obtain ⟨M, m1, m2⟩ := spV_wL hp m _ _ e2
        refine ⟨L ++ (Int8.ofInt (-7)).toInt32 :: M, ?_, ltail_1 (by decide) (by decide) (by omega) l2 m2⟩
        rw [lad_app]
        show s'.2 = lad (sp_em (lad s.2 L) _) M
        rw [m1, l1]
      | false =>
        rw [h2] at e
        cases e
        exact ⟨[], rfl, ltail_0⟩
theorem spV_wh {B : Nat} (hp : spV p B) : spV (sp_wh τ p) (B + 4) := fun s s' e => by
  obtain ⟨t, e1, e2⟩ := sp_bI e
  obtain ⟨L, l1, l2⟩ := spV_te hp _ _ e1
  obtain ⟨M, m1, m2⟩ := spV_wL hp _ _ _ e2
  exact ⟨L ++ M, by rw [lad_app, m1, l1], lval_t (by omega) l2 m2⟩
/-- NUMBERS of the tokens are none below 0 -/
def tNum (τ : sp_T) : Prop := ∀ i, (τ i).1 = 2 → ∃ D : Nat, D ≤ 9999 ∧ (τ i).2.1 = Int64.ofNat D
theorem tt_num {T : Nat → Int32} {sz : Nat} : tNum (tt T sz) := fun _ hi => nm_2 hi
theorem rb1 {x : Int32} (h : Int32.ofInt 1 = rb_o x) : 0 ≤ x := by
  by_cases hx : 0 ≤ x
  · exact hx
  · unfold rb_o at h
    rw [decide_eq_false hx] at h
    dsimp only [cond] at h
    exfalso
    revert h
    cases decide ((-4 : Int32) ≤ x) <;> cases decide (x = -5) <;> cases decide (x = -6) <;> cases decide (x = -7) <;> cases decide (x = -8) <;> cases decide (x = -9) <;> cases decide (x = -10) <;> cases decide (x = -11) <;> decide
theorem le_m4 {x : Int32} (h : 0 ≤ x) : (-4 : Int32) ≤ x := by
  have a := Int32.le_iff_toInt_le.mp h
  have e0 : (0 : Int32).toInt = 0 := rfl
  have e4 : (-4 : Int32).toInt = -4 := by decide
  exact Int32.le_iff_toInt_le.mpr (by omega)
theorem lval_1 {x : Int32} {B : Nat} (hB : 1 ≤ B) (h : (-4 : Int32) ≤ x) : lval B [x] := fun k hk => by
  show (ls1 x k).bind (lst []) = _
  unfold ls1
  rw [if_pos h, if_pos (by omega)]
  rfl
theorem fa_4 {a : Nat} : (-4 : Int32) ≤ sp_fa τ a := by
  unfold sp_fa
  cases sp_w τ a 20763 with
  | true => exact (show (-4 : Int32) ≤ Int32.ofInt (-1) by decide)
  | false =>
    cases sp_w τ a 1172060 with
    | true => exact (show (-4 : Int32) ≤ (Int8.ofInt (-2)).toInt32 by decide)
    | false =>
      cases sp_w τ a 18002 with
      | true => exact (show (-4 : Int32) ≤ (Int8.ofInt (-3)).toInt32 by decide)
      | false =>
        cases sp_w τ a 43523993 with
        | true => exact (show (-4 : Int32) ≤ (Int8.ofInt (-4)).toInt32 by decide)
        | false => exact (show (-4 : Int32) ≤ Int32.ofInt 0 by decide)
theorem spV_pt (hτ : tNum τ) : ∀ (r : Nat), spV (sp_pt τ r) (4 * r + 1)
  | 0 => fun s s' e => by
    unfold sp_pt at e
    cases h1 : decide (sp_fa τ s.1 = 0) && (!sp_k τ s.1 2 && (!sp_w τ s.1 19741 && !sp_s τ s.1 (Int8.ofInt 40).toInt32)) with
    | true => rw [h1] at e; cases e
    | false => rw [h1] at e; cases e
  | r + 1 => fun s s' e => by
    unfold sp_pt at e
    cases h1 : decide (sp_fa τ s.1 = 0) && (!sp_k τ s.1 2 && (!sp_w τ s.1 19741 && !sp_s τ s.1 (Int8.ofInt 40).toInt32)) with
    | true => rw [h1] at e; cases e
    | false =>
      rw [h1] at e
      cases h2 : sp_k τ s.1 2 with
      | true =>
        rw [h2] at e
        cases e
        obtain ⟨D, d1, d2⟩ := hτ s.1 (of_decide_eq_true h2)
        exact ⟨[sp_v τ s.1], rfl, lval_1 (by omega) (le_m4 (rb1 (num_o d1 d2).1))⟩
      | false =>
        rw [h2] at e
        cases h3 : !decide (sp_fa τ s.1 = 0) with
        | true =>
          rw [h3] at e
          cases e
          exact ⟨[sp_fa τ s.1], rfl, lval_1 (by omega) fa_4⟩
        | false =>
          rw [h3] at e
          cases h4 : sp_w τ s.1 19741 with
          | true =>
            rw [h4] at e
            obtain ⟨t, e1, e2⟩ := sp_bI e
            cases e2
            obtain ⟨L, l1, l2⟩ := spV_pt hτ r _ _ e1
            refine ⟨L ++ [(Int8.ofInt (-5)).toInt32], ?_, fun k hk => ?_⟩
            · rw [lad_app]
              show sp_em t.2 _ = sp_em (lad s.2 L) _
              rw [l1]
            · rw [lst_app, l2 k (by omega)]
              show (ls1 (Int8.ofInt (-5)).toInt32 (k + 1)).bind (lst []) = _
              unfold ls1
              rw [if_neg (by decide), if_pos (by decide), if_pos (by omega)]
              rfl
          | false =>
            rw [h4] at e
            obtain ⟨t, e1, e2⟩ := sp_bI e
            obtain ⟨L, l1, l2⟩ := spV_wh (spV_pt hτ r) _ _ e1
            rw [sp_tS_ok e2]
            exact ⟨L, l1, lval_le (by omega) l2⟩
theorem lad_e : ∀ (L : List Int32) (C : sp_C), (lad C L).1 = C.1 ∧ (lad C L).2.1 = C.2.1 ∧ (lad C L).2.2.1 = C.2.2.1 ∧ (lad C L).2.2.2.1 = C.2.2.2.1 ∧ dM (lad C L) = dM C + L.length ∧ ∀ i, i < dM C + L.length → dT (lad C L) i = if i < dM C then dT C i else L.getD (i - dM C) 0
  | [], C => ⟨rfl, rfl, rfl, rfl, rfl, fun i hi => by rw [if_pos (by simpa using hi)]; rfl⟩
  | x :: L, C => by
    obtain ⟨a, b, c, d, e, f⟩ := lad_e L (sp_em C x)
    have em : dM (sp_em C x) = dM C + 1 := rfl
    refine ⟨a, b, c, d, ?_, fun i hi => ?_⟩
    · show dM (lad (sp_em C x) L) = _
      rw [e, em, List.length_cons]
      omega
    · rw [List.length_cons] at hi
      show dT (lad (sp_em C x) L) i = _
      rw [f i (by rw [em]; omega), em]
      by_cases h1 : i < dM C
      · rw [if_pos (by omega), if_pos h1]
        show (if i = dM C then x else dT C i) = _
        rw [if_neg (by omega)]
      · rw [if_neg h1]
        by_cases h2 : i = dM C
        · rw [if_pos (by omega), h2, Nat.sub_self]
          show (if dM C = dM C then x else dT C (dM C)) = x
          rw [if_pos rfl]
        · rw [if_neg (by omega), show i - dM C = (i - (dM C + 1)) + 1 by omega]
          rfl
/-- the law's parts, in a row -/
def dTL (C : sp_C) : List Int32 := (List.range (dM C)).map (dT C)
theorem lad_TL {C : sp_C} (h0 : dM C = 0) (L : List Int32) : dTL (lad C L) = L := by
  obtain ⟨-, -, -, -, e, f⟩ := lad_e L C
  unfold dTL
  refine List.ext_getElem ?_ (fun i h1 h2 => ?_)
  · rw [List.length_map, List.length_range, e, h0]
    omega
  · rw [List.getElem_map, List.getElem_range]
    rw [f i (by omega), if_neg (by omega), h0, Nat.sub_zero, List.getD_eq_getElem?_getD, List.getElem?_eq_getElem h2]
    rfl
def cIP (C : sp_C) : Prop := ∀ p, p < dP C → (∃ k, k < 4 ∧ dK C p = nI k) ∧ ∃ l, l < 5 ∧ dL C p = nI l
def cIE (C : sp_C) : Prop := ∀ e, e < dE C → (∃ d, d < 7 ∧ dW C e = nI d) ∧ (∃ n, 1 ≤ n ∧ n ≤ 6 ∧ dN C e = nI n) ∧ bN (dG C e) < 2 ^ dP C
def cIL (C : sp_C) : Prop := (C.2.2.2.1 = false ∧ dM C = 0) ∨ (C.2.2.2.1 = true ∧ lst (dTL C) 0 = some 1)
def cI (C : sp_C) : Prop := (dP C ≤ 6 ∧ dE C ≤ 5) ∧ cIP C ∧ cIE C ∧ cIL C
theorem in_nat {a : Nat} {lo hi : Int32} {m n : Nat} (hm : lo = nI m) (hn : hi = nI n) (hb : n < 100) (hmn : m ≤ n) (e : sp_in τ a lo hi = true) : ∃ l, m ≤ l ∧ l ≤ n ∧ sp_v τ a = nI l := by
  unfold sp_in at e
  rw [Bool.and_eq_true, decide_eq_true_eq, decide_eq_true_eq] at e
  have a1 := Int32.le_iff_toInt_le.mp e.1
  have a2 := Int32.le_iff_toInt_le.mp e.2
  rw [hm, nI_toInt (by omega)] at a1
  rw [hn, nI_toInt (by omega)] at a2
  refine ⟨(sp_v τ a).toInt.toNat, by omega, by omega, Int32.toInt_inj.mp ?_⟩
  rw [nI_toInt (by omega)]
  omega
theorem kd_4 {a : Nat} {k : Int32} (e : sp_kd τ a = some k) : ∃ j, j < 4 ∧ k = nI j := by
  unfold sp_kd at e
  cases h1 : sp_w τ a 30596128 with
  | true => rw [h1] at e; cases e; exact ⟨0, by decide, rfl⟩
  | false =>
    rw [h1] at e
    cases h2 : sp_w τ a 43567634 with
    | true => rw [h2] at e; cases e; exact ⟨1, by decide, rfl⟩
    | false =>
      rw [h2] at e
      cases h3 : sp_w τ a 37900956 with
      | true => rw [h3] at e; cases e; exact ⟨2, by decide, rfl⟩
      | false =>
        rw [h3] at e
        cases h4 : sp_w τ a 488058286 with
        | true => rw [h4] at e; cases e; exact ⟨3, by decide, rfl⟩
        | false => rw [h4] at e; cases e
theorem fd_lt {f : Nat → Int64} {v : Int64} : ∀ (m k i : Nat), sp_fd f v m k = some i → i < k + m
  | 0, k, i, e => by cases e
  | m + 1, k, i, e => by
    unfold sp_fd at e
    cases h : decide (f k = v) with
    | true =>
      rw [h] at e
      cases e
      omega
    | false =>
      rw [h] at e
      have := fd_lt m (k + 1) i e
      omega
theorem cI_person (hc : cI s.2) (e : sp_person τ s = .inr t) : cI t.2 := by
  obtain ⟨⟨c1, c2⟩, c3, c4, c5⟩ := hc
  unfold sp_person at e
  cases h1 : Nat.ble 6 s.2.1.1 with
  | true => simp only [h1, cond_true, sp_f] at e; cases e
  | false =>
    simp only [h1, cond_false] at e
    obtain ⟨u1, e1, e2⟩ := sp_b_inr e
    have p1 := (sp_fn_inr e1).1
    subst p1
    cases h2 : sp_kd τ (s.1 + 1 + 1) with
    | none => simp only [h2, sp_f] at e2; cases e2
    | some k =>
      simp only [h2] at e2
      obtain ⟨u2, e3, e4⟩ := sp_b_inr e2
      obtain ⟨u3, e5, e6⟩ := sp_b_inr e4
      have p2 := sp_tW_inr e3
      subst p2
      obtain ⟨p3, -, p4⟩ := sp_tN_inr e5
      subst p3
      have p5 := sp_tS_inr e6
      obtain ⟨l, -, l2, l3⟩ := in_nat (m := 0) (n := 4) rfl rfl (by decide) (by decide) p4
      rw [p5]
      refine ⟨⟨j6n h1, c2⟩, fun p hp => ?_, fun e he => ?_, c5⟩
      · have hp : p < dP s.2 + 1 := hp
        show (∃ k', k' < 4 ∧ (if p = dP s.2 then k else dK s.2 p) = nI k') ∧ ∃ l', l' < 5 ∧ (if p = dP s.2 then sp_v τ _ else dL s.2 p) = nI l'
        by_cases ep : p = dP s.2
        · rw [if_pos ep, if_pos ep]
          exact ⟨kd_4 h2, l, by omega, l3⟩
        · rw [if_neg ep, if_neg ep]
          exact c3 p (by omega)
      · obtain ⟨g1, g2, g3⟩ := c4 e he
        exact ⟨g1, g2, Nat.lt_of_lt_of_le g3 (Nat.pow_le_pow_right (by decide) (show dP s.2 ≤ dP s.2 + 1 by omega))⟩
theorem cI_event (hc : cI s.2) (e : sp_event τ s = .inr t) : cI t.2 := by
  obtain ⟨⟨c1, c2⟩, c3, c4, c5⟩ := hc
  unfold sp_event at e
  cases h1 : Nat.ble 5 s.2.2.1.1 with
  | true => simp only [h1, cond_true, sp_f] at e; cases e
  | false =>
    simp only [h1, cond_false] at e
    obtain ⟨u1, e1, e2⟩ := sp_b_inr e
    obtain ⟨u2, e3, e4⟩ := sp_b_inr e2
    obtain ⟨u3, e5, e6⟩ := sp_b_inr e4
    obtain ⟨u4, e7, e8⟩ := sp_b_inr e6
    obtain ⟨u5, e9, e10⟩ := sp_b_inr e8
    have p1 := (sp_fn_inr e1).1
    subst p1
    have p2 := sp_tW_inr e3
    subst p2
    obtain ⟨p3, -, p4⟩ := sp_tN_inr e5
    subst p3
    have p5 := sp_tW_inr e7
    subst p5
    obtain ⟨p6, -, p7⟩ := sp_tN_inr e9
    subst p6
    have p8 := sp_tS_inr e10
    obtain ⟨l, -, l2, l3⟩ := in_nat (m := 0) (n := 6) rfl (by decide) (by decide) (by decide) p4
    obtain ⟨n, n1, n2, n3⟩ := in_nat (m := 1) (n := 6) rfl (by decide) (by decide) (by decide) p7
    rw [p8]
    refine ⟨⟨c1, j5n h1⟩, c3, fun e he => ?_, c5⟩
    have he : e < dE s.2 + 1 := he
    show (∃ d, d < 7 ∧ (if e = dE s.2 then sp_v τ _ else dW s.2 e) = nI d) ∧ (∃ n, 1 ≤ n ∧ n ≤ 6 ∧ (if e = dE s.2 then sp_v τ _ else dN s.2 e) = nI n) ∧ bN (if e = dE s.2 then 0 else dG s.2 e) < 2 ^ dP s.2
    by_cases ee : e = dE s.2
    · rw [if_pos ee, if_pos ee, if_pos ee]
      exact ⟨⟨l, by omega, l3⟩, ⟨n, n1, n2, n3⟩, Nat.two_pow_pos _⟩
    · rw [if_neg ee, if_neg ee, if_neg ee]
      exact c4 e (by omega)
theorem cI_comes (hc : cI s.2) (e : sp_comes τ s = .inr t) : cI t.2 := by
  obtain ⟨⟨c1, c2⟩, c3, c4, c5⟩ := hc
  unfold sp_comes at e
  cases h1 : sp_n τ (s.1 + 1) with
  | false => simp only [h1, cond_false, sp_f] at e; cases e
  | true =>
    simp only [h1, cond_true] at e
    cases h2 : sp_pf s.2 (τ (s.1 + 1)).2.1 with
    | none => simp only [h2, sp_f] at e; cases e
    | some p =>
      simp only [h2] at e
      cases h3 : sp_n τ (s.1 + 1 + 1) with
      | false => simp only [h3, cond_false, sp_f] at e; cases e
      | true =>
        simp only [h3, cond_true] at e
        cases h4 : sp_ef s.2 (τ (s.1 + 1 + 1)).2.1 with
        | none => simp only [h4, sp_f] at e; cases e
        | some q =>
          simp only [h4] at e
          cases h5 : sp_bit (s.2.2.1.2.2.2.2 q) (nI p) with
          | true => simp only [h5, cond_true, sp_f] at e; cases e
          | false =>
            simp only [h5, cond_false] at e
            have p4 := sp_tS_inr e
            have hp : p < 0 + dP s.2 := fd_lt _ _ _ h2
            rw [p4]
            refine ⟨⟨c1, c2⟩, c3, fun e he => ?_, c5⟩
            obtain ⟨g1, g2, g3⟩ := c4 e he
            refine ⟨g1, g2, ?_⟩
            show bN (if e = q then dG s.2 q ||| ((Int32.ofInt 1) <<< (nI p &&& 31)) else dG s.2 e) < _
            by_cases ee : e = q
            · rw [if_pos ee, bN_or, bN_1s (by omega), ← ee]
              exact Nat.or_lt_two_pow g3 (Nat.pow_lt_pow_right (by decide) (show p < dP s.2 by omega))
            · rw [if_neg ee]; exact g3
theorem sd_C (e : sp_sd τ s = .inr t) : t.2.1 = s.2.1 ∧ t.2.2.1 = s.2.2.1 ∧ t.2.2.2.2 = s.2.2.2.2 := by
  unfold sp_sd at e
  cases h1 : sp_k τ s.1 2 with
  | false => simp only [h1, cond_false, sp_f] at e; cases e
  | true =>
    simp only [h1, cond_true] at e
    cases h2 : sp_in τ s.1 (Int32.ofInt 0) (Int8.ofInt 27).toInt32 with
    | false => simp only [h2, cond_false, sp_f] at e; cases e
    | true =>
      simp only [h2, cond_true] at e
      cases h3 : sp_bit s.2.2.2.1.2 (sp_v τ s.1) with
      | true => simp only [h3, cond_true, sp_f] at e; cases e
      | false =>
        simp only [h3, cond_false] at e
        cases h4 : Nat.ble 8 (sp_pc s.2.2.2.1.2 28) with
        | true => simp only [h4, cond_true, sp_f] at e; cases e
        | false => simp only [h4, cond_false] at e; cases e; exact ⟨rfl, rfl, rfl⟩
theorem sl_C : ∀ {m : Nat} {s t : sp_S}, sp_sl τ m s = .inr t → t.2.1 = s.2.1 ∧ t.2.2.1 = s.2.2.1 ∧ t.2.2.2.2 = s.2.2.2.2
  | 0, s, t, e => by cases e; exact ⟨rfl, rfl, rfl⟩
  | m + 1, s, t, e => by
    unfold sp_sl at e
    cases h1 : sp_k τ s.1 2 with
    | false => rw [h1] at e; cases e; exact ⟨rfl, rfl, rfl⟩
    | true =>
      rw [h1] at e
      obtain ⟨u, e1, e2⟩ := sp_b_inr e
      obtain ⟨a1, a2, a3⟩ := sd_C e1
      obtain ⟨b1, b2, b3⟩ := sl_C e2
      exact ⟨b1.trans a1, b2.trans a2, b3.trans a3⟩
theorem cI_e {C D : sp_C} (h1 : D.1 = C.1) (h2 : D.2.1 = C.2.1) (h3 : D.2.2.2 = C.2.2.2) (hc : cI C) : cI D := by
  obtain ⟨c1, c2, c3, c4⟩ := C
  obtain ⟨d1, d2, d3, d4⟩ := D
  cases h1
  cases h2
  cases h3
  exact hc
theorem cI_snow (hc : cI s.2) (e : sp_snow τ s = .inr t) : cI t.2 := by
  unfold sp_snow at e
  cases h1 : s.2.2.2.1.1 with
  | true => simp only [h1, cond_true, sp_f] at e; cases e
  | false =>
    simp only [h1, cond_false] at e
    obtain ⟨u1, e1, e2⟩ := sp_b_inr e
    obtain ⟨u2, e3, e4⟩ := sp_b_inr e2
    obtain ⟨a1, a2, a3⟩ := sd_C e1
    obtain ⟨b1, b2, b3⟩ := sl_C e3
    have p4 := sp_tS_inr (a := u2.1) (C := u2.2) e4
    rw [p4]
    exact cI_e (C := s.2) (b1.trans a1) (b2.trans a2) (b3.trans a3) hc
theorem cI_goes (hτ : tNum τ) (hc : cI s.2) (e : sp_goes τ s = .inr t) : cI t.2 := by
  obtain ⟨c0, c3, c4, c5⟩ := hc
  unfold sp_goes at e
  cases h1 : s.2.2.2.2.1 with
  | true => simp only [h1, cond_true, sp_f] at e; cases e
  | false =>
    simp only [h1, cond_false] at e
    obtain ⟨u1, e1, e2⟩ := sp_b_inr e
    obtain ⟨L, l1, l2⟩ := spV_wh (spV_pt hτ 5) _ _ e1
    have p4 := sp_tS_inr (a := u1.1) (C := u1.2) e2
    rw [p4]
    have hM : dM (sp_cL s.2) = 0 := by
      rcases c5 with w | w
      · exact w.2
      · rw [h1] at w
        cases w.1
    obtain ⟨a1, a2, a3, a4, -, -⟩ := lad_e L (sp_cL s.2)
    show cI u1.2
    have l1 : u1.2 = lad (sp_cL s.2) L := l1
    rw [l1]
    have cc : cI (((lad (sp_cL s.2) L).1, (lad (sp_cL s.2) L).2.1, (lad (sp_cL s.2) L).2.2)) := by
      refine ⟨?_, ?_, ?_, Or.inr ⟨a4, ?_⟩⟩
      · show (lad (sp_cL s.2) L).1.1 ≤ 6 ∧ (lad (sp_cL s.2) L).2.1.1 ≤ 5
        rw [a1, a2]; exact c0
      · intro p hp
        have hp : p < (lad (sp_cL s.2) L).1.1 := hp
        show (∃ k, k < 4 ∧ (lad (sp_cL s.2) L).1.2.2.1 p = nI k) ∧ ∃ l, l < 5 ∧ (lad (sp_cL s.2) L).1.2.2.2 p = nI l
        rw [a1] at hp ⊢
        exact c3 p hp
      · intro e he
        have he : e < (lad (sp_cL s.2) L).2.1.1 := he
        show (∃ d, d < 7 ∧ (lad (sp_cL s.2) L).2.1.2.2.1 e = nI d) ∧ (∃ n, 1 ≤ n ∧ n ≤ 6 ∧ (lad (sp_cL s.2) L).2.1.2.2.2.1 e = nI n) ∧ bN ((lad (sp_cL s.2) L).2.1.2.2.2.2 e) < 2 ^ (lad (sp_cL s.2) L).1.1
        rw [a2] at he ⊢
        rw [a1]
        exact c4 e he
      · show lst (dTL (lad (sp_cL s.2) L)) 0 = some 1
        rw [lad_TL hM]
        exact l2 0 (by decide)
    exact cc
theorem cI_line (hτ : tNum τ) (hc : cI s.2) (e : sp_line τ s = .inr t) : cI t.2 := by
  unfold sp_line at e
  cases h1 : sp_w τ s.1 1119812451 with
  | true => simp only [h1, cond_true] at e; exact cI_person hc e
  | false =>
    simp only [h1, cond_false] at e
    cases h2 : sp_w τ s.1 10492554 with
    | true => simp only [h2, cond_true] at e; exact cI_event hc e
    | false =>
      simp only [h2, cond_false] at e
      cases h3 : sp_w τ s.1 6400279 with
      | true => simp only [h3, cond_true] at e; exact cI_comes hc e
      | false =>
        simp only [h3, cond_false] at e
        cases h4 : sp_w τ s.1 982151 with
        | true => simp only [h4, cond_true] at e; exact cI_snow hc e
        | false =>
          simp only [h4, cond_false] at e
          cases h5 : sp_w τ s.1 375310 with
          | true => simp only [h5, cond_true] at e; exact cI_goes hτ hc e
          | false => simp only [h5, cond_false, sp_f] at e; cases e
theorem cI_all (hτ : tNum τ) : ∀ (m : Nat) (s t : sp_S), cI s.2 → sp_all τ m s = .inr t → cI t.2
  | 0, s, t, hc, e => by cases e; exact hc
  | m + 1, s, t, hc, e => by
    unfold sp_all at e
    cases h1 : sp_k τ s.1 0 with
    | true => rw [h1] at e; cases e; exact hc
    | false =>
      rw [h1] at e
      obtain ⟨u, e1, e2⟩ := sp_b_inr e
      exact cI_all hτ m u t (cI_line hτ hc e1) e2
theorem cI_0 : cI sp_C0 := ⟨⟨by decide, by decide⟩, fun p hp => absurd hp (Nat.not_lt_zero p), fun e he => absurd he (Nat.not_lt_zero e), Or.inl ⟨rfl, rfl⟩⟩
theorem cI_canton {T : Nat → Int32} {sz : Nat} {s : sp_S} (e : sp_canton (tt T sz) = .inr s) : cI s.2 := cI_all tt_num 1001 (0, sp_C0) s cI_0 e
