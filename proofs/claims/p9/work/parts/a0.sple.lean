/-! HOW MANY TOKENS ARE TAKEN, HOW MANY CODES ARE LAID -/
variable {τ : sp_T} {p : sp_S → sp_R} {s s' : sp_S}
/-- one token at least is taken, and no more codes are laid than tokens are taken -/
def sp_le (s s' : sp_S) : Prop := s.1 < s'.1 ∧ s'.2.2.2.2.2.1 + s.1 ≤ s.2.2.2.2.2.1 + s'.1
def sp_ok (p : sp_S → sp_R) : Prop := ∀ s s', p s = .inr s' → sp_le s s'
theorem sp_bI {r : sp_R} {f : sp_S → sp_R} (e : sp_b r f = .inr s') : ∃ t, r = .inr t ∧ f t = .inr s' := by
  cases r with
  | inl F => cases e
  | inr t => exact ⟨t, rfl, e⟩
theorem sp_le_tr {t : sp_S} (h1 : sp_le s t) (h2 : sp_le t s') : sp_le s s' := by
  unfold sp_le at *
  omega
/-- none or more -/
def sp_l0 (s s' : sp_S) : Prop := s.1 ≤ s'.1 ∧ s'.2.2.2.2.2.1 + s.1 ≤ s.2.2.2.2.2.1 + s'.1
theorem sp_l0_tr {t : sp_S} (h1 : sp_le s t) (h2 : sp_l0 t s') : sp_le s s' := by
  unfold sp_le sp_l0 at *
  omega
theorem sp_l1 {t : sp_S} {C : sp_C} {a : Nat} {x : Int32} (h1 : sp_le (a + 1, C) t) (h2 : sp_l0 (t.1, sp_em t.2 x) s') : sp_l0 (a, C) s' := by
  unfold sp_le sp_l0 sp_em at *
  dsimp only at *
  omega
theorem sp_pL_ok (hp : sp_ok p) : ∀ (m : Nat) (s s' : sp_S), sp_pL τ p m s = .inr s' → sp_l0 s s'
  | 0, s, s', e => by
    cases e
    exact ⟨Nat.le_refl _, Nat.le_refl _⟩
  | m + 1, s, s', e => by
    unfold sp_pL at e
    cases h1 : sp_s τ s.1 (Int8.ofInt 42).toInt32 with
    | true =>
      rw [h1] at e
      obtain ⟨t, e1, e2⟩ := sp_bI e
      exact sp_l1 (hp _ _ e1) (sp_pL_ok hp m _ _ e2)
    | false =>
      rw [h1] at e
      cases e
      exact ⟨Nat.le_refl _, Nat.le_refl _⟩
theorem sp_p_ok (hp : sp_ok p) : sp_ok (sp_p τ p) := fun s s' e => by
  obtain ⟨t, e1, e2⟩ := sp_bI e
  exact sp_l0_tr (hp _ _ e1) (sp_pL_ok hp _ _ _ e2)
theorem sp_sL_ok (hp : sp_ok p) : ∀ (m : Nat) (s s' : sp_S), sp_sL τ p m s = .inr s' → sp_l0 s s'
  | 0, s, s', e => by
    cases e
    exact ⟨Nat.le_refl _, Nat.le_refl _⟩
  | m + 1, s, s', e => by
    unfold sp_sL at e
    cases h1 : sp_s τ s.1 (Int8.ofInt 43).toInt32 with
    | true =>
      rw [h1] at e
      obtain ⟨t, e1, e2⟩ := sp_bI e
      exact sp_l1 (sp_p_ok hp _ _ e1) (sp_sL_ok hp m _ _ e2)
    | false =>
      rw [h1] at e
      cases h2 : sp_s τ s.1 (Int8.ofInt 45).toInt32 with
      | true =>
        rw [h2] at e
        obtain ⟨t, e1, e2⟩ := sp_bI e
        exact sp_l1 (sp_p_ok hp _ _ e1) (sp_sL_ok hp m _ _ e2)
      | false =>
        rw [h2] at e
        cases e
        exact ⟨Nat.le_refl _, Nat.le_refl _⟩
theorem sp_su_ok (hp : sp_ok p) : sp_ok (sp_su τ p) := fun s s' e => by
  obtain ⟨t, e1, e2⟩ := sp_bI e
  exact sp_l0_tr (sp_p_ok hp _ _ e1) (sp_sL_ok hp _ _ _ e2)
theorem sp_te_ok (hp : sp_ok p) : sp_ok (sp_te τ p) := fun s s' e => by
  obtain ⟨t, e1, e2⟩ := sp_bI e
  refine sp_l0_tr (sp_su_ok hp _ _ e1) ?_
  cases h1 : sp_s τ t.1 (Int8.ofInt 60).toInt32 with
  | true =>
    rw [h1] at e2
    obtain ⟨u, e3, e4⟩ := sp_bI e2
    cases e4
    exact sp_l1 (sp_su_ok hp _ _ e3) ⟨Nat.le_refl _, Nat.le_refl _⟩
  | false =>
    rw [h1] at e2
    cases h2 : sp_s τ t.1 (Int8.ofInt 61).toInt32 with
    | true =>
      rw [h2] at e2
      obtain ⟨u, e3, e4⟩ := sp_bI e2
      cases e4
      exact sp_l1 (sp_su_ok hp _ _ e3) ⟨Nat.le_refl _, Nat.le_refl _⟩
    | false =>
      rw [h2] at e2
      cases e2
      exact ⟨Nat.le_refl _, Nat.le_refl _⟩
theorem sp_wL_ok (hp : sp_ok p) : ∀ (m : Nat) (s s' : sp_S), sp_wL τ p m s = .inr s' → sp_l0 s s'
  | 0, s, s', e => by
    cases e
    exact ⟨Nat.le_refl _, Nat.le_refl _⟩
  | m + 1, s, s', e => by
    unfold sp_wL at e
    cases h1 : sp_w τ s.1 1891 with
    | true =>
      rw [h1] at e
      obtain ⟨t, e1, e2⟩ := sp_bI e
      exact sp_l1 (sp_te_ok hp _ _ e1) (sp_wL_ok hp m _ _ e2)
    | false =>
      rw [h1] at e
      cases h2 : sp_w τ s.1 573 with
      | true =>
        rw [h2] at e
        obtain ⟨t, e1, e2⟩ := sp_bI e
        exact sp_l1 (sp_te_ok hp _ _ e1) (sp_wL_ok hp m _ _ e2)
      | false =>
        rw [h2] at e
        cases e
        exact ⟨Nat.le_refl _, Nat.le_refl _⟩
theorem sp_wh_ok (hp : sp_ok p) : sp_ok (sp_wh τ p) := fun s s' e => by
  obtain ⟨t, e1, e2⟩ := sp_bI e
  exact sp_l0_tr (sp_te_ok hp _ _ e1) (sp_wL_ok hp _ _ _ e2)
theorem sp_tS_ok {x : Int32} (e : sp_tS τ x s = .inr s') : s' = (s.1 + 1, s.2) := by
  unfold sp_tS at e
  cases h1 : sp_s τ s.1 x with
  | true =>
    rw [h1] at e
    cases e
    rfl
  | false =>
    rw [h1] at e
    cases e
theorem sp_pt_ok : ∀ (r : Nat), sp_ok (sp_pt τ r)
  | 0 => fun s s' e => by
    unfold sp_pt at e
    cases h1 : decide (sp_fa τ s.1 = 0) && (!sp_k τ s.1 2 && (!sp_w τ s.1 19741 && !sp_s τ s.1 (Int8.ofInt 40).toInt32)) with
    | true => rw [h1] at e; cases e
    | false => rw [h1] at e; cases e
  | r + 1 => fun s s' e => by
    unfold sp_pt at e
    cases h1 : decide (sp_fa τ s.1 = 0) && (!sp_k τ s.1 2 && (!sp_w τ s.1 19741 && !sp_s τ s.1 (Int8.ofInt 40).toInt32)) with
    | true => rw [h1] at e; cases e
    | false =>
      rw [h1] at e
      cases h2 : sp_k τ s.1 2 with
      | true =>
        rw [h2] at e
        cases e
        unfold sp_le sp_em
        dsimp only
        omega
      | false =>
        rw [h2] at e
        cases h3 : !decide (sp_fa τ s.1 = 0) with
        | true =>
          rw [h3] at e
          cases e
          unfold sp_le sp_em
          dsimp only
          omega
        | false =>
          rw [h3] at e
          cases h4 : sp_w τ s.1 19741 with
          | true =>
            rw [h4] at e
            obtain ⟨t, e1, e2⟩ := sp_bI e
            cases e2
            have := sp_pt_ok r _ _ e1
            unfold sp_le sp_em at *
            dsimp only at *
            omega
          | false =>
            rw [h4] at e
            obtain ⟨t, e1, e2⟩ := sp_bI e
            have := sp_wh_ok (sp_pt_ok r) _ _ e1
            rw [sp_tS_ok e2]
            unfold sp_le at *
            dsimp only at *
            omega
theorem sp_sL_1 : sp_sL τ p 1001 s = bif sp_s τ s.1 (Int8.ofInt 43).toInt32 then sp_b (sp_p τ p (s.1 + 1, s.2)) (fun t => sp_sL τ p 1000 (t.1, sp_em t.2 ((Int8.ofInt (-10)).toInt32))) else bif sp_s τ s.1 (Int8.ofInt 45).toInt32 then sp_b (sp_p τ p (s.1 + 1, s.2)) (fun t => sp_sL τ p 1000 (t.1, sp_em t.2 ((Int8.ofInt (-11)).toInt32))) else .inr s := rfl
theorem sp_wL_1 : sp_wL τ p 1001 s = bif sp_w τ s.1 1891 then sp_b (sp_te τ p (s.1 + 1, s.2)) (fun t => sp_wL τ p 1000 (t.1, sp_em t.2 ((Int8.ofInt (-6)).toInt32))) else bif sp_w τ s.1 573 then sp_b (sp_te τ p (s.1 + 1, s.2)) (fun t => sp_wL τ p 1000 (t.1, sp_em t.2 ((Int8.ofInt (-7)).toInt32))) else .inr s := rfl
