/-! KNOWN CALLS: feed, idle and years as contracts; the law's runs over them -/
variable {ρ : Nat → Int32}
theorem ae_hi_lk {α : Type} : ∀ (l : List (Nat × Nat × α)) (o k : Nat) (d : α), 154 ≤ o → ae_lk (ae_hi l) o k d = ae_lk l o k d
  | [], _, _, _, _ => rfl
  | q :: r, o, k, d, ho => by
    have ih := ae_hi_lk r o k d ho
    unfold ae_hi at ih ⊢
    rw [List.filter_cons]
    cases hq : Nat.ble 154 q.1 with
    | true =>
      rw [if_pos rfl]
      show (bif Nat.beq q.2.1 k && Nat.beq q.1 o then q.2.2 else ae_lk (r.filter (fun q => Nat.ble 154 q.1)) o k d) = (bif Nat.beq q.2.1 k && Nat.beq q.1 o then q.2.2 else ae_lk r o k d)
      rw [ih]
    | false =>
      rw [if_neg (by decide), ih]
      show _ = (bif Nat.beq q.2.1 k && Nat.beq q.1 o then q.2.2 else ae_lk r o k d)
      have hne : ¬ q.1 = o := by
        intro z
        rw [z] at hq
        have : Nat.ble 154 o = true := Nat.ble_eq_true_of_le ho
        rw [hq] at this
        cases this
      rw [ae_b2, ae_cond, if_neg (fun z => hne z.1)]
theorem ae_keep_ok {H : ae_H} {h : am_H} (hk : ae_keep H = true) (hR : ae_R ρ 7 H h) : ae_R ρ 7 ae_Hr h := by
  unfold ae_keep at hk
  simp only [Bool.and_eq_true, decide_eq_true_eq] at hk
  obtain ⟨k1, k2, k3⟩ := hk
  obtain ⟨r1, r2, r3, r4, r5, r6, r7, r8⟩ := hR
  have e1 : H.2.2.1 = 175 := congrArg Prod.fst k3
  have e2 : H.2.2.2 = 0 := congrArg Prod.snd k3
  refine ⟨r1.trans e1, r2, by decide, fun o k ho => ?_, fun o k ho => ?_, r6, fun o k ho => ?_, fun o k ho => ?_⟩
  · have ho : 154 ≤ o ∧ o < 175 := ho
    show _ = ae_ci ρ (ae_lk ae_H0.1 o k (.inl 0))
    rw [← ae_hi_lk ae_H0.1 o k _ ho.1, ← k1, ae_hi_lk H.1 o k _ ho.1]
    exact r4 o k (by omega)
  · have ho : 154 ≤ o ∧ o < 175 := ho
    show _ = ae_lk ae_H0.2.1 o k none
    rw [← ae_hi_lk ae_H0.2.1 o k _ ho.1, ← k2, ae_hi_lk H.2.1 o k _ ho.1]
    exact r5 o k (by omega)
  · have ho : 175 ≤ o := ho
    show ae_lk ae_H0.1 o k (.inl 0) = _
    rw [← ae_hi_lk ae_H0.1 o k _ (by omega), ← k1, ae_hi_lk H.1 o k _ (by omega)]
    exact r7 o k (by omega)
  · have ho : 175 ≤ o := ho
    show ae_lk ae_H0.2.1 o k none = _
    rw [← ae_hi_lk ae_H0.2.1 o k _ (by omega), ← k2, ae_hi_lk H.2.1 o k _ (by omega)]
    exact r8 o k (by omega)
theorem ae_R_lo {H : ae_H} {h : am_H} {n : Nat} (hR : ae_R ρ 7 H h) (hn : H.2.2.2 ≤ n) : ae_R ρ 7 (H.1, H.2.1, H.2.2.1, n) h := by
  obtain ⟨r1, r2, r3, r4, r5, r6, r7, r8⟩ := hR
  exact ⟨r1, r2, r3, fun o k ho => r4 o k ⟨Nat.le_trans hn ho.1, ho.2⟩, fun o k ho => r5 o k ⟨Nat.le_trans hn ho.1, ho.2⟩, r6, r7, r8⟩
/-- only how many there are, and the script -/
theorem ae_R_no {H H' : ae_H} {h : am_H} (hR : ae_R ρ 7 H h) (h1 : H.2.2.1 = 175) (h7 : ∀ o k, 175 ≤ o → ae_lk H'.1 o k (.inl 0) = .inl 0) (h8 : ∀ o k, 175 ≤ o → ae_lk H'.2.1 o k none = none) : ae_R ρ 7 (H'.1, H'.2.1, 175, 175) h := by
  obtain ⟨r1, r2, r3, r4, r5, r6, r7, r8⟩ := hR
  exact ⟨r1.trans h1, r2, Nat.le_refl 175, fun o k ho => by have : 175 ≤ o ∧ o < 175 := ho; omega, fun o k ho => by have : 175 ≤ o ∧ o < 175 := ho; omega, r6, h7, h8⟩
theorem ae_mth_ok {fr : ae_e → Option ae_v → ae_H → Bool} {env : ae_e} {n : Nat} {As : List ae_v} {H : ae_H} {h : am_H} {Q : am_Q} (hm : ae_mth fr env n As H = true) (hin : ae_in ρ env) (hR : ae_R ρ 7 H h) (h175 : H.2.2.1 = 175)
    (hfr : ∀ env v H', fr env v H' = true → ae_in ρ env → ∀ h', ae_R ρ 7 H' h' → H'.2.2.1 = 175 ∧ Q (v.map (ae_c ρ)) h') : am_call am_cod 10 n (As.map (ae_c ρ)) h Q := by
  unfold ae_mth at hm
  split at hm
  · rename_i q hq
    rw [Bool.and_eq_true, Bool.and_eq_true] at hm
    obtain ⟨m1, m2, m3⟩ := hm
    obtain ⟨e1, e2, -⟩ := am_inf_at hq
    have e3 : am_cod n = am_find q.1 := by
      funext pc
      unfold am_cod
      rw [hq]
    have e4 : am_al n = 0 := Nat.eq_of_beq_eq_true m2
    have w := ae_go_ok (ρ := ρ) (E := fun _ _ _ _ => False) (Q := fun v h' => h'.2.2.2.2 = h.2.2.2.2 + am_al n ∧ Q v h') (fun _ _ _ _ z => by cases z) (fun _ _ _ _ _ z => by cases z) (fun env v H' z hi h' hr => ⟨by rw [hr.1, (hfr env v H' z hi h' hr).1, hR.1, h175, e4], (hfr env v H' z hi h' hr).2⟩) _ _ _ _ _ _ _ _ _ _ _ _ m3 hin h hR
    refine Or.inr ⟨by rw [ae_sl_c, ← e1]; exact Nat.le_of_ble_eq_true m1, ?_⟩
    rw [e3, ← e1, ← e2, ← ae_args_c, e4, hR.1]
    rw [e4, hR.1] at w
    exact w
  · cases hm
/-- the answers -/
def ae_vid (x : Int32) : Int32 := if 1 ≤ x.toInt ∧ x.toInt ≤ 60 then x else -1
def ae_vyr (s d w : Int32) : Int32 := if (0 ≤ s.toInt ∧ s.toInt ≤ 9999) ∧ (1 ≤ d.toInt ∧ d.toInt ≤ 99) ∧ (0 ≤ w.toInt ∧ w.toInt ≤ 2) then 0 else -1
theorem ae_idv_ok {env : ae_e} {v : Option ae_v} (hv : ae_idv env v = true) (hin : ae_in ρ env) : v.map (ae_c ρ) = some (.int (ae_vid (ρ 1))) := by
  unfold ae_idv at hv
  split at hv
  · rename_i v' w n hw
    have hb := hin.1 1 w hw
    simp only [Bool.and_eq_true, Bool.or_eq_true, decide_eq_true_eq] at hv
    show some (Value.int (Int32.ofInt n)) = _
    unfold ae_vid
    rcases hv with ⟨h1, h2, h3, h4⟩ | ⟨h1, h2⟩
    · rw [if_pos (by omega), h4, show w.1 = (ρ 1).toInt by omega, Int32.ofInt_toInt]
    · rw [if_neg (by omega), h1]
      rfl
  · cases hv
theorem ae_yrv_ok {env : ae_e} {v : Option ae_v} (hv : ae_yrv env v = true) (hin : ae_in ρ env) : v.map (ae_c ρ) = some (.int (ae_vyr (ρ 1) (ρ 2) (ρ 3))) := by
  unfold ae_yrv at hv
  split at hv
  · rename_i v' s d w n hs hd hw
    have hb1 := hin.1 1 s hs
    have hb2 := hin.1 2 d hd
    have hb3 := hin.1 3 w hw
    simp only [Bool.and_eq_true, Bool.or_eq_true, decide_eq_true_eq] at hv
    show some (Value.int (Int32.ofInt n)) = _
    unfold ae_vyr
    rcases hv with ⟨h1, h2⟩ | ⟨h1, h2⟩
    · rw [if_pos (by omega), h1]
      rfl
    · rw [if_neg (by omega), h1]
      rfl
  · cases hv
theorem ae_H0_7 : ∀ o k, 175 ≤ o → ae_lk ae_H0.1 o k (.inl 0) = .inl 0 := by
  intro o k ho
  have hk : ∀ q ∈ ae_H0.1, q.1 < 175 := by decide +kernel
  rcases ae_lk_cases ae_H0.1 o k (.inl 0) with ⟨v, h1, h2⟩ | ⟨h1, h2⟩
  · have := hk _ h1
    dsimp only at this
    omega
  · exact h1
theorem ae_H0_8 : ∀ o k, 175 ≤ o → ae_lk ae_H0.2.1 o k none = none := by
  intro o k ho
  have hk : ∀ q ∈ ae_H0.2.1, q.1 < 175 := by decide +kernel
  rcases ae_lk_cases ae_H0.2.1 o k none with ⟨v, h1, h2⟩ | ⟨h1, h2⟩
  · have := hk _ h1
    dsimp only at this
    omega
  · exact h1
/-- which calls are known: (the class's number, the reference's, their arguments) -/
def ae_as (nC nM : Nat) (As : List ae_v) (a : Nat) (Bs : List ae_v) (H : ae_H) : Option (Nat × Nat) :=
  bif Nat.beq a nC && (decide (Bs = .inr (.inr (.inl 0)) :: As) && decide (H = ae_H0)) then some (8, 154) else bif Nat.beq a nM && (decide (Bs = .inr (.inr (.inl 154)) :: As) && decide (H = ae_Hr)) then some (8, 175) else none
def ae_opA (asm : Nat → List ae_v → ae_H → Option (Nat × Nat)) (LL : Nat) (env : ae_e) : Bool := ae_go LL asm (fun _ => false) (fun _ _ _ _ _ => false) (fun _ v _ => decide (v = some (.inl 1))) 60000 env 20 ae_H0 (am_rL, 7, some .boolean, 175, 23, ae_lv0, []) []
def ae_asI : Nat → List ae_v → ae_H → Option (Nat × Nat) := ae_as 126 252 [.inr (.inl 1)]
def ae_asY : Nat → List ae_v → ae_H → Option (Nat × Nat) := ae_as 137 288 [.inr (.inl 1), .inr (.inl 2), .inr (.inl 3)]
def ae_asF : Nat → List ae_v → ae_H → Option (Nat × Nat) := ae_as 12 177 [.inr (.inr (.inr (.inr 1012))), .inr (.inr (.inr (.inr 1034))), .inr (.inr (.inr (.inr 1056)))]
theorem ae_o0 : ae_opA ae_asF 7 (ae_env0.set 7 (0, 0)) = true := by decide +kernel
theorem ae_o15 : ae_opA ae_asI 7 (ae_env0.set 7 (15, 15)) = true := by decide +kernel
theorem ae_o41 : ae_opA ae_asY 7 (ae_env0.set 7 (41, 41)) = true := by decide +kernel
theorem ae_oD : ae_opA (fun _ _ _ => none) 7 (ae_env0.set 7 (44, 63)) = true := by decide +kernel
theorem ae_oL : (List.range 7).all (fun LL => ae_opA (fun _ _ _ => none) LL ae_env0) = true := by decide +kernel
theorem ae_as_inv {nC nM a : Nat} {As Bs : List ae_v} {H : ae_H} {w : Nat × Nat} (hs : ae_as nC nM As a Bs H = some w) : (a = nC ∧ Bs = .inr (.inr (.inl 0)) :: As ∧ H = ae_H0 ∧ w = (8, 154)) ∨ (a = nM ∧ Bs = .inr (.inr (.inl 154)) :: As ∧ H = ae_Hr ∧ w = (8, 175)) := by
  unfold ae_as at hs
  cases h1 : (Nat.beq a nC && (decide (Bs = .inr (.inr (.inl 0)) :: As) && decide (H = ae_H0))) with
  | true =>
    rw [h1] at hs
    simp only [Bool.and_eq_true, decide_eq_true_eq] at h1
    exact Or.inl ⟨Nat.eq_of_beq_eq_true h1.1, h1.2.1, h1.2.2, (Option.some.inj hs).symm⟩
  | false =>
    rw [h1] at hs
    cases h2 : (Nat.beq a nM && (decide (Bs = .inr (.inr (.inl 154)) :: As) && decide (H = ae_Hr))) with
    | true =>
      rw [h2] at hs
      simp only [Bool.and_eq_true, decide_eq_true_eq] at h2
      exact Or.inr ⟨Nat.eq_of_beq_eq_true h2.1, h2.2.1, h2.2.2, (Option.some.inj hs).symm⟩
    | false =>
      rw [h2] at hs
      cases hs
