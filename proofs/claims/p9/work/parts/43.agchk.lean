/-! AN INSTANCE THAT CHECKS IS A CONTRACT -/
variable {D : ag_D} {M : ag_M} {h0 : am_H}
theorem ag_wft_ok {m : Nat} {t : List (Nat × Int)} (h : ag_wft m t = true) : ∀ q ∈ t, q.1 < m := fun q hq => ae_blt (List.all_eq_true.mp h q hq)
theorem ag_wfv_ok {m : Nat} {v : ag_v} (h : ag_wfv m v = true) : ag_wv m v := by
  rcases v with f | f | o
  · exact ag_wft_ok h
  · exact ag_wft_ok h
  · trivial
theorem ag_start {T : ag_T} {ρ : Nat → Int} {lvc : am_V} {h : am_H} (hw : ag_wfT T = true) (hW : ag_WH D (ρ 0) h) (hT : ag_TS T ρ lvc h) (hf : ag_fr M h0 h) : ag_St D M h0 ρ T.1 T.2.2.1 [] T.2.2.2 lvc [] h := by
  unfold ag_wfT at hw
  rw [Bool.and_eq_true, Bool.and_eq_true, Bool.and_eq_true, Bool.and_eq_true, Bool.and_eq_true] at hw
  obtain ⟨w0, w1, w2, w3, w4, w5⟩ := hw
  obtain ⟨t1, t2, t3, t4, t5, t6, t7, t8⟩ := hT
  refine ⟨t1, ⟨fun q hq => ag_wfv_ok (List.all_eq_true.mp w1 q hq), t3⟩, ⟨fun _ z => absurd z List.not_mem_nil, rfl⟩, ⟨hW.1, Nat.le_of_ble_eq_true w0⟩, hW.2.1, fun q hq => ⟨ag_wft_ok (List.all_eq_true.mp w2 q hq), t4 q hq⟩, fun q hq => ⟨ag_wft_ok (List.all_eq_true.mp w3 q hq), t5 q hq⟩, t6, ⟨fun g hg => ⟨ag_wft_ok (List.all_eq_true.mp w4 g hg), t7 g hg⟩, fun g hg => ⟨ag_wft_ok (List.all_eq_true.mp w5 g hg), t8 g hg⟩⟩, hW.2.2, hf⟩
theorem ag_fr.refl (h : am_H) : ag_fr M h h := ⟨rfl, fun _ _ _ => ⟨rfl, rfl, rfl⟩⟩
/-- a cut's state: its template, its measure -/
def ag_CS (D : ag_D) (M : ag_M) (h0 : am_H) (N : Nat → Int) (c : Nat × ag_T × ag_f) (ρ : Nat → Int) (lvc : am_V) (h : am_H) : Prop := (∀ j, j < 3 → ρ j = N j) ∧ ag_WH D (N 0) h ∧ ag_TS c.2.1 ρ lvc h ∧ ag_fr M h0 h ∧ 0 ≤ ag_ev ρ c.2.2
theorem ag_cut_ok {I : ag_I} {src : Option ag_f} {ρ0 : Nat → Int} {env0 : ag_e} (h0m : ∀ m, src = some m → ag_wt env0.length m) (hl0 : 3 ≤ env0.length) {env : ag_e} {pc : Nat} {lv : ag_l} {H : ag_H} {lvc : am_V} {ρ : Nat → Int} {h : am_H} (hs : (ag_cutX D I src).2.1 env pc lv H = true) (hx : ag_xt ρ0 env0 ρ env) (hS : ag_St D M h0 ρ env lv [] H lvc [] h) :
    ∃ c ∈ I.2.1, c.1 = pc ∧ ∃ τ, ag_CS D M h0 ρ0 c τ lvc h ∧ ∀ m, src = some m → ag_ev τ c.2.2 < ag_ev ρ0 m := by
  obtain ⟨c, hc, k⟩ := List.any_eq_true.mp hs
  rw [Bool.and_eq_true] at k
  obtain ⟨ρ1, e1, lv1, H1, x1, lR, p1, k1⟩ := ag_m3_ok hS.1 hS.2.1.1 hS.2.1.2 hS.2.2.2 k.2
  split at k1
  · rename_i σ hσ
    rw [Bool.and_eq_true] at k1
    have TS := ag_fit_ok x1.2.2 lR p1 hσ
    have xx := hx.trans x1
    have e0 : ∀ j, j < 3 → ρ1 j = ρ0 j := fun j hj => xx.2.1 j (by omega)
    obtain ⟨σ', eσ⟩ := ag_fit_pre hσ
    have e3 : ∀ j, j < 3 → ag_rT ρ1 σ j = ρ0 j := fun j hj => by rw [eσ, ag_rT_P0 σ' j hj]; exact e0 j hj
    have mu := ag_inI_ok x1.2.2 k1.1
    rw [ag_sb_rT] at mu
    refine ⟨c, hc, Nat.eq_of_beq_eq_true k.1, ag_rT ρ1 σ, ⟨e3, by rw [← e0 0 (by decide)]; exact p1.WH, TS, p1.2.2.2.2.2.2.2, mu.1⟩, fun m hm => ?_⟩
    have k2 := k1.2
    rw [hm] at k2
    have k2 : (match ag_iv e1 (ag_sub m (ag_sb σ c.2.2)) with
      | some w => decide (1 ≤ w.1)
      | none => false) = true := k2
    split at k2
    · rename_i w hw
      have b := ag_iv_ok x1.2.2 hw
      rw [ag_ev_sub, ag_sb_rT, ag_ev_same xx.2.1 (h0m m hm)] at b
      have := of_decide_eq_true k2
      omega
    · cases k2
  · cases k1
theorem ag_ret_ok {I : ag_I} {env : ag_e} {H : ag_H} {v : Option ag_v} {ρ : Nat → Int} {h : am_H} (hin : ag_in ρ env) (hw : ∀ x, v = some x → ag_wv env.length x) (hp : ag_Hp D M h0 ρ env.length H h) (hs : ag_ret D I env H v = true) : ∃ P ∈ I.1.2.2.2.1, ∃ τ : Nat → Int, (∀ j, j < 3 → τ j = ρ j) ∧ ag_TS P τ (ag_rv (v.map (ag_c ρ))) h ∧ (v.map (ag_c ρ)).isSome = (ag_lv P.2.2.1 1000).isSome := by
  obtain ⟨P, hP, k⟩ := List.any_eq_true.mp hs
  have wl : ag_wl env.length (ag_rl v) := by
    cases v with
    | none => exact fun q hq => absurd hq List.not_mem_nil
    | some x =>
      intro q hq
      rcases List.mem_cons.mp (show q ∈ [((1000 : Nat), x)] from hq) with e | e
      · rw [e]; exact hw x rfl
      · exact absurd e List.not_mem_nil
  have lr : ag_lR (ag_cl ρ (ag_rl v)) (ag_rv (v.map (ag_c ρ))) := by
    cases v with
    | none => exact fun q hq => absurd hq List.not_mem_nil
    | some x =>
      intro q hq
      rcases List.mem_cons.mp (show q ∈ [((1000 : Nat), ag_c ρ x)] from hq) with e | e
      · rw [e]; rfl
      · exact absurd e List.not_mem_nil
  obtain ⟨ρ1, e1, lv1, H1, x1, lR, p1, k1⟩ := ag_m3_ok hin wl lr hp k
  rw [Bool.and_eq_true, decide_eq_true_eq] at k1
  obtain ⟨k2, k3⟩ := k1
  refine ⟨P, hP, ?_⟩
  have e0 : ∀ j, j < 3 → ρ1 j = ρ j := fun j hj => x1.2.1 j (Nat.lt_of_lt_of_le hj hp.1.2)
  cases hσ : ag_fit D e1 lv1 H1 ag_P0 P with
  | none => rw [hσ] at k2; cases k2
  | some σ =>
    obtain ⟨σ', eσ⟩ := ag_fit_pre hσ
    exact ⟨ag_rT ρ1 σ, fun j hj => by rw [eσ, ag_rT_P0 σ' j hj]; exact e0 j hj, ag_fit_ok x1.2.2 lR p1 hσ, by rw [← k3]; cases v <;> rfl⟩
set_option maxHeartbeats 1000000 in
theorem ag_chk_ok (hD : D.2.2.2 = am_shl) (hDL : ∀ o k, ¬ o = 154 → D.2.1 o k = (-9223372036854775808, 9223372036854775807)) {Xp : am_H → Prop} (hXp : ∀ h h' : am_H, (∀ o k, ag_kp o k → h'.1 o k = h.1 o k) → Xp h → Xp h') {tab : List ag_C} (htab : ∀ C ∈ tab, ag_ok D Xp C) {I : ag_I} (hs : ag_chk D tab I = true) : ag_ok D Xp I.1 := by
  intro T hT ρ args h hW hX hTS hlen _
  unfold ag_chk at hs
  split at hs
  · rename_i q hq
    split at hs
    · cases hs
    · rename_i d hd
      rw [Bool.and_eq_true, Bool.and_eq_true, Bool.and_eq_true] at hs
      obtain ⟨s1, s2, s3, s4⟩ := hs
      have hal := Nat.eq_of_beq_eq_true s1
      obtain ⟨e1, e2, -⟩ := am_inf_at hq
      have e3 : am_cod I.1.1 = am_find q.1 := by
        funext pc
        unfold am_cod
        rw [hq]
      -- the ends
      have ends : ∀ (env : ag_e) (ρ1 : Nat → Int), (∀ j, j < 3 → ρ1 j = ρ j) → 3 ≤ env.length → ∀ (env' : ag_e) (H' : ag_H) (v : Option ag_v) (ρ' : Nat → Int) (h' : am_H), ag_ret D I env' H' v = true → ag_xt ρ1 env ρ' env' → (∀ x, v = some x → ag_wv env'.length x) → ag_Hp D I.1.2.2.2.2 h ρ' env'.length H' h' →
          h'.2.2.2.2 = 175 ∧ ag_WH D (ρ 0) h' ∧ ag_fr I.1.2.2.2.2 h h' ∧ ∃ P ∈ I.1.2.2.2.1, ∃ τ : Nat → Int, (∀ j, j < 3 → τ j = ρ j) ∧ ag_TS P τ (ag_rv (v.map (ag_c ρ'))) h' ∧ (v.map (ag_c ρ')).isSome = (ag_lv P.2.2.1 1000).isSome := by
        intro env ρ1 hr hl env' H' v ρ' h' k x wv p
        have e0 : ∀ j, j < 3 → ρ' j = ρ j := fun j hj => (x.2.1 j (by omega)).trans (hr j hj)
        obtain ⟨P, hP, τ, t0, t1, t2⟩ := ag_ret_ok x.2.2 wv p k
        have W := p.WH
        rw [e0 0 (by decide)] at W
        exact ⟨p.1.1, W, p.2.2.2.2.2.2.2, P, hP, τ, fun j hj => (t0 j hj).trans (e0 j hj), t1, t2⟩
      have cuts : ∀ n : Nat, ∀ c ∈ I.2.1, ∀ (τ : Nat → Int) (lvc : am_V) (h1 : am_H), ag_CS D I.1.2.2.2.2 h ρ c τ lvc h1 → ag_ev τ c.2.2 < (n : Int) → am_W (am_call am_cod d) q.2.1 175 q.2.2 (am_find q.1) (fun v h' => h'.2.2.2.2 = 175 ∧ ag_WH D (ρ 0) h' ∧ ag_fr I.1.2.2.2.2 h h' ∧ ∃ P ∈ I.1.2.2.2.1, ∃ τ : Nat → Int, (∀ j, j < 3 → τ j = ρ j) ∧ ag_TS P τ (ag_rv v) h' ∧ v.isSome = (ag_lv P.2.2.1 1000).isSome) c.1 lvc [] h1 := by
        intro n
        induction n with
        | zero =>
          intro c hc τ lvc h1 hC hn
          have := hC.2.2.2.2
          omega
        | succ n ih =>
          intro c hc τ lvc h1 hC hn
          obtain ⟨c1, c2, c3, c4, c5⟩ := hC
          have k := List.all_eq_true.mp s4 c hc
          rw [Bool.and_eq_true, Bool.and_eq_true] at k
          obtain ⟨⟨k1, k2⟩, k3⟩ := k
          have hl : 3 ≤ c.2.1.1.length := by
            unfold ag_wfT at k1
            rw [Bool.and_eq_true] at k1
            exact Nat.le_of_ble_eq_true k1.1
          have run := ag_go_ok (h0 := h) s2 hD hDL hXp hX htab I.2.2.2 true (ag_cutX D I (some c.2.2)) c.2.1.1 d c.2.1.2.2.2 q.1 q.2.1 q.2.2 c.1 c.2.1.2.2.1 [] (ag_ret D I) τ lvc [] h1 (fun pc' lvc' stc' h' => stc' = [] ∧ ∃ c' ∈ I.2.1, c'.1 = pc' ∧ ∃ τ', ag_CS D I.1.2.2.2.2 h ρ c' τ' lvc' h' ∧ ag_ev τ' c'.2.2 < (n : Int)) (fun v h' => h'.2.2.2.2 = 175 ∧ ag_WH D (ρ 0) h' ∧ ag_fr I.1.2.2.2.2 h h' ∧ ∃ P ∈ I.1.2.2.2.1, ∃ τ : Nat → Int, (∀ j, j < 3 → τ j = ρ j) ∧ ag_TS P τ (ag_rv v) h' ∧ v.isSome = (ag_lv P.2.2.1 1000).isSome) k3 (ag_start k1 (by rw [c1 0 (by decide)]; exact c2) c3 c4) ?_ ?_
          · refine am_X.mono (fun pc' lvc' stc' h' hE => ?_) (fun _ _ z => z) run
            obtain ⟨z1, c', hc', z2, τ', z3, z4⟩ := hE
            subst z1
            subst z2
            exact ih c' hc' τ' lvc' h' z3 z4
          · intro env' pc' lv' H' lvc' ρ' h' a1 a2 a3 a4
            obtain ⟨c', hc', z2, τ', z3, z4⟩ := ag_cut_ok (fun m hm => by cases hm; exact ag_wft_ok k2) hl a2 a3 a4
            have := z4 _ rfl
            exact ⟨rfl, c', hc', z2, τ', ⟨fun j hj => (z3.1 j hj).trans (c1 j hj), by rw [← c1 0 (by decide)]; exact z3.2.1, z3.2.2⟩, by omega⟩
          · intro env' H' v ρ' h' a1 a2 a3 a4
            exact ends c.2.1.1 τ c1 hl env' H' v ρ' h' a1 a2 a3 a4
      rw [hd]
      refine Or.inr ⟨hlen, ?_⟩
      rw [e3, ← e1, ← e2, hal, hW.1]
      have k := List.all_eq_true.mp s3 T hT
      rw [Bool.and_eq_true] at k
      have hl : 3 ≤ T.1.length := by
        have k1 := k.1
        unfold ag_wfT at k1
        rw [Bool.and_eq_true] at k1
        exact Nat.le_of_ble_eq_true k1.1
      have run := ag_go_ok (h0 := h) s2 hD hDL hXp hX htab I.2.2.2 true (ag_cutX D I none) T.1 d T.2.2.2 q.1 q.2.1 q.2.2 0 T.2.2.1 [] (ag_ret D I) ρ (lv_args 0 args) [] h (fun pc' lvc' stc' h' => stc' = [] ∧ ∃ c' ∈ I.2.1, c'.1 = pc' ∧ ∃ τ', ag_CS D I.1.2.2.2.2 h ρ c' τ' lvc' h') (fun v h' => h'.2.2.2.2 = 175 ∧ ag_WH D (ρ 0) h' ∧ ag_fr I.1.2.2.2.2 h h' ∧ ∃ P ∈ I.1.2.2.2.1, ∃ τ : Nat → Int, (∀ j, j < 3 → τ j = ρ j) ∧ ag_TS P τ (ag_rv v) h' ∧ v.isSome = (ag_lv P.2.2.1 1000).isSome) k.2 (ag_start k.1 hW hTS (ag_fr.refl h)) ?_ ?_
      · refine am_X.mono (fun pc' lvc' stc' h' hE => ?_) (fun _ _ z => z) run
        obtain ⟨z1, c', hc', z2, τ', z3⟩ := hE
        subst z1
        subst z2
        exact cuts ((ag_ev τ' c'.2.2).toNat + 1) c' hc' τ' lvc' h' z3 (by have := z3.2.2.2.2; omega)
      · intro env' pc' lv' H' lvc' ρ' h' a1 a2 a3 a4
        obtain ⟨c', hc', z2, τ', z3, -⟩ := ag_cut_ok (fun m hm => by cases hm) hl a2 a3 a4
        exact ⟨rfl, c', hc', z2, τ', z3⟩
      · intro env' H' v ρ' h' a1 a2 a3 a4
        exact ends T.1 ρ (fun _ _ => rfl) hl env' H' v ρ' h' a1 a2 a3 a4
  · cases hs
