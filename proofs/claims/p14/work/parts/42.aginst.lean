section
/-! A RUN OF THE SECOND CHECKER IS ONE OF THE ABSTRACT MACHINE; an instance that checks is a contract -/
variable {ρ : Nat → Int} {env : ag_e} {D : ag_D} {M : ag_M} {h0 : am_H}
/-- what a contract says -/
def ag_ok (D : ag_D) (Xp : am_H → Prop) (C : ag_C) : Prop := ∀ T ∈ C.2.2.1, ∀ (ρ : Nat → Int) (args : List Value) (h : am_H), ag_WH D (ρ 0) h → Xp h → ag_TS T ρ (lv_args 0 args) h → (lg_sl args).length ≤ am_nL C.1 → args.length = T.2.2.1.length →
  am_call am_cod C.2.1 C.1 args h (fun v h' => ag_WH D (ρ 0) h' ∧ ag_fr C.2.2.2.2 h h' ∧ ∃ P ∈ C.2.2.2.1, ∃ τ : Nat → Int, (∀ j, j < 3 → τ j = ρ j) ∧ ag_TS P τ (ag_rv v) h' ∧ v.isSome = (ag_lv P.2.2.1 1000).isSome)
theorem ag_Hp.WH {m : Nat} {H : ag_H} {h : am_H} (hp : ag_Hp D M h0 ρ m H h) : ag_WH D (ρ 0) h := ⟨hp.1.1, hp.2.1, hp.2.2.2.2.2.2.1⟩
theorem ag_noX_inv {pc : Nat} (h : ag_noX.1 pc = true) : False := Bool.noConfusion h
set_option maxHeartbeats 4000000 in
theorem ag_go_ok (hM : ag_Mok M = true) (hD : D.2.2.2 = am_shl) (hDL : ∀ o k, ¬ o = 154 → D.2.1 o k = (-9223372036854775808, 9223372036854775807)) {Xp : am_H → Prop} (hXp : ∀ h h' : am_H, (∀ o k, ag_kp o k → h'.1 o k = h.1 o k) → Xp h → Xp h') (hX0 : Xp h0) {tab : List ag_C} (htab : ∀ C ∈ tab, ag_ok D Xp C) :
    ∀ (f : Nat) (fst : Bool) (X : ag_X) (env : ag_e) (d : Nat) (H : ag_H) (rows : List (Nat × am_R)) (nL : Nat) (rt : Option FieldType) (pc : Nat) (lv : ag_l) (st : List ag_v) (Rt : ag_e → ag_H → Option ag_v → Bool) (ρ : Nat → Int) (lvc : am_V) (stc : List Value) (h : am_H) (E : Nat → am_V → List Value → am_H → Prop) (Q : am_Q),
    ag_go D M tab f fst X env d H rows nL rt pc lv st Rt = true → ag_St D M h0 ρ env lv st H lvc stc h →
    (∀ env' pc' lv' H' lvc' ρ' h', X.1 pc' = true → X.2.1 env' pc' lv' H' = true → ag_xt ρ env ρ' env' → ag_St D M h0 ρ' env' lv' [] H' lvc' [] h' → E pc' lvc' [] h') →
    (∀ env' H' v ρ' h', Rt env' H' v = true → ag_xt ρ env ρ' env' → (∀ x, v = some x → ag_wv env'.length x) → ag_Hp D M h0 ρ' env'.length H' h' → Q (v.map (ag_c ρ')) h') →
    am_X (am_call am_cod d) nL 175 rt (am_find rows) E Q pc lvc stc h := by
  intro f
  induction f with
  | zero => intro fst X env d H rows nL rt pc lv st Rt ρ lvc stc h E Q hs; exact Bool.noConfusion hs
  | succ f ih =>
    intro fst X env d H rows nL rt pc lv st Rt ρ lvc stc h E Q hs hS hXX hRR
    unfold ag_go at hs
    cases hx : (!fst && X.1 pc) with
    | true =>
      rw [hx] at hs
      have hs : (st.isEmpty && X.2.1 env pc lv H) = true := hs
      rw [Bool.and_eq_true] at hx hs
      have e1 : st = [] := List.isEmpty_iff.mp hs.1
      subst e1
      have e2 : stc = [] := hS.2.2.1.2
      subst e2
      exact am_xexit (hXX env pc lv H lvc ρ h hx.2 hs.2 (ag_xt.refl hS.1) hS)
    | false =>
      rw [hx] at hs
      have hs : (match ag_spl env lv H X pc with
        | some (g, lo, hi) => _
        | none => _) = true := hs
      split at hs
      · rename_i g lo hi hg
        have hiv : ag_iv env g = some (lo, hi) := by
          unfold ag_spl at hg
          split at hg
          · split at hg
            · split at hg
              · rename_i w hw
                cases hb : decide (w.1 < w.2) with
                | true =>
                  rw [hb] at hg
                  cases hg
                  exact hw
                | false =>
                  rw [hb] at hg
                  cases hg
              · cases hg
            · cases hg
          · cases hg
        have hb := ag_iv_ok hS.1 hiv
        have hb1 : lo ≤ ag_ev ρ g := hb.1
        have hb2 : ag_ev ρ g ≤ hi := hb.2
        have k1 := List.all_eq_true.mp hs (ag_ev ρ g - lo).toNat (List.mem_range.mpr (by omega))
        obtain ⟨e2, i2, l2, k2⟩ := ag_eq_ok hS.1 (by rw [ag_ev_sub, ag_ev_k]; omega) k1
        have xx : ag_xt ρ env ρ e2 := ag_xt.cut i2 l2
        refine ih fst X e2 d H rows nL rt pc lv st Rt ρ lvc stc h E Q k2 ⟨i2, ⟨hS.2.1.1.up xx.1, hS.2.1.2⟩, ⟨hS.2.2.1.1.up xx.1, hS.2.2.1.2⟩, hS.2.2.2.up xx⟩ ?_ ?_
        · intro env' pc' lv' H' lvc' ρ' h' a1 a2 a3 a4
          exact hXX env' pc' lv' H' lvc' ρ' h' a1 a2 (xx.trans a3) a4
        · intro env' H' v ρ' h' a1 a2 a3 a4
          exact hRR env' H' v ρ' h' a1 (xx.trans a2) a3 a4
      · split at hs
        · cases hs
        · rename_i r hr
          obtain ⟨i, nx, a, b, c, dd⟩ := r
          -- going on in this frame
          have go : ∀ (env' : ag_e) (pc' : Nat) (lv' : ag_l) (st' : List ag_v) (H' : ag_H) (lvc' : am_V) (stc' : List Value) (ρ' : Nat → Int) (h' : am_H), ag_go D M tab f false X env' d H' rows nL rt pc' lv' st' Rt = true → ag_xt ρ env ρ' env' → ag_St D M h0 ρ' env' lv' st' H' lvc' stc' h' → am_X (am_call am_cod d) nL 175 rt (am_find rows) E Q pc' lvc' stc' h' := by
            intro env' pc' lv' st' H' lvc' stc' ρ' h' k x S'
            refine ih false X env' d H' rows nL rt pc' lv' st' Rt ρ' lvc' stc' h' E Q k S' ?_ ?_
            · intro env2 pc2 lv2 H2 lvc2 ρ2 h2 a1 a2 a3 a4
              exact hXX env2 pc2 lv2 H2 lvc2 ρ2 h2 a1 a2 (x.trans a3) a4
            · intro env2 H2 v ρ2 h2 a1 a2 a3 a4
              exact hRR env2 H2 v ρ2 h2 a1 (x.trans a2) a3 a4
          have back : ∀ (env' : ag_e) (H' : ag_H) (vv : Option ag_v) (rest : List ag_v) (ρ' : Nat → Int) (h' : am_H), ag_go D M tab f false X env' d H' rows nL rt nx lv (vv.toList ++ rest) Rt = true → ag_xt ρ env ρ' env' → (∀ x, vv = some x → ag_wv env'.length x) → ag_Hp D M h0 ρ' env'.length H' h' → ag_ws env.length rest → am_X (am_call am_cod d) nL 175 rt (am_find rows) E Q nx lvc ((vv.map (ag_c ρ')).toList ++ rest.map (ag_c ρ)) h' := by
            intro env' H' vv rest ρ' h' k x hv hp' hw
            have hw' : ag_ws env'.length (vv.toList ++ rest) := by
              intro z hz
              rcases List.mem_append.mp hz with e | e
              · cases vv with
                | none => exact absurd e List.not_mem_nil
                | some y =>
                  rcases List.mem_cons.mp e with e | e
                  · rw [e]; exact hv y rfl
                  · exact absurd e List.not_mem_nil
              · exact (hw.up x.1) z e
            have q := go env' nx lv (vv.toList ++ rest) H' lvc ((vv.toList ++ rest).map (ag_c ρ')) ρ' h' k x ⟨x.2.2, ⟨hS.2.1.1.up x.1, by rw [ag_cl_same x.2.1 hS.2.1.1]; exact hS.2.1.2⟩, ⟨hw', rfl⟩, hp'⟩
            rw [List.map_append, ag_st_same x.2.1 hw] at q
            cases vv <;> exact q
          refine am_xstep hr (ag_step_ok hM hD hDL hS (fun env' pc' lv' st' H' lvc' stc' ρ' h' k x S' => go env' pc' lv' st' H' lvc' stc' ρ' h' k x S') ?_ ?_ hs)
          · intro a As rest k hal hwA hwr
            split at k
            · rename_i q hq
              have hq : am_inf[a]? = some q := by
                rw [← am_infF_eq]
                exact hq
              rw [Bool.and_eq_true] at k
              obtain ⟨k0, k⟩ := k
              obtain ⟨e1, e2, -⟩ := am_inf_at hq
              have hlen : (lg_sl (As.map (ag_c ρ))).length ≤ am_nL a := by
                rw [ag_sl_c, ← e1]
                exact Nat.le_of_ble_eq_true k0
              cases hb : tab.any (fun I => Nat.beq I.1 a) with
              | true =>
                rw [hb] at k
                obtain ⟨I, hI, k1⟩ := List.any_eq_true.mp k
                rw [Bool.and_eq_true, Bool.and_eq_true, Bool.and_eq_true] at k1
                obtain ⟨c1, c2, c3, c4⟩ := k1
                obtain ⟨T, hT, c5⟩ := List.any_eq_true.mp c4
                have c1 := Nat.eq_of_beq_eq_true c1
                rw [Bool.and_eq_true] at c5
                obtain ⟨c9, c5⟩ := c5
                subst c1
                obtain ⟨ρ1, en1, lvA, H1, x1, lR, p1, c6⟩ := ag_m3_ok hS.1 (ag_args_w (i := 0) hwA) (ag_args_lR As) hS.2.2.2 c5
                obtain ⟨pre, hpre, c6⟩ := List.any_eq_true.mp c6
                rw [Bool.and_eq_true, Bool.and_eq_true] at c6
                obtain ⟨c7, c10, c8⟩ := c6
                have hpw : ∀ f ∈ pre, ag_wt en1.length f := fun f hf => ag_iv_wt (List.all_eq_true.mp c10 f hf)
                have hp3 : pre.length = 3 ∧ ag_ev ρ1 (pre.getD 0 ([], 0)) = ρ1 0 := by
                  rcases List.mem_cons.mp hpre with e | e
                  · rw [e]; exact ⟨rfl, ag_ev_y 0⟩
                  · rcases List.mem_cons.mp e with e | e
                    · rw [e]; exact ⟨rfl, ag_ev_y 0⟩
                    · exact absurd e List.not_mem_nil
                cases hσ : ag_fit D en1 lvA H1 pre T with
                | none => rw [hσ] at c7; cases c7
                | some σ =>
                  have TS := ag_fit_ok x1.2.2 lR p1 hσ
                  obtain ⟨σ', eσ⟩ := ag_fit_pre hσ
                  have hj3 : ∀ j, j < 3 → ag_rT ρ1 σ j = ag_ev ρ1 (pre.getD j ([], 0)) := by
                    intro j hj
                    unfold ag_rT
                    rw [eσ, List.getD_eq_getElem?_getD, List.getD_eq_getElem?_getD, List.getElem?_append_left (by omega)]
                  have hXh : Xp h := hXp h0 h (fun o k hk => (p1.2.2.2.2.2.2.2.2 o k (ag_Mok_at hM hk)).1) hX0
                  have WH : ag_WH D (ag_rT ρ1 σ 0) h := by
                    rw [hj3 0 (by decide), hp3.2]
                    exact p1.WH
                  refine am_call.mono (fun v h' hh => ?_) (am_call.up (htab I hI T hT (ag_rT ρ1 σ) (As.map (ag_c ρ)) h WH hXh TS hlen (by rw [List.length_map]; exact Nat.eq_of_beq_eq_true c9)) (Nat.le_of_ble_eq_true c2))
                  obtain ⟨g1, g2, P, hP, τ, g3, g4, g5⟩ := hh
                  rw [hj3 0 (by decide), hp3.2] at g1
                  obtain ⟨ρ2, en2, H2, vv, x2, p2, ev, wv, k2⟩ := ag_aft_ok x1.2.2 p1 c3 g2 g1 hp3.1 hpw (fun j hj => (g3 j hj).trans (hj3 j hj)) g4 g5 (List.all_eq_true.mp c8 P hP)
                  rw [ev]
                  exact back en2 H2 vv rest ρ2 h' k2 (x1.trans x2) wv p2 hwr
              | false =>
                rw [hb] at k
                have hbk := back
                match d, k, hbk with
                | 0, k, _ => exact Bool.noConfusion k
                | d + 1, k, hbk =>
                  have k : ag_go D M tab f false ag_noX env d H q.1 q.2.1 q.2.2 0 (ag_args 0 As) [] (fun env H v => ag_go D M tab f false X env (d + 1) H rows nL rt nx lv (v.toList ++ rest) Rt) = true := k
                  have e3 : am_cod a = am_find q.1 := by
                    funext pc
                    unfold am_cod
                    rw [hq]
                  refine Or.inr ⟨hlen, ?_⟩
                  have hc : h.2.2.2.2 = 175 := hS.2.2.2.1.1
                  rw [e3, ← e1, ← e2, hal, hc]
                  refine ih false ag_noX env d H q.1 q.2.1 q.2.2 0 (ag_args 0 As) [] _ ρ (lv_args 0 (As.map (ag_c ρ))) [] h _ _ k ⟨hS.1, ⟨ag_args_w hwA, ag_args_lR As⟩, ⟨fun _ z => absurd z List.not_mem_nil, rfl⟩, hS.2.2.2⟩ ?_ ?_
                  · intro env' pc' lv' H' lvc' ρ' h' z
                    exact (ag_noX_inv z).elim
                  · intro env' H' v ρ' h' k' x' wv' p'
                    exact ⟨p'.1.1, hbk env' H' v rest ρ' h' k' x' wv' p' hwr⟩
            · cases k
          · intro env' v ρ' k x wv
            exact hRR env' H v ρ' h k x wv (hS.2.2.2.up x)
end
section
/-! AN INSTANCE THAT CHECKS IS A CONTRACT -/
variable {D : ag_D} {M : ag_M} {h0 : am_H}
theorem ag_wft_ok {m : Nat} {t : List (Nat × Int)} (h : ag_wft m t = true) : ∀ q ∈ t, q.1 < m := fun q hq => ae_blt (List.all_eq_true.mp h q hq)
theorem ag_wfv_ok {m : Nat} {v : ag_v} (h : ag_wfv m v = true) : ag_wv m v := by
  rcases v with f | f | o
  · exact ag_wft_ok h
  · exact ag_wft_ok h
  · trivial
theorem ag_start {T : ag_T} {ρ : Nat → Int} {lvc : am_V} {h : am_H} (hw : ag_wfT T = true) (hW : ag_WH D (ρ 0) h) (hT : ag_TS T ρ lvc h) (hf : ag_fr M h0 h) : ag_St D M h0 ρ T.1 T.2.2.1 [] T.2.2.2 lvc [] h := by
  unfold ag_wfT at hw
  rw [Bool.and_eq_true, Bool.and_eq_true, Bool.and_eq_true, Bool.and_eq_true, Bool.and_eq_true] at hw
  obtain ⟨w0, w1, w2, w3, w4, w5⟩ := hw
  obtain ⟨t1, t2, t3, t4, t5, t6, t7, t8⟩ := hT
  refine ⟨t1, ⟨fun q hq => ag_wfv_ok (List.all_eq_true.mp w1 q hq), t3⟩, ⟨fun _ z => absurd z List.not_mem_nil, rfl⟩, ⟨hW.1, Nat.le_of_ble_eq_true w0⟩, hW.2.1, fun q hq => ⟨ag_wft_ok (List.all_eq_true.mp w2 q hq), t4 q hq⟩, fun q hq => ⟨ag_wft_ok (List.all_eq_true.mp w3 q hq), t5 q hq⟩, t6, ⟨fun g hg => ⟨ag_wft_ok (List.all_eq_true.mp w4 g hg), t7 g hg⟩, fun g hg => ⟨ag_wft_ok (List.all_eq_true.mp w5 g hg), t8 g hg⟩⟩, hW.2.2, hf⟩
theorem ag_fr.refl (h : am_H) : ag_fr M h h := ⟨rfl, fun _ _ _ => ⟨rfl, rfl, rfl⟩⟩
/-- a cut's state: its template, its measure -/
def ag_CS (D : ag_D) (M : ag_M) (h0 : am_H) (N : Nat → Int) (c : Nat × ag_T × ag_f) (ρ : Nat → Int) (lvc : am_V) (h : am_H) : Prop := (∀ j, j < 3 → ρ j = N j) ∧ ag_WH D (N 0) h ∧ ag_TS c.2.1 ρ lvc h ∧ ag_fr M h0 h ∧ 0 ≤ ag_ev ρ c.2.2
theorem ag_cut_ok {I : ag_I} {src : Option ag_f} {ρ0 : Nat → Int} {env0 : ag_e} (h0m : ∀ m, src = some m → ag_wt env0.length m) (hl0 : 3 ≤ env0.length) {env : ag_e} {pc : Nat} {lv : ag_l} {H : ag_H} {lvc : am_V} {ρ : Nat → Int} {h : am_H} (hs : (ag_cutX D I src).2.1 env pc lv H = true) (hx : ag_xt ρ0 env0 ρ env) (hS : ag_St D M h0 ρ env lv [] H lvc [] h) :
    ∃ c ∈ I.2.1, c.1 = pc ∧ ∃ τ, ag_CS D M h0 ρ0 c τ lvc h ∧ ∀ m, src = some m → ag_ev τ c.2.2 < ag_ev ρ0 m := by
  obtain ⟨c, hc, k⟩ := List.any_eq_true.mp hs
  rw [Bool.and_eq_true] at k
  obtain ⟨ρ1, e1, lv1, H1, x1, lR, p1, k1⟩ := ag_m3_ok hS.1 hS.2.1.1 hS.2.1.2 hS.2.2.2 k.2
  split at k1
  · rename_i σ hσ
    rw [Bool.and_eq_true] at k1
    have TS := ag_fit_ok x1.2.2 lR p1 hσ
    have xx := hx.trans x1
    have e0 : ∀ j, j < 3 → ρ1 j = ρ0 j := fun j hj => xx.2.1 j (by omega)
    obtain ⟨σ', eσ⟩ := ag_fit_pre hσ
    have e3 : ∀ j, j < 3 → ag_rT ρ1 σ j = ρ0 j := fun j hj => by rw [eσ, ag_rT_P0 σ' j hj]; exact e0 j hj
    have mu := ag_inI_ok x1.2.2 k1.1
    rw [ag_sb_rT] at mu
    refine ⟨c, hc, Nat.eq_of_beq_eq_true k.1, ag_rT ρ1 σ, ⟨e3, by rw [← e0 0 (by decide)]; exact p1.WH, TS, p1.2.2.2.2.2.2.2, mu.1⟩, fun m hm => ?_⟩
    have k2 := k1.2
    rw [hm] at k2
    have k2 : (match ag_iv e1 (ag_sub m (ag_sb σ c.2.2)) with
      | some w => decide (1 ≤ w.1)
      | none => false) = true := k2
    split at k2
    · rename_i w hw
      have b := ag_iv_ok x1.2.2 hw
      rw [ag_ev_sub, ag_sb_rT, ag_ev_same xx.2.1 (h0m m hm)] at b
      have := of_decide_eq_true k2
      omega
    · cases k2
  · cases k1
theorem ag_ret_ok {I : ag_I} {env : ag_e} {H : ag_H} {v : Option ag_v} {ρ : Nat → Int} {h : am_H} (hin : ag_in ρ env) (hw : ∀ x, v = some x → ag_wv env.length x) (hp : ag_Hp D M h0 ρ env.length H h) (hs : ag_ret D I env H v = true) : ∃ P ∈ I.1.2.2.2.1, ∃ τ : Nat → Int, (∀ j, j < 3 → τ j = ρ j) ∧ ag_TS P τ (ag_rv (v.map (ag_c ρ))) h ∧ (v.map (ag_c ρ)).isSome = (ag_lv P.2.2.1 1000).isSome := by
  obtain ⟨P, hP, k⟩ := List.any_eq_true.mp hs
  have wl : ag_wl env.length (ag_rl v) := by
    cases v with
    | none => exact fun q hq => absurd hq List.not_mem_nil
    | some x =>
      intro q hq
      rcases List.mem_cons.mp (show q ∈ [((1000 : Nat), x)] from hq) with e | e
      · rw [e]; exact hw x rfl
      · exact absurd e List.not_mem_nil
  have lr : ag_lR (ag_cl ρ (ag_rl v)) (ag_rv (v.map (ag_c ρ))) := by
    cases v with
    | none => exact fun q hq => absurd hq List.not_mem_nil
    | some x =>
      intro q hq
      rcases List.mem_cons.mp (show q ∈ [((1000 : Nat), ag_c ρ x)] from hq) with e | e
      · rw [e]; rfl
      · exact absurd e List.not_mem_nil
  obtain ⟨ρ1, e1, lv1, H1, x1, lR, p1, k1⟩ := ag_m3_ok hin wl lr hp k
  rw [Bool.and_eq_true, decide_eq_true_eq] at k1
  obtain ⟨k2, k3⟩ := k1
  refine ⟨P, hP, ?_⟩
  have e0 : ∀ j, j < 3 → ρ1 j = ρ j := fun j hj => x1.2.1 j (Nat.lt_of_lt_of_le hj hp.1.2)
  cases hσ : ag_fit D e1 lv1 H1 ag_P0 P with
  | none => rw [hσ] at k2; cases k2
  | some σ =>
    obtain ⟨σ', eσ⟩ := ag_fit_pre hσ
    exact ⟨ag_rT ρ1 σ, fun j hj => by rw [eσ, ag_rT_P0 σ' j hj]; exact e0 j hj, ag_fit_ok x1.2.2 lR p1 hσ, by rw [← k3]; cases v <;> rfl⟩
set_option maxHeartbeats 1000000 in
theorem ag_chk_ok (hD : D.2.2.2 = am_shl) (hDL : ∀ o k, ¬ o = 154 → D.2.1 o k = (-9223372036854775808, 9223372036854775807)) {Xp : am_H → Prop} (hXp : ∀ h h' : am_H, (∀ o k, ag_kp o k → h'.1 o k = h.1 o k) → Xp h → Xp h') {tab : List ag_C} (htab : ∀ C ∈ tab, ag_ok D Xp C) {I : ag_I} (hs : ag_chk D tab I = true) : ag_ok D Xp I.1 := by
  intro T hT ρ args h hW hX hTS hlen _
  unfold ag_chk at hs
  split at hs
  · rename_i q hq
    split at hs
    · cases hs
    · rename_i d hd
      rw [Bool.and_eq_true, Bool.and_eq_true, Bool.and_eq_true] at hs
      obtain ⟨s1, s2, s3, s4⟩ := hs
      have hal := Nat.eq_of_beq_eq_true s1
      obtain ⟨e1, e2, -⟩ := am_inf_at hq
      have e3 : am_cod I.1.1 = am_find q.1 := by
        funext pc
        unfold am_cod
        rw [hq]
      -- the ends
      have ends : ∀ (env : ag_e) (ρ1 : Nat → Int), (∀ j, j < 3 → ρ1 j = ρ j) → 3 ≤ env.length → ∀ (env' : ag_e) (H' : ag_H) (v : Option ag_v) (ρ' : Nat → Int) (h' : am_H), ag_ret D I env' H' v = true → ag_xt ρ1 env ρ' env' → (∀ x, v = some x → ag_wv env'.length x) → ag_Hp D I.1.2.2.2.2 h ρ' env'.length H' h' →
          h'.2.2.2.2 = 175 ∧ ag_WH D (ρ 0) h' ∧ ag_fr I.1.2.2.2.2 h h' ∧ ∃ P ∈ I.1.2.2.2.1, ∃ τ : Nat → Int, (∀ j, j < 3 → τ j = ρ j) ∧ ag_TS P τ (ag_rv (v.map (ag_c ρ'))) h' ∧ (v.map (ag_c ρ')).isSome = (ag_lv P.2.2.1 1000).isSome := by
        intro env ρ1 hr hl env' H' v ρ' h' k x wv p
        have e0 : ∀ j, j < 3 → ρ' j = ρ j := fun j hj => (x.2.1 j (by omega)).trans (hr j hj)
        obtain ⟨P, hP, τ, t0, t1, t2⟩ := ag_ret_ok x.2.2 wv p k
        have W := p.WH
        rw [e0 0 (by decide)] at W
        exact ⟨p.1.1, W, p.2.2.2.2.2.2.2, P, hP, τ, fun j hj => (t0 j hj).trans (e0 j hj), t1, t2⟩
      have cuts : ∀ n : Nat, ∀ c ∈ I.2.1, ∀ (τ : Nat → Int) (lvc : am_V) (h1 : am_H), ag_CS D I.1.2.2.2.2 h ρ c τ lvc h1 → ag_ev τ c.2.2 < (n : Int) → am_W (am_call am_cod d) q.2.1 175 q.2.2 (am_find q.1) (fun v h' => h'.2.2.2.2 = 175 ∧ ag_WH D (ρ 0) h' ∧ ag_fr I.1.2.2.2.2 h h' ∧ ∃ P ∈ I.1.2.2.2.1, ∃ τ : Nat → Int, (∀ j, j < 3 → τ j = ρ j) ∧ ag_TS P τ (ag_rv v) h' ∧ v.isSome = (ag_lv P.2.2.1 1000).isSome) c.1 lvc [] h1 := by
        intro n
        induction n with
        | zero =>
          intro c hc τ lvc h1 hC hn
          have := hC.2.2.2.2
          omega
        | succ n ih =>
          intro c hc τ lvc h1 hC hn
          obtain ⟨c1, c2, c3, c4, c5⟩ := hC
          have k := List.all_eq_true.mp s4 c hc
          rw [Bool.and_eq_true, Bool.and_eq_true] at k
          obtain ⟨⟨k1, k2⟩, k3⟩ := k
          have hl : 3 ≤ c.2.1.1.length := by
            unfold ag_wfT at k1
            rw [Bool.and_eq_true] at k1
            exact Nat.le_of_ble_eq_true k1.1
          have run := ag_go_ok (h0 := h) s2 hD hDL hXp hX htab I.2.2.2 true (ag_cutX D I (some c.2.2)) c.2.1.1 d c.2.1.2.2.2 q.1 q.2.1 q.2.2 c.1 c.2.1.2.2.1 [] (ag_ret D I) τ lvc [] h1 (fun pc' lvc' stc' h' => stc' = [] ∧ ∃ c' ∈ I.2.1, c'.1 = pc' ∧ ∃ τ', ag_CS D I.1.2.2.2.2 h ρ c' τ' lvc' h' ∧ ag_ev τ' c'.2.2 < (n : Int)) (fun v h' => h'.2.2.2.2 = 175 ∧ ag_WH D (ρ 0) h' ∧ ag_fr I.1.2.2.2.2 h h' ∧ ∃ P ∈ I.1.2.2.2.1, ∃ τ : Nat → Int, (∀ j, j < 3 → τ j = ρ j) ∧ ag_TS P τ (ag_rv v) h' ∧ v.isSome = (ag_lv P.2.2.1 1000).isSome) k3 (ag_start k1 (by rw [c1 0 (by decide)]; exact c2) c3 c4) ?_ ?_
          · refine am_X.mono (fun pc' lvc' stc' h' hE => ?_) (fun _ _ z => z) run
            obtain ⟨z1, c', hc', z2, τ', z3, z4⟩ := hE
            subst z1
            subst z2
            exact ih c' hc' τ' lvc' h' z3 z4
          · intro env' pc' lv' H' lvc' ρ' h' a1 a2 a3 a4
            obtain ⟨c', hc', z2, τ', z3, z4⟩ := ag_cut_ok (fun m hm => by cases hm; exact ag_wft_ok k2) hl a2 a3 a4
            have := z4 _ rfl
            exact ⟨rfl, c', hc', z2, τ', ⟨fun j hj => (z3.1 j hj).trans (c1 j hj), by rw [← c1 0 (by decide)]; exact z3.2.1, z3.2.2⟩, by omega⟩
          · intro env' H' v ρ' h' a1 a2 a3 a4
            exact ends c.2.1.1 τ c1 hl env' H' v ρ' h' a1 a2 a3 a4
      rw [hd]
      refine Or.inr ⟨hlen, ?_⟩
      rw [e3, ← e1, ← e2, hal, hW.1]
      have k := List.all_eq_true.mp s3 T hT
      rw [Bool.and_eq_true] at k
      have hl : 3 ≤ T.1.length := by
        have k1 := k.1
        unfold ag_wfT at k1
        rw [Bool.and_eq_true] at k1
        exact Nat.le_of_ble_eq_true k1.1
      have run := ag_go_ok (h0 := h) s2 hD hDL hXp hX htab I.2.2.2 true (ag_cutX D I none) T.1 d T.2.2.2 q.1 q.2.1 q.2.2 0 T.2.2.1 [] (ag_ret D I) ρ (lv_args 0 args) [] h (fun pc' lvc' stc' h' => stc' = [] ∧ ∃ c' ∈ I.2.1, c'.1 = pc' ∧ ∃ τ', ag_CS D I.1.2.2.2.2 h ρ c' τ' lvc' h') (fun v h' => h'.2.2.2.2 = 175 ∧ ag_WH D (ρ 0) h' ∧ ag_fr I.1.2.2.2.2 h h' ∧ ∃ P ∈ I.1.2.2.2.1, ∃ τ : Nat → Int, (∀ j, j < 3 → τ j = ρ j) ∧ ag_TS P τ (ag_rv v) h' ∧ v.isSome = (ag_lv P.2.2.1 1000).isSome) k.2 (ag_start k.1 hW hTS (ag_fr.refl h)) ?_ ?_
      · refine am_X.mono (fun pc' lvc' stc' h' hE => ?_) (fun _ _ z => z) run
        obtain ⟨z1, c', hc', z2, τ', z3⟩ := hE
        subst z1
        subst z2
        exact cuts ((ag_ev τ' c'.2.2).toNat + 1) c' hc' τ' lvc' h' z3 (by have := z3.2.2.2.2; omega)
      · intro env' pc' lv' H' lvc' ρ' h' a1 a2 a3 a4
        obtain ⟨c', hc', z2, τ', z3, -⟩ := ag_cut_ok (fun m hm => by cases hm) hl a2 a3 a4
        exact ⟨rfl, c', hc', z2, τ', z3⟩
      · intro env' H' v ρ' h' a1 a2 a3 a4
        exact ends T.1 ρ (fun _ _ => rfl) hl env' H' v ρ' h' a1 a2 a3 a4
  · cases hs
end
section
/-! THE TABLES OF THE SECOND CHECKER: what every int keeps, the references that stay -/
def ag_sgC : List (List (List ag_S)) := [[[], [(1, 1, 1, 0, 0, 1000), (2, 2, 1, 0, 0, 4), (3, 3, 1, 0, 0, 1000), (4, 4, 1, 0, 0, 1000)], [(0, 999, 1, 0, 0, 65535)], [], [], [], [(0, 0, 1, 0, 0, 6), (4, 4, 1, 0, 0, 5), (9, 9, 1, 0, 0, 1), (11, 11, 1, 0, 0, 1)], [], [], [], [], [], [], [], [(2, 2, 1, 0, 0, 1000)], []], [[], [(0, 0, 1, 0, 0, 6), (4, 4, 1, 0, 0, 5), (9, 9, 1, 0, 0, 1), (11, 11, 1, 0, 0, 1)], [], [], [], [], [], [], [], [(2, 2, 1, 0, 0, 1000)], [], [], [(3, 3, 1, 0, 0, 40)], [], [(0, 39, 1, 0, 0, 5)], []], [[(3, 3, 1, 0, 0, 40)], [], [(0, 39, 1, 0, 0, 5)], [], [], [], [], [], [], [], [], [], [], [], [], [(1, 1, 1, 0, 0, 15), (2, 2, 1, 0, 0, 16)]], [[], [], [], [], [], [], [], [], [], [], [], [], [], [], [], []], [[], [], [], [], [], [], [], [], [], [], [], [], [], [], [], []], [[], [], [], [], [], [], [], [], [], [], [], [], [], [], [], []], [[], [], [], [], [], [], [], [], [], [], [], [], [], [], [], []], [[], [], [], [], [], [], [], [], [], [], [], [], [], [], [], []], [[], [], [(0, 0, 1, 0, 0, 1)], [], [], [], [], [], [(0, 0, 1, 0, 0, 1)], [], [], [], [], [], [(0, 0, 1, 0, 0, 1)], []], [[], [], [], [], [(0, 0, 1, 0, 0, 1)], [], [], [], [], [], [(2, 2, 1, 0, 0, 1000), (3, 3, 1, 0, 0, 1000), (7, 7, 1, 0, 0, 1000), (8, 8, 1, 0, 0, 16005), (13, 13, 1, 0, 0, 1100), (18, 18, 1, 0, 0, 11), (19, 19, 1, 0, 0, 11), (25, 25, 1, 0, 0, 16)], [], [(0, 1001, 1, 0, 0, 4)], [(0, 1001, 1, 0, 0, 1000)], [], []], [[(0, 0, 1, 0, 0, 6), (1, 1, 1, 0, 0, 5), (40, 40, 1, 0, 0, 6), (41, 41, 1, 0, 0, 5), (3, 3, 1, 0, (-1), 0), (43, 43, 1, 0, (-1), 1100)], [], [], [], [], [(0, 10, 1, 0, 0, 24)], [(0, 10, 1, 0, 0, 24)], [(0, 0, 1, 0, 0, 40), (1, 124, 3, 2, 0, 5), (125, 249, 3, 0, 0, 5)], [], [], [(24, 24, 1, 0, 0, 8), (25, 48, 3, 1, 0, 4), (73, 73, 1, 0, 0, 8), (74, 97, 3, 2, 0, 4), (122, 122, 1, 0, 0, 8), (123, 146, 3, 0, 0, 4), (171, 171, 1, 0, 0, 8), (172, 195, 3, 1, 0, 4), (220, 220, 1, 0, 0, 8), (221, 244, 3, 2, 0, 4), (269, 269, 1, 0, 0, 8), (270, 293, 3, 0, 0, 4), (318, 318, 1, 0, 0, 8), (319, 342, 3, 1, 0, 4), (367, 367, 1, 0, 0, 8), (368, 391, 3, 2, 0, 4), (416, 416, 1, 0, 0, 8), (417, 440, 3, 0, 0, 4), (465, 465, 1, 0, 0, 8), (466, 489, 3, 1, 0, 4), (514, 514, 1, 0, 0, 8), (515, 538, 3, 2, 0, 4), (563, 563, 1, 0, 0, 8), (564, 587, 3, 0, 0, 4), (612, 612, 1, 0, 0, 8), (613, 636, 3, 1, 0, 4), (661, 661, 1, 0, 0, 8), (662, 685, 3, 2, 0, 4), (710, 710, 1, 0, 0, 8), (711, 734, 3, 0, 0, 4), (759, 759, 1, 0, 0, 8), (760, 783, 3, 1, 0, 4), (808, 808, 1, 0, 0, 8), (809, 832, 3, 2, 0, 4), (857, 857, 1, 0, 0, 8), (858, 881, 3, 0, 0, 4), (906, 906, 1, 0, 0, 8), (907, 930, 3, 1, 0, 4), (955, 955, 1, 0, 0, 8), (956, 979, 3, 2, 0, 4), (1004, 1004, 1, 0, 0, 8), (1005, 1028, 3, 0, 0, 4)], [(0, 3, 1, 0, 0, 1)], [], [], []]]
theorem ag_sgC_ok : ag_cks 16 ag_sgC = true := by decide +kernel
def ag_sgl : List (List ag_S) := ag_sgC.flatten
theorem ag_sgC_eq : ag_sgC.flatten = ag_sgl := rfl
def ag_sg (o : Nat) : List ag_S := (ag_ix 16 ag_sgC o).getD []
theorem ag_sg_eq (o : Nat) : ag_sg o = ag_sgl.getD o [] := by
  unfold ag_sg
  rw [ag_ix_eq (by decide) _ _ ag_sgC_ok, ag_sgC_eq, ← List.getD_eq_getElem?_getD]
def ag_lg (_ _ : Nat) : Int × Int := (-9223372036854775808, 9223372036854775807)
def ag_reft : List (Nat × Nat × Nat) := [(154, 1, 155), (154, 4, 156), (154, 5, 157), (154, 6, 158), (154, 9, 159), (154, 10, 160), (154, 11, 161), (154, 12, 162), (154, 14, 163), (154, 15, 164), (154, 16, 165), (154, 17, 166), (154, 21, 167), (154, 22, 168), (154, 23, 169), (154, 24, 170), (154, 26, 171), (154, 27, 172), (154, 29, 173), (0, 0, 1), (0, 1, 3), (0, 2, 5), (0, 7, 36), (0, 8, 41), (0, 9, 46), (0, 10, 47), (0, 11, 129), (6, 1, 7), (6, 2, 8), (6, 3, 9), (6, 5, 10), (6, 6, 11), (6, 7, 12), (6, 8, 13), (6, 12, 14), (17, 1, 18), (17, 2, 19), (17, 3, 20), (17, 5, 21), (17, 6, 22), (17, 7, 23), (17, 8, 24), (17, 12, 25), (1, 0, 2), (25, 0, 26), (25, 1, 27), (3, 0, 1), (3, 1, 4), (4, 0, 1), (5, 0, 1), (14, 0, 15), (14, 1, 16), (28, 0, 29), (28, 1, 30), (28, 2, 31), (32, 0, 33), (32, 1, 34), (32, 2, 35), (36, 2, 37), (36, 3, 38), (36, 4, 39), (36, 5, 40), (41, 2, 42), (41, 3, 43), (41, 4, 44), (41, 5, 45), (47, 0, 48), (48, 0, 49), (48, 1, 54), (48, 2, 59), (48, 3, 64), (48, 4, 69), (48, 5, 74), (48, 6, 79), (48, 7, 84), (48, 8, 89), (48, 9, 94), (48, 10, 99), (48, 11, 104), (48, 12, 109), (48, 13, 114), (48, 14, 119), (48, 15, 124), (49, 2, 50), (49, 3, 51), (49, 4, 52), (49, 5, 53), (54, 2, 55), (54, 3, 56), (54, 4, 57), (54, 5, 58), (59, 2, 60), (59, 3, 61), (59, 4, 62), (59, 5, 63), (64, 2, 65), (64, 3, 66), (64, 4, 67), (64, 5, 68), (69, 2, 70), (69, 3, 71), (69, 4, 72), (69, 5, 73), (74, 2, 75), (74, 3, 76), (74, 4, 77), (74, 5, 78), (79, 2, 80), (79, 3, 81), (79, 4, 82), (79, 5, 83), (84, 2, 85), (84, 3, 86), (84, 4, 87), (84, 5, 88), (89, 2, 90), (89, 3, 91), (89, 4, 92), (89, 5, 93), (94, 2, 95), (94, 3, 96), (94, 4, 97), (94, 5, 98), (99, 2, 100), (99, 3, 101), (99, 4, 102), (99, 5, 103), (104, 2, 105), (104, 3, 106), (104, 4, 107), (104, 5, 108), (109, 2, 110), (109, 3, 111), (109, 4, 112), (109, 5, 113), (114, 2, 115), (114, 3, 116), (114, 4, 117), (114, 5, 118), (119, 2, 120), (119, 3, 121), (119, 4, 122), (119, 5, 123), (124, 2, 125), (124, 3, 126), (124, 4, 127), (124, 5, 128), (129, 0, 130), (129, 1, 136), (129, 2, 142), (129, 3, 148), (130, 1, 131), (131, 2, 132), (131, 3, 133), (131, 4, 134), (131, 5, 135), (136, 1, 137), (137, 2, 138), (137, 3, 139), (137, 4, 140), (137, 5, 141), (142, 1, 143), (143, 2, 144), (143, 3, 145), (143, 4, 146), (143, 5, 147), (148, 1, 149), (149, 2, 150), (149, 3, 151), (149, 4, 152), (149, 5, 153)]
def ag_DD : ag_D := (ag_sg, ag_lg, ag_reft, ae_shl)
theorem ag_DD_sh : ag_DD.2.2.2 = am_shl := ae_shl_eq
theorem ag_DD_lg : ∀ o k, ¬ o = 154 → ag_DD.2.1 o k = (-9223372036854775808, 9223372036854775807) := fun _ _ _ => rfl
/-- what is told of the law stays where no checked method writes -/
def ag_Xk (Xp : am_H → Prop) : Prop := ∀ h h' : am_H, (∀ o k, ag_kp o k → h'.1 o k = h.1 o k) → Xp h → Xp h'
/-- worthAt, by hand -/
def ag_Cworth : ag_C := (236, 3, [([(0, 1000), ((-1100), 1000), (0, 24), (0, 0), (0, 0)], [(0, 1, 0), (1, 160, 3)], [(0, .inr (.inr 154)), (1, .inl ([(3, 1)], 0))], ([(160, 3, ([(4, 1)], 0))], [], [], [], []))], [([(0, 1000), ((-1100), 1000), (0, 24), ((-2147483648), 2147483647)], [(0, 1000, 0)], [(1000, .inl ([(3, 1)], 0))], ([], [], [], [], []))], [(169, 0, 1099)])
end
section
/-! INSTANCES OF THE SECOND CHECKER -/
/- Tape.append -/
def ag_I0 : ag_I := ((13, 1, [([(0, 1000), ((-1100), 1000), (0, 24), ((-9223372036854775808), 9223372036854775807)], [(0, 1, 0)], [(0, .inr (.inr 1)), (1, .inr (.inl ([(3, 1)], 0)))], ([], [], [], [], []))], [([(0, 1000), ((-1100), 1000), (0, 24)], [], [], ([], [], [], [], []))], [(1, 1, 1), (2, 0, 999)]), [(3, ([(0, 1000), ((-1100), 1000), (0, 24), ((-9223372036854775808), 9223372036854775807), ((-8), 56)], [(0, 1, 0), (0, 3, 0)], [(0, .inr (.inr 1)), (1, .inr (.inl ([(3, 1)], 0))), (3, .inl ([(4, 1)], 0))], ([], [], [], [], [])), ([(4, 1)], 16769032))], [], 3000)
theorem ag_K0 : ag_chk ag_DD [] ag_I0 = true := by decide +kernel
theorem ag_O0 {Xp : am_H → Prop} (hX : ag_Xk Xp) (hw : ag_ok ag_DD Xp ag_Cworth) : ag_ok ag_DD Xp ag_I0.1 := ag_chk_ok ag_DD_sh ag_DD_lg hX (fun _ h => absurd h List.not_mem_nil) ag_K0
/- MistCanton.feed -/
def ag_I1 : ag_I := ((12, 2, [([(0, 1000), ((-1100), 1000), (0, 24), ((-9223372036854775808), 9223372036854775807), ((-9223372036854775808), 9223372036854775807), ((-9223372036854775808), 9223372036854775807)], [(0, 1, 0), (0, 3, 0), (0, 5, 0)], [(0, .inr (.inr 0)), (1, .inr (.inl ([(3, 1)], 0))), (3, .inr (.inl ([(4, 1)], 0))), (5, .inr (.inl ([(5, 1)], 0)))], ([], [], [(0, 3, 6)], [], []))], [([(0, 1000), ((-1100), 1000), (0, 24), (0, 1000)], [(0, 1000, 0)], [(1000, .inl ([(3, 1)], 0))], ([], [], [], [], []))], [(1, 1, 1), (2, 0, 999)]), [], [], 3000)
theorem ag_K1 : ag_chk ag_DD [ag_I0.1] ag_I1 = true := by decide +kernel
theorem ag_O1 {Xp : am_H → Prop} (hX : ag_Xk Xp) (hw : ag_ok ag_DD Xp ag_Cworth) : ag_ok ag_DD Xp ag_I1.1 := ag_chk_ok ag_DD_sh ag_DD_lg hX (List.forall_mem_cons.mpr ⟨ag_O0 hX hw, fun _ h => absurd h List.not_mem_nil⟩) ag_K1
/- MistCanton.feed -/
def ag_I2 : ag_I := ((12, 2, [([(0, 1000), ((-1100), 1000), (0, 24), ((-9223372036854775808), 9223372036854775807), ((-9223372036854775808), 9223372036854775807), ((-9223372036854775808), 9223372036854775807)], [(0, 1, 0), (0, 3, 0), (0, 5, 0)], [(0, .inr (.inr 0)), (1, .inr (.inl ([(3, 1)], 0))), (3, .inr (.inl ([(4, 1)], 0))), (5, .inr (.inl ([(5, 1)], 0)))], ([], [], [(0, 3, 17)], [], []))], [([(0, 1000), ((-1100), 1000), (0, 24), (0, 1000)], [(0, 1000, 0)], [(1000, .inl ([(3, 1)], 0))], ([], [], [], [], []))], [(1, 1, 1), (2, 0, 999)]), [], [], 3000)
theorem ag_K2 : ag_chk ag_DD [ag_I0.1] ag_I2 = true := by decide +kernel
theorem ag_O2 {Xp : am_H → Prop} (hX : ag_Xk Xp) (hw : ag_ok ag_DD Xp ag_Cworth) : ag_ok ag_DD Xp ag_I2.1 := ag_chk_ok ag_DD_sh ag_DD_lg hX (List.forall_mem_cons.mpr ⟨ag_O0 hX hw, fun _ h => absurd h List.not_mem_nil⟩) ag_K2
/- Tape.stepNumber -/
def ag_I3 : ag_I := ((20, 1, [([(0, 1000), ((-1100), 1000), (0, 24)], [], [(0, .inr (.inr 1))], ([], [], [], [], []))], [([(0, 1000), ((-1100), 1000), (0, 24), (0, 2)], [(1, 1, 2)], [], ([(1, 2, ([(3, 1)], 0))], [], [], [], []))], [(1, 2, 2), (1, 4, 4), (1, 6, 6)]), [(5, ([(0, 1000), ((-1100), 1000), (0, 24), (0, 1000)], [(1, 1, 4)], [(0, .inr (.inr 1))], ([(1, 4, ([(3, 1)], 0))], [], [], [], [])), ([(3, -1)], 16770024))], [], 3000)
theorem ag_K3 : ag_chk ag_DD [] ag_I3 = true := by decide +kernel
theorem ag_O3 {Xp : am_H → Prop} (hX : ag_Xk Xp) (hw : ag_ok ag_DD Xp ag_Cworth) : ag_ok ag_DD Xp ag_I3.1 := ag_chk_ok ag_DD_sh ag_DD_lg hX (fun _ h => absurd h List.not_mem_nil) ag_K3
/- Tape.stepWord -/
def ag_I4 : ag_I := ((19, 1, [([(0, 1000), ((-1100), 1000), (0, 24)], [], [(0, .inr (.inr 1))], ([], [], [], [], []))], [([(0, 1000), ((-1100), 1000), (0, 24), (0, 1)], [(1, 1, 2)], [], ([(1, 2, ([(3, 1)], 0))], [], [], [], []))], [(1, 2, 2), (1, 4, 5)]), [(5, ([(0, 1000), ((-1100), 1000), (0, 24), (0, 1000)], [(1, 1, 4)], [(0, .inr (.inr 1))], ([(1, 4, ([(3, 1)], 0))], [], [], [], [])), ([(3, -1)], 16770024))], [], 3000)
theorem ag_K4 : ag_chk ag_DD [] ag_I4 = true := by decide +kernel
theorem ag_O4 {Xp : am_H → Prop} (hX : ag_Xk Xp) (hw : ag_ok ag_DD Xp ag_Cworth) : ag_ok ag_DD Xp ag_I4.1 := ag_chk_ok ag_DD_sh ag_DD_lg hX (fun _ h => absurd h List.not_mem_nil) ag_K4
/- Tape.step -/
def ag_I5 : ag_I := ((18, 5, [([(0, 1000), ((-1100), 1000), (0, 24)], [], [(0, .inr (.inr 1))], ([], [], [], [], []))], [([(0, 1000), ((-1100), 1000), (0, 24), (0, 3), (0, 999)], [(1, 1, 2), (1, 1, 3)], [], ([(1, 2, ([(3, 1)], 0)), (1, 3, ([(4, 1)], 0))], [], [], [], [])), ([(0, 1000), ((-1100), 1000), (0, 24), (4, 4)], [(1, 1, 2)], [], ([(1, 2, ([(3, 1)], 0))], [], [], [], []))], [(1, 2, 6)]), [(0, ([(0, 1000), ((-1100), 1000), (0, 24), (1, 1000), (1, 1000)], [(1, 1, 1), (1, 1, 4)], [(0, .inr (.inr 1))], ([(1, 1, ([(3, 1)], 0)), (1, 4, ([(4, 1)], 0))], [], [], [], [])), ([(4, -1)], 16770024))], [], 3000)
theorem ag_K5 : ag_chk ag_DD [ag_I3.1, ag_I4.1] ag_I5 = true := by decide +kernel
theorem ag_O5 {Xp : am_H → Prop} (hX : ag_Xk Xp) (hw : ag_ok ag_DD Xp ag_Cworth) : ag_ok ag_DD Xp ag_I5.1 := ag_chk_ok ag_DD_sh ag_DD_lg hX (List.forall_mem_cons.mpr ⟨ag_O3 hX hw, List.forall_mem_cons.mpr ⟨ag_O4 hX hw, fun _ h => absurd h List.not_mem_nil⟩⟩) ag_K5
/- Tape.isWord -/
def ag_I6 : ag_I := ((44, 5, [([(0, 1000), ((-1100), 1000), (0, 24), (0, 3), (0, 999)], [(1, 1, 2), (1, 1, 3)], [(0, .inr (.inr 1)), (1, .inr (.inr 4000001))], ([(1, 2, ([(3, 1)], 0)), (1, 3, ([(4, 1)], 0))], [], [], [], []))], [([(0, 1000), ((-1100), 1000), (0, 24), (0, 0), (0, 3), (0, 999)], [(0, 1000, 0), (1, 1, 2), (1, 1, 3)], [(1000, .inl ([(3, 1)], 0))], ([(1, 2, ([(4, 1)], 0)), (1, 3, ([(5, 1)], 0))], [], [], [], [])), ([(0, 1000), ((-1100), 1000), (0, 24), (1, 1), (1, 1), (0, 999)], [(0, 1000, 0), (1, 1, 2), (1, 1, 3)], [(1000, .inl ([(3, 1)], 0))], ([(1, 2, ([(4, 1)], 0)), (1, 3, ([(5, 1)], 0))], [], [], [], []))], []), [(15, ([(0, 1000), ((-1100), 1000), (0, 24), ((-9223372036854775808), 9223372036854775807), (0, 6), (1, 1), (0, 999)], [(0, 2, 0), (0, 4, 0), (1, 1, 2), (1, 1, 3)], [(0, .inr (.inr 1)), (1, .inr (.inr 4000001)), (2, .inr (.inl ([(3, 1)], 0))), (4, .inl ([(4, 1)], 0))], ([(1, 2, ([(5, 1)], 0)), (1, 3, ([(6, 1)], 0))], [], [], [], [])), ([(4, -1)], 16769030))], [], 3000)
theorem ag_K6 : ag_chk ag_DD [] ag_I6 = true := by decide +kernel
theorem ag_O6 {Xp : am_H → Prop} (hX : ag_Xk Xp) (hw : ag_ok ag_DD Xp ag_Cworth) : ag_ok ag_DD Xp ag_I6.1 := ag_chk_ok ag_DD_sh ag_DD_lg hX (fun _ h => absurd h List.not_mem_nil) ag_K6
/- Tape.isWord -/
def ag_I7 : ag_I := ((44, 5, [([(0, 1000), ((-1100), 1000), (0, 24), (0, 3), (0, 999)], [(1, 1, 2), (1, 1, 3)], [(0, .inr (.inr 1)), (1, .inr (.inr 4000008))], ([(1, 2, ([(3, 1)], 0)), (1, 3, ([(4, 1)], 0))], [], [], [], []))], [([(0, 1000), ((-1100), 1000), (0, 24), (0, 0), (0, 3), (0, 999)], [(0, 1000, 0), (1, 1, 2), (1, 1, 3)], [(1000, .inl ([(3, 1)], 0))], ([(1, 2, ([(4, 1)], 0)), (1, 3, ([(5, 1)], 0))], [], [], [], [])), ([(0, 1000), ((-1100), 1000), (0, 24), (1, 1), (1, 1), (0, 999)], [(0, 1000, 0), (1, 1, 2), (1, 1, 3)], [(1000, .inl ([(3, 1)], 0))], ([(1, 2, ([(4, 1)], 0)), (1, 3, ([(5, 1)], 0))], [], [], [], []))], []), [(15, ([(0, 1000), ((-1100), 1000), (0, 24), ((-9223372036854775808), 9223372036854775807), (0, 5), (1, 1), (0, 999)], [(0, 2, 0), (0, 4, 0), (1, 1, 2), (1, 1, 3)], [(0, .inr (.inr 1)), (1, .inr (.inr 4000008)), (2, .inr (.inl ([(3, 1)], 0))), (4, .inl ([(4, 1)], 0))], ([(1, 2, ([(5, 1)], 0)), (1, 3, ([(6, 1)], 0))], [], [], [], [])), ([(4, -1)], 16769029))], [], 3000)
theorem ag_K7 : ag_chk ag_DD [] ag_I7 = true := by decide +kernel
theorem ag_O7 {Xp : am_H → Prop} (hX : ag_Xk Xp) (hw : ag_ok ag_DD Xp ag_Cworth) : ag_ok ag_DD Xp ag_I7.1 := ag_chk_ok ag_DD_sh ag_DD_lg hX (fun _ h => absurd h List.not_mem_nil) ag_K7
/- Tape.isWord -/
def ag_I8 : ag_I := ((44, 5, [([(0, 1000), ((-1100), 1000), (0, 24), (0, 3), (0, 999)], [(1, 1, 2), (1, 1, 3)], [(0, .inr (.inr 1)), (1, .inr (.inr 4000011))], ([(1, 2, ([(3, 1)], 0)), (1, 3, ([(4, 1)], 0))], [], [], [], []))], [([(0, 1000), ((-1100), 1000), (0, 24), (0, 0), (0, 3), (0, 999)], [(0, 1000, 0), (1, 1, 2), (1, 1, 3)], [(1000, .inl ([(3, 1)], 0))], ([(1, 2, ([(4, 1)], 0)), (1, 3, ([(5, 1)], 0))], [], [], [], [])), ([(0, 1000), ((-1100), 1000), (0, 24), (1, 1), (1, 1), (0, 999)], [(0, 1000, 0), (1, 1, 2), (1, 1, 3)], [(1000, .inl ([(3, 1)], 0))], ([(1, 2, ([(4, 1)], 0)), (1, 3, ([(5, 1)], 0))], [], [], [], []))], []), [(15, ([(0, 1000), ((-1100), 1000), (0, 24), ((-9223372036854775808), 9223372036854775807), (0, 5), (1, 1), (0, 999)], [(0, 2, 0), (0, 4, 0), (1, 1, 2), (1, 1, 3)], [(0, .inr (.inr 1)), (1, .inr (.inr 4000011)), (2, .inr (.inl ([(3, 1)], 0))), (4, .inl ([(4, 1)], 0))], ([(1, 2, ([(5, 1)], 0)), (1, 3, ([(6, 1)], 0))], [], [], [], [])), ([(4, -1)], 16769029))], [], 3000)
theorem ag_K8 : ag_chk ag_DD [] ag_I8 = true := by decide +kernel
theorem ag_O8 {Xp : am_H → Prop} (hX : ag_Xk Xp) (hw : ag_ok ag_DD Xp ag_Cworth) : ag_ok ag_DD Xp ag_I8.1 := ag_chk_ok ag_DD_sh ag_DD_lg hX (fun _ h => absurd h List.not_mem_nil) ag_K8
/- Tape.isWord -/
def ag_I9 : ag_I := ((44, 5, [([(0, 1000), ((-1100), 1000), (0, 24), (0, 3), (0, 999)], [(1, 1, 2), (1, 1, 3)], [(0, .inr (.inr 1)), (1, .inr (.inr 4000012))], ([(1, 2, ([(3, 1)], 0)), (1, 3, ([(4, 1)], 0))], [], [], [], []))], [([(0, 1000), ((-1100), 1000), (0, 24), (0, 0), (0, 3), (0, 999)], [(0, 1000, 0), (1, 1, 2), (1, 1, 3)], [(1000, .inl ([(3, 1)], 0))], ([(1, 2, ([(4, 1)], 0)), (1, 3, ([(5, 1)], 0))], [], [], [], [])), ([(0, 1000), ((-1100), 1000), (0, 24), (1, 1), (1, 1), (0, 999)], [(0, 1000, 0), (1, 1, 2), (1, 1, 3)], [(1000, .inl ([(3, 1)], 0))], ([(1, 2, ([(4, 1)], 0)), (1, 3, ([(5, 1)], 0))], [], [], [], []))], []), [(15, ([(0, 1000), ((-1100), 1000), (0, 24), ((-9223372036854775808), 9223372036854775807), (0, 4), (1, 1), (0, 999)], [(0, 2, 0), (0, 4, 0), (1, 1, 2), (1, 1, 3)], [(0, .inr (.inr 1)), (1, .inr (.inr 4000012)), (2, .inr (.inl ([(3, 1)], 0))), (4, .inl ([(4, 1)], 0))], ([(1, 2, ([(5, 1)], 0)), (1, 3, ([(6, 1)], 0))], [], [], [], [])), ([(4, -1)], 16769028))], [], 3000)
theorem ag_K9 : ag_chk ag_DD [] ag_I9 = true := by decide +kernel
theorem ag_O9 {Xp : am_H → Prop} (hX : ag_Xk Xp) (hw : ag_ok ag_DD Xp ag_Cworth) : ag_ok ag_DD Xp ag_I9.1 := ag_chk_ok ag_DD_sh ag_DD_lg hX (fun _ h => absurd h List.not_mem_nil) ag_K9
/- Tape.isWord -/
def ag_I10 : ag_I := ((44, 5, [([(0, 1000), ((-1100), 1000), (0, 24), (0, 3), (0, 999)], [(1, 1, 2), (1, 1, 3)], [(0, .inr (.inr 1)), (1, .inr (.inr 4000013))], ([(1, 2, ([(3, 1)], 0)), (1, 3, ([(4, 1)], 0))], [], [], [], []))], [([(0, 1000), ((-1100), 1000), (0, 24), (0, 0), (0, 3), (0, 999)], [(0, 1000, 0), (1, 1, 2), (1, 1, 3)], [(1000, .inl ([(3, 1)], 0))], ([(1, 2, ([(4, 1)], 0)), (1, 3, ([(5, 1)], 0))], [], [], [], [])), ([(0, 1000), ((-1100), 1000), (0, 24), (1, 1), (1, 1), (0, 999)], [(0, 1000, 0), (1, 1, 2), (1, 1, 3)], [(1000, .inl ([(3, 1)], 0))], ([(1, 2, ([(4, 1)], 0)), (1, 3, ([(5, 1)], 0))], [], [], [], []))], []), [(15, ([(0, 1000), ((-1100), 1000), (0, 24), ((-9223372036854775808), 9223372036854775807), (0, 4), (1, 1), (0, 999)], [(0, 2, 0), (0, 4, 0), (1, 1, 2), (1, 1, 3)], [(0, .inr (.inr 1)), (1, .inr (.inr 4000013)), (2, .inr (.inl ([(3, 1)], 0))), (4, .inl ([(4, 1)], 0))], ([(1, 2, ([(5, 1)], 0)), (1, 3, ([(6, 1)], 0))], [], [], [], [])), ([(4, -1)], 16769028))], [], 3000)
theorem ag_K10 : ag_chk ag_DD [] ag_I10 = true := by decide +kernel
theorem ag_O10 {Xp : am_H → Prop} (hX : ag_Xk Xp) (hw : ag_ok ag_DD Xp ag_Cworth) : ag_ok ag_DD Xp ag_I10.1 := ag_chk_ok ag_DD_sh ag_DD_lg hX (fun _ h => absurd h List.not_mem_nil) ag_K10
/- Tape.isWord -/
def ag_I11 : ag_I := ((44, 5, [([(0, 1000), ((-1100), 1000), (0, 24), (0, 3), (0, 999)], [(1, 1, 2), (1, 1, 3)], [(0, .inr (.inr 1)), (1, .inr (.inr 4000014))], ([(1, 2, ([(3, 1)], 0)), (1, 3, ([(4, 1)], 0))], [], [], [], []))], [([(0, 1000), ((-1100), 1000), (0, 24), (0, 0), (0, 3), (0, 999)], [(0, 1000, 0), (1, 1, 2), (1, 1, 3)], [(1000, .inl ([(3, 1)], 0))], ([(1, 2, ([(4, 1)], 0)), (1, 3, ([(5, 1)], 0))], [], [], [], [])), ([(0, 1000), ((-1100), 1000), (0, 24), (1, 1), (1, 1), (0, 999)], [(0, 1000, 0), (1, 1, 2), (1, 1, 3)], [(1000, .inl ([(3, 1)], 0))], ([(1, 2, ([(4, 1)], 0)), (1, 3, ([(5, 1)], 0))], [], [], [], []))], []), [(15, ([(0, 1000), ((-1100), 1000), (0, 24), ((-9223372036854775808), 9223372036854775807), (0, 3), (1, 1), (0, 999)], [(0, 2, 0), (0, 4, 0), (1, 1, 2), (1, 1, 3)], [(0, .inr (.inr 1)), (1, .inr (.inr 4000014)), (2, .inr (.inl ([(3, 1)], 0))), (4, .inl ([(4, 1)], 0))], ([(1, 2, ([(5, 1)], 0)), (1, 3, ([(6, 1)], 0))], [], [], [], [])), ([(4, -1)], 16769027))], [], 3000)
theorem ag_K11 : ag_chk ag_DD [] ag_I11 = true := by decide +kernel
theorem ag_O11 {Xp : am_H → Prop} (hX : ag_Xk Xp) (hw : ag_ok ag_DD Xp ag_Cworth) : ag_ok ag_DD Xp ag_I11.1 := ag_chk_ok ag_DD_sh ag_DD_lg hX (fun _ h => absurd h List.not_mem_nil) ag_K11
/- Tape.isWord -/
def ag_I12 : ag_I := ((44, 5, [([(0, 1000), ((-1100), 1000), (0, 24), (0, 3), (0, 999)], [(1, 1, 2), (1, 1, 3)], [(0, .inr (.inr 1)), (1, .inr (.inr 4000015))], ([(1, 2, ([(3, 1)], 0)), (1, 3, ([(4, 1)], 0))], [], [], [], []))], [([(0, 1000), ((-1100), 1000), (0, 24), (0, 0), (0, 3), (0, 999)], [(0, 1000, 0), (1, 1, 2), (1, 1, 3)], [(1000, .inl ([(3, 1)], 0))], ([(1, 2, ([(4, 1)], 0)), (1, 3, ([(5, 1)], 0))], [], [], [], [])), ([(0, 1000), ((-1100), 1000), (0, 24), (1, 1), (1, 1), (0, 999)], [(0, 1000, 0), (1, 1, 2), (1, 1, 3)], [(1000, .inl ([(3, 1)], 0))], ([(1, 2, ([(4, 1)], 0)), (1, 3, ([(5, 1)], 0))], [], [], [], []))], []), [(15, ([(0, 1000), ((-1100), 1000), (0, 24), ((-9223372036854775808), 9223372036854775807), (0, 4), (1, 1), (0, 999)], [(0, 2, 0), (0, 4, 0), (1, 1, 2), (1, 1, 3)], [(0, .inr (.inr 1)), (1, .inr (.inr 4000015)), (2, .inr (.inl ([(3, 1)], 0))), (4, .inl ([(4, 1)], 0))], ([(1, 2, ([(5, 1)], 0)), (1, 3, ([(6, 1)], 0))], [], [], [], [])), ([(4, -1)], 16769028))], [], 3000)
theorem ag_K12 : ag_chk ag_DD [] ag_I12 = true := by decide +kernel
theorem ag_O12 {Xp : am_H → Prop} (hX : ag_Xk Xp) (hw : ag_ok ag_DD Xp ag_Cworth) : ag_ok ag_DD Xp ag_I12.1 := ag_chk_ok ag_DD_sh ag_DD_lg hX (fun _ h => absurd h List.not_mem_nil) ag_K12
/- Tape.isWord -/
def ag_I13 : ag_I := ((44, 5, [([(0, 1000), ((-1100), 1000), (0, 24), (0, 3), (0, 999)], [(1, 1, 2), (1, 1, 3)], [(0, .inr (.inr 1)), (1, .inr (.inr 4000016))], ([(1, 2, ([(3, 1)], 0)), (1, 3, ([(4, 1)], 0))], [], [], [], []))], [([(0, 1000), ((-1100), 1000), (0, 24), (0, 0), (0, 3), (0, 999)], [(0, 1000, 0), (1, 1, 2), (1, 1, 3)], [(1000, .inl ([(3, 1)], 0))], ([(1, 2, ([(4, 1)], 0)), (1, 3, ([(5, 1)], 0))], [], [], [], [])), ([(0, 1000), ((-1100), 1000), (0, 24), (1, 1), (1, 1), (0, 999)], [(0, 1000, 0), (1, 1, 2), (1, 1, 3)], [(1000, .inl ([(3, 1)], 0))], ([(1, 2, ([(4, 1)], 0)), (1, 3, ([(5, 1)], 0))], [], [], [], []))], []), [(15, ([(0, 1000), ((-1100), 1000), (0, 24), ((-9223372036854775808), 9223372036854775807), (0, 3), (1, 1), (0, 999)], [(0, 2, 0), (0, 4, 0), (1, 1, 2), (1, 1, 3)], [(0, .inr (.inr 1)), (1, .inr (.inr 4000016)), (2, .inr (.inl ([(3, 1)], 0))), (4, .inl ([(4, 1)], 0))], ([(1, 2, ([(5, 1)], 0)), (1, 3, ([(6, 1)], 0))], [], [], [], [])), ([(4, -1)], 16769027))], [], 3000)
theorem ag_K13 : ag_chk ag_DD [] ag_I13 = true := by decide +kernel
theorem ag_O13 {Xp : am_H → Prop} (hX : ag_Xk Xp) (hw : ag_ok ag_DD Xp ag_Cworth) : ag_ok ag_DD Xp ag_I13.1 := ag_chk_ok ag_DD_sh ag_DD_lg hX (fun _ h => absurd h List.not_mem_nil) ag_K13
/- Tape.isWord -/
def ag_I14 : ag_I := ((44, 5, [([(0, 1000), ((-1100), 1000), (0, 24), (0, 3), (0, 999)], [(1, 1, 2), (1, 1, 3)], [(0, .inr (.inr 1)), (1, .inr (.inr 4000017))], ([(1, 2, ([(3, 1)], 0)), (1, 3, ([(4, 1)], 0))], [], [], [], []))], [([(0, 1000), ((-1100), 1000), (0, 24), (0, 0), (0, 3), (0, 999)], [(0, 1000, 0), (1, 1, 2), (1, 1, 3)], [(1000, .inl ([(3, 1)], 0))], ([(1, 2, ([(4, 1)], 0)), (1, 3, ([(5, 1)], 0))], [], [], [], [])), ([(0, 1000), ((-1100), 1000), (0, 24), (1, 1), (1, 1), (0, 999)], [(0, 1000, 0), (1, 1, 2), (1, 1, 3)], [(1000, .inl ([(3, 1)], 0))], ([(1, 2, ([(4, 1)], 0)), (1, 3, ([(5, 1)], 0))], [], [], [], []))], []), [(15, ([(0, 1000), ((-1100), 1000), (0, 24), ((-9223372036854775808), 9223372036854775807), (0, 5), (1, 1), (0, 999)], [(0, 2, 0), (0, 4, 0), (1, 1, 2), (1, 1, 3)], [(0, .inr (.inr 1)), (1, .inr (.inr 4000017)), (2, .inr (.inl ([(3, 1)], 0))), (4, .inl ([(4, 1)], 0))], ([(1, 2, ([(5, 1)], 0)), (1, 3, ([(6, 1)], 0))], [], [], [], [])), ([(4, -1)], 16769029))], [], 3000)
theorem ag_K14 : ag_chk ag_DD [] ag_I14 = true := by decide +kernel
theorem ag_O14 {Xp : am_H → Prop} (hX : ag_Xk Xp) (hw : ag_ok ag_DD Xp ag_Cworth) : ag_ok ag_DD Xp ag_I14.1 := ag_chk_ok ag_DD_sh ag_DD_lg hX (fun _ h => absurd h List.not_mem_nil) ag_K14
/- LawReader.factAtHand -/
def ag_I15 : ag_I := ((76, 6, [([(0, 1000), ((-1100), 1000), (0, 24), (0, 3), (0, 999)], [(1, 1, 2), (1, 1, 3)], [(0, .inr (.inr 4))], ([(1, 2, ([(3, 1)], 0)), (1, 3, ([(4, 1)], 0))], [], [], [], []))], [([(0, 1000), ((-1100), 1000), (0, 24), ((-4), 0), (0, 3), (0, 999)], [(0, 1000, 0), (1, 1, 2), (1, 1, 3)], [(1000, .inl ([(3, 1)], 0))], ([(1, 2, ([(4, 1)], 0)), (1, 3, ([(5, 1)], 0))], [], [], [], []))], []), [], [], 3000)
theorem ag_K15 : ag_chk ag_DD [ag_I11.1, ag_I12.1, ag_I13.1, ag_I14.1] ag_I15 = true := by decide +kernel
theorem ag_O15 {Xp : am_H → Prop} (hX : ag_Xk Xp) (hw : ag_ok ag_DD Xp ag_Cworth) : ag_ok ag_DD Xp ag_I15.1 := ag_chk_ok ag_DD_sh ag_DD_lg hX (List.forall_mem_cons.mpr ⟨ag_O11 hX hw, List.forall_mem_cons.mpr ⟨ag_O12 hX hw, List.forall_mem_cons.mpr ⟨ag_O13 hX hw, List.forall_mem_cons.mpr ⟨ag_O14 hX hw, fun _ h => absurd h List.not_mem_nil⟩⟩⟩⟩) ag_K15
/- Tape.isWord -/
def ag_I16 : ag_I := ((44, 5, [([(0, 1000), ((-1100), 1000), (0, 24), (0, 3), (0, 999)], [(1, 1, 2), (1, 1, 3)], [(0, .inr (.inr 1)), (1, .inr (.inr 4000018))], ([(1, 2, ([(3, 1)], 0)), (1, 3, ([(4, 1)], 0))], [], [], [], []))], [([(0, 1000), ((-1100), 1000), (0, 24), (0, 0), (0, 3), (0, 999)], [(0, 1000, 0), (1, 1, 2), (1, 1, 3)], [(1000, .inl ([(3, 1)], 0))], ([(1, 2, ([(4, 1)], 0)), (1, 3, ([(5, 1)], 0))], [], [], [], [])), ([(0, 1000), ((-1100), 1000), (0, 24), (1, 1), (1, 1), (0, 999)], [(0, 1000, 0), (1, 1, 2), (1, 1, 3)], [(1000, .inl ([(3, 1)], 0))], ([(1, 2, ([(4, 1)], 0)), (1, 3, ([(5, 1)], 0))], [], [], [], []))], []), [(15, ([(0, 1000), ((-1100), 1000), (0, 24), ((-9223372036854775808), 9223372036854775807), (0, 3), (1, 1), (0, 999)], [(0, 2, 0), (0, 4, 0), (1, 1, 2), (1, 1, 3)], [(0, .inr (.inr 1)), (1, .inr (.inr 4000018)), (2, .inr (.inl ([(3, 1)], 0))), (4, .inl ([(4, 1)], 0))], ([(1, 2, ([(5, 1)], 0)), (1, 3, ([(6, 1)], 0))], [], [], [], [])), ([(4, -1)], 16769027))], [], 3000)
theorem ag_K16 : ag_chk ag_DD [] ag_I16 = true := by decide +kernel
theorem ag_O16 {Xp : am_H → Prop} (hX : ag_Xk Xp) (hw : ag_ok ag_DD Xp ag_Cworth) : ag_ok ag_DD Xp ag_I16.1 := ag_chk_ok ag_DD_sh ag_DD_lg hX (fun _ h => absurd h List.not_mem_nil) ag_K16
end
section
/-! INSTANCES OF THE SECOND CHECKER -/
/- LawReader.readPart -/
def ag_I17 : ag_I := ((75, 7, [([(0, 1000), ((-1100), 1000), (0, 24), (5, 5), (0, 3), (0, 999)], [(0, 2, 0), (1, 1, 2), (1, 1, 3)], [(0, .inr (.inr 4)), (1, .inr (.inr 25)), (2, .inl ([(3, 1)], 0))], ([(1, 2, ([(4, 1)], 0)), (1, 3, ([(5, 1)], 0))], [], [], [], []))], [([(0, 1000), ((-1100), 1000), (0, 24), (0, 0), (0, 3), (0, 999)], [(0, 1000, 0), (1, 1, 2), (1, 1, 3)], [(1000, .inl ([(3, 1)], 0))], ([(1, 2, ([(4, 1)], 0)), (1, 3, ([(5, 1)], 0))], [], [], [], []))], [(1, 7, 7)]), [], [], 3000)
theorem ag_K17 : ag_chk ag_DD [ag_I15.1, ag_I16.1] ag_I17 = true := by decide +kernel
theorem ag_O17 {Xp : am_H → Prop} (hX : ag_Xk Xp) (hw : ag_ok ag_DD Xp ag_Cworth) : ag_ok ag_DD Xp ag_I17.1 := ag_chk_ok ag_DD_sh ag_DD_lg hX (List.forall_mem_cons.mpr ⟨ag_O15 hX hw, List.forall_mem_cons.mpr ⟨ag_O16 hX hw, fun _ h => absurd h List.not_mem_nil⟩⟩) ag_K17
/- LawReader.readProduct -/
def ag_I18 : ag_I := ((74, 8, [([(0, 1000), ((-1100), 1000), (0, 24), (5, 5), (0, 3), (0, 999)], [(0, 2, 0), (1, 1, 2), (1, 1, 3)], [(0, .inr (.inr 4)), (1, .inr (.inr 25)), (2, .inl ([(3, 1)], 0))], ([(1, 2, ([(4, 1)], 0)), (1, 3, ([(5, 1)], 0))], [], [], [], []))], [([(0, 1000), ((-1100), 1000), (0, 24), (0, 0), (0, 3), (0, 999)], [(0, 1000, 0), (1, 1, 2), (1, 1, 3)], [(1000, .inl ([(3, 1)], 0))], ([(1, 2, ([(4, 1)], 0)), (1, 3, ([(5, 1)], 0))], [], [], [], []))], [(1, 7, 7)]), [(10, ([(0, 1000), ((-1100), 1000), (0, 24), (5, 5), (0, 0), (0, 0), (0, 3), (0, 999)], [(0, 2, 0), (0, 3, 0), (0, 4, 0), (1, 1, 2), (1, 1, 3)], [(0, .inr (.inr 4)), (1, .inr (.inr 25)), (2, .inl ([(3, 1)], 0)), (3, .inl ([(4, 1)], 0)), (4, .inl ([(5, 1)], 0))], ([(1, 2, ([(6, 1)], 0)), (1, 3, ([(7, 1)], 0))], [], [], [], [])), ([(5, -1)], 16769024))], [], 3000)
theorem ag_K18 : ag_chk ag_DD [ag_I17.1] ag_I18 = true := by decide +kernel
theorem ag_O18 {Xp : am_H → Prop} (hX : ag_Xk Xp) (hw : ag_ok ag_DD Xp ag_Cworth) : ag_ok ag_DD Xp ag_I18.1 := ag_chk_ok ag_DD_sh ag_DD_lg hX (List.forall_mem_cons.mpr ⟨ag_O17 hX hw, fun _ h => absurd h List.not_mem_nil⟩) ag_K18
/- LawReader.readSum -/
def ag_I19 : ag_I := ((73, 9, [([(0, 1000), ((-1100), 1000), (0, 24), (5, 5), (0, 3), (0, 999)], [(0, 2, 0), (1, 1, 2), (1, 1, 3)], [(0, .inr (.inr 4)), (1, .inr (.inr 25)), (2, .inl ([(3, 1)], 0))], ([(1, 2, ([(4, 1)], 0)), (1, 3, ([(5, 1)], 0))], [], [], [], []))], [([(0, 1000), ((-1100), 1000), (0, 24), (0, 0), (0, 3), (0, 999)], [(0, 1000, 0), (1, 1, 2), (1, 1, 3)], [(1000, .inl ([(3, 1)], 0))], ([(1, 2, ([(4, 1)], 0)), (1, 3, ([(5, 1)], 0))], [], [], [], []))], [(1, 7, 7)]), [(10, ([(0, 1000), ((-1100), 1000), (0, 24), (5, 5), (0, 0), (0, 0), (0, 3), (0, 999)], [(0, 2, 0), (0, 3, 0), (0, 4, 0), (1, 1, 2), (1, 1, 3)], [(0, .inr (.inr 4)), (1, .inr (.inr 25)), (2, .inl ([(3, 1)], 0)), (3, .inl ([(4, 1)], 0)), (4, .inl ([(5, 1)], 0))], ([(1, 2, ([(6, 1)], 0)), (1, 3, ([(7, 1)], 0))], [], [], [], [])), ([(5, -1)], 16769024))], [], 3000)
theorem ag_K19 : ag_chk ag_DD [ag_I18.1] ag_I19 = true := by decide +kernel
theorem ag_O19 {Xp : am_H → Prop} (hX : ag_Xk Xp) (hw : ag_ok ag_DD Xp ag_Cworth) : ag_ok ag_DD Xp ag_I19.1 := ag_chk_ok ag_DD_sh ag_DD_lg hX (List.forall_mem_cons.mpr ⟨ag_O18 hX hw, fun _ h => absurd h List.not_mem_nil⟩) ag_K19
/- LawReader.readTest -/
def ag_I20 : ag_I := ((72, 10, [([(0, 1000), ((-1100), 1000), (0, 24), (5, 5), (0, 3), (0, 999)], [(0, 2, 0), (1, 1, 2), (1, 1, 3)], [(0, .inr (.inr 4)), (1, .inr (.inr 25)), (2, .inl ([(3, 1)], 0))], ([(1, 2, ([(4, 1)], 0)), (1, 3, ([(5, 1)], 0))], [], [], [], []))], [([(0, 1000), ((-1100), 1000), (0, 24), (0, 0), (0, 3), (0, 999)], [(0, 1000, 0), (1, 1, 2), (1, 1, 3)], [(1000, .inl ([(3, 1)], 0))], ([(1, 2, ([(4, 1)], 0)), (1, 3, ([(5, 1)], 0))], [], [], [], []))], [(1, 7, 7)]), [], [], 3000)
theorem ag_K20 : ag_chk ag_DD [ag_I19.1] ag_I20 = true := by decide +kernel
theorem ag_O20 {Xp : am_H → Prop} (hX : ag_Xk Xp) (hw : ag_ok ag_DD Xp ag_Cworth) : ag_ok ag_DD Xp ag_I20.1 := ag_chk_ok ag_DD_sh ag_DD_lg hX (List.forall_mem_cons.mpr ⟨ag_O19 hX hw, fun _ h => absurd h List.not_mem_nil⟩) ag_K20
/- LawReader.readLaw -/
def ag_I21 : ag_I := ((71, 11, [([(0, 1000), ((-1100), 1000), (0, 24), (5, 5), (0, 3), (0, 999)], [(0, 2, 0), (1, 1, 2), (1, 1, 3)], [(0, .inr (.inr 4)), (1, .inr (.inr 25)), (2, .inl ([(3, 1)], 0))], ([(1, 2, ([(4, 1)], 0)), (1, 3, ([(5, 1)], 0))], [], [], [], []))], [([(0, 1000), ((-1100), 1000), (0, 24), (0, 0), (0, 3), (0, 999)], [(0, 1000, 0), (1, 1, 2), (1, 1, 3)], [(1000, .inl ([(3, 1)], 0))], ([(1, 2, ([(4, 1)], 0)), (1, 3, ([(5, 1)], 0))], [], [], [], []))], [(1, 7, 7)]), [(10, ([(0, 1000), ((-1100), 1000), (0, 24), (5, 5), (0, 0), (0, 0), (0, 3), (0, 999)], [(0, 2, 0), (0, 3, 0), (0, 4, 0), (1, 1, 2), (1, 1, 3)], [(0, .inr (.inr 4)), (1, .inr (.inr 25)), (2, .inl ([(3, 1)], 0)), (3, .inl ([(4, 1)], 0)), (4, .inl ([(5, 1)], 0))], ([(1, 2, ([(6, 1)], 0)), (1, 3, ([(7, 1)], 0))], [], [], [], [])), ([(5, -1)], 16769024))], [], 3000)
theorem ag_K21 : ag_chk ag_DD [ag_I20.1] ag_I21 = true := by decide +kernel
theorem ag_O21 {Xp : am_H → Prop} (hX : ag_Xk Xp) (hw : ag_ok ag_DD Xp ag_Cworth) : ag_ok ag_DD Xp ag_I21.1 := ag_chk_ok ag_DD_sh ag_DD_lg hX (List.forall_mem_cons.mpr ⟨ag_O20 hX hw, fun _ h => absurd h List.not_mem_nil⟩) ag_K21
/- Tape.isWord -/
def ag_I22 : ag_I := ((44, 1, [([(0, 1000), ((-1100), 1000), (0, 24), (4, 4)], [(1, 1, 2)], [(0, .inr (.inr 1)), (1, .inr (.inr 4000014))], ([(1, 2, ([(3, 1)], 0))], [], [], [], []))], [([(0, 1000), ((-1100), 1000), (0, 24), (0, 0), (4, 4)], [(0, 1000, 0), (1, 1, 2)], [(1000, .inl ([(3, 1)], 0))], ([(1, 2, ([(4, 1)], 0))], [], [], [], []))], []), [], [], 3000)
theorem ag_K22 : ag_chk ag_DD [] ag_I22 = true := by decide +kernel
theorem ag_O22 {Xp : am_H → Prop} (hX : ag_Xk Xp) (hw : ag_ok ag_DD Xp ag_Cworth) : ag_ok ag_DD Xp ag_I22.1 := ag_chk_ok ag_DD_sh ag_DD_lg hX (fun _ h => absurd h List.not_mem_nil) ag_K22
/- Tape.isWord -/
def ag_I23 : ag_I := ((44, 1, [([(0, 1000), ((-1100), 1000), (0, 24), (4, 4)], [(1, 1, 2)], [(0, .inr (.inr 1)), (1, .inr (.inr 4000015))], ([(1, 2, ([(3, 1)], 0))], [], [], [], []))], [([(0, 1000), ((-1100), 1000), (0, 24), (0, 0), (4, 4)], [(0, 1000, 0), (1, 1, 2)], [(1000, .inl ([(3, 1)], 0))], ([(1, 2, ([(4, 1)], 0))], [], [], [], []))], []), [], [], 3000)
theorem ag_K23 : ag_chk ag_DD [] ag_I23 = true := by decide +kernel
theorem ag_O23 {Xp : am_H → Prop} (hX : ag_Xk Xp) (hw : ag_ok ag_DD Xp ag_Cworth) : ag_ok ag_DD Xp ag_I23.1 := ag_chk_ok ag_DD_sh ag_DD_lg hX (fun _ h => absurd h List.not_mem_nil) ag_K23
/- Tape.isWord -/
def ag_I24 : ag_I := ((44, 1, [([(0, 1000), ((-1100), 1000), (0, 24), (4, 4)], [(1, 1, 2)], [(0, .inr (.inr 1)), (1, .inr (.inr 4000016))], ([(1, 2, ([(3, 1)], 0))], [], [], [], []))], [([(0, 1000), ((-1100), 1000), (0, 24), (0, 0), (4, 4)], [(0, 1000, 0), (1, 1, 2)], [(1000, .inl ([(3, 1)], 0))], ([(1, 2, ([(4, 1)], 0))], [], [], [], []))], []), [], [], 3000)
theorem ag_K24 : ag_chk ag_DD [] ag_I24 = true := by decide +kernel
theorem ag_O24 {Xp : am_H → Prop} (hX : ag_Xk Xp) (hw : ag_ok ag_DD Xp ag_Cworth) : ag_ok ag_DD Xp ag_I24.1 := ag_chk_ok ag_DD_sh ag_DD_lg hX (fun _ h => absurd h List.not_mem_nil) ag_K24
/- Tape.isWord -/
def ag_I25 : ag_I := ((44, 1, [([(0, 1000), ((-1100), 1000), (0, 24), (4, 4)], [(1, 1, 2)], [(0, .inr (.inr 1)), (1, .inr (.inr 4000017))], ([(1, 2, ([(3, 1)], 0))], [], [], [], []))], [([(0, 1000), ((-1100), 1000), (0, 24), (0, 0), (4, 4)], [(0, 1000, 0), (1, 1, 2)], [(1000, .inl ([(3, 1)], 0))], ([(1, 2, ([(4, 1)], 0))], [], [], [], []))], []), [], [], 3000)
theorem ag_K25 : ag_chk ag_DD [] ag_I25 = true := by decide +kernel
theorem ag_O25 {Xp : am_H → Prop} (hX : ag_Xk Xp) (hw : ag_ok ag_DD Xp ag_Cworth) : ag_ok ag_DD Xp ag_I25.1 := ag_chk_ok ag_DD_sh ag_DD_lg hX (fun _ h => absurd h List.not_mem_nil) ag_K25
/- LawReader.factAtHand -/
def ag_I26 : ag_I := ((76, 2, [([(0, 1000), ((-1100), 1000), (0, 24), (4, 4)], [(1, 1, 2)], [(0, .inr (.inr 4))], ([(1, 2, ([(3, 1)], 0))], [], [], [], []))], [([(0, 1000), ((-1100), 1000), (0, 24), (0, 0), (4, 4)], [(0, 1000, 0), (1, 1, 2)], [(1000, .inl ([(3, 1)], 0))], ([(1, 2, ([(4, 1)], 0))], [], [], [], []))], []), [], [], 3000)
theorem ag_K26 : ag_chk ag_DD [ag_I22.1, ag_I23.1, ag_I24.1, ag_I25.1] ag_I26 = true := by decide +kernel
theorem ag_O26 {Xp : am_H → Prop} (hX : ag_Xk Xp) (hw : ag_ok ag_DD Xp ag_Cworth) : ag_ok ag_DD Xp ag_I26.1 := ag_chk_ok ag_DD_sh ag_DD_lg hX (List.forall_mem_cons.mpr ⟨ag_O22 hX hw, List.forall_mem_cons.mpr ⟨ag_O23 hX hw, List.forall_mem_cons.mpr ⟨ag_O24 hX hw, List.forall_mem_cons.mpr ⟨ag_O25 hX hw, fun _ h => absurd h List.not_mem_nil⟩⟩⟩⟩) ag_K26
/- Tape.isWord -/
def ag_I27 : ag_I := ((44, 1, [([(0, 1000), ((-1100), 1000), (0, 24), (4, 4)], [(1, 1, 2)], [(0, .inr (.inr 1)), (1, .inr (.inr 4000018))], ([(1, 2, ([(3, 1)], 0))], [], [], [], []))], [([(0, 1000), ((-1100), 1000), (0, 24), (0, 0), (4, 4)], [(0, 1000, 0), (1, 1, 2)], [(1000, .inl ([(3, 1)], 0))], ([(1, 2, ([(4, 1)], 0))], [], [], [], []))], []), [], [], 3000)
theorem ag_K27 : ag_chk ag_DD [] ag_I27 = true := by decide +kernel
theorem ag_O27 {Xp : am_H → Prop} (hX : ag_Xk Xp) (hw : ag_ok ag_DD Xp ag_Cworth) : ag_ok ag_DD Xp ag_I27.1 := ag_chk_ok ag_DD_sh ag_DD_lg hX (fun _ h => absurd h List.not_mem_nil) ag_K27
/- LawReader.readPart -/
def ag_I28 : ag_I := ((75, 3, [([(0, 1000), ((-1100), 1000), (0, 24), (5, 5), (4, 4)], [(0, 2, 0), (1, 1, 2)], [(0, .inr (.inr 4)), (1, .inr (.inr 25)), (2, .inl ([(3, 1)], 0))], ([(1, 2, ([(4, 1)], 0))], [], [], [], []))], [([(0, 1000), ((-1100), 1000), (0, 24), (0, 0), (4, 4)], [(0, 1000, 0), (1, 1, 2)], [(1000, .inl ([(3, 1)], 0))], ([(1, 2, ([(4, 1)], 0))], [], [], [], []))], [(1, 7, 7)]), [], [], 3000)
theorem ag_K28 : ag_chk ag_DD [ag_I26.1, ag_I27.1] ag_I28 = true := by decide +kernel
theorem ag_O28 {Xp : am_H → Prop} (hX : ag_Xk Xp) (hw : ag_ok ag_DD Xp ag_Cworth) : ag_ok ag_DD Xp ag_I28.1 := ag_chk_ok ag_DD_sh ag_DD_lg hX (List.forall_mem_cons.mpr ⟨ag_O26 hX hw, List.forall_mem_cons.mpr ⟨ag_O27 hX hw, fun _ h => absurd h List.not_mem_nil⟩⟩) ag_K28
/- LawReader.readProduct -/
def ag_I29 : ag_I := ((74, 4, [([(0, 1000), ((-1100), 1000), (0, 24), (5, 5), (4, 4)], [(0, 2, 0), (1, 1, 2)], [(0, .inr (.inr 4)), (1, .inr (.inr 25)), (2, .inl ([(3, 1)], 0))], ([(1, 2, ([(4, 1)], 0))], [], [], [], []))], [([(0, 1000), ((-1100), 1000), (0, 24), (0, 0), (4, 4)], [(0, 1000, 0), (1, 1, 2)], [(1000, .inl ([(3, 1)], 0))], ([(1, 2, ([(4, 1)], 0))], [], [], [], []))], [(1, 7, 7)]), [(10, ([(0, 1000), ((-1100), 1000), (0, 24), (5, 5), (0, 0), (0, 0), (4, 4)], [(0, 2, 0), (0, 3, 0), (0, 4, 0), (1, 1, 2)], [(0, .inr (.inr 4)), (1, .inr (.inr 25)), (2, .inl ([(3, 1)], 0)), (3, .inl ([(4, 1)], 0)), (4, .inl ([(5, 1)], 0))], ([(1, 2, ([(6, 1)], 0))], [], [], [], [])), ([(5, -1)], 16769024))], [], 3000)
theorem ag_K29 : ag_chk ag_DD [ag_I28.1] ag_I29 = true := by decide +kernel
theorem ag_O29 {Xp : am_H → Prop} (hX : ag_Xk Xp) (hw : ag_ok ag_DD Xp ag_Cworth) : ag_ok ag_DD Xp ag_I29.1 := ag_chk_ok ag_DD_sh ag_DD_lg hX (List.forall_mem_cons.mpr ⟨ag_O28 hX hw, fun _ h => absurd h List.not_mem_nil⟩) ag_K29
/- LawReader.readSum -/
def ag_I30 : ag_I := ((73, 5, [([(0, 1000), ((-1100), 1000), (0, 24), (5, 5), (4, 4)], [(0, 2, 0), (1, 1, 2)], [(0, .inr (.inr 4)), (1, .inr (.inr 25)), (2, .inl ([(3, 1)], 0))], ([(1, 2, ([(4, 1)], 0))], [], [], [], []))], [([(0, 1000), ((-1100), 1000), (0, 24), (0, 0), (4, 4)], [(0, 1000, 0), (1, 1, 2)], [(1000, .inl ([(3, 1)], 0))], ([(1, 2, ([(4, 1)], 0))], [], [], [], []))], [(1, 7, 7)]), [(10, ([(0, 1000), ((-1100), 1000), (0, 24), (5, 5), (0, 0), (0, 0), (4, 4)], [(0, 2, 0), (0, 3, 0), (0, 4, 0), (1, 1, 2)], [(0, .inr (.inr 4)), (1, .inr (.inr 25)), (2, .inl ([(3, 1)], 0)), (3, .inl ([(4, 1)], 0)), (4, .inl ([(5, 1)], 0))], ([(1, 2, ([(6, 1)], 0))], [], [], [], [])), ([(5, -1)], 16769024))], [], 3000)
theorem ag_K30 : ag_chk ag_DD [ag_I29.1] ag_I30 = true := by decide +kernel
theorem ag_O30 {Xp : am_H → Prop} (hX : ag_Xk Xp) (hw : ag_ok ag_DD Xp ag_Cworth) : ag_ok ag_DD Xp ag_I30.1 := ag_chk_ok ag_DD_sh ag_DD_lg hX (List.forall_mem_cons.mpr ⟨ag_O29 hX hw, fun _ h => absurd h List.not_mem_nil⟩) ag_K30
/- LawReader.readTest -/
def ag_I31 : ag_I := ((72, 6, [([(0, 1000), ((-1100), 1000), (0, 24), (5, 5), (4, 4)], [(0, 2, 0), (1, 1, 2)], [(0, .inr (.inr 4)), (1, .inr (.inr 25)), (2, .inl ([(3, 1)], 0))], ([(1, 2, ([(4, 1)], 0))], [], [], [], []))], [([(0, 1000), ((-1100), 1000), (0, 24), (0, 0), (4, 4)], [(0, 1000, 0), (1, 1, 2)], [(1000, .inl ([(3, 1)], 0))], ([(1, 2, ([(4, 1)], 0))], [], [], [], []))], [(1, 7, 7)]), [], [], 3000)
theorem ag_K31 : ag_chk ag_DD [ag_I30.1] ag_I31 = true := by decide +kernel
theorem ag_O31 {Xp : am_H → Prop} (hX : ag_Xk Xp) (hw : ag_ok ag_DD Xp ag_Cworth) : ag_ok ag_DD Xp ag_I31.1 := ag_chk_ok ag_DD_sh ag_DD_lg hX (List.forall_mem_cons.mpr ⟨ag_O30 hX hw, fun _ h => absurd h List.not_mem_nil⟩) ag_K31
/- LawReader.readLaw -/
def ag_I32 : ag_I := ((71, 7, [([(0, 1000), ((-1100), 1000), (0, 24), (5, 5), (4, 4)], [(0, 2, 0), (1, 1, 2)], [(0, .inr (.inr 4)), (1, .inr (.inr 25)), (2, .inl ([(3, 1)], 0))], ([(1, 2, ([(4, 1)], 0))], [], [], [], []))], [([(0, 1000), ((-1100), 1000), (0, 24), (0, 0), (4, 4)], [(0, 1000, 0), (1, 1, 2)], [(1000, .inl ([(3, 1)], 0))], ([(1, 2, ([(4, 1)], 0))], [], [], [], []))], [(1, 7, 7)]), [(10, ([(0, 1000), ((-1100), 1000), (0, 24), (5, 5), (0, 0), (0, 0), (4, 4)], [(0, 2, 0), (0, 3, 0), (0, 4, 0), (1, 1, 2)], [(0, .inr (.inr 4)), (1, .inr (.inr 25)), (2, .inl ([(3, 1)], 0)), (3, .inl ([(4, 1)], 0)), (4, .inl ([(5, 1)], 0))], ([(1, 2, ([(6, 1)], 0))], [], [], [], [])), ([(5, -1)], 16769024))], [], 3000)
theorem ag_K32 : ag_chk ag_DD [ag_I31.1] ag_I32 = true := by decide +kernel
theorem ag_O32 {Xp : am_H → Prop} (hX : ag_Xk Xp) (hw : ag_ok ag_DD Xp ag_Cworth) : ag_ok ag_DD Xp ag_I32.1 := ag_chk_ok ag_DD_sh ag_DD_lg hX (List.forall_mem_cons.mpr ⟨ag_O31 hX hw, fun _ h => absurd h List.not_mem_nil⟩) ag_K32
/- LawReader.readPart -/
def ag_I33 : ag_I := ((75, 12, [([(0, 1000), ((-1100), 1000), (0, 24), (4, 4), (0, 3), (0, 999)], [(0, 2, 0), (1, 1, 2), (1, 1, 3)], [(0, .inr (.inr 4)), (1, .inr (.inr 25)), (2, .inl ([(3, 1)], 0))], ([(1, 2, ([(4, 1)], 0)), (1, 3, ([(5, 1)], 0))], [], [], [], []))], [([(0, 1000), ((-1100), 1000), (0, 24), (0, 0), (0, 3), (0, 999)], [(0, 1000, 0), (1, 1, 2), (1, 1, 3)], [(1000, .inl ([(3, 1)], 0))], ([(1, 2, ([(4, 1)], 0)), (1, 3, ([(5, 1)], 0))], [], [], [], [])), ([(0, 1000), ((-1100), 1000), (0, 24), (0, 0), (4, 4)], [(0, 1000, 0), (1, 1, 2)], [(1000, .inl ([(3, 1)], 0))], ([(1, 2, ([(4, 1)], 0))], [], [], [], [])), ([(0, 1000), ((-1100), 1000), (0, 24), (1, 1), (0, 3), (0, 999)], [(0, 1000, 0), (1, 1, 2), (1, 1, 3)], [(1000, .inl ([(3, 1)], 0))], ([(1, 2, ([(4, 1)], 0)), (1, 3, ([(5, 1)], 0))], [], [], [], [])), ([(0, 1000), ((-1100), 1000), (0, 24), (1, 1), (4, 4)], [(0, 1000, 0), (1, 1, 2)], [(1000, .inl ([(3, 1)], 0))], ([(1, 2, ([(4, 1)], 0))], [], [], [], []))], [(1, 2, 7), (25, 2, 2), (26, 0, 999)]), [], [], 3000)
theorem ag_K33 : ag_chk ag_DD [ag_I5.1, ag_I15.1, ag_I16.1, ag_I17.1, ag_I21.1, ag_I28.1, ag_I32.1] ag_I33 = true := by decide +kernel
theorem ag_O33 {Xp : am_H → Prop} (hX : ag_Xk Xp) (hw : ag_ok ag_DD Xp ag_Cworth) : ag_ok ag_DD Xp ag_I33.1 := ag_chk_ok ag_DD_sh ag_DD_lg hX (List.forall_mem_cons.mpr ⟨ag_O5 hX hw, List.forall_mem_cons.mpr ⟨ag_O15 hX hw, List.forall_mem_cons.mpr ⟨ag_O16 hX hw, List.forall_mem_cons.mpr ⟨ag_O17 hX hw, List.forall_mem_cons.mpr ⟨ag_O21 hX hw, List.forall_mem_cons.mpr ⟨ag_O28 hX hw, List.forall_mem_cons.mpr ⟨ag_O32 hX hw, fun _ h => absurd h List.not_mem_nil⟩⟩⟩⟩⟩⟩⟩) ag_K33
/- LawReader.readPart -/
def ag_I34 : ag_I := ((75, 3, [([(0, 1000), ((-1100), 1000), (0, 24), (4, 4), (4, 4)], [(0, 2, 0), (1, 1, 2)], [(0, .inr (.inr 4)), (1, .inr (.inr 25)), (2, .inl ([(3, 1)], 0))], ([(1, 2, ([(4, 1)], 0))], [], [], [], []))], [([(0, 1000), ((-1100), 1000), (0, 24), (0, 0), (4, 4)], [(0, 1000, 0), (1, 1, 2)], [(1000, .inl ([(3, 1)], 0))], ([(1, 2, ([(4, 1)], 0))], [], [], [], []))], [(1, 7, 7)]), [], [], 3000)
theorem ag_K34 : ag_chk ag_DD [ag_I26.1, ag_I27.1] ag_I34 = true := by decide +kernel
theorem ag_O34 {Xp : am_H → Prop} (hX : ag_Xk Xp) (hw : ag_ok ag_DD Xp ag_Cworth) : ag_ok ag_DD Xp ag_I34.1 := ag_chk_ok ag_DD_sh ag_DD_lg hX (List.forall_mem_cons.mpr ⟨ag_O26 hX hw, List.forall_mem_cons.mpr ⟨ag_O27 hX hw, fun _ h => absurd h List.not_mem_nil⟩⟩) ag_K34
/- LawReader.readProduct -/
def ag_I35 : ag_I := ((74, 13, [([(0, 1000), ((-1100), 1000), (0, 24), (4, 4), (0, 3), (0, 999)], [(0, 2, 0), (1, 1, 2), (1, 1, 3)], [(0, .inr (.inr 4)), (1, .inr (.inr 25)), (2, .inl ([(3, 1)], 0))], ([(1, 2, ([(4, 1)], 0)), (1, 3, ([(5, 1)], 0))], [], [], [], []))], [([(0, 1000), ((-1100), 1000), (0, 24), (0, 0), (0, 3), (0, 999)], [(0, 1000, 0), (1, 1, 2), (1, 1, 3)], [(1000, .inl ([(3, 1)], 0))], ([(1, 2, ([(4, 1)], 0)), (1, 3, ([(5, 1)], 0))], [], [], [], [])), ([(0, 1000), ((-1100), 1000), (0, 24), (0, 0), (4, 4)], [(0, 1000, 0), (1, 1, 2)], [(1000, .inl ([(3, 1)], 0))], ([(1, 2, ([(4, 1)], 0))], [], [], [], [])), ([(0, 1000), ((-1100), 1000), (0, 24), (1, 1), (0, 3), (0, 999)], [(0, 1000, 0), (1, 1, 2), (1, 1, 3)], [(1000, .inl ([(3, 1)], 0))], ([(1, 2, ([(4, 1)], 0)), (1, 3, ([(5, 1)], 0))], [], [], [], [])), ([(0, 1000), ((-1100), 1000), (0, 24), (1, 1), (4, 4)], [(0, 1000, 0), (1, 1, 2)], [(1000, .inl ([(3, 1)], 0))], ([(1, 2, ([(4, 1)], 0))], [], [], [], []))], [(1, 2, 7), (25, 2, 2), (26, 0, 999)]), [(10, ([(0, 1000), ((-1100), 1000), (0, 24), (4, 4), (0, 1), (0, 1000), (0, 3), (0, 999)], [(0, 2, 0), (0, 3, 0), (0, 4, 0), (1, 1, 2), (1, 1, 3)], [(0, .inr (.inr 4)), (1, .inr (.inr 25)), (2, .inl ([(3, 1)], 0)), (3, .inl ([(4, 1)], 0)), (4, .inl ([(5, 1)], 0))], ([(1, 2, ([(6, 1)], 0)), (1, 3, ([(7, 1)], 0))], [], [], [], [])), ([(5, -1)], 16770024)),
  (10, ([(0, 1000), ((-1100), 1000), (0, 24), (4, 4), (0, 1), (0, 1000), (4, 4)], [(0, 2, 0), (0, 3, 0), (0, 4, 0), (1, 1, 2)], [(0, .inr (.inr 4)), (1, .inr (.inr 25)), (2, .inl ([(3, 1)], 0)), (3, .inl ([(4, 1)], 0)), (4, .inl ([(5, 1)], 0))], ([(1, 2, ([(6, 1)], 0))], [], [], [], [])), ([(5, -1)], 16770024))], [], 3000)
theorem ag_K35 : ag_chk ag_DD [ag_I5.1, ag_I33.1, ag_I34.1] ag_I35 = true := by decide +kernel
theorem ag_O35 {Xp : am_H → Prop} (hX : ag_Xk Xp) (hw : ag_ok ag_DD Xp ag_Cworth) : ag_ok ag_DD Xp ag_I35.1 := ag_chk_ok ag_DD_sh ag_DD_lg hX (List.forall_mem_cons.mpr ⟨ag_O5 hX hw, List.forall_mem_cons.mpr ⟨ag_O33 hX hw, List.forall_mem_cons.mpr ⟨ag_O34 hX hw, fun _ h => absurd h List.not_mem_nil⟩⟩⟩) ag_K35
/- LawReader.readProduct -/
def ag_I36 : ag_I := ((74, 4, [([(0, 1000), ((-1100), 1000), (0, 24), (4, 4), (4, 4)], [(0, 2, 0), (1, 1, 2)], [(0, .inr (.inr 4)), (1, .inr (.inr 25)), (2, .inl ([(3, 1)], 0))], ([(1, 2, ([(4, 1)], 0))], [], [], [], []))], [([(0, 1000), ((-1100), 1000), (0, 24), (0, 0), (4, 4)], [(0, 1000, 0), (1, 1, 2)], [(1000, .inl ([(3, 1)], 0))], ([(1, 2, ([(4, 1)], 0))], [], [], [], []))], [(1, 7, 7)]), [(10, ([(0, 1000), ((-1100), 1000), (0, 24), (4, 4), (0, 0), (0, 0), (4, 4)], [(0, 2, 0), (0, 3, 0), (0, 4, 0), (1, 1, 2)], [(0, .inr (.inr 4)), (1, .inr (.inr 25)), (2, .inl ([(3, 1)], 0)), (3, .inl ([(4, 1)], 0)), (4, .inl ([(5, 1)], 0))], ([(1, 2, ([(6, 1)], 0))], [], [], [], [])), ([(5, -1)], 16769024))], [], 3000)
theorem ag_K36 : ag_chk ag_DD [ag_I34.1] ag_I36 = true := by decide +kernel
theorem ag_O36 {Xp : am_H → Prop} (hX : ag_Xk Xp) (hw : ag_ok ag_DD Xp ag_Cworth) : ag_ok ag_DD Xp ag_I36.1 := ag_chk_ok ag_DD_sh ag_DD_lg hX (List.forall_mem_cons.mpr ⟨ag_O34 hX hw, fun _ h => absurd h List.not_mem_nil⟩) ag_K36
/- LawReader.readSum -/
def ag_I37 : ag_I := ((73, 14, [([(0, 1000), ((-1100), 1000), (0, 24), (4, 4), (0, 3), (0, 999)], [(0, 2, 0), (1, 1, 2), (1, 1, 3)], [(0, .inr (.inr 4)), (1, .inr (.inr 25)), (2, .inl ([(3, 1)], 0))], ([(1, 2, ([(4, 1)], 0)), (1, 3, ([(5, 1)], 0))], [], [], [], []))], [([(0, 1000), ((-1100), 1000), (0, 24), (0, 0), (0, 3), (0, 999)], [(0, 1000, 0), (1, 1, 2), (1, 1, 3)], [(1000, .inl ([(3, 1)], 0))], ([(1, 2, ([(4, 1)], 0)), (1, 3, ([(5, 1)], 0))], [], [], [], [])), ([(0, 1000), ((-1100), 1000), (0, 24), (0, 0), (4, 4)], [(0, 1000, 0), (1, 1, 2)], [(1000, .inl ([(3, 1)], 0))], ([(1, 2, ([(4, 1)], 0))], [], [], [], [])), ([(0, 1000), ((-1100), 1000), (0, 24), (1, 1), (0, 3), (0, 999)], [(0, 1000, 0), (1, 1, 2), (1, 1, 3)], [(1000, .inl ([(3, 1)], 0))], ([(1, 2, ([(4, 1)], 0)), (1, 3, ([(5, 1)], 0))], [], [], [], [])), ([(0, 1000), ((-1100), 1000), (0, 24), (1, 1), (4, 4)], [(0, 1000, 0), (1, 1, 2)], [(1000, .inl ([(3, 1)], 0))], ([(1, 2, ([(4, 1)], 0))], [], [], [], []))], [(1, 2, 7), (25, 2, 2), (26, 0, 999)]), [(10, ([(0, 1000), ((-1100), 1000), (0, 24), (4, 4), (0, 1), (0, 1000), (0, 3), (0, 999)], [(0, 2, 0), (0, 3, 0), (0, 4, 0), (1, 1, 2), (1, 1, 3)], [(0, .inr (.inr 4)), (1, .inr (.inr 25)), (2, .inl ([(3, 1)], 0)), (3, .inl ([(4, 1)], 0)), (4, .inl ([(5, 1)], 0))], ([(1, 2, ([(6, 1)], 0)), (1, 3, ([(7, 1)], 0))], [], [], [], [])), ([(5, -1)], 16770024)),
  (10, ([(0, 1000), ((-1100), 1000), (0, 24), (4, 4), (0, 1), (0, 1000), (4, 4)], [(0, 2, 0), (0, 3, 0), (0, 4, 0), (1, 1, 2)], [(0, .inr (.inr 4)), (1, .inr (.inr 25)), (2, .inl ([(3, 1)], 0)), (3, .inl ([(4, 1)], 0)), (4, .inl ([(5, 1)], 0))], ([(1, 2, ([(6, 1)], 0))], [], [], [], [])), ([(5, -1)], 16770024))], [], 3000)
theorem ag_K37 : ag_chk ag_DD [ag_I5.1, ag_I35.1, ag_I36.1] ag_I37 = true := by decide +kernel
theorem ag_O37 {Xp : am_H → Prop} (hX : ag_Xk Xp) (hw : ag_ok ag_DD Xp ag_Cworth) : ag_ok ag_DD Xp ag_I37.1 := ag_chk_ok ag_DD_sh ag_DD_lg hX (List.forall_mem_cons.mpr ⟨ag_O5 hX hw, List.forall_mem_cons.mpr ⟨ag_O35 hX hw, List.forall_mem_cons.mpr ⟨ag_O36 hX hw, fun _ h => absurd h List.not_mem_nil⟩⟩⟩) ag_K37
/- LawReader.readSum -/
def ag_I38 : ag_I := ((73, 5, [([(0, 1000), ((-1100), 1000), (0, 24), (4, 4), (4, 4)], [(0, 2, 0), (1, 1, 2)], [(0, .inr (.inr 4)), (1, .inr (.inr 25)), (2, .inl ([(3, 1)], 0))], ([(1, 2, ([(4, 1)], 0))], [], [], [], []))], [([(0, 1000), ((-1100), 1000), (0, 24), (0, 0), (4, 4)], [(0, 1000, 0), (1, 1, 2)], [(1000, .inl ([(3, 1)], 0))], ([(1, 2, ([(4, 1)], 0))], [], [], [], []))], [(1, 7, 7)]), [(10, ([(0, 1000), ((-1100), 1000), (0, 24), (4, 4), (0, 0), (0, 0), (4, 4)], [(0, 2, 0), (0, 3, 0), (0, 4, 0), (1, 1, 2)], [(0, .inr (.inr 4)), (1, .inr (.inr 25)), (2, .inl ([(3, 1)], 0)), (3, .inl ([(4, 1)], 0)), (4, .inl ([(5, 1)], 0))], ([(1, 2, ([(6, 1)], 0))], [], [], [], [])), ([(5, -1)], 16769024))], [], 3000)
theorem ag_K38 : ag_chk ag_DD [ag_I36.1] ag_I38 = true := by decide +kernel
theorem ag_O38 {Xp : am_H → Prop} (hX : ag_Xk Xp) (hw : ag_ok ag_DD Xp ag_Cworth) : ag_ok ag_DD Xp ag_I38.1 := ag_chk_ok ag_DD_sh ag_DD_lg hX (List.forall_mem_cons.mpr ⟨ag_O36 hX hw, fun _ h => absurd h List.not_mem_nil⟩) ag_K38
/- LawReader.readTest -/
def ag_I39 : ag_I := ((72, 15, [([(0, 1000), ((-1100), 1000), (0, 24), (4, 4), (0, 3), (0, 999)], [(0, 2, 0), (1, 1, 2), (1, 1, 3)], [(0, .inr (.inr 4)), (1, .inr (.inr 25)), (2, .inl ([(3, 1)], 0))], ([(1, 2, ([(4, 1)], 0)), (1, 3, ([(5, 1)], 0))], [], [], [], []))], [([(0, 1000), ((-1100), 1000), (0, 24), (0, 0), (0, 3), (0, 999)], [(0, 1000, 0), (1, 1, 2), (1, 1, 3)], [(1000, .inl ([(3, 1)], 0))], ([(1, 2, ([(4, 1)], 0)), (1, 3, ([(5, 1)], 0))], [], [], [], [])), ([(0, 1000), ((-1100), 1000), (0, 24), (0, 0), (4, 4)], [(0, 1000, 0), (1, 1, 2)], [(1000, .inl ([(3, 1)], 0))], ([(1, 2, ([(4, 1)], 0))], [], [], [], [])), ([(0, 1000), ((-1100), 1000), (0, 24), (1, 1), (0, 3), (0, 999)], [(0, 1000, 0), (1, 1, 2), (1, 1, 3)], [(1000, .inl ([(3, 1)], 0))], ([(1, 2, ([(4, 1)], 0)), (1, 3, ([(5, 1)], 0))], [], [], [], [])), ([(0, 1000), ((-1100), 1000), (0, 24), (1, 1), (4, 4)], [(0, 1000, 0), (1, 1, 2)], [(1000, .inl ([(3, 1)], 0))], ([(1, 2, ([(4, 1)], 0))], [], [], [], []))], [(1, 2, 7), (25, 2, 2), (26, 0, 999)]), [], [], 3000)
theorem ag_K39 : ag_chk ag_DD [ag_I5.1, ag_I37.1, ag_I38.1] ag_I39 = true := by decide +kernel
theorem ag_O39 {Xp : am_H → Prop} (hX : ag_Xk Xp) (hw : ag_ok ag_DD Xp ag_Cworth) : ag_ok ag_DD Xp ag_I39.1 := ag_chk_ok ag_DD_sh ag_DD_lg hX (List.forall_mem_cons.mpr ⟨ag_O5 hX hw, List.forall_mem_cons.mpr ⟨ag_O37 hX hw, List.forall_mem_cons.mpr ⟨ag_O38 hX hw, fun _ h => absurd h List.not_mem_nil⟩⟩⟩) ag_K39
/- Tape.isWord -/
def ag_I40 : ag_I := ((44, 5, [([(0, 1000), ((-1100), 1000), (0, 24), (0, 3), (0, 999)], [(1, 1, 2), (1, 1, 3)], [(0, .inr (.inr 1)), (1, .inr (.inr 4000019))], ([(1, 2, ([(3, 1)], 0)), (1, 3, ([(4, 1)], 0))], [], [], [], []))], [([(0, 1000), ((-1100), 1000), (0, 24), (0, 0), (0, 3), (0, 999)], [(0, 1000, 0), (1, 1, 2), (1, 1, 3)], [(1000, .inl ([(3, 1)], 0))], ([(1, 2, ([(4, 1)], 0)), (1, 3, ([(5, 1)], 0))], [], [], [], [])), ([(0, 1000), ((-1100), 1000), (0, 24), (1, 1), (1, 1), (0, 999)], [(0, 1000, 0), (1, 1, 2), (1, 1, 3)], [(1000, .inl ([(3, 1)], 0))], ([(1, 2, ([(4, 1)], 0)), (1, 3, ([(5, 1)], 0))], [], [], [], []))], []), [(15, ([(0, 1000), ((-1100), 1000), (0, 24), ((-9223372036854775808), 9223372036854775807), (0, 3), (1, 1), (0, 999)], [(0, 2, 0), (0, 4, 0), (1, 1, 2), (1, 1, 3)], [(0, .inr (.inr 1)), (1, .inr (.inr 4000019)), (2, .inr (.inl ([(3, 1)], 0))), (4, .inl ([(4, 1)], 0))], ([(1, 2, ([(5, 1)], 0)), (1, 3, ([(6, 1)], 0))], [], [], [], [])), ([(4, -1)], 16769027))], [], 3000)
theorem ag_K40 : ag_chk ag_DD [] ag_I40 = true := by decide +kernel
theorem ag_O40 {Xp : am_H → Prop} (hX : ag_Xk Xp) (hw : ag_ok ag_DD Xp ag_Cworth) : ag_ok ag_DD Xp ag_I40.1 := ag_chk_ok ag_DD_sh ag_DD_lg hX (fun _ h => absurd h List.not_mem_nil) ag_K40
/- Tape.isWord -/
def ag_I41 : ag_I := ((44, 5, [([(0, 1000), ((-1100), 1000), (0, 24), (0, 3), (0, 999)], [(1, 1, 2), (1, 1, 3)], [(0, .inr (.inr 1)), (1, .inr (.inr 4000020))], ([(1, 2, ([(3, 1)], 0)), (1, 3, ([(4, 1)], 0))], [], [], [], []))], [([(0, 1000), ((-1100), 1000), (0, 24), (0, 0), (0, 3), (0, 999)], [(0, 1000, 0), (1, 1, 2), (1, 1, 3)], [(1000, .inl ([(3, 1)], 0))], ([(1, 2, ([(4, 1)], 0)), (1, 3, ([(5, 1)], 0))], [], [], [], [])), ([(0, 1000), ((-1100), 1000), (0, 24), (1, 1), (1, 1), (0, 999)], [(0, 1000, 0), (1, 1, 2), (1, 1, 3)], [(1000, .inl ([(3, 1)], 0))], ([(1, 2, ([(4, 1)], 0)), (1, 3, ([(5, 1)], 0))], [], [], [], []))], []), [(15, ([(0, 1000), ((-1100), 1000), (0, 24), ((-9223372036854775808), 9223372036854775807), (0, 2), (1, 1), (0, 999)], [(0, 2, 0), (0, 4, 0), (1, 1, 2), (1, 1, 3)], [(0, .inr (.inr 1)), (1, .inr (.inr 4000020)), (2, .inr (.inl ([(3, 1)], 0))), (4, .inl ([(4, 1)], 0))], ([(1, 2, ([(5, 1)], 0)), (1, 3, ([(6, 1)], 0))], [], [], [], [])), ([(4, -1)], 16769026))], [], 3000)
theorem ag_K41 : ag_chk ag_DD [] ag_I41 = true := by decide +kernel
theorem ag_O41 {Xp : am_H → Prop} (hX : ag_Xk Xp) (hw : ag_ok ag_DD Xp ag_Cworth) : ag_ok ag_DD Xp ag_I41.1 := ag_chk_ok ag_DD_sh ag_DD_lg hX (fun _ h => absurd h List.not_mem_nil) ag_K41
/- LawReader.readTest -/
def ag_I42 : ag_I := ((72, 6, [([(0, 1000), ((-1100), 1000), (0, 24), (4, 4), (4, 4)], [(0, 2, 0), (1, 1, 2)], [(0, .inr (.inr 4)), (1, .inr (.inr 25)), (2, .inl ([(3, 1)], 0))], ([(1, 2, ([(4, 1)], 0))], [], [], [], []))], [([(0, 1000), ((-1100), 1000), (0, 24), (0, 0), (4, 4)], [(0, 1000, 0), (1, 1, 2)], [(1000, .inl ([(3, 1)], 0))], ([(1, 2, ([(4, 1)], 0))], [], [], [], []))], [(1, 7, 7)]), [], [], 3000)
theorem ag_K42 : ag_chk ag_DD [ag_I38.1] ag_I42 = true := by decide +kernel
theorem ag_O42 {Xp : am_H → Prop} (hX : ag_Xk Xp) (hw : ag_ok ag_DD Xp ag_Cworth) : ag_ok ag_DD Xp ag_I42.1 := ag_chk_ok ag_DD_sh ag_DD_lg hX (List.forall_mem_cons.mpr ⟨ag_O38 hX hw, fun _ h => absurd h List.not_mem_nil⟩) ag_K42
/- Tape.isWord -/
def ag_I43 : ag_I := ((44, 1, [([(0, 1000), ((-1100), 1000), (0, 24), (4, 4)], [(1, 1, 2)], [(0, .inr (.inr 1)), (1, .inr (.inr 4000019))], ([(1, 2, ([(3, 1)], 0))], [], [], [], []))], [([(0, 1000), ((-1100), 1000), (0, 24), (0, 0), (4, 4)], [(0, 1000, 0), (1, 1, 2)], [(1000, .inl ([(3, 1)], 0))], ([(1, 2, ([(4, 1)], 0))], [], [], [], []))], []), [], [], 3000)
theorem ag_K43 : ag_chk ag_DD [] ag_I43 = true := by decide +kernel
theorem ag_O43 {Xp : am_H → Prop} (hX : ag_Xk Xp) (hw : ag_ok ag_DD Xp ag_Cworth) : ag_ok ag_DD Xp ag_I43.1 := ag_chk_ok ag_DD_sh ag_DD_lg hX (fun _ h => absurd h List.not_mem_nil) ag_K43
/- Tape.isWord -/
def ag_I44 : ag_I := ((44, 1, [([(0, 1000), ((-1100), 1000), (0, 24), (4, 4)], [(1, 1, 2)], [(0, .inr (.inr 1)), (1, .inr (.inr 4000020))], ([(1, 2, ([(3, 1)], 0))], [], [], [], []))], [([(0, 1000), ((-1100), 1000), (0, 24), (0, 0), (4, 4)], [(0, 1000, 0), (1, 1, 2)], [(1000, .inl ([(3, 1)], 0))], ([(1, 2, ([(4, 1)], 0))], [], [], [], []))], []), [], [], 3000)
theorem ag_K44 : ag_chk ag_DD [] ag_I44 = true := by decide +kernel
theorem ag_O44 {Xp : am_H → Prop} (hX : ag_Xk Xp) (hw : ag_ok ag_DD Xp ag_Cworth) : ag_ok ag_DD Xp ag_I44.1 := ag_chk_ok ag_DD_sh ag_DD_lg hX (fun _ h => absurd h List.not_mem_nil) ag_K44
/- LawReader.readLaw -/
def ag_I45 : ag_I := ((71, 16, [([(0, 1000), ((-1100), 1000), (0, 24), (4, 4), (0, 3), (0, 999)], [(0, 2, 0), (1, 1, 2), (1, 1, 3)], [(0, .inr (.inr 4)), (1, .inr (.inr 25)), (2, .inl ([(3, 1)], 0))], ([(1, 2, ([(4, 1)], 0)), (1, 3, ([(5, 1)], 0))], [], [], [], []))], [([(0, 1000), ((-1100), 1000), (0, 24), (0, 0), (0, 3), (0, 999)], [(0, 1000, 0), (1, 1, 2), (1, 1, 3)], [(1000, .inl ([(3, 1)], 0))], ([(1, 2, ([(4, 1)], 0)), (1, 3, ([(5, 1)], 0))], [], [], [], [])), ([(0, 1000), ((-1100), 1000), (0, 24), (0, 0), (4, 4)], [(0, 1000, 0), (1, 1, 2)], [(1000, .inl ([(3, 1)], 0))], ([(1, 2, ([(4, 1)], 0))], [], [], [], [])), ([(0, 1000), ((-1100), 1000), (0, 24), (1, 1), (0, 3), (0, 999)], [(0, 1000, 0), (1, 1, 2), (1, 1, 3)], [(1000, .inl ([(3, 1)], 0))], ([(1, 2, ([(4, 1)], 0)), (1, 3, ([(5, 1)], 0))], [], [], [], [])), ([(0, 1000), ((-1100), 1000), (0, 24), (1, 1), (4, 4)], [(0, 1000, 0), (1, 1, 2)], [(1000, .inl ([(3, 1)], 0))], ([(1, 2, ([(4, 1)], 0))], [], [], [], []))], [(1, 2, 7), (25, 2, 2), (26, 0, 999)]), [(10, ([(0, 1000), ((-1100), 1000), (0, 24), (4, 4), (0, 1), (0, 1000), (0, 3), (0, 999)], [(0, 2, 0), (0, 3, 0), (0, 4, 0), (1, 1, 2), (1, 1, 3)], [(0, .inr (.inr 4)), (1, .inr (.inr 25)), (2, .inl ([(3, 1)], 0)), (3, .inl ([(4, 1)], 0)), (4, .inl ([(5, 1)], 0))], ([(1, 2, ([(6, 1)], 0)), (1, 3, ([(7, 1)], 0))], [], [], [], [])), ([(5, -1)], 16770024)),
  (10, ([(0, 1000), ((-1100), 1000), (0, 24), (4, 4), (0, 1), (0, 1000), (4, 4)], [(0, 2, 0), (0, 3, 0), (0, 4, 0), (1, 1, 2)], [(0, .inr (.inr 4)), (1, .inr (.inr 25)), (2, .inl ([(3, 1)], 0)), (3, .inl ([(4, 1)], 0)), (4, .inl ([(5, 1)], 0))], ([(1, 2, ([(6, 1)], 0))], [], [], [], [])), ([(5, -1)], 16770024))], [], 3000)
theorem ag_K45 : ag_chk ag_DD [ag_I5.1, ag_I39.1, ag_I40.1, ag_I41.1, ag_I42.1, ag_I43.1, ag_I44.1] ag_I45 = true := by decide +kernel
theorem ag_O45 {Xp : am_H → Prop} (hX : ag_Xk Xp) (hw : ag_ok ag_DD Xp ag_Cworth) : ag_ok ag_DD Xp ag_I45.1 := ag_chk_ok ag_DD_sh ag_DD_lg hX (List.forall_mem_cons.mpr ⟨ag_O5 hX hw, List.forall_mem_cons.mpr ⟨ag_O39 hX hw, List.forall_mem_cons.mpr ⟨ag_O40 hX hw, List.forall_mem_cons.mpr ⟨ag_O41 hX hw, List.forall_mem_cons.mpr ⟨ag_O42 hX hw, List.forall_mem_cons.mpr ⟨ag_O43 hX hw, List.forall_mem_cons.mpr ⟨ag_O44 hX hw, fun _ h => absurd h List.not_mem_nil⟩⟩⟩⟩⟩⟩⟩) ag_K45
/- LawReader.readLaw -/
def ag_I46 : ag_I := ((71, 7, [([(0, 1000), ((-1100), 1000), (0, 24), (4, 4), (4, 4)], [(0, 2, 0), (1, 1, 2)], [(0, .inr (.inr 4)), (1, .inr (.inr 25)), (2, .inl ([(3, 1)], 0))], ([(1, 2, ([(4, 1)], 0))], [], [], [], []))], [([(0, 1000), ((-1100), 1000), (0, 24), (0, 0), (4, 4)], [(0, 1000, 0), (1, 1, 2)], [(1000, .inl ([(3, 1)], 0))], ([(1, 2, ([(4, 1)], 0))], [], [], [], []))], [(1, 7, 7)]), [(10, ([(0, 1000), ((-1100), 1000), (0, 24), (4, 4), (0, 0), (0, 0), (4, 4)], [(0, 2, 0), (0, 3, 0), (0, 4, 0), (1, 1, 2)], [(0, .inr (.inr 4)), (1, .inr (.inr 25)), (2, .inl ([(3, 1)], 0)), (3, .inl ([(4, 1)], 0)), (4, .inl ([(5, 1)], 0))], ([(1, 2, ([(6, 1)], 0))], [], [], [], [])), ([(5, -1)], 16769024))], [], 3000)
theorem ag_K46 : ag_chk ag_DD [ag_I42.1] ag_I46 = true := by decide +kernel
theorem ag_O46 {Xp : am_H → Prop} (hX : ag_Xk Xp) (hw : ag_ok ag_DD Xp ag_Cworth) : ag_ok ag_DD Xp ag_I46.1 := ag_chk_ok ag_DD_sh ag_DD_lg hX (List.forall_mem_cons.mpr ⟨ag_O42 hX hw, fun _ h => absurd h List.not_mem_nil⟩) ag_K46
/- LawReader.readPart -/
def ag_I47 : ag_I := ((75, 17, [([(0, 1000), ((-1100), 1000), (0, 24), (3, 3), (0, 3), (0, 999)], [(0, 2, 0), (1, 1, 2), (1, 1, 3)], [(0, .inr (.inr 4)), (1, .inr (.inr 25)), (2, .inl ([(3, 1)], 0))], ([(1, 2, ([(4, 1)], 0)), (1, 3, ([(5, 1)], 0))], [], [], [], []))], [([(0, 1000), ((-1100), 1000), (0, 24), (0, 0), (0, 3), (0, 999)], [(0, 1000, 0), (1, 1, 2), (1, 1, 3)], [(1000, .inl ([(3, 1)], 0))], ([(1, 2, ([(4, 1)], 0)), (1, 3, ([(5, 1)], 0))], [], [], [], [])), ([(0, 1000), ((-1100), 1000), (0, 24), (0, 0), (4, 4)], [(0, 1000, 0), (1, 1, 2)], [(1000, .inl ([(3, 1)], 0))], ([(1, 2, ([(4, 1)], 0))], [], [], [], [])), ([(0, 1000), ((-1100), 1000), (0, 24), (1, 1), (0, 3), (0, 999)], [(0, 1000, 0), (1, 1, 2), (1, 1, 3)], [(1000, .inl ([(3, 1)], 0))], ([(1, 2, ([(4, 1)], 0)), (1, 3, ([(5, 1)], 0))], [], [], [], [])), ([(0, 1000), ((-1100), 1000), (0, 24), (1, 1), (4, 4)], [(0, 1000, 0), (1, 1, 2)], [(1000, .inl ([(3, 1)], 0))], ([(1, 2, ([(4, 1)], 0))], [], [], [], []))], [(1, 2, 7), (25, 2, 2), (26, 0, 999)]), [], [], 3000)
theorem ag_K47 : ag_chk ag_DD [ag_I5.1, ag_I15.1, ag_I16.1, ag_I33.1, ag_I34.1, ag_I45.1, ag_I46.1] ag_I47 = true := by decide +kernel
theorem ag_O47 {Xp : am_H → Prop} (hX : ag_Xk Xp) (hw : ag_ok ag_DD Xp ag_Cworth) : ag_ok ag_DD Xp ag_I47.1 := ag_chk_ok ag_DD_sh ag_DD_lg hX (List.forall_mem_cons.mpr ⟨ag_O5 hX hw, List.forall_mem_cons.mpr ⟨ag_O15 hX hw, List.forall_mem_cons.mpr ⟨ag_O16 hX hw, List.forall_mem_cons.mpr ⟨ag_O33 hX hw, List.forall_mem_cons.mpr ⟨ag_O34 hX hw, List.forall_mem_cons.mpr ⟨ag_O45 hX hw, List.forall_mem_cons.mpr ⟨ag_O46 hX hw, fun _ h => absurd h List.not_mem_nil⟩⟩⟩⟩⟩⟩⟩) ag_K47
/- LawReader.readPart -/
def ag_I48 : ag_I := ((75, 3, [([(0, 1000), ((-1100), 1000), (0, 24), (3, 3), (4, 4)], [(0, 2, 0), (1, 1, 2)], [(0, .inr (.inr 4)), (1, .inr (.inr 25)), (2, .inl ([(3, 1)], 0))], ([(1, 2, ([(4, 1)], 0))], [], [], [], []))], [([(0, 1000), ((-1100), 1000), (0, 24), (0, 0), (4, 4)], [(0, 1000, 0), (1, 1, 2)], [(1000, .inl ([(3, 1)], 0))], ([(1, 2, ([(4, 1)], 0))], [], [], [], []))], [(1, 7, 7)]), [], [], 3000)
theorem ag_K48 : ag_chk ag_DD [ag_I26.1, ag_I27.1] ag_I48 = true := by decide +kernel
theorem ag_O48 {Xp : am_H → Prop} (hX : ag_Xk Xp) (hw : ag_ok ag_DD Xp ag_Cworth) : ag_ok ag_DD Xp ag_I48.1 := ag_chk_ok ag_DD_sh ag_DD_lg hX (List.forall_mem_cons.mpr ⟨ag_O26 hX hw, List.forall_mem_cons.mpr ⟨ag_O27 hX hw, fun _ h => absurd h List.not_mem_nil⟩⟩) ag_K48
/- LawReader.readProduct -/
def ag_I49 : ag_I := ((74, 18, [([(0, 1000), ((-1100), 1000), (0, 24), (3, 3), (0, 3), (0, 999)], [(0, 2, 0), (1, 1, 2), (1, 1, 3)], [(0, .inr (.inr 4)), (1, .inr (.inr 25)), (2, .inl ([(3, 1)], 0))], ([(1, 2, ([(4, 1)], 0)), (1, 3, ([(5, 1)], 0))], [], [], [], []))], [([(0, 1000), ((-1100), 1000), (0, 24), (0, 0), (0, 3), (0, 999)], [(0, 1000, 0), (1, 1, 2), (1, 1, 3)], [(1000, .inl ([(3, 1)], 0))], ([(1, 2, ([(4, 1)], 0)), (1, 3, ([(5, 1)], 0))], [], [], [], [])), ([(0, 1000), ((-1100), 1000), (0, 24), (0, 0), (4, 4)], [(0, 1000, 0), (1, 1, 2)], [(1000, .inl ([(3, 1)], 0))], ([(1, 2, ([(4, 1)], 0))], [], [], [], [])), ([(0, 1000), ((-1100), 1000), (0, 24), (1, 1), (0, 3), (0, 999)], [(0, 1000, 0), (1, 1, 2), (1, 1, 3)], [(1000, .inl ([(3, 1)], 0))], ([(1, 2, ([(4, 1)], 0)), (1, 3, ([(5, 1)], 0))], [], [], [], [])), ([(0, 1000), ((-1100), 1000), (0, 24), (1, 1), (4, 4)], [(0, 1000, 0), (1, 1, 2)], [(1000, .inl ([(3, 1)], 0))], ([(1, 2, ([(4, 1)], 0))], [], [], [], []))], [(1, 2, 7), (25, 2, 2), (26, 0, 999)]), [(10, ([(0, 1000), ((-1100), 1000), (0, 24), (3, 3), (0, 1), (0, 1000), (0, 3), (0, 999)], [(0, 2, 0), (0, 3, 0), (0, 4, 0), (1, 1, 2), (1, 1, 3)], [(0, .inr (.inr 4)), (1, .inr (.inr 25)), (2, .inl ([(3, 1)], 0)), (3, .inl ([(4, 1)], 0)), (4, .inl ([(5, 1)], 0))], ([(1, 2, ([(6, 1)], 0)), (1, 3, ([(7, 1)], 0))], [], [], [], [])), ([(5, -1)], 16770024)),
  (10, ([(0, 1000), ((-1100), 1000), (0, 24), (3, 3), (0, 1), (0, 1000), (4, 4)], [(0, 2, 0), (0, 3, 0), (0, 4, 0), (1, 1, 2)], [(0, .inr (.inr 4)), (1, .inr (.inr 25)), (2, .inl ([(3, 1)], 0)), (3, .inl ([(4, 1)], 0)), (4, .inl ([(5, 1)], 0))], ([(1, 2, ([(6, 1)], 0))], [], [], [], [])), ([(5, -1)], 16770024))], [], 3000)
theorem ag_K49 : ag_chk ag_DD [ag_I5.1, ag_I47.1, ag_I48.1] ag_I49 = true := by decide +kernel
theorem ag_O49 {Xp : am_H → Prop} (hX : ag_Xk Xp) (hw : ag_ok ag_DD Xp ag_Cworth) : ag_ok ag_DD Xp ag_I49.1 := ag_chk_ok ag_DD_sh ag_DD_lg hX (List.forall_mem_cons.mpr ⟨ag_O5 hX hw, List.forall_mem_cons.mpr ⟨ag_O47 hX hw, List.forall_mem_cons.mpr ⟨ag_O48 hX hw, fun _ h => absurd h List.not_mem_nil⟩⟩⟩) ag_K49
/- LawReader.readProduct -/
def ag_I50 : ag_I := ((74, 4, [([(0, 1000), ((-1100), 1000), (0, 24), (3, 3), (4, 4)], [(0, 2, 0), (1, 1, 2)], [(0, .inr (.inr 4)), (1, .inr (.inr 25)), (2, .inl ([(3, 1)], 0))], ([(1, 2, ([(4, 1)], 0))], [], [], [], []))], [([(0, 1000), ((-1100), 1000), (0, 24), (0, 0), (4, 4)], [(0, 1000, 0), (1, 1, 2)], [(1000, .inl ([(3, 1)], 0))], ([(1, 2, ([(4, 1)], 0))], [], [], [], []))], [(1, 7, 7)]), [(10, ([(0, 1000), ((-1100), 1000), (0, 24), (3, 3), (0, 0), (0, 0), (4, 4)], [(0, 2, 0), (0, 3, 0), (0, 4, 0), (1, 1, 2)], [(0, .inr (.inr 4)), (1, .inr (.inr 25)), (2, .inl ([(3, 1)], 0)), (3, .inl ([(4, 1)], 0)), (4, .inl ([(5, 1)], 0))], ([(1, 2, ([(6, 1)], 0))], [], [], [], [])), ([(5, -1)], 16769024))], [], 3000)
theorem ag_K50 : ag_chk ag_DD [ag_I48.1] ag_I50 = true := by decide +kernel
theorem ag_O50 {Xp : am_H → Prop} (hX : ag_Xk Xp) (hw : ag_ok ag_DD Xp ag_Cworth) : ag_ok ag_DD Xp ag_I50.1 := ag_chk_ok ag_DD_sh ag_DD_lg hX (List.forall_mem_cons.mpr ⟨ag_O48 hX hw, fun _ h => absurd h List.not_mem_nil⟩) ag_K50
/- LawReader.readSum -/
def ag_I51 : ag_I := ((73, 19, [([(0, 1000), ((-1100), 1000), (0, 24), (3, 3), (0, 3), (0, 999)], [(0, 2, 0), (1, 1, 2), (1, 1, 3)], [(0, .inr (.inr 4)), (1, .inr (.inr 25)), (2, .inl ([(3, 1)], 0))], ([(1, 2, ([(4, 1)], 0)), (1, 3, ([(5, 1)], 0))], [], [], [], []))], [([(0, 1000), ((-1100), 1000), (0, 24), (0, 0), (0, 3), (0, 999)], [(0, 1000, 0), (1, 1, 2), (1, 1, 3)], [(1000, .inl ([(3, 1)], 0))], ([(1, 2, ([(4, 1)], 0)), (1, 3, ([(5, 1)], 0))], [], [], [], [])), ([(0, 1000), ((-1100), 1000), (0, 24), (0, 0), (4, 4)], [(0, 1000, 0), (1, 1, 2)], [(1000, .inl ([(3, 1)], 0))], ([(1, 2, ([(4, 1)], 0))], [], [], [], [])), ([(0, 1000), ((-1100), 1000), (0, 24), (1, 1), (0, 3), (0, 999)], [(0, 1000, 0), (1, 1, 2), (1, 1, 3)], [(1000, .inl ([(3, 1)], 0))], ([(1, 2, ([(4, 1)], 0)), (1, 3, ([(5, 1)], 0))], [], [], [], [])), ([(0, 1000), ((-1100), 1000), (0, 24), (1, 1), (4, 4)], [(0, 1000, 0), (1, 1, 2)], [(1000, .inl ([(3, 1)], 0))], ([(1, 2, ([(4, 1)], 0))], [], [], [], []))], [(1, 2, 7), (25, 2, 2), (26, 0, 999)]), [(10, ([(0, 1000), ((-1100), 1000), (0, 24), (3, 3), (0, 1), (0, 1000), (0, 3), (0, 999)], [(0, 2, 0), (0, 3, 0), (0, 4, 0), (1, 1, 2), (1, 1, 3)], [(0, .inr (.inr 4)), (1, .inr (.inr 25)), (2, .inl ([(3, 1)], 0)), (3, .inl ([(4, 1)], 0)), (4, .inl ([(5, 1)], 0))], ([(1, 2, ([(6, 1)], 0)), (1, 3, ([(7, 1)], 0))], [], [], [], [])), ([(5, -1)], 16770024)),
  (10, ([(0, 1000), ((-1100), 1000), (0, 24), (3, 3), (0, 1), (0, 1000), (4, 4)], [(0, 2, 0), (0, 3, 0), (0, 4, 0), (1, 1, 2)], [(0, .inr (.inr 4)), (1, .inr (.inr 25)), (2, .inl ([(3, 1)], 0)), (3, .inl ([(4, 1)], 0)), (4, .inl ([(5, 1)], 0))], ([(1, 2, ([(6, 1)], 0))], [], [], [], [])), ([(5, -1)], 16770024))], [], 3000)
theorem ag_K51 : ag_chk ag_DD [ag_I5.1, ag_I49.1, ag_I50.1] ag_I51 = true := by decide +kernel
theorem ag_O51 {Xp : am_H → Prop} (hX : ag_Xk Xp) (hw : ag_ok ag_DD Xp ag_Cworth) : ag_ok ag_DD Xp ag_I51.1 := ag_chk_ok ag_DD_sh ag_DD_lg hX (List.forall_mem_cons.mpr ⟨ag_O5 hX hw, List.forall_mem_cons.mpr ⟨ag_O49 hX hw, List.forall_mem_cons.mpr ⟨ag_O50 hX hw, fun _ h => absurd h List.not_mem_nil⟩⟩⟩) ag_K51
/- LawReader.readSum -/
def ag_I52 : ag_I := ((73, 5, [([(0, 1000), ((-1100), 1000), (0, 24), (3, 3), (4, 4)], [(0, 2, 0), (1, 1, 2)], [(0, .inr (.inr 4)), (1, .inr (.inr 25)), (2, .inl ([(3, 1)], 0))], ([(1, 2, ([(4, 1)], 0))], [], [], [], []))], [([(0, 1000), ((-1100), 1000), (0, 24), (0, 0), (4, 4)], [(0, 1000, 0), (1, 1, 2)], [(1000, .inl ([(3, 1)], 0))], ([(1, 2, ([(4, 1)], 0))], [], [], [], []))], [(1, 7, 7)]), [(10, ([(0, 1000), ((-1100), 1000), (0, 24), (3, 3), (0, 0), (0, 0), (4, 4)], [(0, 2, 0), (0, 3, 0), (0, 4, 0), (1, 1, 2)], [(0, .inr (.inr 4)), (1, .inr (.inr 25)), (2, .inl ([(3, 1)], 0)), (3, .inl ([(4, 1)], 0)), (4, .inl ([(5, 1)], 0))], ([(1, 2, ([(6, 1)], 0))], [], [], [], [])), ([(5, -1)], 16769024))], [], 3000)
theorem ag_K52 : ag_chk ag_DD [ag_I50.1] ag_I52 = true := by decide +kernel
theorem ag_O52 {Xp : am_H → Prop} (hX : ag_Xk Xp) (hw : ag_ok ag_DD Xp ag_Cworth) : ag_ok ag_DD Xp ag_I52.1 := ag_chk_ok ag_DD_sh ag_DD_lg hX (List.forall_mem_cons.mpr ⟨ag_O50 hX hw, fun _ h => absurd h List.not_mem_nil⟩) ag_K52
/- LawReader.readTest -/
def ag_I53 : ag_I := ((72, 20, [([(0, 1000), ((-1100), 1000), (0, 24), (3, 3), (0, 3), (0, 999)], [(0, 2, 0), (1, 1, 2), (1, 1, 3)], [(0, .inr (.inr 4)), (1, .inr (.inr 25)), (2, .inl ([(3, 1)], 0))], ([(1, 2, ([(4, 1)], 0)), (1, 3, ([(5, 1)], 0))], [], [], [], []))], [([(0, 1000), ((-1100), 1000), (0, 24), (0, 0), (0, 3), (0, 999)], [(0, 1000, 0), (1, 1, 2), (1, 1, 3)], [(1000, .inl ([(3, 1)], 0))], ([(1, 2, ([(4, 1)], 0)), (1, 3, ([(5, 1)], 0))], [], [], [], [])), ([(0, 1000), ((-1100), 1000), (0, 24), (0, 0), (4, 4)], [(0, 1000, 0), (1, 1, 2)], [(1000, .inl ([(3, 1)], 0))], ([(1, 2, ([(4, 1)], 0))], [], [], [], [])), ([(0, 1000), ((-1100), 1000), (0, 24), (1, 1), (0, 3), (0, 999)], [(0, 1000, 0), (1, 1, 2), (1, 1, 3)], [(1000, .inl ([(3, 1)], 0))], ([(1, 2, ([(4, 1)], 0)), (1, 3, ([(5, 1)], 0))], [], [], [], [])), ([(0, 1000), ((-1100), 1000), (0, 24), (1, 1), (4, 4)], [(0, 1000, 0), (1, 1, 2)], [(1000, .inl ([(3, 1)], 0))], ([(1, 2, ([(4, 1)], 0))], [], [], [], []))], [(1, 2, 7), (25, 2, 2), (26, 0, 999)]), [], [], 3000)
theorem ag_K53 : ag_chk ag_DD [ag_I5.1, ag_I51.1, ag_I52.1] ag_I53 = true := by decide +kernel
theorem ag_O53 {Xp : am_H → Prop} (hX : ag_Xk Xp) (hw : ag_ok ag_DD Xp ag_Cworth) : ag_ok ag_DD Xp ag_I53.1 := ag_chk_ok ag_DD_sh ag_DD_lg hX (List.forall_mem_cons.mpr ⟨ag_O5 hX hw, List.forall_mem_cons.mpr ⟨ag_O51 hX hw, List.forall_mem_cons.mpr ⟨ag_O52 hX hw, fun _ h => absurd h List.not_mem_nil⟩⟩⟩) ag_K53
/- LawReader.readTest -/
def ag_I54 : ag_I := ((72, 6, [([(0, 1000), ((-1100), 1000), (0, 24), (3, 3), (4, 4)], [(0, 2, 0), (1, 1, 2)], [(0, .inr (.inr 4)), (1, .inr (.inr 25)), (2, .inl ([(3, 1)], 0))], ([(1, 2, ([(4, 1)], 0))], [], [], [], []))], [([(0, 1000), ((-1100), 1000), (0, 24), (0, 0), (4, 4)], [(0, 1000, 0), (1, 1, 2)], [(1000, .inl ([(3, 1)], 0))], ([(1, 2, ([(4, 1)], 0))], [], [], [], []))], [(1, 7, 7)]), [], [], 3000)
theorem ag_K54 : ag_chk ag_DD [ag_I52.1] ag_I54 = true := by decide +kernel
theorem ag_O54 {Xp : am_H → Prop} (hX : ag_Xk Xp) (hw : ag_ok ag_DD Xp ag_Cworth) : ag_ok ag_DD Xp ag_I54.1 := ag_chk_ok ag_DD_sh ag_DD_lg hX (List.forall_mem_cons.mpr ⟨ag_O52 hX hw, fun _ h => absurd h List.not_mem_nil⟩) ag_K54
/- LawReader.readLaw -/
def ag_I55 : ag_I := ((71, 21, [([(0, 1000), ((-1100), 1000), (0, 24), (3, 3), (0, 3), (0, 999)], [(0, 2, 0), (1, 1, 2), (1, 1, 3)], [(0, .inr (.inr 4)), (1, .inr (.inr 25)), (2, .inl ([(3, 1)], 0))], ([(1, 2, ([(4, 1)], 0)), (1, 3, ([(5, 1)], 0))], [], [], [], []))], [([(0, 1000), ((-1100), 1000), (0, 24), (0, 0), (0, 3), (0, 999)], [(0, 1000, 0), (1, 1, 2), (1, 1, 3)], [(1000, .inl ([(3, 1)], 0))], ([(1, 2, ([(4, 1)], 0)), (1, 3, ([(5, 1)], 0))], [], [], [], [])), ([(0, 1000), ((-1100), 1000), (0, 24), (0, 0), (4, 4)], [(0, 1000, 0), (1, 1, 2)], [(1000, .inl ([(3, 1)], 0))], ([(1, 2, ([(4, 1)], 0))], [], [], [], [])), ([(0, 1000), ((-1100), 1000), (0, 24), (1, 1), (0, 3), (0, 999)], [(0, 1000, 0), (1, 1, 2), (1, 1, 3)], [(1000, .inl ([(3, 1)], 0))], ([(1, 2, ([(4, 1)], 0)), (1, 3, ([(5, 1)], 0))], [], [], [], [])), ([(0, 1000), ((-1100), 1000), (0, 24), (1, 1), (4, 4)], [(0, 1000, 0), (1, 1, 2)], [(1000, .inl ([(3, 1)], 0))], ([(1, 2, ([(4, 1)], 0))], [], [], [], []))], [(1, 2, 7), (25, 2, 2), (26, 0, 999)]), [(10, ([(0, 1000), ((-1100), 1000), (0, 24), (3, 3), (0, 1), (0, 1000), (0, 3), (0, 999)], [(0, 2, 0), (0, 3, 0), (0, 4, 0), (1, 1, 2), (1, 1, 3)], [(0, .inr (.inr 4)), (1, .inr (.inr 25)), (2, .inl ([(3, 1)], 0)), (3, .inl ([(4, 1)], 0)), (4, .inl ([(5, 1)], 0))], ([(1, 2, ([(6, 1)], 0)), (1, 3, ([(7, 1)], 0))], [], [], [], [])), ([(5, -1)], 16770024)),
  (10, ([(0, 1000), ((-1100), 1000), (0, 24), (3, 3), (0, 1), (0, 1000), (4, 4)], [(0, 2, 0), (0, 3, 0), (0, 4, 0), (1, 1, 2)], [(0, .inr (.inr 4)), (1, .inr (.inr 25)), (2, .inl ([(3, 1)], 0)), (3, .inl ([(4, 1)], 0)), (4, .inl ([(5, 1)], 0))], ([(1, 2, ([(6, 1)], 0))], [], [], [], [])), ([(5, -1)], 16770024))], [], 3000)
theorem ag_K55 : ag_chk ag_DD [ag_I5.1, ag_I40.1, ag_I41.1, ag_I43.1, ag_I44.1, ag_I53.1, ag_I54.1] ag_I55 = true := by decide +kernel
theorem ag_O55 {Xp : am_H → Prop} (hX : ag_Xk Xp) (hw : ag_ok ag_DD Xp ag_Cworth) : ag_ok ag_DD Xp ag_I55.1 := ag_chk_ok ag_DD_sh ag_DD_lg hX (List.forall_mem_cons.mpr ⟨ag_O5 hX hw, List.forall_mem_cons.mpr ⟨ag_O40 hX hw, List.forall_mem_cons.mpr ⟨ag_O41 hX hw, List.forall_mem_cons.mpr ⟨ag_O43 hX hw, List.forall_mem_cons.mpr ⟨ag_O44 hX hw, List.forall_mem_cons.mpr ⟨ag_O53 hX hw, List.forall_mem_cons.mpr ⟨ag_O54 hX hw, fun _ h => absurd h List.not_mem_nil⟩⟩⟩⟩⟩⟩⟩) ag_K55
/- LawReader.readLaw -/
def ag_I56 : ag_I := ((71, 7, [([(0, 1000), ((-1100), 1000), (0, 24), (3, 3), (4, 4)], [(0, 2, 0), (1, 1, 2)], [(0, .inr (.inr 4)), (1, .inr (.inr 25)), (2, .inl ([(3, 1)], 0))], ([(1, 2, ([(4, 1)], 0))], [], [], [], []))], [([(0, 1000), ((-1100), 1000), (0, 24), (0, 0), (4, 4)], [(0, 1000, 0), (1, 1, 2)], [(1000, .inl ([(3, 1)], 0))], ([(1, 2, ([(4, 1)], 0))], [], [], [], []))], [(1, 7, 7)]), [(10, ([(0, 1000), ((-1100), 1000), (0, 24), (3, 3), (0, 0), (0, 0), (4, 4)], [(0, 2, 0), (0, 3, 0), (0, 4, 0), (1, 1, 2)], [(0, .inr (.inr 4)), (1, .inr (.inr 25)), (2, .inl ([(3, 1)], 0)), (3, .inl ([(4, 1)], 0)), (4, .inl ([(5, 1)], 0))], ([(1, 2, ([(6, 1)], 0))], [], [], [], [])), ([(5, -1)], 16769024))], [], 3000)
theorem ag_K56 : ag_chk ag_DD [ag_I54.1] ag_I56 = true := by decide +kernel
theorem ag_O56 {Xp : am_H → Prop} (hX : ag_Xk Xp) (hw : ag_ok ag_DD Xp ag_Cworth) : ag_ok ag_DD Xp ag_I56.1 := ag_chk_ok ag_DD_sh ag_DD_lg hX (List.forall_mem_cons.mpr ⟨ag_O54 hX hw, fun _ h => absurd h List.not_mem_nil⟩) ag_K56
/- LawReader.readPart -/
def ag_I57 : ag_I := ((75, 22, [([(0, 1000), ((-1100), 1000), (0, 24), (2, 2), (0, 3), (0, 999)], [(0, 2, 0), (1, 1, 2), (1, 1, 3)], [(0, .inr (.inr 4)), (1, .inr (.inr 25)), (2, .inl ([(3, 1)], 0))], ([(1, 2, ([(4, 1)], 0)), (1, 3, ([(5, 1)], 0))], [], [], [], []))], [([(0, 1000), ((-1100), 1000), (0, 24), (0, 0), (0, 3), (0, 999)], [(0, 1000, 0), (1, 1, 2), (1, 1, 3)], [(1000, .inl ([(3, 1)], 0))], ([(1, 2, ([(4, 1)], 0)), (1, 3, ([(5, 1)], 0))], [], [], [], [])), ([(0, 1000), ((-1100), 1000), (0, 24), (0, 0), (4, 4)], [(0, 1000, 0), (1, 1, 2)], [(1000, .inl ([(3, 1)], 0))], ([(1, 2, ([(4, 1)], 0))], [], [], [], [])), ([(0, 1000), ((-1100), 1000), (0, 24), (1, 1), (0, 3), (0, 999)], [(0, 1000, 0), (1, 1, 2), (1, 1, 3)], [(1000, .inl ([(3, 1)], 0))], ([(1, 2, ([(4, 1)], 0)), (1, 3, ([(5, 1)], 0))], [], [], [], [])), ([(0, 1000), ((-1100), 1000), (0, 24), (1, 1), (4, 4)], [(0, 1000, 0), (1, 1, 2)], [(1000, .inl ([(3, 1)], 0))], ([(1, 2, ([(4, 1)], 0))], [], [], [], []))], [(1, 2, 7), (25, 2, 2), (26, 0, 999)]), [], [], 3000)
theorem ag_K57 : ag_chk ag_DD [ag_I5.1, ag_I15.1, ag_I16.1, ag_I47.1, ag_I48.1, ag_I55.1, ag_I56.1] ag_I57 = true := by decide +kernel
theorem ag_O57 {Xp : am_H → Prop} (hX : ag_Xk Xp) (hw : ag_ok ag_DD Xp ag_Cworth) : ag_ok ag_DD Xp ag_I57.1 := ag_chk_ok ag_DD_sh ag_DD_lg hX (List.forall_mem_cons.mpr ⟨ag_O5 hX hw, List.forall_mem_cons.mpr ⟨ag_O15 hX hw, List.forall_mem_cons.mpr ⟨ag_O16 hX hw, List.forall_mem_cons.mpr ⟨ag_O47 hX hw, List.forall_mem_cons.mpr ⟨ag_O48 hX hw, List.forall_mem_cons.mpr ⟨ag_O55 hX hw, List.forall_mem_cons.mpr ⟨ag_O56 hX hw, fun _ h => absurd h List.not_mem_nil⟩⟩⟩⟩⟩⟩⟩) ag_K57
/- LawReader.readPart -/
def ag_I58 : ag_I := ((75, 3, [([(0, 1000), ((-1100), 1000), (0, 24), (2, 2), (4, 4)], [(0, 2, 0), (1, 1, 2)], [(0, .inr (.inr 4)), (1, .inr (.inr 25)), (2, .inl ([(3, 1)], 0))], ([(1, 2, ([(4, 1)], 0))], [], [], [], []))], [([(0, 1000), ((-1100), 1000), (0, 24), (0, 0), (4, 4)], [(0, 1000, 0), (1, 1, 2)], [(1000, .inl ([(3, 1)], 0))], ([(1, 2, ([(4, 1)], 0))], [], [], [], []))], [(1, 7, 7)]), [], [], 3000)
theorem ag_K58 : ag_chk ag_DD [ag_I26.1, ag_I27.1] ag_I58 = true := by decide +kernel
theorem ag_O58 {Xp : am_H → Prop} (hX : ag_Xk Xp) (hw : ag_ok ag_DD Xp ag_Cworth) : ag_ok ag_DD Xp ag_I58.1 := ag_chk_ok ag_DD_sh ag_DD_lg hX (List.forall_mem_cons.mpr ⟨ag_O26 hX hw, List.forall_mem_cons.mpr ⟨ag_O27 hX hw, fun _ h => absurd h List.not_mem_nil⟩⟩) ag_K58
/- LawReader.readProduct -/
def ag_I59 : ag_I := ((74, 23, [([(0, 1000), ((-1100), 1000), (0, 24), (2, 2), (0, 3), (0, 999)], [(0, 2, 0), (1, 1, 2), (1, 1, 3)], [(0, .inr (.inr 4)), (1, .inr (.inr 25)), (2, .inl ([(3, 1)], 0))], ([(1, 2, ([(4, 1)], 0)), (1, 3, ([(5, 1)], 0))], [], [], [], []))], [([(0, 1000), ((-1100), 1000), (0, 24), (0, 0), (0, 3), (0, 999)], [(0, 1000, 0), (1, 1, 2), (1, 1, 3)], [(1000, .inl ([(3, 1)], 0))], ([(1, 2, ([(4, 1)], 0)), (1, 3, ([(5, 1)], 0))], [], [], [], [])), ([(0, 1000), ((-1100), 1000), (0, 24), (0, 0), (4, 4)], [(0, 1000, 0), (1, 1, 2)], [(1000, .inl ([(3, 1)], 0))], ([(1, 2, ([(4, 1)], 0))], [], [], [], [])), ([(0, 1000), ((-1100), 1000), (0, 24), (1, 1), (0, 3), (0, 999)], [(0, 1000, 0), (1, 1, 2), (1, 1, 3)], [(1000, .inl ([(3, 1)], 0))], ([(1, 2, ([(4, 1)], 0)), (1, 3, ([(5, 1)], 0))], [], [], [], [])), ([(0, 1000), ((-1100), 1000), (0, 24), (1, 1), (4, 4)], [(0, 1000, 0), (1, 1, 2)], [(1000, .inl ([(3, 1)], 0))], ([(1, 2, ([(4, 1)], 0))], [], [], [], []))], [(1, 2, 7), (25, 2, 2), (26, 0, 999)]), [(10, ([(0, 1000), ((-1100), 1000), (0, 24), (2, 2), (0, 1), (0, 1000), (0, 3), (0, 999)], [(0, 2, 0), (0, 3, 0), (0, 4, 0), (1, 1, 2), (1, 1, 3)], [(0, .inr (.inr 4)), (1, .inr (.inr 25)), (2, .inl ([(3, 1)], 0)), (3, .inl ([(4, 1)], 0)), (4, .inl ([(5, 1)], 0))], ([(1, 2, ([(6, 1)], 0)), (1, 3, ([(7, 1)], 0))], [], [], [], [])), ([(5, -1)], 16770024)),
  (10, ([(0, 1000), ((-1100), 1000), (0, 24), (2, 2), (0, 1), (0, 1000), (4, 4)], [(0, 2, 0), (0, 3, 0), (0, 4, 0), (1, 1, 2)], [(0, .inr (.inr 4)), (1, .inr (.inr 25)), (2, .inl ([(3, 1)], 0)), (3, .inl ([(4, 1)], 0)), (4, .inl ([(5, 1)], 0))], ([(1, 2, ([(6, 1)], 0))], [], [], [], [])), ([(5, -1)], 16770024))], [], 3000)
theorem ag_K59 : ag_chk ag_DD [ag_I5.1, ag_I57.1, ag_I58.1] ag_I59 = true := by decide +kernel
theorem ag_O59 {Xp : am_H → Prop} (hX : ag_Xk Xp) (hw : ag_ok ag_DD Xp ag_Cworth) : ag_ok ag_DD Xp ag_I59.1 := ag_chk_ok ag_DD_sh ag_DD_lg hX (List.forall_mem_cons.mpr ⟨ag_O5 hX hw, List.forall_mem_cons.mpr ⟨ag_O57 hX hw, List.forall_mem_cons.mpr ⟨ag_O58 hX hw, fun _ h => absurd h List.not_mem_nil⟩⟩⟩) ag_K59
/- LawReader.readProduct -/
def ag_I60 : ag_I := ((74, 4, [([(0, 1000), ((-1100), 1000), (0, 24), (2, 2), (4, 4)], [(0, 2, 0), (1, 1, 2)], [(0, .inr (.inr 4)), (1, .inr (.inr 25)), (2, .inl ([(3, 1)], 0))], ([(1, 2, ([(4, 1)], 0))], [], [], [], []))], [([(0, 1000), ((-1100), 1000), (0, 24), (0, 0), (4, 4)], [(0, 1000, 0), (1, 1, 2)], [(1000, .inl ([(3, 1)], 0))], ([(1, 2, ([(4, 1)], 0))], [], [], [], []))], [(1, 7, 7)]), [(10, ([(0, 1000), ((-1100), 1000), (0, 24), (2, 2), (0, 0), (0, 0), (4, 4)], [(0, 2, 0), (0, 3, 0), (0, 4, 0), (1, 1, 2)], [(0, .inr (.inr 4)), (1, .inr (.inr 25)), (2, .inl ([(3, 1)], 0)), (3, .inl ([(4, 1)], 0)), (4, .inl ([(5, 1)], 0))], ([(1, 2, ([(6, 1)], 0))], [], [], [], [])), ([(5, -1)], 16769024))], [], 3000)
theorem ag_K60 : ag_chk ag_DD [ag_I58.1] ag_I60 = true := by decide +kernel
theorem ag_O60 {Xp : am_H → Prop} (hX : ag_Xk Xp) (hw : ag_ok ag_DD Xp ag_Cworth) : ag_ok ag_DD Xp ag_I60.1 := ag_chk_ok ag_DD_sh ag_DD_lg hX (List.forall_mem_cons.mpr ⟨ag_O58 hX hw, fun _ h => absurd h List.not_mem_nil⟩) ag_K60
/- LawReader.readSum -/
def ag_I61 : ag_I := ((73, 24, [([(0, 1000), ((-1100), 1000), (0, 24), (2, 2), (0, 3), (0, 999)], [(0, 2, 0), (1, 1, 2), (1, 1, 3)], [(0, .inr (.inr 4)), (1, .inr (.inr 25)), (2, .inl ([(3, 1)], 0))], ([(1, 2, ([(4, 1)], 0)), (1, 3, ([(5, 1)], 0))], [], [], [], []))], [([(0, 1000), ((-1100), 1000), (0, 24), (0, 0), (0, 3), (0, 999)], [(0, 1000, 0), (1, 1, 2), (1, 1, 3)], [(1000, .inl ([(3, 1)], 0))], ([(1, 2, ([(4, 1)], 0)), (1, 3, ([(5, 1)], 0))], [], [], [], [])), ([(0, 1000), ((-1100), 1000), (0, 24), (0, 0), (4, 4)], [(0, 1000, 0), (1, 1, 2)], [(1000, .inl ([(3, 1)], 0))], ([(1, 2, ([(4, 1)], 0))], [], [], [], [])), ([(0, 1000), ((-1100), 1000), (0, 24), (1, 1), (0, 3), (0, 999)], [(0, 1000, 0), (1, 1, 2), (1, 1, 3)], [(1000, .inl ([(3, 1)], 0))], ([(1, 2, ([(4, 1)], 0)), (1, 3, ([(5, 1)], 0))], [], [], [], [])), ([(0, 1000), ((-1100), 1000), (0, 24), (1, 1), (4, 4)], [(0, 1000, 0), (1, 1, 2)], [(1000, .inl ([(3, 1)], 0))], ([(1, 2, ([(4, 1)], 0))], [], [], [], []))], [(1, 2, 7), (25, 2, 2), (26, 0, 999)]), [(10, ([(0, 1000), ((-1100), 1000), (0, 24), (2, 2), (0, 1), (0, 1000), (0, 3), (0, 999)], [(0, 2, 0), (0, 3, 0), (0, 4, 0), (1, 1, 2), (1, 1, 3)], [(0, .inr (.inr 4)), (1, .inr (.inr 25)), (2, .inl ([(3, 1)], 0)), (3, .inl ([(4, 1)], 0)), (4, .inl ([(5, 1)], 0))], ([(1, 2, ([(6, 1)], 0)), (1, 3, ([(7, 1)], 0))], [], [], [], [])), ([(5, -1)], 16770024)),
  (10, ([(0, 1000), ((-1100), 1000), (0, 24), (2, 2), (0, 1), (0, 1000), (4, 4)], [(0, 2, 0), (0, 3, 0), (0, 4, 0), (1, 1, 2)], [(0, .inr (.inr 4)), (1, .inr (.inr 25)), (2, .inl ([(3, 1)], 0)), (3, .inl ([(4, 1)], 0)), (4, .inl ([(5, 1)], 0))], ([(1, 2, ([(6, 1)], 0))], [], [], [], [])), ([(5, -1)], 16770024))], [], 3000)
theorem ag_K61 : ag_chk ag_DD [ag_I5.1, ag_I59.1, ag_I60.1] ag_I61 = true := by decide +kernel
theorem ag_O61 {Xp : am_H → Prop} (hX : ag_Xk Xp) (hw : ag_ok ag_DD Xp ag_Cworth) : ag_ok ag_DD Xp ag_I61.1 := ag_chk_ok ag_DD_sh ag_DD_lg hX (List.forall_mem_cons.mpr ⟨ag_O5 hX hw, List.forall_mem_cons.mpr ⟨ag_O59 hX hw, List.forall_mem_cons.mpr ⟨ag_O60 hX hw, fun _ h => absurd h List.not_mem_nil⟩⟩⟩) ag_K61
/- LawReader.readSum -/
def ag_I62 : ag_I := ((73, 5, [([(0, 1000), ((-1100), 1000), (0, 24), (2, 2), (4, 4)], [(0, 2, 0), (1, 1, 2)], [(0, .inr (.inr 4)), (1, .inr (.inr 25)), (2, .inl ([(3, 1)], 0))], ([(1, 2, ([(4, 1)], 0))], [], [], [], []))], [([(0, 1000), ((-1100), 1000), (0, 24), (0, 0), (4, 4)], [(0, 1000, 0), (1, 1, 2)], [(1000, .inl ([(3, 1)], 0))], ([(1, 2, ([(4, 1)], 0))], [], [], [], []))], [(1, 7, 7)]), [(10, ([(0, 1000), ((-1100), 1000), (0, 24), (2, 2), (0, 0), (0, 0), (4, 4)], [(0, 2, 0), (0, 3, 0), (0, 4, 0), (1, 1, 2)], [(0, .inr (.inr 4)), (1, .inr (.inr 25)), (2, .inl ([(3, 1)], 0)), (3, .inl ([(4, 1)], 0)), (4, .inl ([(5, 1)], 0))], ([(1, 2, ([(6, 1)], 0))], [], [], [], [])), ([(5, -1)], 16769024))], [], 3000)
theorem ag_K62 : ag_chk ag_DD [ag_I60.1] ag_I62 = true := by decide +kernel
theorem ag_O62 {Xp : am_H → Prop} (hX : ag_Xk Xp) (hw : ag_ok ag_DD Xp ag_Cworth) : ag_ok ag_DD Xp ag_I62.1 := ag_chk_ok ag_DD_sh ag_DD_lg hX (List.forall_mem_cons.mpr ⟨ag_O60 hX hw, fun _ h => absurd h List.not_mem_nil⟩) ag_K62
/- LawReader.readTest -/
def ag_I63 : ag_I := ((72, 25, [([(0, 1000), ((-1100), 1000), (0, 24), (2, 2), (0, 3), (0, 999)], [(0, 2, 0), (1, 1, 2), (1, 1, 3)], [(0, .inr (.inr 4)), (1, .inr (.inr 25)), (2, .inl ([(3, 1)], 0))], ([(1, 2, ([(4, 1)], 0)), (1, 3, ([(5, 1)], 0))], [], [], [], []))], [([(0, 1000), ((-1100), 1000), (0, 24), (0, 0), (0, 3), (0, 999)], [(0, 1000, 0), (1, 1, 2), (1, 1, 3)], [(1000, .inl ([(3, 1)], 0))], ([(1, 2, ([(4, 1)], 0)), (1, 3, ([(5, 1)], 0))], [], [], [], [])), ([(0, 1000), ((-1100), 1000), (0, 24), (0, 0), (4, 4)], [(0, 1000, 0), (1, 1, 2)], [(1000, .inl ([(3, 1)], 0))], ([(1, 2, ([(4, 1)], 0))], [], [], [], [])), ([(0, 1000), ((-1100), 1000), (0, 24), (1, 1), (0, 3), (0, 999)], [(0, 1000, 0), (1, 1, 2), (1, 1, 3)], [(1000, .inl ([(3, 1)], 0))], ([(1, 2, ([(4, 1)], 0)), (1, 3, ([(5, 1)], 0))], [], [], [], [])), ([(0, 1000), ((-1100), 1000), (0, 24), (1, 1), (4, 4)], [(0, 1000, 0), (1, 1, 2)], [(1000, .inl ([(3, 1)], 0))], ([(1, 2, ([(4, 1)], 0))], [], [], [], []))], [(1, 2, 7), (25, 2, 2), (26, 0, 999)]), [], [], 3000)
theorem ag_K63 : ag_chk ag_DD [ag_I5.1, ag_I61.1, ag_I62.1] ag_I63 = true := by decide +kernel
theorem ag_O63 {Xp : am_H → Prop} (hX : ag_Xk Xp) (hw : ag_ok ag_DD Xp ag_Cworth) : ag_ok ag_DD Xp ag_I63.1 := ag_chk_ok ag_DD_sh ag_DD_lg hX (List.forall_mem_cons.mpr ⟨ag_O5 hX hw, List.forall_mem_cons.mpr ⟨ag_O61 hX hw, List.forall_mem_cons.mpr ⟨ag_O62 hX hw, fun _ h => absurd h List.not_mem_nil⟩⟩⟩) ag_K63
/- LawReader.readTest -/
def ag_I64 : ag_I := ((72, 6, [([(0, 1000), ((-1100), 1000), (0, 24), (2, 2), (4, 4)], [(0, 2, 0), (1, 1, 2)], [(0, .inr (.inr 4)), (1, .inr (.inr 25)), (2, .inl ([(3, 1)], 0))], ([(1, 2, ([(4, 1)], 0))], [], [], [], []))], [([(0, 1000), ((-1100), 1000), (0, 24), (0, 0), (4, 4)], [(0, 1000, 0), (1, 1, 2)], [(1000, .inl ([(3, 1)], 0))], ([(1, 2, ([(4, 1)], 0))], [], [], [], []))], [(1, 7, 7)]), [], [], 3000)
theorem ag_K64 : ag_chk ag_DD [ag_I62.1] ag_I64 = true := by decide +kernel
theorem ag_O64 {Xp : am_H → Prop} (hX : ag_Xk Xp) (hw : ag_ok ag_DD Xp ag_Cworth) : ag_ok ag_DD Xp ag_I64.1 := ag_chk_ok ag_DD_sh ag_DD_lg hX (List.forall_mem_cons.mpr ⟨ag_O62 hX hw, fun _ h => absurd h List.not_mem_nil⟩) ag_K64
/- LawReader.readLaw -/
def ag_I65 : ag_I := ((71, 26, [([(0, 1000), ((-1100), 1000), (0, 24), (2, 2), (0, 3), (0, 999)], [(0, 2, 0), (1, 1, 2), (1, 1, 3)], [(0, .inr (.inr 4)), (1, .inr (.inr 25)), (2, .inl ([(3, 1)], 0))], ([(1, 2, ([(4, 1)], 0)), (1, 3, ([(5, 1)], 0))], [], [], [], []))], [([(0, 1000), ((-1100), 1000), (0, 24), (0, 0), (0, 3), (0, 999)], [(0, 1000, 0), (1, 1, 2), (1, 1, 3)], [(1000, .inl ([(3, 1)], 0))], ([(1, 2, ([(4, 1)], 0)), (1, 3, ([(5, 1)], 0))], [], [], [], [])), ([(0, 1000), ((-1100), 1000), (0, 24), (0, 0), (4, 4)], [(0, 1000, 0), (1, 1, 2)], [(1000, .inl ([(3, 1)], 0))], ([(1, 2, ([(4, 1)], 0))], [], [], [], [])), ([(0, 1000), ((-1100), 1000), (0, 24), (1, 1), (0, 3), (0, 999)], [(0, 1000, 0), (1, 1, 2), (1, 1, 3)], [(1000, .inl ([(3, 1)], 0))], ([(1, 2, ([(4, 1)], 0)), (1, 3, ([(5, 1)], 0))], [], [], [], [])), ([(0, 1000), ((-1100), 1000), (0, 24), (1, 1), (4, 4)], [(0, 1000, 0), (1, 1, 2)], [(1000, .inl ([(3, 1)], 0))], ([(1, 2, ([(4, 1)], 0))], [], [], [], []))], [(1, 2, 7), (25, 2, 2), (26, 0, 999)]), [(10, ([(0, 1000), ((-1100), 1000), (0, 24), (2, 2), (0, 1), (0, 1000), (0, 3), (0, 999)], [(0, 2, 0), (0, 3, 0), (0, 4, 0), (1, 1, 2), (1, 1, 3)], [(0, .inr (.inr 4)), (1, .inr (.inr 25)), (2, .inl ([(3, 1)], 0)), (3, .inl ([(4, 1)], 0)), (4, .inl ([(5, 1)], 0))], ([(1, 2, ([(6, 1)], 0)), (1, 3, ([(7, 1)], 0))], [], [], [], [])), ([(5, -1)], 16770024)),
  (10, ([(0, 1000), ((-1100), 1000), (0, 24), (2, 2), (0, 1), (0, 1000), (4, 4)], [(0, 2, 0), (0, 3, 0), (0, 4, 0), (1, 1, 2)], [(0, .inr (.inr 4)), (1, .inr (.inr 25)), (2, .inl ([(3, 1)], 0)), (3, .inl ([(4, 1)], 0)), (4, .inl ([(5, 1)], 0))], ([(1, 2, ([(6, 1)], 0))], [], [], [], [])), ([(5, -1)], 16770024))], [], 3000)
theorem ag_K65 : ag_chk ag_DD [ag_I5.1, ag_I40.1, ag_I41.1, ag_I43.1, ag_I44.1, ag_I63.1, ag_I64.1] ag_I65 = true := by decide +kernel
theorem ag_O65 {Xp : am_H → Prop} (hX : ag_Xk Xp) (hw : ag_ok ag_DD Xp ag_Cworth) : ag_ok ag_DD Xp ag_I65.1 := ag_chk_ok ag_DD_sh ag_DD_lg hX (List.forall_mem_cons.mpr ⟨ag_O5 hX hw, List.forall_mem_cons.mpr ⟨ag_O40 hX hw, List.forall_mem_cons.mpr ⟨ag_O41 hX hw, List.forall_mem_cons.mpr ⟨ag_O43 hX hw, List.forall_mem_cons.mpr ⟨ag_O44 hX hw, List.forall_mem_cons.mpr ⟨ag_O63 hX hw, List.forall_mem_cons.mpr ⟨ag_O64 hX hw, fun _ h => absurd h List.not_mem_nil⟩⟩⟩⟩⟩⟩⟩) ag_K65
/- LawReader.readLaw -/
def ag_I66 : ag_I := ((71, 7, [([(0, 1000), ((-1100), 1000), (0, 24), (2, 2), (4, 4)], [(0, 2, 0), (1, 1, 2)], [(0, .inr (.inr 4)), (1, .inr (.inr 25)), (2, .inl ([(3, 1)], 0))], ([(1, 2, ([(4, 1)], 0))], [], [], [], []))], [([(0, 1000), ((-1100), 1000), (0, 24), (0, 0), (4, 4)], [(0, 1000, 0), (1, 1, 2)], [(1000, .inl ([(3, 1)], 0))], ([(1, 2, ([(4, 1)], 0))], [], [], [], []))], [(1, 7, 7)]), [(10, ([(0, 1000), ((-1100), 1000), (0, 24), (2, 2), (0, 0), (0, 0), (4, 4)], [(0, 2, 0), (0, 3, 0), (0, 4, 0), (1, 1, 2)], [(0, .inr (.inr 4)), (1, .inr (.inr 25)), (2, .inl ([(3, 1)], 0)), (3, .inl ([(4, 1)], 0)), (4, .inl ([(5, 1)], 0))], ([(1, 2, ([(6, 1)], 0))], [], [], [], [])), ([(5, -1)], 16769024))], [], 3000)
theorem ag_K66 : ag_chk ag_DD [ag_I64.1] ag_I66 = true := by decide +kernel
theorem ag_O66 {Xp : am_H → Prop} (hX : ag_Xk Xp) (hw : ag_ok ag_DD Xp ag_Cworth) : ag_ok ag_DD Xp ag_I66.1 := ag_chk_ok ag_DD_sh ag_DD_lg hX (List.forall_mem_cons.mpr ⟨ag_O64 hX hw, fun _ h => absurd h List.not_mem_nil⟩) ag_K66
/- LawReader.readPart -/
def ag_I67 : ag_I := ((75, 27, [([(0, 1000), ((-1100), 1000), (0, 24), (1, 1), (0, 3), (0, 999)], [(0, 2, 0), (1, 1, 2), (1, 1, 3)], [(0, .inr (.inr 4)), (1, .inr (.inr 25)), (2, .inl ([(3, 1)], 0))], ([(1, 2, ([(4, 1)], 0)), (1, 3, ([(5, 1)], 0))], [], [], [], []))], [([(0, 1000), ((-1100), 1000), (0, 24), (0, 0), (0, 3), (0, 999)], [(0, 1000, 0), (1, 1, 2), (1, 1, 3)], [(1000, .inl ([(3, 1)], 0))], ([(1, 2, ([(4, 1)], 0)), (1, 3, ([(5, 1)], 0))], [], [], [], [])), ([(0, 1000), ((-1100), 1000), (0, 24), (0, 0), (4, 4)], [(0, 1000, 0), (1, 1, 2)], [(1000, .inl ([(3, 1)], 0))], ([(1, 2, ([(4, 1)], 0))], [], [], [], [])), ([(0, 1000), ((-1100), 1000), (0, 24), (1, 1), (0, 3), (0, 999)], [(0, 1000, 0), (1, 1, 2), (1, 1, 3)], [(1000, .inl ([(3, 1)], 0))], ([(1, 2, ([(4, 1)], 0)), (1, 3, ([(5, 1)], 0))], [], [], [], [])), ([(0, 1000), ((-1100), 1000), (0, 24), (1, 1), (4, 4)], [(0, 1000, 0), (1, 1, 2)], [(1000, .inl ([(3, 1)], 0))], ([(1, 2, ([(4, 1)], 0))], [], [], [], []))], [(1, 2, 7), (25, 2, 2), (26, 0, 999)]), [], [], 3000)
theorem ag_K67 : ag_chk ag_DD [ag_I5.1, ag_I15.1, ag_I16.1, ag_I57.1, ag_I58.1, ag_I65.1, ag_I66.1] ag_I67 = true := by decide +kernel
theorem ag_O67 {Xp : am_H → Prop} (hX : ag_Xk Xp) (hw : ag_ok ag_DD Xp ag_Cworth) : ag_ok ag_DD Xp ag_I67.1 := ag_chk_ok ag_DD_sh ag_DD_lg hX (List.forall_mem_cons.mpr ⟨ag_O5 hX hw, List.forall_mem_cons.mpr ⟨ag_O15 hX hw, List.forall_mem_cons.mpr ⟨ag_O16 hX hw, List.forall_mem_cons.mpr ⟨ag_O57 hX hw, List.forall_mem_cons.mpr ⟨ag_O58 hX hw, List.forall_mem_cons.mpr ⟨ag_O65 hX hw, List.forall_mem_cons.mpr ⟨ag_O66 hX hw, fun _ h => absurd h List.not_mem_nil⟩⟩⟩⟩⟩⟩⟩) ag_K67
end
