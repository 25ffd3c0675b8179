/-! A RUN OF THE SECOND CHECKER IS ONE OF THE ABSTRACT MACHINE; an instance that checks is a contract -/
variable {ρ : Nat → Int} {env : ag_e} {D : ag_D} {M : ag_M} {h0 : am_H}
/-- what a contract says -/
def ag_ok (D : ag_D) (Xp : am_H → Prop) (C : ag_C) : Prop := ∀ T ∈ C.2.2.1, ∀ (ρ : Nat → Int) (args : List Value) (h : am_H), ag_WH D (ρ 0) h → Xp h → ag_TS T ρ (lv_args 0 args) h → (lg_sl args).length ≤ am_nL C.1 → args.length = T.2.2.1.length →
  am_call am_cod C.2.1 C.1 args h (fun v h' => ag_WH D (ρ 0) h' ∧ ag_fr C.2.2.2.2 h h' ∧ ∃ P ∈ C.2.2.2.1, ∃ τ : Nat → Int, (∀ j, j < 3 → τ j = ρ j) ∧ ag_TS P τ (ag_rv v) h' ∧ v.isSome = (ag_lv P.2.2.1 1000).isSome)
theorem ag_Hp.WH {m : Nat} {H : ag_H} {h : am_H} (hp : ag_Hp D M h0 ρ m H h) : ag_WH D (ρ 0) h := ⟨hp.1.1, hp.2.1, hp.2.2.2.2.2.2.1⟩
theorem ag_noX_inv {pc : Nat} (h : ag_noX.1 pc = true) : False := Bool.noConfusion h
set_option maxHeartbeats 4000000 in
theorem ag_go_ok (hM : ag_Mok M = true) (hD : D.2.2.2 = am_shl) (hDL : ∀ o k, ¬ o = 154 → D.2.1 o k = (-9223372036854775808, 9223372036854775807)) {Xp : am_H → Prop} (hXp : ∀ h h' : am_H, (∀ o k, ag_kp o k → h'.1 o k = h.1 o k) → Xp h → Xp h') (hX0 : Xp h0) {tab : List ag_C} (htab : ∀ C ∈ tab, ag_ok D Xp C) :
    ∀ (f : Nat) (fst : Bool) (X : ag_X) (env : ag_e) (d : Nat) (H : ag_H) (rows : List (Nat × am_R)) (nL : Nat) (rt : Option FieldType) (pc : Nat) (lv : ag_l) (st : List ag_v) (Rt : ag_e → ag_H → Option ag_v → Bool) (ρ : Nat → Int) (lvc : am_V) (stc : List Value) (h : am_H) (E : Nat → am_V → List Value → am_H → Prop) (Q : am_Q),
    ag_go D M tab f fst X env d H rows nL rt pc lv st Rt = true → ag_St D M h0 ρ env lv st H lvc stc h →
    (∀ env' pc' lv' H' lvc' ρ' h', X.1 pc' = true → X.2.1 env' pc' lv' H' = true → ag_xt ρ env ρ' env' → ag_St D M h0 ρ' env' lv' [] H' lvc' [] h' → E pc' lvc' [] h') →
    (∀ env' H' v ρ' h', Rt env' H' v = true → ag_xt ρ env ρ' env' → (∀ x, v = some x → ag_wv env'.length x) → ag_Hp D M h0 ρ' env'.length H' h' → Q (v.map (ag_c ρ')) h') →
    am_X (am_call am_cod d) nL 175 rt (am_find rows) E Q pc lvc stc h := by
  intro f
  induction f with
  | zero => intro fst X env d H rows nL rt pc lv st Rt ρ lvc stc h E Q hs; exact Bool.noConfusion hs
  | succ f ih =>
    intro fst X env d H rows nL rt pc lv st Rt ρ lvc stc h E Q hs hS hXX hRR
    unfold ag_go at hs
    cases hx : (!fst && X.1 pc) with
    | true =>
      rw [hx] at hs
      have hs : (st.isEmpty && X.2.1 env pc lv H) = true := hs
      rw [Bool.and_eq_true] at hx hs
      have e1 : st = [] := List.isEmpty_iff.mp hs.1
      subst e1
      have e2 : stc = [] := hS.2.2.1.2
      subst e2
      exact am_xexit (hXX env pc lv H lvc ρ h hx.2 hs.2 (ag_xt.refl hS.1) hS)
    | false =>
      rw [hx] at hs
      have hs : (match ag_spl env lv H X pc with
        | some (g, lo, hi) => _
        | none => _) = true := hs
      split at hs
      · rename_i g lo hi hg
        have hiv : ag_iv env g = some (lo, hi) := by
          unfold ag_spl at hg
          split at hg
          · split at hg
            · split at hg
              · rename_i w hw
                cases hb : decide (w.1 < w.2) with
                | true =>
                  rw [hb] at hg
                  cases hg
                  exact hw
                | false =>
                  rw [hb] at hg
                  cases hg
              · cases hg
            · cases hg
          · cases hg
        have hb := ag_iv_ok hS.1 hiv
        have hb1 : lo ≤ ag_ev ρ g := hb.1
        have hb2 : ag_ev ρ g ≤ hi := hb.2
        have k1 := List.all_eq_true.mp hs (ag_ev ρ g - lo).toNat (List.mem_range.mpr (by omega))
        obtain ⟨e2, i2, l2, k2⟩ := ag_eq_ok hS.1 (by rw [ag_ev_sub, ag_ev_k]; omega) k1
        have xx : ag_xt ρ env ρ e2 := ag_xt.cut i2 l2
        refine ih fst X e2 d H rows nL rt pc lv st Rt ρ lvc stc h E Q k2 ⟨i2, ⟨hS.2.1.1.up xx.1, hS.2.1.2⟩, ⟨hS.2.2.1.1.up xx.1, hS.2.2.1.2⟩, hS.2.2.2.up xx⟩ ?_ ?_
        · intro env' pc' lv' H' lvc' ρ' h' a1 a2 a3 a4
          exact hXX env' pc' lv' H' lvc' ρ' h' a1 a2 (xx.trans a3) a4
        · intro env' H' v ρ' h' a1 a2 a3 a4
          exact hRR env' H' v ρ' h' a1 (xx.trans a2) a3 a4
      · split at hs
        · cases hs
        · rename_i r hr
          obtain ⟨i, nx, a, b, c, dd⟩ := r
          -- going on in this frame
          have go : ∀ (env' : ag_e) (pc' : Nat) (lv' : ag_l) (st' : List ag_v) (H' : ag_H) (lvc' : am_V) (stc' : List Value) (ρ' : Nat → Int) (h' : am_H), ag_go D M tab f false X env' d H' rows nL rt pc' lv' st' Rt = true → ag_xt ρ env ρ' env' → ag_St D M h0 ρ' env' lv' st' H' lvc' stc' h' → am_X (am_call am_cod d) nL 175 rt (am_find rows) E Q pc' lvc' stc' h' := by
            intro env' pc' lv' st' H' lvc' stc' ρ' h' k x S'
            refine ih false X env' d H' rows nL rt pc' lv' st' Rt ρ' lvc' stc' h' E Q k S' ?_ ?_
            · intro env2 pc2 lv2 H2 lvc2 ρ2 h2 a1 a2 a3 a4
              exact hXX env2 pc2 lv2 H2 lvc2 ρ2 h2 a1 a2 (x.trans a3) a4
            · intro env2 H2 v ρ2 h2 a1 a2 a3 a4
              exact hRR env2 H2 v ρ2 h2 a1 (x.trans a2) a3 a4
          have back : ∀ (env' : ag_e) (H' : ag_H) (vv : Option ag_v) (rest : List ag_v) (ρ' : Nat → Int) (h' : am_H), ag_go D M tab f false X env' d H' rows nL rt nx lv (vv.toList ++ rest) Rt = true → ag_xt ρ env ρ' env' → (∀ x, vv = some x → ag_wv env'.length x) → ag_Hp D M h0 ρ' env'.length H' h' → ag_ws env.length rest → am_X (am_call am_cod d) nL 175 rt (am_find rows) E Q nx lvc ((vv.map (ag_c ρ')).toList ++ rest.map (ag_c ρ)) h' := by
            intro env' H' vv rest ρ' h' k x hv hp' hw
            have hw' : ag_ws env'.length (vv.toList ++ rest) := by
              intro z hz
              rcases List.mem_append.mp hz with e | e
              · cases vv with
                | none => exact absurd e List.not_mem_nil
                | some y =>
                  rcases List.mem_cons.mp e with e | e
                  · rw [e]; exact hv y rfl
                  · exact absurd e List.not_mem_nil
              · exact (hw.up x.1) z e
            have q := go env' nx lv (vv.toList ++ rest) H' lvc ((vv.toList ++ rest).map (ag_c ρ')) ρ' h' k x ⟨x.2.2, ⟨hS.2.1.1.up x.1, by rw [ag_cl_same x.2.1 hS.2.1.1]; exact hS.2.1.2⟩, ⟨hw', rfl⟩, hp'⟩
            rw [List.map_append, ag_st_same x.2.1 hw] at q
            cases vv <;> exact q
          refine am_xstep hr (ag_step_ok hM hD hDL hS (fun env' pc' lv' st' H' lvc' stc' ρ' h' k x S' => go env' pc' lv' st' H' lvc' stc' ρ' h' k x S') ?_ ?_ hs)
          · intro a As rest k hal hwA hwr
            split at k
            · rename_i q hq
              rw [Bool.and_eq_true] at k
              obtain ⟨k0, k⟩ := k
              obtain ⟨e1, e2, -⟩ := am_inf_at hq
              have hlen : (lg_sl (As.map (ag_c ρ))).length ≤ am_nL a := by
                rw [ag_sl_c, ← e1]
                exact Nat.le_of_ble_eq_true k0
              cases hb : tab.any (fun I => Nat.beq I.1 a) with
              | true =>
                rw [hb] at k
                obtain ⟨I, hI, k1⟩ := List.any_eq_true.mp k
                rw [Bool.and_eq_true, Bool.and_eq_true, Bool.and_eq_true] at k1
                obtain ⟨c1, c2, c3, c4⟩ := k1
                obtain ⟨T, hT, c5⟩ := List.any_eq_true.mp c4
                have c1 := Nat.eq_of_beq_eq_true c1
                rw [Bool.and_eq_true] at c5
                obtain ⟨c9, c5⟩ := c5
                subst c1
                obtain ⟨ρ1, en1, lvA, H1, x1, lR, p1, c6⟩ := ag_m3_ok hS.1 (ag_args_w (i := 0) hwA) (ag_args_lR As) hS.2.2.2 c5
                obtain ⟨pre, hpre, c6⟩ := List.any_eq_true.mp c6
                rw [Bool.and_eq_true, Bool.and_eq_true] at c6
                obtain ⟨c7, c10, c8⟩ := c6
                have hpw : ∀ f ∈ pre, ag_wt en1.length f := fun f hf => ag_iv_wt (List.all_eq_true.mp c10 f hf)
                have hp3 : pre.length = 3 ∧ ag_ev ρ1 (pre.getD 0 ([], 0)) = ρ1 0 := by
                  rcases List.mem_cons.mp hpre with e | e
                  · rw [e]; exact ⟨rfl, ag_ev_y 0⟩
                  · rcases List.mem_cons.mp e with e | e
                    · rw [e]; exact ⟨rfl, ag_ev_y 0⟩
                    · exact absurd e List.not_mem_nil
                cases hσ : ag_fit D en1 lvA H1 pre T with
                | none => rw [hσ] at c7; cases c7
                | some σ =>
                  have TS := ag_fit_ok x1.2.2 lR p1 hσ
                  obtain ⟨σ', eσ⟩ := ag_fit_pre hσ
                  have hj3 : ∀ j, j < 3 → ag_rT ρ1 σ j = ag_ev ρ1 (pre.getD j ([], 0)) := by
                    intro j hj
                    unfold ag_rT
                    rw [eσ, List.getD_eq_getElem?_getD, List.getD_eq_getElem?_getD, List.getElem?_append_left (by omega)]
                  have hXh : Xp h := hXp h0 h (fun o k hk => (p1.2.2.2.2.2.2.2.2 o k (ag_Mok_at hM hk)).1) hX0
                  have WH : ag_WH D (ag_rT ρ1 σ 0) h := by
                    rw [hj3 0 (by decide), hp3.2]
                    exact p1.WH
                  refine am_call.mono (fun v h' hh => ?_) (am_call.up (htab I hI T hT (ag_rT ρ1 σ) (As.map (ag_c ρ)) h WH hXh TS hlen (by rw [List.length_map]; exact Nat.eq_of_beq_eq_true c9)) (Nat.le_of_ble_eq_true c2))
                  obtain ⟨g1, g2, P, hP, τ, g3, g4, g5⟩ := hh
                  rw [hj3 0 (by decide), hp3.2] at g1
                  obtain ⟨ρ2, en2, H2, vv, x2, p2, ev, wv, k2⟩ := ag_aft_ok x1.2.2 p1 c3 g2 g1 hp3.1 hpw (fun j hj => (g3 j hj).trans (hj3 j hj)) g4 g5 (List.all_eq_true.mp c8 P hP)
                  rw [ev]
                  exact back en2 H2 vv rest ρ2 h' k2 (x1.trans x2) wv p2 hwr
              | false =>
                rw [hb] at k
                have hbk := back
                match d, k, hbk with
                | 0, k, _ => exact Bool.noConfusion k
                | d + 1, k, hbk =>
                  have k : ag_go D M tab f false ag_noX env d H q.1 q.2.1 q.2.2 0 (ag_args 0 As) [] (fun env H v => ag_go D M tab f false X env (d + 1) H rows nL rt nx lv (v.toList ++ rest) Rt) = true := k
                  have e3 : am_cod a = am_find q.1 := by
                    funext pc
                    unfold am_cod
                    rw [hq]
                  refine Or.inr ⟨hlen, ?_⟩
                  have hc : h.2.2.2.2 = 175 := hS.2.2.2.1.1
                  rw [e3, ← e1, ← e2, hal, hc]
                  refine ih false ag_noX env d H q.1 q.2.1 q.2.2 0 (ag_args 0 As) [] _ ρ (lv_args 0 (As.map (ag_c ρ))) [] h _ _ k ⟨hS.1, ⟨ag_args_w hwA, ag_args_lR As⟩, ⟨fun _ z => absurd z List.not_mem_nil, rfl⟩, hS.2.2.2⟩ ?_ ?_
                  · intro env' pc' lv' H' lvc' ρ' h' z
                    exact (ag_noX_inv z).elim
                  · intro env' H' v ρ' h' k' x' wv' p'
                    exact ⟨p'.1.1, hbk env' H' v rest ρ' h' k' x' wv' p' hwr⟩
            · cases k
          · intro env' v ρ' k x wv
            exact hRR env' H v ρ' h k x wv (hS.2.2.2.up x)
