/-! RUNS OF THE SECOND CHECKER: templates, calls -/
variable {ρ ρ' : Nat → Int} {env env' : ag_e} {D : ag_D} {M : ag_M} {h0 h : am_H} {H : ag_H}
/-- a heap as every call finds it; a template's state -/
def ag_WH (D : ag_D) (N : Int) (h : am_H) : Prop := h.2.2.2.2 = 175 ∧ ag_G D h ∧ 0 ≤ N ∧ h.1 156 N.toNat = 0
def ag_TS (T : ag_T) (ρ : Nat → Int) (lvc : am_V) (h : am_H) : Prop :=
  ag_in ρ T.1 ∧ (∀ j, T.1.length ≤ j → ρ j = 0) ∧ ag_lR (ag_cl ρ T.2.2.1) lvc ∧ (∀ q ∈ T.2.2.2.1, h.1 q.1 q.2.1 = Int32.ofInt (ag_ev ρ q.2.2)) ∧ (∀ q ∈ T.2.2.2.2.1, h.2.1 q.1 q.2.1 = Int64.ofInt (ag_ev ρ q.2.2)) ∧ (∀ q ∈ T.2.2.2.2.2.1, h.2.2.1 q.1 q.2.1 = some q.2.2) ∧ (∀ g ∈ T.2.2.2.2.2.2.1, 0 ≤ ag_ev ρ g) ∧ (∀ q ∈ T.2.2.2.2.2.2.2, xf_P q.1 (ag_ev ρ q.2) h)
def ag_rT (ρ : Nat → Int) (σ : List ag_f) (j : Nat) : Int := ag_ev ρ (σ.getD j ([], 0))
theorem ag_rT_P0 (σ : List ag_f) : ∀ j, j < 3 → ag_rT ρ (ag_P0 ++ σ) j = ρ j
  | 0, _ => ag_ev_y 0
  | 1, _ => ag_ev_y 1
  | 2, _ => ag_ev_y 2
  | j + 3, h => absurd h (by omega)
theorem ag_iv_wt {f : ag_f} (h : (ag_iv env f).isSome = true) : ag_wt env.length f := by
  have key : ∀ (t : List (Nat × Int)) (z : Int × Int), ag_ivt env t = some z → ∀ q ∈ t, q.1 < env.length := by
    intro t
    induction t with
    | nil => intro z _ q hq; exact absurd hq List.not_mem_nil
    | cons p r ih =>
      intro z hz q hq
      unfold ag_ivt at hz
      split at hz
      · rename_i w hw
        split at hz
        · rename_i y hy
          rcases List.mem_cons.mp hq with e | e
          · rw [e]; exact (List.getElem?_eq_some_iff.mp hw).1
          · exact ih y hy q e
        · cases hz
      · cases hz
  unfold ag_iv at h
  split at h
  · rename_i z hz
    exact key f.1 z hz
  · cases h
theorem ag_sbt_ev (σ : List ag_f) {τ : Nat → Int} (hτ : ∀ j, ag_ev ρ (σ.getD j ([], 0)) = τ j) : ∀ t : List (Nat × Int), ag_ev ρ (ag_sbt σ t) = ag_ts τ t
  | [] => rfl
  | q :: r => by
    show ag_ev ρ (ag_add (ag_scl q.2 (σ.getD q.1 ([], 0))) (ag_sbt σ r)) = q.2 * τ q.1 + ag_ts τ r
    rw [ag_ev_add, ag_ev_scl, hτ, ag_sbt_ev σ hτ r]
theorem ag_sb_ev (σ : List ag_f) {τ : Nat → Int} (hτ : ∀ j, ag_ev ρ (σ.getD j ([], 0)) = τ j) (f : ag_f) : ag_ev ρ (ag_sb σ f) = ag_ev τ f := by
  unfold ag_sb
  rw [ag_ev_add, ag_ev_k, ag_sbt_ev σ hτ]
  rfl
theorem ag_sb_rT (σ : List ag_f) (f : ag_f) : ag_ev ρ (ag_sb σ f) = ag_ev (ag_rT ρ σ) f := ag_sb_ev σ (fun _ => rfl) f
theorem ag_wt_sbt {m : Nat} {σ : List ag_f} (hσ : ∀ f ∈ σ, ag_wt m f) : ∀ t : List (Nat × Int), ag_wt m (ag_sbt σ t)
  | [] => fun _ hq => absurd hq List.not_mem_nil
  | q :: r => by
    refine ag_wt_add (ag_wt_scl ?_) (ag_wt_sbt hσ r)
    rw [List.getD_eq_getElem?_getD]
    cases hj : σ[q.1]? with
    | none => exact fun _ hq => absurd hq List.not_mem_nil
    | some f => exact hσ f (List.mem_of_getElem? hj)
theorem ag_wt_sb {m : Nat} {σ : List ag_f} (hσ : ∀ f ∈ σ, ag_wt m f) (f : ag_f) : ag_wt m (ag_sb σ f) := ag_wt_add (ag_wt_sbt hσ f.1) ag_wt_k
theorem ag_inI_ok (hin : ag_in ρ env) {f : ag_f} {w : Int × Int} (hs : ag_inI env f w = true) : w.1 ≤ ag_ev ρ f ∧ ag_ev ρ f ≤ w.2 := by
  unfold ag_inI at hs
  split at hs
  · rename_i z hz
    have := ag_iv_ok hin hz
    rw [Bool.and_eq_true, decide_eq_true_eq, decide_eq_true_eq] at hs
    omega
  · cases hs
theorem ag_fit_pre {lv : ag_l} {pre : List ag_f} {T : ag_T} {σ : List ag_f} (hs : ag_fit D env lv H pre T = some σ) : ∃ σ', σ = pre ++ σ' := by
  unfold ag_fit at hs
  split at hs
  · rename_i σ' hσ
    cases hb : ag_fitB D env lv H T (pre ++ σ') with
    | true => rw [hb] at hs; cases hs; exact ⟨σ', rfl⟩
    | false => rw [hb] at hs; cases hs
  · cases hs
theorem ag_fit_ok (hin : ag_in ρ env) {lv : ag_l} {lvc : am_V} (hl : ag_lR (ag_cl ρ lv) lvc) (hp : ag_Hp D M h0 ρ env.length H h) {pre : List ag_f} {T : ag_T} {σ : List ag_f} (hs : ag_fit D env lv H pre T = some σ) : ag_TS T (ag_rT ρ σ) lvc h := by
  have hb : ag_fitB D env lv H T σ = true := by
    unfold ag_fit at hs
    split at hs
    · rename_i σ' hσ
      cases hb : ag_fitB D env lv H T (pre ++ σ') with
      | true => rw [hb] at hs; cases hs; exact hb
      | false => rw [hb] at hs; cases hs
    · cases hs
  clear hs
  · unfold ag_fitB at hb
    rw [Bool.and_eq_true, Bool.and_eq_true, Bool.and_eq_true, Bool.and_eq_true, Bool.and_eq_true, Bool.and_eq_true, Bool.and_eq_true] at hb
    obtain ⟨b0, b1, b2, b3, b4, b5, b6, b7⟩ := hb
    have b0 := Nat.eq_of_beq_eq_true b0
    refine ⟨fun j w hw => ?_, fun j hj => ?_, fun q hq => ?_, fun q hq => ?_, fun q hq => ?_, fun q hq => ?_, fun g hg => ?_, fun g hg => ?_⟩
    · have hjl : j < T.1.length := (List.getElem?_eq_some_iff.mp hw).1
      have e1 : σ[j]? = some σ[j] := List.getElem?_eq_getElem (by omega)
      have hz : (σ.zip T.1)[j]? = some (σ[j], w) := by
        rw [List.getElem?_zip_eq_some]
        exact ⟨e1, hw⟩
      have hh : w.1 ≤ ag_ev ρ σ[j] ∧ ag_ev ρ σ[j] ≤ w.2 := by
        rcases Bool.or_eq_true_iff.mp (List.all_eq_true.mp b1 _ (List.mem_of_getElem? hz)) with z | z
        · exact ag_inI_ok hin z
        · rw [Bool.and_eq_true] at z
          have hC : ∀ g ∈ H.2.2.2.1, 0 ≤ ag_ev ρ g := fun g hg => (hp.2.2.2.2.2.1.1 g hg).2
          have z1 := ag_nn_ok hin hC z.1
          have z2 := ag_nn_ok hin hC z.2
          rw [ag_ev_sub, ag_ev_k] at z1 z2
          dsimp only at z1 z2
          exact ⟨by omega, by omega⟩
      unfold ag_rT
      rw [List.getD_eq_getElem?_getD, e1]
      exact hh
    · unfold ag_rT
      rw [List.getD_eq_getElem?_getD, List.getElem?_eq_none (by omega)]
      rfl
    · obtain ⟨p, hp1, e⟩ := List.mem_map.mp hq
      have b := List.all_eq_true.mp b2 p hp1
      rw [← e]
      show am_lk lvc p.1 = some (ag_c (ag_rT ρ σ) p.2)
      unfold ag_vf at b
      split at b
      · rename_i f g hf hg
        rw [ag_lk_of hl hf, hg]
        show some (Value.int (Int32.ofInt (ag_ev ρ f))) = some (Value.int (Int32.ofInt (ag_ev (ag_rT ρ σ) g)))
        rw [of_decide_eq_true b, ag_sb_rT]
      · rename_i f g hf hg
        rw [ag_lk_of hl hf, hg]
        show some (Value.long (Int64.ofInt (ag_ev ρ f))) = some (Value.long (Int64.ofInt (ag_ev (ag_rT ρ σ) g)))
        rw [of_decide_eq_true b, ag_sb_rT]
      · rename_i o p' hf hg
        rw [ag_lk_of hl hf, hg, Nat.eq_of_beq_eq_true b]
        rfl
      · cases b
    · have b := List.all_eq_true.mp b3 q hq
      unfold ag_ff at b
      split at b
      · rename_i f hf
        have z := (hp.2.2.1 _ (ag_lk_mem hf)).2
        rw [of_decide_eq_true b, ag_sb_rT] at z
        exact z
      · cases b
    · have b := List.all_eq_true.mp b4 q hq
      unfold ag_ff at b
      split at b
      · rename_i f hf
        have z := (hp.2.2.2.1 _ (ag_lk_mem hf)).2
        rw [of_decide_eq_true b, ag_sb_rT] at z
        exact z
      · cases b
    · have b := List.all_eq_true.mp b5 q hq
      unfold ag_rok at b
      split at b
      · rename_i x hx
        rw [← Nat.eq_of_beq_eq_true b]
        exact ag_rr_ok hp hx
      · cases b
    · rw [← ag_sb_rT]
      exact ag_nn_ok hin (fun g hg => (hp.2.2.2.2.2.1.1 g hg).2) (List.all_eq_true.mp b6 g hg)
    · obtain ⟨q, hq, b⟩ := List.any_eq_true.mp (List.all_eq_true.mp b7 g hg)
      rw [Bool.and_eq_true, decide_eq_true_eq] at b
      have z := (hp.2.2.2.2.2.1.2 q hq).2
      rw [Nat.eq_of_beq_eq_true b.1, b.2, ag_sb_rT] at z
      exact z
theorem ag_mat_ok : ∀ (l : List (Nat × Nat × ag_f)) {ρ : Nat → Int} {env : ag_e} {H : ag_H} {K : ag_e → ag_H → Bool}, ag_in ρ env → ag_Hp D M h0 ρ env.length H h → ag_mat D l env H K = true → ∃ ρ' env' H', ag_xt ρ env ρ' env' ∧ ag_Hp D M h0 ρ' env'.length H' h ∧ K env' H' = true
  | [], ρ, env, H, K, hin, hp, hs => ⟨ρ, env, H, ag_xt.refl hin, hp, hs⟩
  | q :: r, ρ, env, H, K, hin, hp, hs => by
    obtain ⟨ρ1, e1, H1, f, x1, p1, -, -, k1⟩ := ag_rd_ok hin hp hs
    obtain ⟨ρ2, e2, H2, x2, p2, k2⟩ := ag_mat_ok r x1.2.2 p1 k1
    exact ⟨ρ2, e2, H2, x1.trans x2, p2, k2⟩
theorem ag_matL_ok : ∀ (l : List (Nat × Nat × ag_f)) {ρ : Nat → Int} {env : ag_e} {H : ag_H} {K : ag_e → ag_H → Bool}, ag_in ρ env → ag_Hp D M h0 ρ env.length H h → ag_matL D l env H K = true → ∃ ρ' env' H', ag_xt ρ env ρ' env' ∧ ag_Hp D M h0 ρ' env'.length H' h ∧ K env' H' = true
  | [], ρ, env, H, K, hin, hp, hs => ⟨ρ, env, H, ag_xt.refl hin, hp, hs⟩
  | q :: r, ρ, env, H, K, hin, hp, hs => by
    obtain ⟨ρ1, e1, H1, f, x1, p1, -, -, k1⟩ := ag_rL_ok hin hp hs
    obtain ⟨ρ2, e2, H2, x2, p2, k2⟩ := ag_matL_ok r x1.2.2 p1 k1
    exact ⟨ρ2, e2, H2, x1.trans x2, p2, k2⟩
theorem ag_m2_ok {T : ag_T} {K : ag_e → ag_H → Bool} (hin : ag_in ρ env) (hp : ag_Hp D M h0 ρ env.length H h) (hs : ag_m2 D T env H K = true) : ∃ ρ' env' H', ag_xt ρ env ρ' env' ∧ ag_Hp D M h0 ρ' env'.length H' h ∧ K env' H' = true := by
  obtain ⟨ρ1, e1, H1, x1, p1, k1⟩ := ag_mat_ok _ hin hp hs
  obtain ⟨ρ2, e2, H2, x2, p2, k2⟩ := ag_matL_ok _ x1.2.2 p1 k1
  exact ⟨ρ2, e2, H2, x1.trans x2, p2, k2⟩
theorem ag_nl1_ok (hin : ag_in ρ env) {lv : ag_l} {lvc : am_V} (hw : ag_wl env.length lv) (hl : ag_lR (ag_cl ρ lv) lvc) {k : Nat} {K : ag_e → ag_l → Bool} (hs : ag_nl1 env lv k K = true) : ∃ ρ' env' lv', ag_xt ρ env ρ' env' ∧ ag_wl env'.length lv' ∧ ag_lR (ag_cl ρ' lv') lvc ∧ K env' lv' = true := by
  have ext : ∀ {ρ' : Nat → Int} {env' : ag_e} {v : ag_v}, ag_xt ρ env ρ' env' → ag_wv env'.length v → am_lk lvc k = some (ag_c ρ' v) → ag_wl env'.length ((k, v) :: lv) ∧ ag_lR (ag_cl ρ' ((k, v) :: lv)) lvc := by
    intro ρ' env' v hx hv he
    refine ⟨fun q hq => ?_, fun q hq => ?_⟩
    · rcases List.mem_cons.mp hq with e | e
      · rw [e]; exact hv
      · exact (hw q e).up hx.1
    · rcases List.mem_cons.mp (show q ∈ (k, ag_c ρ' v) :: ag_cl ρ' lv from hq) with e | e
      · rw [e]; exact he
      · rw [ag_cl_same hx.2.1 hw] at e
        exact hl q e
  unfold ag_nl1 at hs
  split at hs
  · rename_i f hf
    split at hs
    · rename_i w hw2
      cases hb : (decide (-2147483648 ≤ w.1) && decide (w.2 ≤ 2147483647)) with
      | true =>
        rw [hb] at hs
        exact ⟨ρ, env, lv, ag_xt.refl hin, hw, hl, hs⟩
      | false =>
        rw [hb] at hs
        dsimp only [cond] at hs
        obtain ⟨ρ', env', z, x1, wz, ez, k1⟩ := ag_nI_ok hin (Int32.ofInt (ag_ev ρ f)) hs
        have e := ext (v := .inl z) x1 wz (by rw [ag_lk_of hl hf]; show some (Value.int _) = some (Value.int _); rw [ez, Int32.ofInt_toInt])
        exact ⟨ρ', env', _, x1, e.1, e.2, k1⟩
    · cases hs
  · rename_i f hf
    split at hs
    · rename_i w hw2
      cases hb : (decide (-9223372036854775808 ≤ w.1) && decide (w.2 ≤ 9223372036854775807)) with
      | true =>
        rw [hb] at hs
        exact ⟨ρ, env, lv, ag_xt.refl hin, hw, hl, hs⟩
      | false =>
        rw [hb] at hs
        dsimp only [cond] at hs
        obtain ⟨ρ', env', z, x1, wz, ez, k1⟩ := ag_nL_ok hin (Int64.ofInt (ag_ev ρ f)) hs
        have e := ext (v := .inr (.inl z)) x1 wz (by rw [ag_lk_of hl hf]; show some (Value.long _) = some (Value.long _); rw [ez, Int64.ofInt_toInt])
        exact ⟨ρ', env', _, x1, e.1, e.2, k1⟩
    · cases hs
  · exact ⟨ρ, env, lv, ag_xt.refl hin, hw, hl, hs⟩
theorem ag_nlv_ok {lvc : am_V} : ∀ (l : ag_l) {ρ : Nat → Int} {env : ag_e} {lv : ag_l} {K : ag_e → ag_l → Bool}, ag_in ρ env → ag_wl env.length lv → ag_lR (ag_cl ρ lv) lvc → ag_nlv l env lv K = true → ∃ ρ' env' lv', ag_xt ρ env ρ' env' ∧ ag_wl env'.length lv' ∧ ag_lR (ag_cl ρ' lv') lvc ∧ K env' lv' = true
  | [], ρ, env, lv, K, hin, hw, hl, hs => ⟨ρ, env, lv, ag_xt.refl hin, hw, hl, hs⟩
  | q :: r, ρ, env, lv, K, hin, hw, hl, hs => by
    obtain ⟨ρ1, e1, lv1, x1, w1, l1, k1⟩ := ag_nl1_ok hin hw hl hs
    obtain ⟨ρ2, e2, lv2, x2, w2, l2, k2⟩ := ag_nlv_ok r x1.2.2 w1 l1 k1
    exact ⟨ρ2, e2, lv2, x1.trans x2, w2, l2, k2⟩
theorem ag_m3_ok {T : ag_T} {lv : ag_l} {lvc : am_V} {K : ag_e → ag_l → ag_H → Bool} (hin : ag_in ρ env) (hw : ag_wl env.length lv) (hl : ag_lR (ag_cl ρ lv) lvc) (hp : ag_Hp D M h0 ρ env.length H h) (hs : ag_m3 D T env lv H K = true) : ∃ ρ' env' lv' H', ag_xt ρ env ρ' env' ∧ ag_lR (ag_cl ρ' lv') lvc ∧ ag_Hp D M h0 ρ' env'.length H' h ∧ K env' lv' H' = true := by
  obtain ⟨ρ1, e1, lv1, x1, w1, l1, k1⟩ := ag_nlv_ok _ hin hw hl hs
  obtain ⟨ρ2, e2, H2, x2, p2, k2⟩ := ag_m2_ok x1.2.2 (hp.up x1) k1
  exact ⟨ρ2, e2, lv1, H2, x1.trans x2, by rw [ag_cl_same x2.2.1 w1]; exact l1, p2, k2⟩
/-! behind a call -/
theorem ag_ys_len : ∀ n m : Nat, (ag_ys m n).length = n
  | 0, _ => rfl
  | n + 1, m => congrArg (· + 1) (ag_ys_len n (m + 1))
theorem ag_ys_at : ∀ (n m j : Nat), j < n → (ag_ys m n)[j]? = some (ag_y (m + j))
  | 0, _, _, h => absurd h (Nat.not_lt_zero _)
  | n + 1, m, 0, _ => rfl
  | n + 1, m, j + 1, h => by
    show (ag_ys (m + 1) n)[j]? = _
    rw [ag_ys_at n (m + 1) j (by omega)]
    congr 2
    omega
def ag_rv (v : Option Value) : am_V := match v with
  | some x => [(1000, x)]
  | none => []
theorem ag_atM_sub {M' : ag_M} (hs : ag_Msb M' M = true) {o k : Nat} (hk : ag_atM M o k = false) : ag_atM M' o k = false := by
  cases hb : ag_atM M' o k with
  | false => rfl
  | true =>
    obtain ⟨q, hq, hh⟩ := List.any_eq_true.mp hb
    rw [Bool.and_eq_true, Bool.and_eq_true] at hh
    have a1 := Nat.eq_of_beq_eq_true hh.1
    have a2 := Nat.le_of_ble_eq_true hh.2.1
    have a3 := Nat.le_of_ble_eq_true hh.2.2
    have := ag_inM_at (n := k) (List.all_eq_true.mp hs q hq) (by omega) (by omega)
    rw [a1, hk] at this
    cases this
theorem ag_fr.trans {M' : ag_M} {h' : am_H} (hs : ag_Msb M' M = true) (f1 : ag_fr M h0 h) (f2 : ag_fr M' h h') : ag_fr M h0 h' := by
  refine ⟨f2.1.trans f1.1, fun o k hk => ?_⟩
  have a := f1.2 o k hk
  have b := f2.2 o k (ag_atM_sub hs hk)
  exact ⟨b.1.trans a.1, b.2.1.trans a.2.1, b.2.2.trans a.2.2⟩
theorem ag_gm_keep {M' : ag_M} {h h' : am_H} (hfr : ag_fr M' h h') {G : List (Nat × ag_f)} {q : Nat × ag_f} (hq : q ∈ ag_gm M' G) {x : Int} (hp : xf_P q.1 x h) : q ∈ G ∧ xf_P q.1 x h' := by
  obtain ⟨q1, q2⟩ := List.mem_filter.mp hq
  refine ⟨q1, xf_keep (fun s hs k k1 k2 => ?_) hp⟩
  have w := List.all_eq_true.mp q2 s hs
  refine (hfr.2 s.1 k ?_).1
  cases hb : ag_atM M' s.1 k with
  | false => rfl
  | true =>
    obtain ⟨r, hr, hh⟩ := List.any_eq_true.mp hb
    rw [Bool.and_eq_true, Bool.and_eq_true] at hh
    have a2 := Nat.le_of_ble_eq_true hh.2.1
    have a3 := Nat.le_of_ble_eq_true hh.2.2
    have w2 := List.all_eq_true.mp w r hr
    rw [ae_beq, decide_eq_true (Nat.eq_of_beq_eq_true hh.1).symm, Nat.ble_eq_true_of_le (show r.2.1 ≤ s.2.2 by omega), Nat.ble_eq_true_of_le (show s.2.1 ≤ r.2.2 by omega)] at w2
    cases w2
theorem ag_aft_ok (hin : ag_in ρ env) (hp : ag_Hp D M h0 ρ env.length H h) {M' : ag_M} {h' : am_H} (hsb : ag_Msb M' M = true) (hfr : ag_fr M' h h') (hW : ag_WH D (ρ 0) h') {pre : List ag_f} (hpl : pre.length = 3) (hpw : ∀ f ∈ pre, ag_wt env.length f) {P : ag_T} {τ : Nat → Int} {v : Option Value} (hτ : ∀ j, j < 3 → τ j = ag_ev ρ (pre.getD j ([], 0))) (hT : ag_TS P τ (ag_rv v) h') (hv : v.isSome = (ag_lv P.2.2.1 1000).isSome) {K : ag_e → ag_H → Option ag_v → Bool} (hs : ag_aft M' env H pre P K = true) :
    ∃ ρ' env' H' vv, ag_xt ρ env ρ' env' ∧ ag_Hp D M h0 ρ' env'.length H' h' ∧ v = vv.map (ag_c ρ') ∧ (∀ x, vv = some x → ag_wv env'.length x) ∧ K env' H' vv = true := by
  obtain ⟨⟨p1, p1'⟩, p2, p3, p4, p5, p6, p7, p8⟩ := hp
  obtain ⟨t1, t2, t3, t4, t5, t6, t7, t8⟩ := hT
  have hlen : (env ++ P.1.drop 3).length = env.length + (P.1.length - 3) := by rw [List.length_append, List.length_drop]
  have hxt : ag_xt ρ env (fun i => if i < env.length then ρ i else τ (i - env.length + 3)) (env ++ P.1.drop 3) := by
    refine ⟨by omega, fun i hi => if_pos hi, fun i q hq => ?_⟩
    by_cases hi : i < env.length
    · rw [List.getElem?_append_left hi] at hq
      show q.1 ≤ (if i < env.length then ρ i else τ (i - env.length + 3)) ∧ (if i < env.length then ρ i else τ (i - env.length + 3)) ≤ q.2
      rw [if_pos hi]
      exact hin i q hq
    · rw [List.getElem?_append_right (by omega), List.getElem?_drop] at hq
      show q.1 ≤ (if i < env.length then ρ i else τ (i - env.length + 3)) ∧ (if i < env.length then ρ i else τ (i - env.length + 3)) ≤ q.2
      rw [if_neg hi, Nat.add_comm]
      exact t1 _ q hq
  have hσ : ∀ j, ag_ev (fun i => if i < env.length then ρ i else τ (i - env.length + 3)) ((pre ++ ag_ys env.length (P.1.length - 3)).getD j ([], 0)) = τ j := by
    intro j
    rw [List.getD_eq_getElem?_getD]
    by_cases hj : j < 3
    · rw [List.getElem?_append_left (by omega)]
      have e1 : pre[j]? = some pre[j] := List.getElem?_eq_getElem (by omega)
      have z := hτ j hj
      rw [List.getD_eq_getElem?_getD, e1] at z
      rw [e1, z]
      exact ag_ev_same hxt.2.1 (hpw _ (List.mem_of_getElem? e1))
    · rw [List.getElem?_append_right (by omega), hpl]
      by_cases hj2 : j - 3 < P.1.length - 3
      · rw [ag_ys_at _ _ _ hj2]
        show ag_ev _ (ag_y (env.length + (j - 3))) = τ j
        rw [ag_ev_y, if_neg (by omega)]
        congr 1
        omega
      · rw [List.getElem?_eq_none (by rw [ag_ys_len]; omega), t2 j (by omega)]
        rfl
  have hw : ∀ f, ag_wt (env ++ P.1.drop 3).length (ag_sb (pre ++ ag_ys env.length (P.1.length - 3)) f) := by
    refine ag_wt_sb (fun f hf => ?_)
    rcases List.mem_append.mp hf with hf | hf
    · exact (hpw f hf).up hxt.1
    obtain ⟨j, hj⟩ := List.getElem?_of_mem hf
    have hjl := (List.getElem?_eq_some_iff.mp hj).1
    rw [ag_ys_len] at hjl
    rw [ag_ys_at _ _ _ hjl] at hj
    cases hj
    exact ag_wt_y (by omega)
  have hev := fun f => ag_sb_ev (pre ++ ag_ys env.length (P.1.length - 3)) hσ f
  refine ⟨_, _, _, _, hxt, ⟨⟨hW.1, by omega⟩, hW.2.1, fun q hq => ?_, fun q hq => ?_, fun q hq => ?_, ⟨fun g hg => ?_, fun g hg => ?_⟩, ⟨?_, ?_⟩, p8.trans hsb hfr⟩, ?_, ?_, hs⟩
  · rcases List.mem_append.mp hq with e | e
    · obtain ⟨q', hq', e'⟩ := List.mem_map.mp e
      rw [← e']
      refine ⟨hw _, ?_⟩
      rw [hev]
      exact t4 q' hq'
    · obtain ⟨e1, e2⟩ := List.mem_filter.mp e
      have e3 : ag_atM M' q.1 q.2.1 = false := by
        cases hb : ag_atM M' q.1 q.2.1 with
        | false => rfl
        | true => rw [hb] at e2; cases e2
      refine ⟨(p3 q e1).1.up hxt.1, ?_⟩
      rw [ag_ev_same hxt.2.1 (p3 q e1).1, (hfr.2 _ _ e3).1]
      exact (p3 q e1).2
  · rcases List.mem_append.mp hq with e | e
    · obtain ⟨q', hq', e'⟩ := List.mem_map.mp e
      rw [← e']
      refine ⟨hw _, ?_⟩
      rw [hev]
      exact t5 q' hq'
    · obtain ⟨e1, e2⟩ := List.mem_filter.mp e
      have e3 : ag_atM M' q.1 q.2.1 = false := by
        cases hb : ag_atM M' q.1 q.2.1 with
        | false => rfl
        | true => rw [hb] at e2; cases e2
      refine ⟨(p4 q e1).1.up hxt.1, ?_⟩
      rw [ag_ev_same hxt.2.1 (p4 q e1).1, (hfr.2 _ _ e3).2.1]
      exact (p4 q e1).2
  · rcases List.mem_append.mp hq with e | e
    · exact t6 q e
    · obtain ⟨e1, e2⟩ := List.mem_filter.mp e
      have e3 : ag_atM M' q.1 q.2.1 = false := by
        cases hb : ag_atM M' q.1 q.2.1 with
        | false => rfl
        | true => rw [hb] at e2; cases e2
      rw [(hfr.2 _ _ e3).2.2]
      exact p5 q e1
  · rcases List.mem_append.mp hg with e | e
    · obtain ⟨g', hg', e'⟩ := List.mem_map.mp e
      rw [← e']
      refine ⟨hw _, ?_⟩
      rw [hev]
      exact t7 g' hg'
    · refine ⟨(p6.1 g e).1.up hxt.1, ?_⟩
      rw [ag_ev_same hxt.2.1 (p6.1 g e).1]
      exact (p6.1 g e).2
  · rcases List.mem_append.mp hg with e | e
    · obtain ⟨g', hg', e'⟩ := List.mem_map.mp e
      rw [← e']
      refine ⟨hw _, ?_⟩
      rw [hev]
      exact t8 g' hg'
    · have e0 : g ∈ H.2.2.2.2 := (List.mem_filter.mp e).1
      obtain ⟨-, e2⟩ := ag_gm_keep hfr e (p6.2 g e0).2
      refine ⟨(p6.2 g e0).1.up hxt.1, ?_⟩
      rw [ag_ev_same hxt.2.1 (p6.2 g e0).1]
      exact e2
  · show 0 ≤ (if 0 < env.length then ρ 0 else _)
    rw [if_pos (by omega)]
    exact p7.1
  · show h'.1 156 (if 0 < env.length then ρ 0 else _).toNat = 0
    rw [if_pos (by omega)]
    exact hW.2.2.2
  · cases hr : ag_lv P.2.2.1 1000 with
    | none =>
      rw [hr] at hv
      cases v with
      | none => rfl
      | some x => cases hv
    | some g =>
      rw [hr] at hv
      cases v with
      | none => cases hv
      | some x =>
        have z := ag_lk_of t3 hr
        have z2 : some x = some (ag_c τ g) := z
        rw [z2]
        show some (ag_c τ g) = some (ag_c _ (ag_rn (pre ++ ag_ys env.length (P.1.length - 3)) g))
        congr 1
        rcases g with f | f | o
        · show Value.int _ = Value.int _
          rw [hev]
        · show Value.long _ = Value.long _
          rw [hev]
        · rfl
  · intro x hx
    cases hr : ag_lv P.2.2.1 1000 with
    | none =>
      rw [hr] at hx
      cases hx
    | some g =>
      rw [hr] at hx
      cases hx
      rcases g with f | f | o
      · exact hw f
      · exact hw f
      · trivial
theorem ag_args_c : ∀ (As : List ag_v) (i : Nat), ag_cl ρ (ag_args i As) = lv_args i (As.map (ag_c ρ))
  | [], i => rfl
  | v :: vs, i => by
    show (i, ag_c ρ v) :: ag_cl ρ (ag_args (bif Nat.beq (ag_cat v) 2 then i + 2 else i + 1) vs) = (i, ag_c ρ v) :: lv_args (if (ag_c ρ v).category = 2 then i + 2 else i + 1) (vs.map (ag_c ρ))
    rw [ag_args_c vs, ae_beq, ae_cond, ag_cat_c]
theorem ag_args_lk : ∀ (vs : List Value) (i : Nat), ∀ q ∈ lv_args i vs, i ≤ q.1 ∧ am_lk (lv_args i vs) q.1 = some q.2
  | [], i, q, hq => absurd hq List.not_mem_nil
  | v :: vs, i, q, hq => by
    have hq' : q ∈ (i, v) :: lv_args (if v.category = 2 then i + 2 else i + 1) vs := hq
    rcases List.mem_cons.mp hq' with e | e
    · rw [e]
      refine ⟨Nat.le_refl _, ?_⟩
      show (bif Nat.beq i i then some v else _) = some v
      rw [ae_beq, decide_eq_true rfl]
      rfl
    · have ih := ag_args_lk vs _ q e
      have hlt : i < q.1 := by
        have := ih.1
        split at this <;> omega
      refine ⟨by omega, ?_⟩
      show (bif Nat.beq i q.1 then some v else am_lk (lv_args (if v.category = 2 then i + 2 else i + 1) vs) q.1) = some q.2
      rw [ae_beq, decide_eq_false (by omega)]
      exact ih.2
theorem ag_args_lR (As : List ag_v) : ag_lR (ag_cl ρ (ag_args 0 As)) (lv_args 0 (As.map (ag_c ρ))) := by
  rw [ag_args_c]
  exact fun q hq => (ag_args_lk _ 0 q hq).2
theorem ag_args_w {m : Nat} : ∀ {As : List ag_v} {i : Nat}, ag_ws m As → ag_wl m (ag_args i As)
  | [], _, _ => fun _ hq => absurd hq List.not_mem_nil
  | v :: vs, i, h => by
    intro q hq
    rcases List.mem_cons.mp hq with e | e
    · rw [e]
      exact h v List.mem_cons_self
    · exact ag_args_w (fun x hx => h x (List.mem_cons_of_mem _ hx)) q e
theorem ag_sl_c : ∀ (As : List ag_v), (lg_sl (As.map (ag_c ρ))).length = (As.map ag_cat).sum
  | [] => rfl
  | v :: vs => by
    have ih := ag_sl_c vs
    unfold lg_sl at ih ⊢
    rw [List.map_cons, List.flatMap_cons, List.length_append, ih, List.map_cons, List.sum_cons, ag_cat_c]
    rcases v with f | f | o <;> rfl
