/-! A STEP OF THE SECOND CHECKER -/
variable {ρ : Nat → Int} {env : ag_e} {D : ag_D} {M : ag_M} {h0 h : am_H} {H : ag_H}
theorem ag_kd3 (n : Nat) : n = 0 ∨ n = 1 ∨ ∃ m, n = m + 2 := by
  match n with
  | 0 => exact Or.inl rfl
  | 1 => exact Or.inr (Or.inl rfl)
  | m + 2 => exact Or.inr (Or.inr ⟨m, rfl⟩)
theorem ag_rr_ok {m : Nat} (hp : ag_Hp D M h0 ρ m H h) {o k x : Nat} (hs : ag_rr D H.2.2.1 o k = some x) : h.2.2.1 o k = some x := by
  unfold ag_rr at hs
  split at hs
  · rename_i r hr
    cases hs
    exact hp.2.2.2.2.1 _ (ag_lk_mem hr)
  · exact hp.2.1.2.2 o k x hs
theorem ag_s4 {o : Nat} (k : (Nat.ble 4000000 o && Nat.blt o 4000026) = true) : ∃ q, q < 26 ∧ o = 4000000 + q ∧ o + 1000000 = 5000000 + q := by
  rw [Bool.and_eq_true] at k
  have k1 := Nat.le_of_ble_eq_true k.1
  have k2 := ae_blt k.2
  exact ⟨o - 4000000, by omega, by omega, by omega⟩
theorem ag_s5 {o : Nat} (k : (Nat.ble 5000000 o && Nat.blt o 5000026) = true) : ∃ q, q < 26 ∧ o = 5000000 + q ∧ o - 5000000 = q := by
  rw [Bool.and_eq_true] at k
  have k1 := Nat.le_of_ble_eq_true k.1
  have k2 := ae_blt k.2
  exact ⟨o - 5000000, by omega, by omega, rfl⟩
set_option maxHeartbeats 8000000 in
set_option maxRecDepth 20000 in
theorem ag_step_ok (hM : ag_Mok M = true) (hD : D.2.2.2 = am_shl) (hDL : ∀ o k, ¬ o = 154 → D.2.1 o k = (-9223372036854775808, 9223372036854775807)) {nL : Nat} {rt : Option FieldType} {pc nx a b c d : Nat} {i : Instr} {lv : ag_l} {st : List ag_v} {lvc : am_V} {stc : List Value} {K : ag_e → Nat → ag_l → List ag_v → ag_H → Bool} {C : Nat → List ag_v → List ag_v → Bool} {Rt : ag_e → Option ag_v → Bool} {cp : am_P} {S : Nat → am_V → List Value → am_H → Prop} {Qr : am_Q}
    (hS : ag_St D M h0 ρ env lv st H lvc stc h)
    (hK : ∀ env' pc' lv' st' H' lvc' stc' ρ' h', K env' pc' lv' st' H' = true → ag_xt ρ env ρ' env' → ag_St D M h0 ρ' env' lv' st' H' lvc' stc' h' → S pc' lvc' stc' h')
    (hC : ∀ a As rest, C a As rest = true → am_al a = 0 → ag_ws env.length As → ag_ws env.length rest → cp a (As.map (ag_c ρ)) h (fun v h' => S nx lvc (v.toList ++ rest.map (ag_c ρ)) h'))
    (hRt : ∀ env' v ρ', Rt env' v = true → ag_xt ρ env ρ' env' → (∀ x, v = some x → ag_wv env'.length x) → Qr (v.map (ag_c ρ')) h)
    (hs : ag_step D M i nx a b c d env H nL rt pc lv st K C Rt = true) : am_stp cp nL 175 rt pc (i, nx, a, b, c, d) lvc stc h S Qr := by
  obtain ⟨hin, ⟨hwl, hlr⟩, ⟨hws, rfl⟩, hp⟩ := hS
  have hcnt : h.2.2.2.2 = 175 := hp.1.1
  have x0 : ag_xt ρ env ρ env := ag_xt.refl hin
  have gl : ∀ {env' : ag_e} {pc' : Nat} {lv' : ag_l} {lvc' : am_V} {st' : List ag_v} {H' : ag_H} {ρ' : Nat → Int} {h' : am_H}, K env' pc' lv' st' H' = true → ag_xt ρ env ρ' env' → ag_wl env'.length lv' → ag_lR (ag_cl ρ' lv') lvc' → ag_ws env'.length st' → ag_Hp D M h0 ρ' env'.length H' h' → S pc' lvc' (st'.map (ag_c ρ')) h' := fun k x w1 l1 w2 p => hK _ _ _ _ _ _ _ _ _ k x ⟨x.2.2, ⟨w1, l1⟩, ⟨w2, rfl⟩, p⟩
  have sl : ∀ {env' : ag_e} {ρ' : Nat → Int}, ag_xt ρ env ρ' env' → ag_lR (ag_cl ρ' lv) lvc := fun x => by
    rw [ag_cl_same x.2.1 hwl]
    exact hlr
  have g0 : ∀ {env' : ag_e} {pc' : Nat} {r : List ag_v} {H' : ag_H} {ρ' : Nat → Int} {h' : am_H}, K env' pc' lv r H' = true → ag_xt ρ env ρ' env' → ag_ws env.length r → ag_Hp D M h0 ρ' env'.length H' h' → S pc' lvc (r.map (ag_c ρ)) h' := fun k x w p => by
    have q := gl k x (hwl.up x.1) (sl x) (w.up x.1) p
    rw [ag_st_same x.2.1 w] at q
    exact q
  have g1 : ∀ {env' : ag_e} {pc' : Nat} {r : List ag_v} {v : ag_v} {H' : ag_H} {ρ' : Nat → Int} {h' : am_H} {x : Value}, K env' pc' lv (v :: r) H' = true → ag_xt ρ env ρ' env' → ag_wv env'.length v → ag_ws env.length r → ag_Hp D M h0 ρ' env'.length H' h' → ag_c ρ' v = x → S pc' lvc (x :: r.map (ag_c ρ)) h' := fun k x wv w p e => by
    have q := gl k x (hwl.up x.1) (sl x) (ag_ws_cons (w.up x.1) wv) p
    rw [List.map_cons, ag_st_same x.2.1 w, e] at q
    exact q
  have gI : ∀ {env' : ag_e} {pc' : Nat} {r : List ag_v} {f : ag_f} {H' : ag_H} {ρ' : Nat → Int} {h' : am_H} {x : Int32}, K env' pc' lv (.inl f :: r) H' = true → ag_xt ρ env ρ' env' → ag_wt env'.length f → ag_ws env.length r → ag_Hp D M h0 ρ' env'.length H' h' → Int32.ofInt (ag_ev ρ' f) = x → S pc' lvc (.int x :: r.map (ag_c ρ)) h' := fun k x wv w p e => g1 k x wv w p (congrArg Value.int e)
  have gL : ∀ {env' : ag_e} {pc' : Nat} {r : List ag_v} {f : ag_f} {H' : ag_H} {ρ' : Nat → Int} {h' : am_H} {x : Int64}, K env' pc' lv (.inr (.inl f) :: r) H' = true → ag_xt ρ env ρ' env' → ag_wt env'.length f → ag_ws env.length r → ag_Hp D M h0 ρ' env'.length H' h' → Int64.ofInt (ag_ev ρ' f) = x → S pc' lvc (.long x :: r.map (ag_c ρ)) h' := fun k x wv w p e => g1 k x wv w p (congrArg Value.long e)
  have tl : ∀ {v : ag_v} {r : List ag_v}, ag_ws env.length (v :: r) → ag_ws env.length r := fun w q hq => w q (List.mem_cons_of_mem _ hq)
  have hd : ∀ {v : ag_v} {r : List ag_v}, ag_ws env.length (v :: r) → ag_wv env.length v := fun w => w _ List.mem_cons_self
  have pu : ∀ {env' : ag_e} {ρ' : Nat → Int}, ag_xt ρ env ρ' env' → ag_Hp D M h0 ρ' env'.length H h := fun x => hp.up x
  cases i
  case bipush n =>
    exact gI hs x0 ag_wt_k hws hp (by rw [ag_ev_k, Int32.ofInt_toInt])
  case sipush n =>
    exact gI hs x0 ag_wt_k hws hp (by rw [ag_ev_k, Int32.ofInt_toInt])
  case ldc_w n =>
    have hk : (bif Nat.beq b 1 then K env nx lv (.inr (.inr (4000000 + c)) :: st) H else K env nx lv (.inl (ag_k (am_ki c).toInt) :: st) H) = true := hs
    show (bif Nat.beq b 1 then S nx lvc (.ref (4000000 + c) :: st.map (ag_c ρ)) h else S nx lvc (.int (am_ki c) :: st.map (ag_c ρ)) h)
    cases hb1 : Nat.beq b 1 with
    | true =>
      rw [hb1] at hk
      exact g1 hk x0 trivial hws hp rfl
    | false =>
      rw [hb1] at hk
      exact gI hk x0 ag_wt_k hws hp (by rw [ag_ev_k, Int32.ofInt_toInt])
  case ldc n =>
    have hk : (bif Nat.beq b 1 then K env nx lv (.inr (.inr (4000000 + c)) :: st) H else K env nx lv (.inl (ag_k (am_ki c).toInt) :: st) H) = true := hs
    show (bif Nat.beq b 1 then S nx lvc (.ref (4000000 + c) :: st.map (ag_c ρ)) h else S nx lvc (.int (am_ki c) :: st.map (ag_c ρ)) h)
    cases hb1 : Nat.beq b 1 with
    | true =>
      rw [hb1] at hk
      exact g1 hk x0 trivial hws hp rfl
    | false =>
      rw [hb1] at hk
      exact gI hk x0 ag_wt_k hws hp (by rw [ag_ev_k, Int32.ofInt_toInt])
  case getstatic n =>
    have hk : (bif Nat.beq b 1 then K env nx lv (.inr (.inr 6000000) :: st) H else K env nx lv (.inl (ag_k 1) :: st) H) = true := hs
    show (bif Nat.beq b 1 then S nx lvc (.ref 6000000 :: st.map (ag_c ρ)) h else S nx lvc (.int 1 :: st.map (ag_c ρ)) h)
    cases hb1 : Nat.beq b 1 with
    | true =>
      rw [hb1] at hk
      exact g1 hk x0 trivial hws hp rfl
    | false =>
      rw [hb1] at hk
      exact gI hk x0 ag_wt_k hws hp (by rw [ag_ev_k]; rfl)
  case arraylength =>
    obtain ⟨o, r, rfl, hk⟩ := ag_pR_inv hs
    rw [Bool.and_eq_true] at hk
    obtain ⟨k1, hk⟩ := hk
    obtain ⟨q, hq, e4, e5⟩ := ag_s5 k1
    rw [e5] at hk
    refine Or.inr ⟨q, hq, e4, ?_⟩
    exact gI hk x0 ag_wt_k (tl hws) hp (by rw [ag_ev_k, ae_nI])
  case iconst n =>
    exact gI hs x0 ag_wt_k hws hp (by rw [ag_ev_k])
  case lconst n =>
    exact gL hs x0 ag_wt_k hws hp (by rw [ag_ev_k, Int64.ofInt_toInt])
  case ldc2_w n =>
    exact gL hs x0 ag_wt_k hws hp (by rw [ag_ev_k, Int64.ofInt_toInt])
  case iload_n k =>
    obtain ⟨f, e, hk⟩ := ag_li_inv hs
    show am_li lvc k.val _
    unfold am_li
    rw [ag_lk_of hlr e]
    exact gI hk x0 (hwl _ (ag_lv_mem e)) hws hp rfl
  case iload k =>
    obtain ⟨f, e, hk⟩ := ag_li_inv hs
    show am_li lvc k _
    unfold am_li
    rw [ag_lk_of hlr e]
    exact gI hk x0 (hwl _ (ag_lv_mem e)) hws hp rfl
  case lload_n k =>
    obtain ⟨f, e, hk⟩ := ag_ll_inv hs
    show am_ll lvc k.val _
    unfold am_ll
    rw [ag_lk_of hlr e]
    exact gL hk x0 (hwl _ (ag_lv_mem e)) hws hp rfl
  case lload k =>
    obtain ⟨f, e, hk⟩ := ag_ll_inv hs
    show am_ll lvc k _
    unfold am_ll
    rw [ag_lk_of hlr e]
    exact gL hk x0 (hwl _ (ag_lv_mem e)) hws hp rfl
  case aload_n k =>
    obtain ⟨f, e, hk⟩ := ag_la_inv hs
    show am_la lvc k.val _
    unfold am_la
    rw [ag_lk_of hlr e]
    exact g1 hk x0 trivial hws hp rfl
  case aload k =>
    obtain ⟨f, e, hk⟩ := ag_la_inv hs
    show am_la lvc k _
    unfold am_la
    rw [ag_lk_of hlr e]
    exact g1 hk x0 trivial hws hp rfl
  case istore_n k =>
    obtain ⟨f, r, rfl, hk⟩ := ag_pI_inv hs
    rw [Bool.and_eq_true] at hk
    exact ⟨ae_blt hk.1, gl hk.2 x0 (ag_wl_s1 hwl (hd hws)) (ag_lR_s1 hlr _ _) (tl hws) hp⟩
  case istore k =>
    obtain ⟨f, r, rfl, hk⟩ := ag_pI_inv hs
    rw [Bool.and_eq_true] at hk
    exact ⟨ae_blt hk.1, gl hk.2 x0 (ag_wl_s1 hwl (hd hws)) (ag_lR_s1 hlr _ _) (tl hws) hp⟩
  case astore_n k =>
    obtain ⟨f, r, rfl, hk⟩ := ag_pR_inv hs
    rw [Bool.and_eq_true] at hk
    exact ⟨ae_blt hk.1, gl hk.2 x0 (ag_wl_s1 hwl (hd hws)) (ag_lR_s1 hlr _ _) (tl hws) hp⟩
  case astore k =>
    obtain ⟨f, r, rfl, hk⟩ := ag_pR_inv hs
    rw [Bool.and_eq_true] at hk
    exact ⟨ae_blt hk.1, gl hk.2 x0 (ag_wl_s1 hwl (hd hws)) (ag_lR_s1 hlr _ _) (tl hws) hp⟩
  case lstore_n k =>
    obtain ⟨f, r, rfl, hk⟩ := ag_pL_inv hs
    rw [Bool.and_eq_true] at hk
    exact ⟨ae_blt hk.1, gl hk.2 x0 (ag_wl_s2 hwl (hd hws)) (ag_lR_s2 hlr _ _) (tl hws) hp⟩
  case lstore k =>
    obtain ⟨f, r, rfl, hk⟩ := ag_pL_inv hs
    rw [Bool.and_eq_true] at hk
    exact ⟨ae_blt hk.1, gl hk.2 x0 (ag_wl_s2 hwl (hd hws)) (ag_lR_s2 hlr _ _) (tl hws) hp⟩
  case iinc k n =>
    obtain ⟨f, e, hk⟩ := ag_li_inv hs
    rw [Bool.and_eq_true] at hk
    show am_li lvc k _
    unfold am_li
    rw [ag_lk_of hlr e]
    have q := gl hk.2 x0 (ag_wl_s1 hwl (show ag_wv env.length (.inl (ag_add f (ag_k n))) from ag_wt_add (hwl _ (ag_lv_mem e)) ag_wt_k)) (ag_lR_s1 hlr _ _) hws hp
    have e2 : ag_c ρ (.inl (ag_add f (ag_k n))) = .int (Int32.ofInt (ag_ev ρ f) + Int32.ofInt n) := by
      show Value.int (Int32.ofInt (ag_ev ρ (ag_add f (ag_k n)))) = _
      rw [ag_ev_add, ag_ev_k, Int32.ofInt_add]
    rw [e2] at q
    exact ⟨ae_blt hk.1, q⟩
  case iadd =>
    obtain ⟨y, r1, rfl, hk1⟩ := ag_pI_inv hs
    obtain ⟨x, r, rfl, hk⟩ := ag_pI_inv hk1
    exact gI hk x0 (ag_wt_add (hd (tl hws)) (hd hws)) (tl (tl hws)) hp (by rw [ag_ev_add, Int32.ofInt_add])
  case isub =>
    obtain ⟨y, r1, rfl, hk1⟩ := ag_pI_inv hs
    obtain ⟨x, r, rfl, hk⟩ := ag_pI_inv hk1
    exact gI hk x0 (ag_wt_sub (hd (tl hws)) (hd hws)) (tl (tl hws)) hp (by rw [ag_ev_sub, Int32.ofInt_sub])
  case ladd =>
    obtain ⟨y, r1, rfl, hk1⟩ := ag_pL_inv hs
    obtain ⟨x, r, rfl, hk⟩ := ag_pL_inv hk1
    exact gL hk x0 (ag_wt_add (hd (tl hws)) (hd hws)) (tl (tl hws)) hp (by rw [ag_ev_add, Int64.ofInt_add])
  case lsub =>
    obtain ⟨y, r1, rfl, hk1⟩ := ag_pL_inv hs
    obtain ⟨x, r, rfl, hk⟩ := ag_pL_inv hk1
    exact gL hk x0 (ag_wt_sub (hd (tl hws)) (hd hws)) (tl (tl hws)) hp (by rw [ag_ev_sub, Int64.ofInt_sub])
  case imul =>
    obtain ⟨y, r1, rfl, hk1⟩ := ag_pI_inv hs
    obtain ⟨x, r, rfl, hk⟩ := ag_pI_inv hk1
    split at hk
    · rename_i z hz
      have ez : ag_ev ρ x = z := by
        unfold ag_cst at hz
        split at hz
        · rename_i hn
          cases hz
          unfold ag_ev
          rw [hn]
          exact Int.zero_add _
        · cases hz
      exact gI hk x0 (ag_wt_scl (hd hws)) (tl (tl hws)) hp (by rw [ag_ev_scl, Int32.ofInt_mul, ez])
    · split at hk
      · rename_i z hz
        have ez : ag_ev ρ y = z := by
          unfold ag_cst at hz
          split at hz
          · rename_i hn
            cases hz
            unfold ag_ev
            rw [hn]
            exact Int.zero_add _
          · cases hz
        exact gI hk x0 (ag_wt_scl (hd (tl hws))) (tl (tl hws)) hp (by rw [ag_ev_scl, Int.mul_comm, Int32.ofInt_mul, ez])
      · obtain ⟨ρ', e', f, xx, wf, ef, hk⟩ := ag_nI_ok hin (Int32.ofInt (ag_ev ρ x) * Int32.ofInt (ag_ev ρ y)) hk
        exact gI hk xx wf (tl (tl hws)) (pu xx) (by rw [ef, Int32.ofInt_toInt])
  case lmul =>
    obtain ⟨y, r1, rfl, hk1⟩ := ag_pL_inv hs
    obtain ⟨x, r, rfl, hk⟩ := ag_pL_inv hk1
    split at hk
    · rename_i z hz
      have ez : ag_ev ρ x = z := by
        unfold ag_cst at hz
        split at hz
        · rename_i hn
          cases hz
          unfold ag_ev
          rw [hn]
          exact Int.zero_add _
        · cases hz
      exact gL hk x0 (ag_wt_scl (hd hws)) (tl (tl hws)) hp (by rw [ag_ev_scl, Int64.ofInt_mul, ez])
    · split at hk
      · rename_i z hz
        have ez : ag_ev ρ y = z := by
          unfold ag_cst at hz
          split at hz
          · rename_i hn
            cases hz
            unfold ag_ev
            rw [hn]
            exact Int.zero_add _
          · cases hz
        exact gL hk x0 (ag_wt_scl (hd (tl hws))) (tl (tl hws)) hp (by rw [ag_ev_scl, Int.mul_comm, Int64.ofInt_mul, ez])
      · obtain ⟨ρ', e', f, xx, wf, ef, hk⟩ := ag_nL_ok hin (Int64.ofInt (ag_ev ρ x) * Int64.ofInt (ag_ev ρ y)) hk
        exact gL hk xx wf (tl (tl hws)) (pu xx) (by rw [ef, Int64.ofInt_toInt])
  case ineg =>
    obtain ⟨x, r, rfl, hk⟩ := ag_pI_inv hs
    exact gI hk x0 (ag_wt_scl (hd hws)) (tl hws) hp (by rw [ag_ev_scl, Int.neg_one_mul, Int32.ofInt_neg])
  case iand =>
    have hk0 : ag_b2 env st ag_andG (fun x y => x &&& y) (fun env z r => K env nx lv (.inl z :: r) H) = true := hs
    obtain ⟨y, x, r, rfl, ρ', e', z, xx, wz, ez, hk⟩ := ag_b2_ok hin hws ag_andG_ok hk0
    exact gI hk xx wz (tl (tl hws)) (pu xx) ez
  case ior =>
    have hk0 : ag_b2 env st ag_noG (fun x y => x ||| y) (fun env z r => K env nx lv (.inl z :: r) H) = true := hs
    obtain ⟨y, x, r, rfl, ρ', e', z, xx, wz, ez, hk⟩ := ag_b2_ok hin hws (ag_noG_ok _) hk0
    exact gI hk xx wz (tl (tl hws)) (pu xx) ez
  case ixor =>
    have hk0 : ag_b2 env st ag_noG (fun x y => x ^^^ y) (fun env z r => K env nx lv (.inl z :: r) H) = true := hs
    obtain ⟨y, x, r, rfl, ρ', e', z, xx, wz, ez, hk⟩ := ag_b2_ok hin hws (ag_noG_ok _) hk0
    exact gI hk xx wz (tl (tl hws)) (pu xx) ez
  case ishl =>
    have hk0 : ag_b2 env st ag_shlG (fun x y => x <<< (y &&& 31)) (fun env z r => K env nx lv (.inl z :: r) H) = true := hs
    obtain ⟨y, x, r, rfl, ρ', e', z, xx, wz, ez, hk⟩ := ag_b2_ok hin hws ag_shlG_ok hk0
    exact gI hk xx wz (tl (tl hws)) (pu xx) ez
  case ishr =>
    have hk0 : ag_b2 env st ag_noG (fun x y => x >>> (y &&& 31)) (fun env z r => K env nx lv (.inl z :: r) H) = true := hs
    obtain ⟨y, x, r, rfl, ρ', e', z, xx, wz, ez, hk⟩ := ag_b2_ok hin hws (ag_noG_ok _) hk0
    exact gI hk xx wz (tl (tl hws)) (pu xx) ez
  case iushr =>
    have hk0 : ag_b2 env st ag_noG (fun x y => (x.toUInt32 >>> (y.toUInt32 &&& Int32.toUInt32 31)).toInt32) (fun env z r => K env nx lv (.inl z :: r) H) = true := hs
    obtain ⟨y, x, r, rfl, ρ', e', z, xx, wz, ez, hk⟩ := ag_b2_ok hin hws (ag_noG_ok _) hk0
    exact gI hk xx wz (tl (tl hws)) (pu xx) ez
  case idiv =>
    obtain ⟨y, r1, rfl, hk1⟩ := ag_pI_inv hs
    obtain ⟨x, r, rfl, hk⟩ := ag_pI_inv hk1
    obtain ⟨ρ1, e1, y1, cc, dd, xf, aa, bb, q1, ⟨wy, ty, ly, uy⟩, ⟨wx, tx, lx, ux⟩, hk⟩ := ag_mII_ok hin (hd (tl hws)) (hd hws) hk
    rw [Bool.and_eq_true, decide_eq_true_eq] at hk
    have hy : 0 < (Int32.ofInt (ag_ev ρ y)).toInt := by omega
    obtain ⟨ρ2, e2, z, q2, wz, ez, hk⟩ := ag_opt_ok q1.2.2 (v := Int32.ofInt (ag_ev ρ x) / Int32.ofInt (ag_ev ρ y)) (fun z hz => by rw [ag_divI hy]; exact ag_div_in (by omega) (by omega) (by omega) (by omega) hz) hk.2
    exact ⟨fun z => by rw [z] at hy; exact absurd hy (by decide), gI hk (q1.trans q2) wz (tl (tl hws)) (pu (q1.trans q2)) (by rw [ez, Int32.ofInt_toInt])⟩
  case irem =>
    obtain ⟨y, r1, rfl, hk1⟩ := ag_pI_inv hs
    obtain ⟨x, r, rfl, hk⟩ := ag_pI_inv hk1
    obtain ⟨ρ1, e1, y1, cc, dd, xf, aa, bb, q1, ⟨wy, ty, ly, uy⟩, ⟨wx, tx, lx, ux⟩, hk⟩ := ag_mII_ok hin (hd (tl hws)) (hd hws) hk
    rw [Bool.and_eq_true, decide_eq_true_eq] at hk
    have hy : 0 < (Int32.ofInt (ag_ev ρ y)).toInt := by omega
    obtain ⟨ρ2, e2, z, q2, wz, ez, hk⟩ := ag_opt_ok q1.2.2 (v := Int32.ofInt (ag_ev ρ x) - Int32.ofInt (ag_ev ρ x) / Int32.ofInt (ag_ev ρ y) * Int32.ofInt (ag_ev ρ y)) (fun z hz => by rw [ag_remI hy]; exact ag_rem_in (by omega) (by omega) (by omega) (by omega) hy hz) hk.2
    exact ⟨fun z => by rw [z] at hy; exact absurd hy (by decide), gI hk (q1.trans q2) wz (tl (tl hws)) (pu (q1.trans q2)) (by rw [ez, Int32.ofInt_toInt])⟩
  case ldiv =>
    obtain ⟨y, r1, rfl, hk1⟩ := ag_pL_inv hs
    obtain ⟨x, r, rfl, hk⟩ := ag_pL_inv hk1
    obtain ⟨ρ1, e1, y1, cc, dd, xf, aa, bb, q1, ⟨wy, ty, ly, uy⟩, ⟨wx, tx, lx, ux⟩, hk⟩ := ag_mLL_ok hin (hd (tl hws)) (hd hws) hk
    rw [Bool.and_eq_true, decide_eq_true_eq] at hk
    have hy : 0 < (Int64.ofInt (ag_ev ρ y)).toInt := by omega
    obtain ⟨ρ2, e2, z, q2, wz, ez, hk⟩ := ag_optL_ok q1.2.2 (v := Int64.ofInt (ag_ev ρ x) / Int64.ofInt (ag_ev ρ y)) (fun z hz => by rw [ag_divL hy]; exact ag_div_in (by omega) (by omega) (by omega) (by omega) hz) hk.2
    exact ⟨fun z => by rw [z] at hy; exact absurd hy (by decide), gL hk (q1.trans q2) wz (tl (tl hws)) (pu (q1.trans q2)) (by rw [ez, Int64.ofInt_toInt])⟩
  case lrem =>
    obtain ⟨y, r1, rfl, hk1⟩ := ag_pL_inv hs
    obtain ⟨x, r, rfl, hk⟩ := ag_pL_inv hk1
    obtain ⟨ρ1, e1, y1, cc, dd, xf, aa, bb, q1, ⟨wy, ty, ly, uy⟩, ⟨wx, tx, lx, ux⟩, hk⟩ := ag_mLL_ok hin (hd (tl hws)) (hd hws) hk
    rw [Bool.and_eq_true, decide_eq_true_eq] at hk
    have hy : 0 < (Int64.ofInt (ag_ev ρ y)).toInt := by omega
    obtain ⟨ρ2, e2, z, q2, wz, ez, hk⟩ := ag_optL_ok q1.2.2 (v := Int64.ofInt (ag_ev ρ x) - Int64.ofInt (ag_ev ρ x) / Int64.ofInt (ag_ev ρ y) * Int64.ofInt (ag_ev ρ y)) (fun z hz => by rw [ag_remL hy]; exact ag_rem_in (by omega) (by omega) (by omega) (by omega) hy hz) hk.2
    exact ⟨fun z => by rw [z] at hy; exact absurd hy (by decide), gL hk (q1.trans q2) wz (tl (tl hws)) (pu (q1.trans q2)) (by rw [ez, Int64.ofInt_toInt])⟩
  case land =>
    obtain ⟨y, r1, rfl, hk1⟩ := ag_pL_inv hs
    obtain ⟨x, r, rfl, hk⟩ := ag_pL_inv hk1
    obtain ⟨ρ', e', f, xx, wf, ef, hk⟩ := ag_nL_ok hin (Int64.ofInt (ag_ev ρ x) &&& Int64.ofInt (ag_ev ρ y)) hk
    exact gL hk xx wf (tl (tl hws)) (pu xx) (by rw [ef, Int64.ofInt_toInt])
  case lor =>
    obtain ⟨y, r1, rfl, hk1⟩ := ag_pL_inv hs
    obtain ⟨x, r, rfl, hk⟩ := ag_pL_inv hk1
    obtain ⟨ρ', e', f, xx, wf, ef, hk⟩ := ag_nL_ok hin (Int64.ofInt (ag_ev ρ x) ||| Int64.ofInt (ag_ev ρ y)) hk
    exact gL hk xx wf (tl (tl hws)) (pu xx) (by rw [ef, Int64.ofInt_toInt])
  case lshl =>
    obtain ⟨y, r1, rfl, hk1⟩ := ag_pI_inv hs
    obtain ⟨x, r, rfl, hk⟩ := ag_pL_inv hk1
    obtain ⟨ρ', e', f, xx, wf, ef, hk⟩ := ag_nL_ok hin (Int64.ofInt (ag_ev ρ x) <<< ((Int32.ofInt (ag_ev ρ y)).toInt64 &&& 63)) hk
    exact gL hk xx wf (tl (tl hws)) (pu xx) (by rw [ef, Int64.ofInt_toInt])
  case lshr =>
    obtain ⟨y, r1, rfl, hk1⟩ := ag_pI_inv hs
    obtain ⟨x, r, rfl, hk⟩ := ag_pL_inv hk1
    obtain ⟨ρ', e', f, xx, wf, ef, hk⟩ := ag_nL_ok hin (Int64.ofInt (ag_ev ρ x) >>> ((Int32.ofInt (ag_ev ρ y)).toInt64 &&& 63)) hk
    exact gL hk xx wf (tl (tl hws)) (pu xx) (by rw [ef, Int64.ofInt_toInt])
  case lushr =>
    obtain ⟨y, r1, rfl, hk1⟩ := ag_pI_inv hs
    obtain ⟨x, r, rfl, hk⟩ := ag_pL_inv hk1
    obtain ⟨ρ', e', f, xx, wf, ef, hk⟩ := ag_nL_ok hin (((Int64.ofInt (ag_ev ρ x)).toUInt64 >>> ((Int32.ofInt (ag_ev ρ y)).toInt64.toUInt64 &&& Int64.toUInt64 63)).toInt64) hk
    exact gL hk xx wf (tl (tl hws)) (pu xx) (by rw [ef, Int64.ofInt_toInt])
  case lcmp =>
    obtain ⟨y, r1, rfl, hk1⟩ := ag_pL_inv hs
    obtain ⟨x, r, rfl, hk⟩ := ag_pL_inv hk1
    have b := ag_lcmp_in (Int64.ofInt (ag_ev ρ x)) (Int64.ofInt (ag_ev ρ y))
    obtain ⟨ρ', e', f, xx, wf, ef, hk⟩ := ag_nw_ok hin b.1 b.2 hk
    exact gI hk xx wf (tl (tl hws)) (pu xx) (by rw [ef, Int32.ofInt_toInt])
  case i2l =>
    obtain ⟨x, r, rfl, hk⟩ := ag_pI_inv hs
    obtain ⟨ρ', e', f, lo, hi, xx, wf, _, ef, _, _, hk⟩ := ag_mI_ok hin (hd hws) hk
    exact gL hk xx wf (tl hws) (pu xx) (by rw [← ef, Int64.ofInt_int32ToInt])
  case l2i =>
    obtain ⟨x, r, rfl, hk⟩ := ag_pL_inv hs
    exact gI hk x0 (hd hws) (tl hws) hp Int64.toInt32_ofInt.symm
  case i2c =>
    obtain ⟨x, r, rfl, hk⟩ := ag_pI_inv hs
    obtain ⟨ρ', e', f, lo, hi, xx, wf, ef0, ef, l1, u1, hk⟩ := ag_mI_ok hin (hd hws) hk
    cases hb : (decide (0 ≤ lo) && decide (hi ≤ 65535)) with
    | true =>
      rw [hb] at hk
      simp only [Bool.and_eq_true, decide_eq_true_eq] at hb
      exact gI hk xx wf (tl hws) (pu xx) (by rw [ag_i2c_id (by omega) (by omega), ef0])
    | false =>
      rw [hb] at hk
      dsimp only [cond] at hk
      have b := ag_i2c_in (Int32.ofInt (ag_ev ρ x))
      obtain ⟨ρ2, e2, f2, x2, wf2, ef2, hk⟩ := ag_nw_ok xx.2.2 b.1 b.2 hk
      exact gI hk (xx.trans x2) wf2 (tl hws) (pu (xx.trans x2)) (by rw [ef2, Int32.ofInt_toInt])
  case i2b =>
    obtain ⟨x, r, rfl, hk⟩ := ag_pI_inv hs
    obtain ⟨ρ', e', f, lo, hi, xx, wf, ef0, ef, l1, u1, hk⟩ := ag_mI_ok hin (hd hws) hk
    cases hb : (decide (-128 ≤ lo) && decide (hi ≤ 127)) with
    | true =>
      rw [hb] at hk
      simp only [Bool.and_eq_true, decide_eq_true_eq] at hb
      exact gI hk xx wf (tl hws) (pu xx) (by rw [ag_i2b_id (by omega) (by omega), ef0])
    | false =>
      rw [hb] at hk
      dsimp only [cond] at hk
      have b := ag_i2b_in (Int32.ofInt (ag_ev ρ x))
      obtain ⟨ρ2, e2, f2, x2, wf2, ef2, hk⟩ := ag_nw_ok xx.2.2 b.1 b.2 hk
      exact gI hk (xx.trans x2) wf2 (tl hws) (pu (xx.trans x2)) (by rw [ef2, Int32.ofInt_toInt])
  case dup =>
    obtain ⟨v, r, rfl, hk⟩ := ag_pV_inv hs
    rw [Bool.and_eq_true] at hk
    exact ⟨by rw [ag_cat_c]; exact Nat.eq_of_beq_eq_true hk.1, g0 hk.2 x0 (ag_ws_cons hws (hd hws)) hp⟩
  case dup2 =>
    obtain ⟨v, r1, rfl, hk1⟩ := ag_pV_inv hs
    obtain ⟨w, r, rfl, hk⟩ := ag_pV_inv hk1
    rw [Bool.and_eq_true, Bool.and_eq_true] at hk
    exact ⟨by rw [ag_cat_c]; exact Nat.eq_of_beq_eq_true hk.1, by rw [ag_cat_c]; exact Nat.eq_of_beq_eq_true hk.2.1, g0 hk.2.2 x0 (ag_ws_cons (ag_ws_cons hws (hd (tl hws))) (hd hws)) hp⟩
  case pop =>
    obtain ⟨v, r, rfl, hk⟩ := ag_pV_inv hs
    rw [Bool.and_eq_true] at hk
    exact ⟨by rw [ag_cat_c]; exact Nat.eq_of_beq_eq_true hk.1, g0 hk.2 x0 (tl hws) hp⟩
  case goto n =>
    exact g0 hs x0 hws hp
  case if_icmp q n =>
    obtain ⟨y, r1, rfl, hk1⟩ := ag_pI_inv hs
    obtain ⟨x, r, rfl, hk⟩ := ag_pI_inv hk1
    obtain ⟨ρ1, e1, y1, cc, dd, xf, aa, bb, q1, ⟨wy, ty, ly, uy⟩, ⟨wx, tx, lx, ux⟩, hk⟩ := ag_mII_ok hin (hd (tl hws)) (hd hws) hk
    obtain ⟨e2, t, i2, l2, ht, hk⟩ := ag_cmp_ok q1.2.2 hk
    have xx := q1.trans (ag_xt.cut i2 l2)
    have hc : am_c q (Int32.ofInt (ag_ev ρ x)) (Int32.ofInt (ag_ev ρ y)) ↔ t = true := by
      rw [ae_ti_c, tx, ty]
      exact ht
    cases t with
    | true => exact ⟨fun _ => g0 hk xx (tl (tl hws)) (pu xx), fun z => absurd (hc.mpr rfl) z⟩
    | false => exact ⟨fun z => Bool.noConfusion (hc.mp z), fun _ => g0 hk xx (tl (tl hws)) (pu xx)⟩
  case ifCond q n =>
    obtain ⟨x, r, rfl, hk⟩ := ag_pI_inv hs
    obtain ⟨ρ1, e1, xf, lo, hi, q1, wx, _, tx, lx, ux, hk⟩ := ag_mI_ok hin (hd hws) hk
    have t0 : (0 : Int32).toInt = ag_ev ρ1 (ag_k 0) := by rw [ag_ev_k]; rfl
    obtain ⟨e2, t, i2, l2, ht, hk⟩ := ag_cmp_ok q1.2.2 hk
    have xx := q1.trans (ag_xt.cut i2 l2)
    have hc : am_c q (Int32.ofInt (ag_ev ρ x)) 0 ↔ t = true := by
      rw [ae_ti_c, tx, t0]
      exact ht
    cases t with
    | true => exact ⟨fun _ => g0 hk xx (tl hws) (pu xx), fun z => absurd (hc.mpr rfl) z⟩
    | false => exact ⟨fun z => Bool.noConfusion (hc.mp z), fun _ => g0 hk xx (tl hws) (pu xx)⟩
  case tableswitch df lo hi os =>
    obtain ⟨x, r, rfl, hk⟩ := ag_pI_inv hs
    obtain ⟨ρ1, e1, xf, _, _, q1, wx, _, tx, lx, ux, hk⟩ := ag_mI_ok hin (hd hws) hk
    rw [Bool.and_eq_true, Bool.and_eq_true] at hk
    obtain ⟨k1, k2, k3⟩ := hk
    refine ⟨fun z => ?_, fun j hj hj2 => ?_⟩
    · rw [tx] at z
      rcases z with z | z
      · obtain ⟨e2, i2, l2, hk⟩ := ag_ge_ok q1.2.2 (g := ag_sub (ag_k (lo - 1)) xf) (by rw [ag_ev_sub, ag_ev_k]; omega) k1
        exact g0 hk (q1.trans (ag_xt.cut i2 l2)) (tl hws) (pu (q1.trans (ag_xt.cut i2 l2)))
      · obtain ⟨e2, i2, l2, hk⟩ := ag_ge_ok q1.2.2 (g := ag_sub xf (ag_k (hi + 1))) (by rw [ag_ev_sub, ag_ev_k]; omega) k2
        exact g0 hk (q1.trans (ag_xt.cut i2 l2)) (tl hws) (pu (q1.trans (ag_xt.cut i2 l2)))
    · rw [tx] at hj
      have k4 := List.all_eq_true.mp k3 j (List.mem_range.mpr (by omega))
      obtain ⟨e2, i2, l2, hk⟩ := ag_eq_ok q1.2.2 (by rw [ag_ev_sub, ag_ev_k]; omega) k4
      exact g0 hk (q1.trans (ag_xt.cut i2 l2)) (tl hws) (pu (q1.trans (ag_xt.cut i2 l2)))
  case lookupswitch df ps =>
    obtain ⟨x, r, rfl, hk⟩ := ag_pI_inv hs
    obtain ⟨ρ1, e1, xf, _, _, q1, wx, _, tx, lx, ux, hk⟩ := ag_mI_ok hin (hd hws) hk
    rw [Bool.and_eq_true] at hk
    show S ((pc : Int) + Op.lookupswitch.offset ps.toList df (Int32.ofInt (ag_ev ρ x)).toInt).toNat _ _ _
    rcases ag_sw_off ps.toList df (Int32.ofInt (ag_ev ρ x)).toInt with e | ⟨q, hq, e⟩
    · rw [e]
      exact g0 hk.1 q1 (tl hws) (pu q1)
    · rw [e]
      exact g0 (List.all_eq_true.mp hk.2 q hq) q1 (tl hws) (pu q1)
  case getfield n =>
    have hk0 := hs
    clear hs
    unfold ag_step at hk0
    dsimp only at hk0
    cases hb20 : Nat.beq b 20 with
    | true =>
      rw [hb20] at hk0
      show (bif Nat.beq b 20 then am_pR _ _ else _)
      rw [hb20]
      obtain ⟨o, r, rfl, hk⟩ := ag_pR_inv hk0
      rw [Bool.and_eq_true] at hk
      obtain ⟨k1, hk⟩ := hk
      obtain ⟨q, hq, e4, e5⟩ := ag_s4 k1
      rw [e5] at hk
      refine ⟨q, hq, e4, ?_⟩
      cases ha : Nat.beq a 0 with
      | true =>
        rw [ha] at hk
        exact g1 hk x0 trivial (tl hws) hp rfl
      | false =>
        rw [ha] at hk
        exact gI hk x0 ag_wt_k (tl hws) hp (by rw [ag_ev_k]; rfl)
    | false =>
    rw [hb20] at hk0
    show (bif Nat.beq b 20 then _ else am_pR _ _)
    rw [hb20]
    obtain ⟨ob, r, rfl, hk⟩ := ag_pR_inv hk0
    rw [Bool.and_eq_true] at hk
    obtain ⟨k1, hk⟩ := hk
    have hsh := (ag_so_ok hD hcnt (ag_ob_inv k1)).2
    refine ⟨hsh, ?_⟩
    unfold am_gv
    rcases ag_kd3 (am_kd b a) with e | e | ⟨m, e⟩
    · rw [e] at hk
      rw [e]
      obtain ⟨ρ', e', H', f, xx, hp', wf, ef, hk⟩ := ag_rd_ok hin hp hk
      exact gI hk xx wf (tl hws) hp' ef.symm
    · rw [e] at hk
      rw [e]
      obtain ⟨ρ', e', H', f, xx, hp', wf, ef, hk⟩ := ag_rL_ok hin hp hk
      exact gL hk xx wf (tl hws) hp' ef.symm
    · rw [e] at hk
      rw [e]
      have hk : (match ag_rr D H.2.2.1 ob a with
        | some x => K env nx lv (.inr (.inr x) :: r) H
        | none => false) = true := hk
      split at hk
      · rename_i x hx
        show S nx _ (am_rf (h.2.2.1 ob a) :: _) h
        rw [ag_rr_ok hp hx]
        exact g1 hk x0 trivial (tl hws) hp rfl
      · cases hk
  case putfield n =>
    have hk := hs
    show (match am_kd b a with
      | 0 => _
      | 1 => _
      | _ => _)
    rcases ag_kd3 (am_kd b a) with e | e | ⟨m, e⟩
    · unfold ag_step at hk
      dsimp only at hk
      rw [e] at hk
      rw [e]
      obtain ⟨x, r1, rfl, hk1⟩ := ag_pI_inv hk
      obtain ⟨ob, r, rfl, hk2⟩ := ag_pR_inv hk1
      obtain ⟨ρ1, e1, xf, lo, hi, q1, wx, ex, tx, lx, ux, hk3⟩ := ag_mI_ok hin (hd hws) hk2
      rw [Bool.and_eq_true, Bool.and_eq_true] at hk3
      obtain ⟨k1, k2, k3⟩ := hk3
      have hsh := (ag_so_ok hD hcnt (ag_ob_inv k1)).2
      have ty := ag_ty_ok (x := Int32.ofInt (ag_ev ρ x)) k2 (by omega) (by omega)
      obtain ⟨H', hp', hk⟩ := ag_wI_ok hM (pu q1) (ag_ev_k _) (Int.le_refl _) (Int.le_refl _) wx ex tx lx ux k3
      exact ⟨hsh, ty.1, ty.2, g0 hk q1 (tl (tl hws)) hp'⟩
    · unfold ag_step at hk
      dsimp only at hk
      rw [e] at hk
      rw [e]
      obtain ⟨x, r1, rfl, hk1⟩ := ag_pL_inv hk
      obtain ⟨ob, r, rfl, hk2⟩ := ag_pR_inv hk1
      obtain ⟨ρ1, e1, xf, lo, hi, q1, wx, ex, tx, lx, ux, hk3⟩ := ag_mL_ok hin (hd hws) hk2
      rw [Bool.and_eq_true] at hk3
      have hsh := (ag_so_ok hD hcnt (ag_ob_inv hk3.1)).2
      obtain ⟨H', hp', hk⟩ := ag_wL_ok hDL (pu q1) (Int.le_refl _) (Int.le_refl _) wx ex tx lx ux hk3.2
      exact ⟨hsh, g0 hk q1 (tl (tl hws)) hp'⟩
    · unfold ag_step at hk
      dsimp only at hk
      rw [e] at hk
      rw [e]
      obtain ⟨x, r1, rfl, hk1⟩ := ag_pR_inv hk
      obtain ⟨ob, r, rfl, hk2⟩ := ag_pR_inv hk1
      rw [Bool.and_eq_true, Bool.and_eq_true, Bool.and_eq_true] at hk2
      have hsh := (ag_so_ok hD hcnt (ag_ob_inv hk2.1)).2
      exact ⟨hsh, g0 hk2.2.2.2 x0 (tl (tl hws)) (ag_wR_ok hp hk2.2.1 hk2.2.2.1)⟩
  case iaload =>
    obtain ⟨j, r1, rfl, hk1⟩ := ag_pI_inv hs
    obtain ⟨ob, r, rfl, hk2⟩ := ag_pR_inv hk1
    obtain ⟨ρ1, e1, jf, lo, hi, q1, wj, ej, tj, lj, uj, hk3⟩ := ag_mI_ok hin (hd hws) hk2
    rw [Bool.and_eq_true] at hk3
    obtain ⟨n, en, a1, a2⟩ := ag_ar_inv hk3.1
    have hsh := (ag_so_ok hD hcnt en).2
    obtain ⟨jn, hjn, ejn, tjn⟩ := ag_nIx (x := Int32.ofInt (ag_ev ρ j)) (by omega)
    obtain ⟨ρ2, e2, H', f, x2, hp', wf, ef, hk⟩ := ag_rS_ok (n := jn) q1.2.2 (pu q1) wj (by omega) (by omega) (by omega) hk3.2
    exact ⟨jn, n, hsh, by omega, ejn, gI hk (q1.trans x2) wf (tl (tl hws)) hp' ef.symm⟩
  case caload =>
    obtain ⟨j, r1, rfl, hk1⟩ := ag_pI_inv hs
    obtain ⟨ob, r, rfl, hk2⟩ := ag_pR_inv hk1
    obtain ⟨ρ1, e1, jf, lo, hi, q1, wj, ej, tj, lj, uj, hk3⟩ := ag_mI_ok hin (hd hws) hk2
    rw [Bool.and_eq_true] at hk3
    obtain ⟨n, en, a1, a2⟩ := ag_ar_inv hk3.1
    have hsh := (ag_so_ok hD hcnt en).2
    obtain ⟨jn, hjn, ejn, tjn⟩ := ag_nIx (x := Int32.ofInt (ag_ev ρ j)) (by omega)
    obtain ⟨ρ2, e2, H', f, x2, hp', wf, ef, hk⟩ := ag_rA_ok (n := jn) q1.2.2 (pu q1) (by omega) (by omega) (by omega) hk3.2
    exact ⟨jn, n, hsh, by omega, ejn, gI hk (q1.trans x2) wf (tl (tl hws)) hp' ef.symm⟩
  case baload =>
    obtain ⟨j, r1, rfl, hk1⟩ := ag_pI_inv hs
    obtain ⟨ob, r, rfl, hk2⟩ := ag_pR_inv hk1
    obtain ⟨ρ1, e1, jf, lo, hi, q1, wj, ej, tj, lj, uj, hk3⟩ := ag_mI_ok hin (hd hws) hk2
    cases hb5 : (Nat.ble 5000000 ob && Nat.blt ob 5000026) with
    | true =>
      rw [hb5] at hk3
      have hk3 : (decide (0 ≤ lo) && (decide (hi < (am_sln.getD (ob - 5000000) 0 : Nat)) && (bif decide (lo = hi) then K e1 nx lv (.inl (ag_k ((am_sby.getD (ob - 5000000) []).getD lo.toNat 0).toInt) :: r) H else ag_nw e1 0 127 (fun env z => K env nx lv (.inl z :: r) H)))) = true := hk3
      rw [Bool.and_eq_true, Bool.and_eq_true, decide_eq_true_eq, decide_eq_true_eq] at hk3
      obtain ⟨a1, a2, hk⟩ := hk3
      obtain ⟨q, hq26, e4, e5⟩ := ag_s5 hb5
      rw [e5] at a2 hk
      obtain ⟨jn, hjn, ejn, tjn⟩ := ag_nIx (x := Int32.ofInt (ag_ev ρ j)) (by omega)
      refine Or.inr ⟨q, jn, hq26, e4, by omega, ejn, ?_⟩
      cases hq : decide (lo = hi) with
      | true =>
        rw [hq] at hk
        have hq := of_decide_eq_true hq
        have en : lo.toNat = jn := by omega
        rw [en] at hk
        exact gI hk q1 ag_wt_k (tl (tl hws)) (pu q1) (by rw [ag_ev_k, Int32.ofInt_toInt])
      | false =>
        rw [hq] at hk
        dsimp only [cond] at hk
        have b := ag_sby_in q jn
        obtain ⟨ρ2, e2, f2, x2, wf2, ef2, hk⟩ := ag_nw_ok q1.2.2 b.1 b.2 hk
        exact gI hk (q1.trans x2) wf2 (tl (tl hws)) (pu (q1.trans x2)) (by rw [ef2, Int32.ofInt_toInt])
    | false =>
    rw [hb5] at hk3
    have hk3 : (ag_ar (ag_so D ob) 15 lo hi && ag_rA D e1 H ob jf lo hi fun env H f => K env nx lv (.inl f :: r) H) = true := hk3
    rw [Bool.and_eq_true] at hk3
    obtain ⟨n, en, a1, a2⟩ := ag_ar_inv hk3.1
    have hsh := (ag_so_ok hD hcnt en).2
    obtain ⟨jn, hjn, ejn, tjn⟩ := ag_nIx (x := Int32.ofInt (ag_ev ρ j)) (by omega)
    obtain ⟨ρ2, e2, H', f, x2, hp', wf, ef, hk⟩ := ag_rA_ok (n := jn) q1.2.2 (pu q1) (by omega) (by omega) (by omega) hk3.2
    exact Or.inl ⟨jn, n, hsh, by omega, ejn, gI hk (q1.trans x2) wf (tl (tl hws)) hp' ef.symm⟩
  case laload =>
    obtain ⟨j, r1, rfl, hk1⟩ := ag_pI_inv hs
    obtain ⟨ob, r, rfl, hk2⟩ := ag_pR_inv hk1
    obtain ⟨ρ1, e1, jf, lo, hi, q1, wj, ej, tj, lj, uj, hk3⟩ := ag_mI_ok hin (hd hws) hk2
    rw [Bool.and_eq_true] at hk3
    obtain ⟨n, en, a1, a2⟩ := ag_ar_inv hk3.1
    have hsh := (ag_so_ok hD hcnt en).2
    obtain ⟨jn, hjn, ejn, tjn⟩ := ag_nIx (x := Int32.ofInt (ag_ev ρ j)) (by omega)
    obtain ⟨ρ2, e2, f, x2, wf, ef, hk⟩ := ag_nL_ok q1.2.2 (h.2.1 ob jn) hk3.2
    exact ⟨jn, n, hsh, by omega, ejn, gL hk (q1.trans x2) wf (tl (tl hws)) (pu (q1.trans x2)) (by rw [ef, Int64.ofInt_toInt])⟩
  case aaload =>
    obtain ⟨j, r1, rfl, hk1⟩ := ag_pI_inv hs
    obtain ⟨ob, r, rfl, hk2⟩ := ag_pR_inv hk1
    obtain ⟨ρ1, e1, jf, lo, hi, q1, wj, ej, tj, lj, uj, hk3⟩ := ag_mI_ok hin (hd hws) hk2
    rw [Bool.and_eq_true] at hk3
    have key : ∃ n : Nat, (am_sh h ob = some (16, n) ∨ am_sh h ob = some (17, n)) ∧ 0 ≤ lo ∧ hi < (n : Int) := by
      rcases Bool.or_eq_true_iff.mp hk3.1 with z | z
      · obtain ⟨n, en, a1, a2⟩ := ag_ar_inv z
        exact ⟨n, Or.inl (ag_so_ok hD hcnt en).2, a1, a2⟩
      · obtain ⟨n, en, a1, a2⟩ := ag_ar_inv z
        exact ⟨n, Or.inr (ag_so_ok hD hcnt en).2, a1, a2⟩
    obtain ⟨n, hsh, a1, a2⟩ := key
    obtain ⟨jn, hjn, ejn, tjn⟩ := ag_nIx (x := Int32.ofInt (ag_ev ρ j)) (by omega)
    have k4 := List.all_eq_true.mp hk3.2 ((jn : Int) - lo).toNat (List.mem_range.mpr (by omega))
    obtain ⟨e2, i2, l2, hk⟩ := ag_eq_ok q1.2.2 (by rw [ag_ev_sub, ag_ev_k]; omega) k4
    have xx := q1.trans (ag_xt.cut i2 l2)
    split at hk
    · rename_i x hx
      have ei : (lo + (((jn : Int) - lo).toNat : Int)).toNat = jn := by omega
      rw [ei] at hx
      refine ⟨jn, n, hsh, by omega, ejn, ?_⟩
      rw [ag_rr_ok hp hx]
      exact g1 hk xx trivial (tl (tl hws)) (pu xx) rfl
    · cases hk
  case iastore =>
    obtain ⟨x, r2, rfl, hk1⟩ := ag_pI_inv hs
    obtain ⟨j, r1, rfl, hk2⟩ := ag_pI_inv hk1
    obtain ⟨ob, r, rfl, hk3⟩ := ag_pR_inv hk2
    obtain ⟨ρ1, e1, xf, u, w, jf, lo, hi, q1, ⟨wx, tx, lx, ux⟩, ⟨wj, tj, lj, uj⟩, hk4⟩ := ag_mII_ok hin (hd (tl hws)) (hd hws) hk3
    rw [Bool.and_eq_true] at hk4
    obtain ⟨n, en, a1, a2⟩ := ag_ar_inv hk4.1
    have hsh := (ag_so_ok hD hcnt en).1
    obtain ⟨jn, hjn, ejn, tjn⟩ := ag_nIx (x := Int32.ofInt (ag_ev ρ j)) (by omega)
    have ex : Int32.ofInt (ag_ev ρ x) = Int32.ofInt (ag_ev ρ1 xf) := by rw [← tx, Int32.ofInt_toInt]
    obtain ⟨H', hp', hk⟩ := ag_wI_ok hM (pu q1) (n := jn) (by omega) (by omega) (by omega) wx ex tx lx ux hk4.2
    exact ⟨jn, n, hsh, by omega, ejn, g0 hk q1 (tl (tl (tl hws))) hp'⟩
  case castore =>
    obtain ⟨x, r2, rfl, hk1⟩ := ag_pI_inv hs
    obtain ⟨j, r1, rfl, hk2⟩ := ag_pI_inv hk1
    obtain ⟨ob, r, rfl, hk3⟩ := ag_pR_inv hk2
    obtain ⟨ρ1, e1, xf, u, w, jf, lo, hi, q1, ⟨wx, tx, lx, ux⟩, ⟨wj, tj, lj, uj⟩, hk4⟩ := ag_mII_ok hin (hd (tl hws)) (hd hws) hk3
    rw [Bool.and_eq_true] at hk4
    obtain ⟨n, en, a1, a2⟩ := ag_ar_inv hk4.1
    have hsh := (ag_so_ok hD hcnt en).1
    obtain ⟨jn, hjn, ejn, tjn⟩ := ag_nIx (x := Int32.ofInt (ag_ev ρ j)) (by omega)
    have ex : Int32.ofInt (ag_ev ρ x) = Int32.ofInt (ag_ev ρ1 xf) := by rw [← tx, Int32.ofInt_toInt]
    have hk5 := hk4.2
    rw [Bool.and_eq_true] at hk5
    have ty := (ag_ty_ok (x := Int32.ofInt (ag_ev ρ x)) hk5.1 (by omega) (by omega)).1
    obtain ⟨H', hp', hk⟩ := ag_wI_ok hM (pu q1) (n := jn) (by omega) (by omega) (by omega) wx ex tx lx ux hk5.2
    refine ⟨jn, n, hsh, by omega, ejn, ?_⟩
    rw [ag_vp ty]
    exact g0 hk q1 (tl (tl (tl hws))) hp'
  case bastore =>
    obtain ⟨x, r2, rfl, hk1⟩ := ag_pI_inv hs
    obtain ⟨j, r1, rfl, hk2⟩ := ag_pI_inv hk1
    obtain ⟨ob, r, rfl, hk3⟩ := ag_pR_inv hk2
    obtain ⟨ρ1, e1, xf, u, w, jf, lo, hi, q1, ⟨wx, tx, lx, ux⟩, ⟨wj, tj, lj, uj⟩, hk4⟩ := ag_mII_ok hin (hd (tl hws)) (hd hws) hk3
    rw [Bool.and_eq_true] at hk4
    obtain ⟨n, en, a1, a2⟩ := ag_ar_inv hk4.1
    have hsh := (ag_so_ok hD hcnt en).1
    obtain ⟨jn, hjn, ejn, tjn⟩ := ag_nIx (x := Int32.ofInt (ag_ev ρ j)) (by omega)
    have ex : Int32.ofInt (ag_ev ρ x) = Int32.ofInt (ag_ev ρ1 xf) := by rw [← tx, Int32.ofInt_toInt]
    have hk5 := hk4.2
    rw [Bool.and_eq_true] at hk5
    have ty := (ag_ty_ok (x := Int32.ofInt (ag_ev ρ x)) hk5.1 (by omega) (by omega)).1
    obtain ⟨H', hp', hk⟩ := ag_wI_ok hM (pu q1) (n := jn) (by omega) (by omega) (by omega) wx ex tx lx ux hk5.2
    refine ⟨jn, n, hsh, by omega, ejn, ?_⟩
    rw [ag_vp ty]
    exact g0 hk q1 (tl (tl (tl hws))) hp'
  case lastore =>
    obtain ⟨x, r2, rfl, hk1⟩ := ag_pL_inv hs
    obtain ⟨j, r1, rfl, hk2⟩ := ag_pI_inv hk1
    obtain ⟨ob, r, rfl, hk3⟩ := ag_pR_inv hk2
    obtain ⟨ρ1, e1, xf, u, w, q1, wx, ex, tx, lx, ux, hk4⟩ := ag_mL_ok hin (hd hws) hk3
    obtain ⟨ρ2, e2, jf, lo, hi, q2, wj, ej, tj, lj, uj, hk5⟩ := ag_mI_ok q1.2.2 ((hd (tl hws)).up q1.1) hk4
    have wj0 : ag_wt env.length j := hd (tl hws)
    rw [ag_ev_same q1.2.1 wj0] at tj
    rw [Bool.and_eq_true, Bool.and_eq_true] at hk5
    obtain ⟨n, en, a1, a2⟩ := ag_ar_inv hk5.1
    have hsh := (ag_so_ok hD hcnt en).1
    obtain ⟨jn, hjn, ejn, tjn⟩ := ag_nIx (x := Int32.ofInt (ag_ev ρ j)) (by omega)
    have s := ag_ev_same q2.2.1 wx
    obtain ⟨H', hp', hk⟩ := ag_wL_ok hDL (pu (q1.trans q2)) (n := jn) (x := Int64.ofInt (ag_ev ρ x)) (by omega) (by omega) (wx.up q2.1) (by rw [s]; exact ex) (by rw [s]; exact tx) (by rw [s]; exact lx) (by rw [s]; exact ux) hk5.2.2
    exact ⟨jn, n, hsh, by omega, ejn, g0 hk (q1.trans q2) (tl (tl (tl hws))) hp'⟩
  case invokevirtual n =>
    have hk := hs
    clear hs
    unfold ag_step at hk
    dsimp only at hk
    split at hk
    · rename_i As o r hpop
      rw [Bool.and_eq_true, Bool.and_eq_true, Bool.and_eq_true] at hk
      obtain ⟨k1, k2, k3, k4⟩ := hk
      have hsh : am_rc h o d := by
        cases hd20 : Nat.beq d 20 with
        | true =>
          rw [hd20] at k1
          have k1 : (Nat.ble 4000000 o && Nat.blt o 4000026) = true := k1
          obtain ⟨q, hq, e4, -⟩ := ag_s4 k1
          exact Or.inr ⟨Nat.eq_of_beq_eq_true hd20, q, hq, e4⟩
        | false =>
          rw [hd20] at k1
          exact Or.inl ⟨Nat.ne_of_beq_eq_false hd20, (ag_so_ok hD hcnt (ag_ob_inv k1)).2⟩
      have e3 := Nat.eq_of_beq_eq_true k3
      obtain ⟨w1, w2⟩ := ag_pop_w (m := env.length) b [] st As _ hpop (fun _ z => absurd z List.not_mem_nil) hws
      show (match am_pop b [] (st.map (ag_c ρ)) with
        | some (As, .ref o :: r) => _
        | _ => False)
      rw [show am_pop b [] (st.map (ag_c ρ)) = am_pop b (([] : List ag_v).map (ag_c ρ)) (st.map (ag_c ρ)) from rfl, ag_pop_c, hpop]
      exact ⟨hsh, by rw [ag_sum_c]; exact Nat.le_of_ble_eq_true k2, by rw [hcnt, e3]; exact Nat.le_refl _, hC a _ r k4 e3 (ag_ws_cons w1 (hd w2)) (tl w2)⟩
    · cases hk
  case invokestatic n =>
    have hk := hs
    clear hs
    unfold ag_step at hk
    dsimp only at hk
    split at hk
    · rename_i As r hpop
      rw [Bool.and_eq_true, Bool.and_eq_true] at hk
      obtain ⟨k2, k3, k4⟩ := hk
      have e3 := Nat.eq_of_beq_eq_true k3
      obtain ⟨w1, w2⟩ := ag_pop_w (m := env.length) b [] st As _ hpop (fun _ z => absurd z List.not_mem_nil) hws
      show (match am_pop b [] (st.map (ag_c ρ)) with
        | some (As, r) => _
        | _ => False)
      rw [show am_pop b [] (st.map (ag_c ρ)) = am_pop b (([] : List ag_v).map (ag_c ρ)) (st.map (ag_c ρ)) from rfl, ag_pop_c, hpop]
      exact ⟨by rw [ag_sum_c]; exact Nat.le_of_ble_eq_true k2, by rw [hcnt, e3]; exact Nat.le_refl _, hC a As r k4 e3 w1 w2⟩
    · cases hk
  case ireturn =>
    have hk := hs
    clear hs
    unfold ag_step at hk
    dsimp only at hk
    split at hk
    · rename_i x
      obtain ⟨ρ1, e1, xf, lo, hi, q1, wx, ex, tx, lx, ux, hk3⟩ := ag_mI_ok hin (hd hws) hk
      split at hk3
      · rename_i ty
        rw [Bool.and_eq_true] at hk3
        have t := (ag_ty_ok (x := Int32.ofInt (ag_ev ρ x)) hk3.1 (by omega) (by omega)).1
        have q := hRt e1 _ ρ1 hk3.2 q1 (fun z hz => by cases hz; exact wx)
        refine ⟨⟨ty, rfl, t⟩, ?_⟩
        rw [ex]
        exact q
      · cases hk3
    · cases hk
  case lreturn =>
    have hk := hs
    clear hs
    unfold ag_step at hk
    dsimp only at hk
    split at hk
    · rename_i x
      rw [Bool.and_eq_true, decide_eq_true_eq] at hk
      exact ⟨hk.1, hRt env _ ρ hk.2 x0 (fun z hz => by cases hz; exact hd hws)⟩
    · cases hk
  case return_ =>
    have hk := hs
    clear hs
    unfold ag_step at hk
    dsimp only at hk
    split at hk
    · split at hk
      · exact ⟨rfl, hRt env none ρ hk x0 (fun z hz => by cases hz)⟩
      · cases hk
    · cases hk
  all_goals exact Bool.noConfusion (show false = true from hs)
