/-! OPCODE 40: the law's own rests, which catches -/
variable {D : va_G} {cA : Nat → ClassId} {ad : Nat → Nat} {base b L : Nat} {xs ys : Nat → Int32} {l : Launch}
abbrev rs_y : MethodName := ⟨"MistCantonLaw", "rests", "(LMistCanton;IIII[J)I"⟩
abbrev rs_hh : List (Nat × Nat × Nat × Nat) := [(0, 14, 17, 13)]
abbrev rs_ws : List Cond := Cond.codeWith rs_y method_3_code 7 (some .int) rs_hh :: am_gw
def rs_Bs (ys : Nat → Int32) : List Value := [.ref 0, .int (ys 1), .int (ys 2), .int (ys 3), .int (ys 4), .ref 174]
def rs_st (ys : Nat → Int32) : List Value := [.int (ys 4), .int (ys 3), .int (ys 2), .int (ys 1), .ref 0, .int (Int32.ofInt 0), .ref 174]
def rs_Q (h : am_H) (K : Nat) (V : Int) : am_Q := fun v h' => (K = 1 ∧ v = some (.int 1) ∧ h' = h) ∨ (K = 0 ∧ v = some (.int 0) ∧ h' = am_wL h 174 0 (Int32.ofInt V).toInt64)
def rs_rR : List (Nat × am_R) := [(0, (.aload 5, 2, 0, 0, 0, 0)), (2, (.iconst 0, 3, 0, 0, 0, 0)), (3, (.aload_n 0, 4, 0, 0, 0, 0)), (4, (.iload_n 1, 5, 0, 0, 0, 0)), (5, (.iload_n 2, 6, 0, 0, 0, 0)), (6, (.iload_n 3, 7, 0, 0, 0, 0)), (7, (.iload 4, 9, 0, 0, 0, 0)), (12, (.i2l, 13, 0, 0, 0, 0)), (13, (.lastore, 14, 0, 0, 0, 0)), (14, (.goto 7, 17, 21, 0, 0, 0)), (21, (.iconst 0, 22, 0, 0, 0, 0)), (22, (.ireturn, 23, 0, 0, 0, 0))]
theorem rs_rR_ok : rs_rR.all (fun q => am_okB false "MistCantonLaw" method_3_code q.1 q.2) = true := by decide +kernel
theorem rs_rR_at : ∀ pc r, am_find rs_rR pc = some r → am_okB false "MistCantonLaw" method_3_code pc r = true := fun _ _ h => List.all_eq_true.mp rs_rR_ok _ (am_find_mem h)
theorem rs_w4 : ([Cond.methodLink "MistCantonLaw" 188 rs_y, Cond.static rs_y, Cond.initialized "MistCantonLaw", Cond.codeWith rs_y method_3_code 7 (some .int) rs_hh, Cond.classLink "MistCantonLaw" 13 rs_nse] : List Cond).all (fun w => decide (w ∈ lw_tbl) && goodWord w) = true := by decide +kernel
theorem rs_w4_at {w : Cond} (h : w ∈ ([Cond.methodLink "MistCantonLaw" 188 rs_y, Cond.static rs_y, Cond.initialized "MistCantonLaw", Cond.codeWith rs_y method_3_code 7 (some .int) rs_hh, Cond.classLink "MistCantonLaw" 13 rs_nse] : List Cond)) : w ∈ am_gw := by
  have := List.all_eq_true.mp rs_w4 w h
  simp only [Bool.and_eq_true, decide_eq_true_eq] at this
  exact am_gw_of this.1 this.2
theorem rs_ml : am_ml[215]? = some ("MistCantonLaw", 7, 168) := by decide +kernel
theorem rs_vl : (168, 4, 10) ∈ am_vls := by decide +kernel
theorem rs_dR : decode method_3_code 9 = .ok (.invokevirtual 7, 3) ∧ decode method_3_code 17 = .ok (.astore 6, 2) ∧ decode method_3_code 19 = .ok (.iconst 1, 1) ∧ decode method_3_code 20 = .ok (.ireturn, 1) := by decide +kernel
theorem rs_nl {x : Nat} (h : x ≤ 21) : 8 + (x + 11) + 40 * 20 ≤ 40 * 30 := by omega
theorem rs_pre {h : am_H} {E : Nat → am_V → List Value → am_H → Prop} {Q : am_Q} (hE : E 9 (lv_args 0 (rs_Bs ys)) (rs_st ys) h) : am_X (fun _ _ _ _ => False) 7 175 (some .int) (am_find rs_rR) E Q 0 (lv_args 0 (rs_Bs ys)) [] h :=
  am_goX 7 (show am_X (fun _ _ _ _ => False) 7 175 (some .int) (am_find rs_rR) E Q 9 (lv_args 0 (rs_Bs ys)) (rs_st ys) h from am_xexit hE)
theorem rs_post {h : am_H} {lv : am_V} {E : Nat → am_V → List Value → am_H → Prop} {Q : am_Q} {x : Int32} (hso : am_so h 174 = some (14, 1)) (hQ : Q (some (.int 0)) (am_wL h 174 0 x.toInt64)) : am_X (fun _ _ _ _ => False) 7 175 (some .int) (am_find rs_rR) E Q 12 lv [.int x, .int (Int32.ofInt 0), .ref 174] h :=
  am_goX 5 (show ∃ j n : Nat, am_so h 174 = some (14, n) ∧ j < n ∧ Int32.ofInt 0 = nI j ∧ ((∃ ty, some FieldType.int = some ty ∧ narrow ty (.int (Int32.ofInt 0)) = .int (Int32.ofInt 0)) ∧ Q (some (.int (Int32.ofInt 0))) (am_wL h 174 j x.toInt64)) from ⟨0, 1, hso, by decide, rfl, ⟨.int, rfl, rfl⟩, hQ⟩)
set_option maxHeartbeats 4000000 in
theorem rs_Met {K : Nat} {V : Int} {h : am_H} (hl0 : l.stackTraces = false) (hG : am_G ad base b L) (h175 : h.2.2.2.2 = 175) (hCX : am_X (am_call am_cod 9) 9 175 (some .int) (am_find am_r168) (fun pc _ st h' => K = 1 ∧ (pc = 30 ∨ pc = 144) ∧ st = [] ∧ h' = h) (fun v h' => K = 0 ∧ v = some (.int (Int32.ofInt V)) ∧ h' = h) 0 (lv_args 0 (rs_As ys)) [] h) :
    Met l rs_y rs_ws (am_rm 30 1 6) (rs_Pc D cA ad base b L xs (rs_Bs ys) h) (am_Qc D cA ad base L xs (rs_Q h K V)) 1 6 (am_A base) := by
  refine va_MetW (cc := method_3_code) (maxL := 7) (ret := some .int) (hh := rs_hh) (by decide) rfl ?_
  intro p e s m args below meth c s₁ B hml hv
  obtain ⟨⟨rfl, hE, hbase, hP, hro, hwf⟩, hZ⟩ := hv
  have hts := atoms_spec (ws := rs_ws) B.pre
  have hgw : ∀ w ∈ am_gw, w.before ((rs_Bs ys).map (am_cv ad)).toArray s = true := fun w hw => hts w (List.mem_cons_of_mem _ hw)
  have hown : s.vm.findClass "MistCantonLaw" = some m.cls := findClass_of_methodNamed B.named
  have htab : c.exceptionTable.toList = tableOf rs_hh := vx_table (x := rs_y) B (hts _ List.mem_cons_self)
  have F : am_Fx p s m ((rs_Bs ys).map (am_cv ad)).toArray c D cA ad base b L xs "MistCantonLaw" method_3_code 7 175 := ⟨B.exec, B.bytes, hml, hown, hgw, hE, hbase, hG, fun z => absurd z (by rw [am_shl_len]; decide)⟩
  have F1 : am_Fx p s m ((rs_Bs ys).map (am_cv ad)).toArray c D cA ad base b L xs "MistCantonLaw" method_3_code 7 1175 := ⟨B.exec, B.bytes, hml, hown, hgw, hE, hbase, hG, fun z => absurd z (by rw [am_shl_len]; decide)⟩
  have hC0 : am_Cs l (am_rm 30 1 6) D cA ad base b L xs (fun _ _ _ _ => False) := fun _ _ _ _ k => k.elim
  have hl := lv_entry ((rs_Bs ys).map (am_cv ad)) (n := 7) (by rw [am_sl_len]; exact Nat.le_of_ble_eq_true rfl)
  rw [am_args_cl] at hl
  rw [lg_entry_eq]
  have key := am_X_sound (p := p) (e := e) (below := below) (meth := meth) (Qw := MQ below (am_Qc D cA ad base L xs (rs_Q h K V)) ((rs_Bs ys).map (am_cv ad)).toArray s 1 6 (am_A base)) (R := am_rm 30 1 6) (lim := 175) (rt := some .int) (ini := false) (E := fun pc lv st h' => pc = 9 ∧ lv = lv_args 0 (rs_Bs ys) ∧ st = rs_st ys ∧ h' = h) (Q := fun _ _ => False) F hC0 ⟨rs_rm.1.1, rs_rm.1.2⟩ ⟨by show 1 ≤ 30; omega, by show 20 ≤ 1200; omega⟩ (fun q => by cases q) rs_rR_at ?_ (fun _ _ _ _ _ _ _ q => q.elim) 0 (lv_args 0 (rs_Bs ys)) [] h s.heap [] _ (rs_pre ⟨rfl, rfl, rfl, rfl⟩) ⟨hP, va_S.rf, hro, hwf.1, by rw [h175]; exact Nat.le_refl _, fun z => absurd z (by decide)⟩ hl
  · have z1 : am_ce 175 h = 0 := (rs_sc h175).1
    have z2 : am_sc 175 h = 0 := (rs_sc h175).2.1
    rw [z1, z2] at key
    exact key
  · intro pc lv st h' H locs ls hx hI hl'
    obtain ⟨rfl, rfl, rfl, rfl⟩ := hx
    have z1 : am_ce 175 h' = 0 := (rs_sc h175).1
    have z2 : am_sc 175 h' = 0 := (rs_sc h175).2.1
    rw [z1, z2]
    obtain ⟨v1, v2, v3, v4, v5, v6, v7, v8, v9, v10⟩ := am_vls_at rs_vl
    obtain ⟨C, T9, N, e1, e2, e3, e4, e5, ty, e6, e7, e8⟩ := am_ci_ok 10 v5
    have ho : am_so h' 0 = some (10, 0) := (ag_so_ok (D := ag_DD) (h := h') (o := 0) (e := (10, 0)) ag_DD_sh h175 (by decide +kernel)).1
    have hG2 : GoodIn am_gw (wsV "MistCantonLaw" 7 (am_cn 10) (am_y 168) (am_ws 168)) := am_good_in (fun w hw => by
      unfold wsV at hw
      rcases List.mem_append.mp hw with q | q
      · simp only [List.mem_cons, List.not_mem_nil, or_false] at q
        rcases q with rfl | rfl | rfl | rfl
        · exact am_gw_ml rs_ml v10
        · exact am_gw_in v1
        · rw [v4]; exact am_gw_se v2
        · rw [v4]; exact am_gw_ii v6
      · exact am_ws_in v7 w q)
    have hwf' : am_wf base h' H := ⟨hI.2.2.2.1, fun z => absurd z (by rw [h175, am_shl_len]; decide)⟩
    have hrun := vx_runV (p := p) (e := e) (below := below) (meth := meth) (locs := locs) (cells := 0) (slots := 0) (g := F0 m 9 ls ((rs_st ys).map (am_cv ad))) (As := [.int (ys 1), .int (ys 2), .int (ys 3), .int (ys 4)]) (rest := [.int (Int32.ofInt 0), .ref (ad 174)]) (b := ad 0) (cc := method_3_code) (nL := 7) ⟨B.exec, B.bytes, hml, hown, hgw⟩ (rs_vMet (D := D) (cA := cA) (h := h') hl0 hG h175 hCX) (cwV (R := am_rm 30 1 6) 4 hgw hG2 rfl rfl rfl ⟨v4.symm, v9.1, v9.2, v3⟩ ⟨by show 20 + 1 ≤ 30; omega, rs_nl v8⟩) ⟨rs_Pc.blind, by rw [e3]; exact va_recv hE.1 hI.1 e1 ((am_cc_at ho).trans (by rw [am_cell_obj v5])), fun U hU hW => ⟨⟨rfl, hE.warm hW (fun x9 g9 g8 => by rw [hU]; exact hI.2.1.2.1 x9 g9 g8) (Nat.lt_of_lt_of_le hG.2.2.1 hbase) (fun q => absurd hG.2.2.1 (Nat.not_lt.mpr q)), by rw [hU]; exact Nat.le_trans hbase hI.2.1.1, by rw [hU]; exact hI.1, hI.2.2.1, by rw [hU]; exact hwf'⟩, hZ.warm hW (by rw [hU]; exact hI.2.1.2.1)⟩⟩ rfl rfl hl'.1 rfl (lv_room (Nat.le_of_ble_eq_true rfl)) rs_dR.1 ⟨by show 0 + 1 ≤ 1; omega, by show 0 + 6 ≤ 6; omega⟩
    intro T hT X
    rcases hrun T hT X with ⟨v, st₀, t, T', Lc, h0, X', hL, g1, g2, ⟨⟨v', h2, hv, ⟨hK, hv2, hr⟩, hP2, hro2, hwf2⟩, hz, hk⟩, st⟩ | ⟨q, st₀, t, T', Lc, E, ce, h0, X', hL, g1, g2, ⟨hEq, hK, ⟨h2, hr, hP2, hro2⟩, hz, hk⟩, hce, hcv, hcl, st⟩
    · rw [h0] at hz hk
      subst hv2
      cases hv
      have hS2 : va_S (am_A base) s.heap T'.heap (locs ++ Lc) := ⟨Nat.le_trans hI.2.1.1 (by rw [g1]; exact hz), fun q h1 h2 => by rw [g1, hk q (Nat.lt_of_lt_of_le h1 hI.2.1.1) h2]; exact hI.2.1.2.1 q h1 h2, fun q hq => by
        rcases List.mem_append.mp hq with h | h
        · exact hI.2.1.2.2 q h
        · exact hL q h⟩
      have h275 : h2.2.2.2.2 = 175 := by rw [hr]; exact h175
      have hso : am_so h2 174 = some (14, 1) := (ag_so_ok (D := ag_DD) (h := h2) (o := 174) (e := (14, 1)) ag_DD_sh h275 (by decide +kernel)).1
      have key1 := am_X_sound (p := p) (e := e) (below := below) (meth := meth) (Qw := MQ below (am_Qc D cA ad base L xs (rs_Q h' K V)) ((rs_Bs ys).map (am_cv ad)).toArray s 1 6 (am_A base)) (R := am_rm 30 1 6) (lim := 175) (rt := some .int) (ini := false) (E := fun _ _ _ _ => False) (Q := rs_Q h' K V) F1 hC0 ⟨rs_rm.2.1, rs_rm.2.2⟩ ⟨by show 1 ≤ 30; omega, by show 20 ≤ 1200; omega⟩ (fun q => by cases q) rs_rR_at (fun _ _ _ _ _ _ _ q => q.elim) ?_ 12 (lv_args 0 (rs_Bs ys)) [.int (Int32.ofInt V), .int (Int32.ofInt 0), .ref 174] h2 T'.heap (locs ++ Lc) ls (rs_post hso (Or.inr ⟨hK, rfl, by rw [hr]⟩)) ⟨by rw [g1]; exact hP2, hS2, hro2, hwf2, by rw [h275]; exact Nat.le_refl _, fun _ => by rw [h275, am_shl_len]⟩ hl'
      · have z3 : am_ce 1175 h2 = 0 + 1 := (rs_sc h275).2.2.1
        have z4 : am_sc 1175 h2 = 0 + 6 := (rs_sc h275).2.2.2
        rw [z3, z4] at key1
        obtain ⟨t2, a1, b1⟩ := key1 T' rfl X'
        exact ⟨t2, st t2 a1, b1⟩
      · intro v h3 H3 locs3 pc ls3 st3 hQ hI3 hrk
        have h375 : h3.2.2.2.2 = 175 := by
          rcases hQ with hQ | hQ
          · rw [hQ.2.2]; exact h175
          · rw [hQ.2.2]; exact h175
        have z3 : am_ce 1175 h3 = 1 := (rs_sc h375).2.2.1
        have z4 : am_sc 1175 h3 = 6 := (rs_sc h375).2.2.2
        rw [z3, z4]
        rcases hrk with ⟨x, h1, rfl, hd, ty, h4, h5⟩ | ⟨x, h1, -⟩ | ⟨h1, -⟩
        · exact W.zret B.exec B.bytes (B.returns.trans h4) h5 (fun t ht _ => ⟨⟨v, h3, by rw [h1]; rfl, hQ, by rw [ht]; exact hI3.1, hI3.2.2.1, hI3.2.2.2.1⟩, hI3.2.1.F ht⟩) hI3.2.1.2.2 hd (hlocks := B.notSynchronized)
        · exfalso
          rcases hQ with hQ | hQ <;> rw [h1] at hQ <;> cases hQ.2.1
        · exfalso
          rcases hQ with hQ | hQ <;> rw [h1] at hQ <;> cases hQ.2.1
    · rw [h0] at hz hk
      subst hEq
      have hS2 : va_S (am_A base) s.heap T'.heap (locs ++ Lc) := ⟨Nat.le_trans hI.2.1.1 (by rw [g1]; exact hz), fun q h1 h2 => by rw [g1, hk q (Nat.lt_of_lt_of_le h1 hI.2.1.1) h2]; exact hI.2.1.2.1 q h1 h2, fun q hq => by
        rcases List.mem_append.mp hq with h | h
        · exact hI.2.1.2.2 q h
        · exact hL q h⟩
      have h275 : h2.2.2.2.2 = 175 := by rw [hr]; exact h175
      have kx : vx_W p l e (am_rm 30 1 6) s m ((rs_Bs ys).map (am_cv ad)).toArray below meth c T'.heap (locs ++ Lc) (0 + 1) (0 + 6) (MQ below (am_Qc D cA ad base L xs (rs_Q h' K V)) ((rs_Bs ys).map (am_cv ad)).toArray s 1 6 (am_A base)) (F0 m 9 ls [.int (Int32.ofInt 0), .ref (ad 174)]) q := by
        refine vx_catch (own := "MistCantonLaw") (name := rs_nse) (E := rs_nse) hown [] ⟨0, 14, 17, 13⟩ [] htab (fun z hz => nomatch hz) (by decide) (by decide) (hgw _ (rs_w4_at (by simp))) (va_Nw.use rfl hZ.2.2.2.2.2.2.2) (by rw [g1]; exact hce) hcv hcl ?_
        refine lv_astore (i := 6) (nL := 7) B.exec B.bytes rs_dR.2.1 hl' (by decide) rfl (fun ls' hl2 => ?_)
        refine lv_iconst (v := 1) B.exec B.bytes rs_dR.2.2.1 rfl ?_
        exact W.zret B.exec B.bytes B.returns rfl (fun t ht _ => ⟨⟨some (.int 1), h2, rfl, Or.inl ⟨hK, rfl, hr⟩, by rw [ht, g1]; exact hP2, hro2, by rw [h275, am_shl_len]; exact Nat.le_refl _⟩, hS2.F ht⟩) hS2.2.2 rs_dR.2.2.2 (hlocks := B.notSynchronized)
      obtain ⟨t2, a1, b1⟩ := kx T' rfl X'
      exact ⟨t2, st.trans a1, b1⟩
set_option maxHeartbeats 4000000 in
theorem rs_Z0 {s : State} {b : Nat} (hts : ∀ w ∈ lw_tbl, w.before #[Value.ref b] s = true) (hgv : (Jvm.Cond.and given_1 narrow_1).before #[Value.ref b] s = true) : rs_Z s.heap.size s s.heap := by
  have hs := flat_of_before _ hgv
  have hA : ∀ a : Nat, a < s.heap.size → ¬ am_A s.heap.size a := fun a h q => absurd h (Nat.not_lt.mpr q)
  have hi : (Cond.initialized Bundle.tN).before #[Value.ref b] s = true := hts _ (by decide +kernel)
  have x1 : (Cond.exactly (.string "MistCanton" 314) "java/lang/String").before #[Value.ref b] s = true := hs _ (by decide +kernel)
  have x2 : (Cond.exactly (.string "MistCanton" 323) "java/lang/String").before #[Value.ref b] s = true := hs _ (by decide +kernel)
  obtain ⟨a1, -, -, -, q1, -⟩ := Cond.exactly_spec x1
  obtain ⟨a2, -, -, -, q2, -⟩ := Cond.exactly_spec x2
  exact ⟨vx_Zqof (hts _ (by decide +kernel)) hi (hs _ (by decide +kernel)) hA, vx_Zqof (hts _ (by decide +kernel)) hi (hs _ (by decide +kernel)) hA, ⟨a1, vk_R.of (hts _ (by decide +kernel)) q1⟩, ⟨a2, vk_R.of (hts _ (by decide +kernel)) q2⟩, va_Nw.of rfl (hts _ (by decide +kernel)), va_Nw.of rfl (hts _ (by decide +kernel)), va_Nw.of rfl (hts _ (by decide +kernel)), va_Nw.of rfl (hts _ (by decide +kernel))⟩
