section
/-! OPCODE 40: the class's rests as a contract that returns or throws -/
variable {D : va_G} {cA : Nat → ClassId} {ad : Nat → Nat} {base b L : Nat} {xs ys : Nat → Int32} {l : Launch}
abbrev rs_nse : String := "java/util/NoSuchElementException"
abbrev rs_nm : List String := ["java/lang/RuntimeException", "java/lang/Exception"]
/-- what a throw stands on: two statics of Throwable, two texts, four words that a warmer machine keeps but that are no good ones -/
def rs_Z (base : Nat) (U : State) (H : Heap) : Prop := vx_Zq Bundle.tN "UNASSIGNED_STACK" Bundle.steD (am_A base) U H ∧ vx_Zq Bundle.tN "SUPPRESSED_SENTINEL" Bundle.listD (am_A base) U H ∧ (∃ sa, vk_R "MistCanton" 314 "a stake is 0 to 9" sa U) ∧ (∃ sa, vk_R "MistCanton" 323 "no such rest" sa U) ∧ va_Nw (.declares (Bundle.initS "java/lang/RuntimeException")) U ∧ va_Nw (.declares (Bundle.initS "java/lang/Exception")) U ∧ va_Nw (.declares (Bundle.initS Bundle.tN)) U ∧ va_Nw (.castable rs_nse rs_nse) U
theorem rs_Z.warm {s U : State} {H : Heap} (hW : s.WarmedH U.vm) (hq : ∀ a : Nat, a < s.heap.size → ¬ am_A base a → H[a]? = s.heap[a]?) (h : rs_Z base s s.heap) : rs_Z base U H :=
  ⟨vx_Zq.moved hW.alike (h.1.kept hq), vx_Zq.moved hW.alike (h.2.1.kept hq), h.2.2.1.imp fun _ q => q.warm hW, h.2.2.2.1.imp fun _ q => q.warm hW, h.2.2.2.2.1.warmD hW, h.2.2.2.2.2.1.warmD hW, h.2.2.2.2.2.2.1.warmD hW, h.2.2.2.2.2.2.2.warmC hW⟩
def rs_Pc (D : va_G) (cA : Nat → ClassId) (ad : Nat → Nat) (base b L : Nat) (xs : Nat → Int32) (As : List Value) (h : am_H) : Array Value → State → Prop := fun a U => am_Pc D cA ad base b L xs As h a U ∧ rs_Z base U U.heap
theorem rs_Pc.blind {As : List Value} {h : am_H} : FrameBlind (rs_Pc D cA ad base b L xs As h) := by
  intro a U g mk hp
  exact ⟨am_Pc.blind a U g mk hp.1, vx_Zq.moved (u := U) (U := U.calling g mk a) (Vm.Alike.refl U.vm) hp.2.1, vx_Zq.moved (u := U) (U := U.calling g mk a) (Vm.Alike.refl U.vm) hp.2.2.1, hp.2.2.2.1.imp fun _ q => vk_R.same (u := U) rfl q, hp.2.2.2.2.1.imp fun _ q => vk_R.same (u := U) rfl q, va_Nw.same (u := U) rfl rfl hp.2.2.2.2.2.1, va_Nw.same (u := U) rfl rfl hp.2.2.2.2.2.2.1, va_Nw.same (u := U) rfl rfl hp.2.2.2.2.2.2.2.1, va_Nw.same (u := U) rfl rfl hp.2.2.2.2.2.2.2.2⟩
/-- a world of the abstract machine in a heap -/
def rs_w (D : va_G) (cA : Nat → ClassId) (ad : Nat → Nat) (L : Nat) (xs : Nat → Int32) (h : am_H) (H : Heap) : Prop := ∃ h' : am_H, h' = h ∧ va_P D vwCl (am_cc cA ad h') H ∧ am_ro L xs h'
def rs_XC (D : va_G) (cA : Nat → ClassId) (ad : Nat → Nat) (base L : Nat) (xs : Nat → Int32) (h : am_H) (K : Nat) : String → State → State → Prop := fun E st t => E = rs_nse ∧ K = 1 ∧ rs_w D cA ad L xs h t.heap ∧ va_F (am_A base) st t
def rs_As (ys : Nat → Int32) : List Value := [.ref 0, .int (ys 1), .int (ys 2), .int (ys 3), .int (ys 4)]
abbrev rs_rx : ByteArray := prog_28_method_4_code
abbrev rs_wat : List Cond := rs_atX "MistCanton" 316 rs_nse 13 rs_rx rs_nm
theorem rs_x : decode rs_rx 0 = .ok (.aload_n 0, 1) ∧ decode rs_rx 1 = .ok (.aload_n 1, 1) ∧ decode rs_rx 2 = .ok (.invokespecial 13, 3) ∧ decode rs_rx 5 = .ok (.return_, 1) := by decide +kernel
theorem rs_good : (Cond.classLink "MistCanton" 312 rs_nse :: Cond.initialized rs_nse :: rs_wat.filter goodWord).all (fun w => decide (w ∈ lw_tbl) && goodWord w) = true := by decide +kernel
theorem rs_bad : ∀ w ∈ rs_wat.filter (fun w => !goodWord w), w ∈ ([.declares (Bundle.initS "java/lang/RuntimeException"), .declares (Bundle.initS "java/lang/Exception"), .declares (Bundle.initS Bundle.tN), .castable rs_nse rs_nse] : List Cond) := by decide +kernel
theorem rs_ot : (Cond.classLink "MistCanton" 312 rs_nse :: Cond.initialized rs_nse :: rs_wat).all vx_ot = true := by decide +kernel
theorem rs_y168 : am_y 168 = ⟨"MistCanton", "rests", "(IIII)I"⟩ := by decide +kernel
theorem rs_inf : am_inf[168]? = some (am_r168, 9, some .int) := rfl
theorem rs_d : (decode (am_by 168) 30 = .ok (.new 312, 3) ∧ decode (am_by 168) 33 = .ok (.dup, 1) ∧ decode (am_by 168) 34 = .ok (.ldc_w 314, 3) ∧ decode (am_by 168) 37 = .ok (.invokespecial 316, 3) ∧ decode (am_by 168) 40 = .ok (.athrow, 1)) ∧ (decode (am_by 168) 144 = .ok (.new 312, 3) ∧ decode (am_by 168) 147 = .ok (.dup, 1) ∧ decode (am_by 168) 148 = .ok (.ldc_w 323, 3) ∧ decode (am_by 168) 151 = .ok (.invokespecial 316, 3) ∧ decode (am_by 168) 154 = .ok (.athrow, 1)) := by decide +kernel
theorem rs_sc {h : am_H} (e : h.2.2.2.2 = 175) : am_ce 175 h = 0 ∧ am_sc 175 h = 0 ∧ am_ce 1175 h = 1 ∧ am_sc 1175 h = 6 := by
  have q1 : am_ss (175 % 1000) = am_ss h.2.2.2.2 := congrArg am_ss (by omega)
  have q2 : am_ss (1175 % 1000) = am_ss h.2.2.2.2 := congrArg am_ss (by omega)
  refine ⟨?_, ?_, ?_, ?_⟩
  · unfold am_ce
    omega
  · unfold am_sc
    omega
  · unfold am_ce
    omega
  · unfold am_sc
    omega
theorem rs_rm : (175 - 175 % 1000 + 175 / 1000 ≤ 1 ∧ am_ss 175 - am_ss (175 % 1000) + 6 * (175 / 1000) ≤ 6) ∧ (175 - 1175 % 1000 + 1175 / 1000 ≤ 1 ∧ am_ss 175 - am_ss (1175 % 1000) + 6 * (1175 / 1000) ≤ 6) := by
  have q1 : am_ss (175 % 1000) = am_ss 175 := congrArg am_ss (by omega)
  have q2 : am_ss (1175 % 1000) = am_ss 175 := congrArg am_ss (by omega)
  omega
set_option maxHeartbeats 4000000 in
theorem rs_vMet {K : Nat} {V : Int} {h : am_H} (hl0 : l.stackTraces = false) (hG : am_G ad base b L) (h175 : h.2.2.2.2 = 175) (hCX : am_X (am_call am_cod 9) 9 175 (some .int) (am_find am_r168) (fun pc _ st h' => K = 1 ∧ (pc = 30 ∨ pc = 144) ∧ st = [] ∧ h' = h) (fun v h' => K = 0 ∧ v = some (.int (Int32.ofInt V)) ∧ h' = h) 0 (lv_args 0 (rs_As ys)) [] h) :
    vx_Met l (am_y 168) (am_ws 168) (am_rm 20 1 6) (rs_Pc D cA ad base b L xs (rs_As ys) h) (am_Qc D cA ad base L xs (fun v h' => K = 0 ∧ v = some (.int (Int32.ofInt V)) ∧ h' = h)) (rs_XC D cA ad base L xs h K) 1 6 (am_A base) := by
  have hq := am_inf_at rs_inf
  refine vx_ofW (cc := am_by 168) (maxL := am_nL 168) (ret := am_rt 168) (by rw [rs_y168]; decide) rfl ?_
  intro p e s m args below meth c s₁ B hml hnt hv
  obtain ⟨⟨rfl, hE, hbase, hP, hro, hwf⟩, hZ⟩ := hv
  have hts := atoms_spec (ws := am_ws 168) B.pre
  have hgw : ∀ w ∈ am_gw, w.before ((rs_As ys).map (am_cv ad)).toArray s = true := fun w hw => hts w (List.mem_cons_of_mem _ hw)
  have hown : s.vm.findClass "MistCanton" = some m.cls := by have := findClass_of_methodNamed B.named; rw [rs_y168] at this; exact this
  have hnL : am_nL 168 = 9 := hq.1.symm
  have hrt : am_rt 168 = some .int := hq.2.1.symm
  have F : am_Fx p s m ((rs_As ys).map (am_cv ad)).toArray c D cA ad base b L xs "MistCanton" (am_by 168) 9 175 := ⟨B.exec, B.bytes, hml.trans hnL, hown, hgw, hE, hbase, hG, fun z => absurd z (by rw [am_shl_len]; decide)⟩
  have hC : am_Cs l (am_rm 20 1 6) D cA ad base b L xs (am_call am_cod 9) := by
    intro n' As' h' Q' k'
    obtain ⟨d', h1, h2⟩ := am_Met am_cod_ok hG 9 n' As' h' Q' k'
    exact ⟨d', h2, by show d' + 1 ≤ 20; omega, by show 40 + 40 * d' ≤ 800; omega⟩
  have hw1 : ∀ w ∈ Cond.classLink "MistCanton" 312 rs_nse :: Cond.initialized rs_nse :: rs_wat.filter goodWord, w ∈ am_gw := fun w hw => by
    have := List.all_eq_true.mp rs_good w hw
    simp only [Bool.and_eq_true, decide_eq_true_eq] at this
    exact am_gw_of this.1 this.2
  have hat : ∀ w ∈ rs_wat, w.before ((rs_As ys).map (am_cv ad)).toArray s = true := vx_hat (fun w hw => hgw _ (hw1 w (List.mem_cons_of_mem _ (List.mem_cons_of_mem _ hw)))) rs_bad (vx_c (va_Nw.use rfl hZ.2.2.2.2.1) (vx_c (va_Nw.use rfl hZ.2.2.2.2.2.1) (vx_c (va_Nw.use rfl hZ.2.2.2.2.2.2.1) (vx_c (va_Nw.use rfl hZ.2.2.2.2.2.2.2) vx_n))))
  have hl := lv_entry ((rs_As ys).map (am_cv ad)) (n := am_nL 168) (by rw [am_sl_len, hnL]; exact Nat.le_of_ble_eq_true rfl)
  rw [am_args_cl] at hl
  rw [lg_entry_eq]
  have key := am_X_sound (p := p) (e := e) (below := below) (meth := meth) (Qw := vx_MQ below (am_Qc D cA ad base L xs (fun v h' => K = 0 ∧ v = some (.int (Int32.ofInt V)) ∧ h' = h)) (rs_XC D cA ad base L xs h K) ((rs_As ys).map (am_cv ad)).toArray s 1 6 (am_A base)) (R := am_rm 20 1 6) (lim := 175) (rt := some .int) (ini := false) F hC ⟨rs_rm.1.1, rs_rm.1.2⟩ ⟨by show 1 ≤ 20; omega, by show 20 ≤ 800; omega⟩ (fun q => by cases q) (fun pc r hc => by
      have := (hq.2.2 pc r hc).2
      rw [rs_y168] at this
      exact this.resolve_left (fun z => absurd z.1 (by decide))) ?_ ?_ 0 (lv_args 0 (rs_As ys)) [] h s.heap [] _ hCX ⟨hP, va_S.rf, hro, hwf.1, by rw [h175]; exact Nat.le_refl _, fun z => absurd z (by decide)⟩ (by rw [← hnL]; exact hl)
  · have z1 : am_ce 175 h = 0 := (rs_sc h175).1
    have z2 : am_sc 175 h = 0 := (rs_sc h175).2.1
    rw [z1, z2] at key
    exact key
  · intro pc lv st h' H locs ls hx hI hl'
    obtain ⟨hK, hpc, rfl, hr⟩ := hx
    have h175' : h'.2.2.2.2 = 175 := by rw [hr]; exact h175
    have z1 : am_ce 175 h' = 0 := (rs_sc h175').1
    have z2 : am_sc 175 h' = 0 := (rs_sc h175').2.1
    rw [z1, z2]
    have hXC : ∀ t : State, s.vm.Alike t.vm → H.size ≤ t.heap.size → (∀ q : Nat, q < H.size → t.heap[q]? = H[q]?) → rs_XC D cA ad base L xs h K rs_nse s t := fun t _ t1 t2 =>
      ⟨rfl, hK, ⟨h', hr, hI.1.kept (fun k x hx => t2 x.1 ((hI.1 k x hx).lt)), hI.2.2.1⟩, Nat.le_trans hI.2.1.1 t1, fun q q1 q2 => (t2 q (Nat.lt_of_lt_of_le q1 hI.2.1.1)).trans (hI.2.1.2.1 q q1 q2)⟩
    rcases hpc with rfl | rfl
    · obtain ⟨sa, hsa⟩ := hZ.2.2.1
      obtain ⟨d0, d3, d4, d7, d10⟩ := rs_d.1
      exact rs_throwSW (A := am_A base) (names := rs_nm) (rx := rs_rx) (ix := 13) B.exec B.bytes hl0 rs_x.1 rs_x.2.1 rs_x.2.2.1 rs_x.2.2.2 hown (by decide) (by decide) (hgw _ (hw1 _ List.mem_cons_self)) (hgw _ (hw1 _ (List.mem_cons_of_mem _ List.mem_cons_self))) hsa hat (fun w hw => List.all_eq_true.mp rs_ot w hw) hZ.1 hZ.2.1 hI.2.1 (hl'.1.trans (hml.trans hnL).symm) d0 d3 d4 d7 d10 (fun x hx => (hnt x hx).elim) (by show 5 < 20; omega) (by show 0 + 82 ≤ 800; omega) (by show 0 + 1 ≤ 1; omega) (by show 0 + 6 ≤ 6; omega) B.notSynchronized hXC hI.2.1.2.2 (Nat.le_refl _) (Nat.le_refl _)
    · obtain ⟨sa, hsa⟩ := hZ.2.2.2.1
      obtain ⟨d0, d3, d4, d7, d10⟩ := rs_d.2
      exact rs_throwSW (A := am_A base) (names := rs_nm) (rx := rs_rx) (ix := 13) B.exec B.bytes hl0 rs_x.1 rs_x.2.1 rs_x.2.2.1 rs_x.2.2.2 hown (by decide) (by decide) (hgw _ (hw1 _ List.mem_cons_self)) (hgw _ (hw1 _ (List.mem_cons_of_mem _ List.mem_cons_self))) hsa hat (fun w hw => List.all_eq_true.mp rs_ot w hw) hZ.1 hZ.2.1 hI.2.1 (hl'.1.trans (hml.trans hnL).symm) d0 d3 d4 d7 d10 (fun x hx => (hnt x hx).elim) (by show 5 < 20; omega) (by show 0 + 82 ≤ 800; omega) (by show 0 + 1 ≤ 1; omega) (by show 0 + 6 ≤ 6; omega) B.notSynchronized hXC hI.2.1.2.2 (Nat.le_refl _) (Nat.le_refl _)
  · intro v h' H locs pc ls st hQ hI hrk
    have h175' : h'.2.2.2.2 = 175 := by rw [hQ.2.2]; exact h175
    have z1 : am_ce 175 h' = 0 := (rs_sc h175').1
    have z2 : am_sc 175 h' = 0 := (rs_sc h175').2.1
    rw [z1, z2]
    have hv : v = some (.int (Int32.ofInt V)) := hQ.2.1
    rcases hrk with ⟨x, h1, rfl, hd, ty, h2, h3⟩ | ⟨x, h1, -⟩ | ⟨h1, -⟩
    · refine vx_ret (W.widen (k := 1) (n := 6) (Nat.zero_le _) (Nat.zero_le _) ?_)
      exact W.zret B.exec B.bytes (B.returns.trans (hrt.trans h2)) h3 (fun t ht _ => ⟨⟨v, h', by rw [h1]; rfl, hQ, by rw [ht]; exact hI.1, hI.2.2.1, hI.2.2.2.1⟩, hI.2.1.F ht⟩) hI.2.1.2.2 hd (hlocks := B.notSynchronized)
    · rw [hv] at h1; cases h1
    · rw [hv] at h1; cases h1
end
section
/-! OPCODE 40: the law's own rests, which catches -/
variable {D : va_G} {cA : Nat → ClassId} {ad : Nat → Nat} {base b L : Nat} {xs ys : Nat → Int32} {l : Launch}
abbrev rs_y : MethodName := ⟨"MistCantonLaw", "rests", "(LMistCanton;IIII[J)I"⟩
abbrev rs_hh : List (Nat × Nat × Nat × Nat) := [(0, 14, 17, 13)]
abbrev rs_ws : List Cond := Cond.codeWith rs_y method_3_code 7 (some .int) rs_hh :: am_gw
def rs_Bs (ys : Nat → Int32) : List Value := [.ref 0, .int (ys 1), .int (ys 2), .int (ys 3), .int (ys 4), .ref 174]
def rs_st (ys : Nat → Int32) : List Value := [.int (ys 4), .int (ys 3), .int (ys 2), .int (ys 1), .ref 0, .int (Int32.ofInt 0), .ref 174]
def rs_Q (h : am_H) (K : Nat) (V : Int) : am_Q := fun v h' => (K = 1 ∧ v = some (.int 1) ∧ h' = h) ∨ (K = 0 ∧ v = some (.int 0) ∧ h' = am_wL h 174 0 (Int32.ofInt V).toInt64)
def rs_rR : List (Nat × am_R) := [(0, (.aload 5, 2, 0, 0, 0, 0)), (2, (.iconst 0, 3, 0, 0, 0, 0)), (3, (.aload_n 0, 4, 0, 0, 0, 0)), (4, (.iload_n 1, 5, 0, 0, 0, 0)), (5, (.iload_n 2, 6, 0, 0, 0, 0)), (6, (.iload_n 3, 7, 0, 0, 0, 0)), (7, (.iload 4, 9, 0, 0, 0, 0)), (12, (.i2l, 13, 0, 0, 0, 0)), (13, (.lastore, 14, 0, 0, 0, 0)), (14, (.goto 7, 17, 21, 0, 0, 0)), (21, (.iconst 0, 22, 0, 0, 0, 0)), (22, (.ireturn, 23, 0, 0, 0, 0))]
theorem rs_rR_ok : rs_rR.all (fun q => am_okB false "MistCantonLaw" method_3_code q.1 q.2) = true := by decide +kernel
theorem rs_rR_at : ∀ pc r, am_find rs_rR pc = some r → am_okB false "MistCantonLaw" method_3_code pc r = true := fun _ _ h => List.all_eq_true.mp rs_rR_ok _ (am_find_mem h)
theorem rs_w4 : ([Cond.methodLink "MistCantonLaw" 188 rs_y, Cond.static rs_y, Cond.initialized "MistCantonLaw", Cond.codeWith rs_y method_3_code 7 (some .int) rs_hh, Cond.classLink "MistCantonLaw" 13 rs_nse] : List Cond).all (fun w => decide (w ∈ lw_tbl) && goodWord w) = true := by decide +kernel
theorem rs_w4_at {w : Cond} (h : w ∈ ([Cond.methodLink "MistCantonLaw" 188 rs_y, Cond.static rs_y, Cond.initialized "MistCantonLaw", Cond.codeWith rs_y method_3_code 7 (some .int) rs_hh, Cond.classLink "MistCantonLaw" 13 rs_nse] : List Cond)) : w ∈ am_gw := by
  have := List.all_eq_true.mp rs_w4 w h
  simp only [Bool.and_eq_true, decide_eq_true_eq] at this
  exact am_gw_of this.1 this.2
theorem rs_ml : am_ml[215]? = some ("MistCantonLaw", 7, 168) := by decide +kernel
theorem rs_vl : (168, 4, 10) ∈ am_vls := by decide +kernel
theorem rs_dR : decode method_3_code 9 = .ok (.invokevirtual 7, 3) ∧ decode method_3_code 17 = .ok (.astore 6, 2) ∧ decode method_3_code 19 = .ok (.iconst 1, 1) ∧ decode method_3_code 20 = .ok (.ireturn, 1) := by decide +kernel
theorem rs_nl {x : Nat} (h : x ≤ 21) : 8 + (x + 11) + 40 * 20 ≤ 40 * 30 := by omega
theorem rs_pre {h : am_H} {E : Nat → am_V → List Value → am_H → Prop} {Q : am_Q} (hE : E 9 (lv_args 0 (rs_Bs ys)) (rs_st ys) h) : am_X (fun _ _ _ _ => False) 7 175 (some .int) (am_find rs_rR) E Q 0 (lv_args 0 (rs_Bs ys)) [] h :=
  am_goX 7 (show am_X (fun _ _ _ _ => False) 7 175 (some .int) (am_find rs_rR) E Q 9 (lv_args 0 (rs_Bs ys)) (rs_st ys) h from am_xexit hE)
theorem rs_post {h : am_H} {lv : am_V} {E : Nat → am_V → List Value → am_H → Prop} {Q : am_Q} {x : Int32} (hso : am_so h 174 = some (14, 1)) (hQ : Q (some (.int 0)) (am_wL h 174 0 x.toInt64)) : am_X (fun _ _ _ _ => False) 7 175 (some .int) (am_find rs_rR) E Q 12 lv [.int x, .int (Int32.ofInt 0), .ref 174] h :=
  am_goX 5 (show ∃ j n : Nat, am_so h 174 = some (14, n) ∧ j < n ∧ Int32.ofInt 0 = nI j ∧ ((∃ ty, some FieldType.int = some ty ∧ narrow ty (.int (Int32.ofInt 0)) = .int (Int32.ofInt 0)) ∧ Q (some (.int (Int32.ofInt 0))) (am_wL h 174 j x.toInt64)) from ⟨0, 1, hso, by decide, rfl, ⟨.int, rfl, rfl⟩, hQ⟩)
set_option maxHeartbeats 4000000 in
theorem rs_Met {K : Nat} {V : Int} {h : am_H} (hl0 : l.stackTraces = false) (hG : am_G ad base b L) (h175 : h.2.2.2.2 = 175) (hCX : am_X (am_call am_cod 9) 9 175 (some .int) (am_find am_r168) (fun pc _ st h' => K = 1 ∧ (pc = 30 ∨ pc = 144) ∧ st = [] ∧ h' = h) (fun v h' => K = 0 ∧ v = some (.int (Int32.ofInt V)) ∧ h' = h) 0 (lv_args 0 (rs_As ys)) [] h) :
    Met l rs_y rs_ws (am_rm 30 1 6) (rs_Pc D cA ad base b L xs (rs_Bs ys) h) (am_Qc D cA ad base L xs (rs_Q h K V)) 1 6 (am_A base) := by
  refine va_MetW (cc := method_3_code) (maxL := 7) (ret := some .int) (hh := rs_hh) (by decide) rfl ?_
  intro p e s m args below meth c s₁ B hml hv
  obtain ⟨⟨rfl, hE, hbase, hP, hro, hwf⟩, hZ⟩ := hv
  have hts := atoms_spec (ws := rs_ws) B.pre
  have hgw : ∀ w ∈ am_gw, w.before ((rs_Bs ys).map (am_cv ad)).toArray s = true := fun w hw => hts w (List.mem_cons_of_mem _ hw)
  have hown : s.vm.findClass "MistCantonLaw" = some m.cls := findClass_of_methodNamed B.named
  have htab : c.exceptionTable.toList = tableOf rs_hh := vx_table (x := rs_y) B (hts _ List.mem_cons_self)
  have F : am_Fx p s m ((rs_Bs ys).map (am_cv ad)).toArray c D cA ad base b L xs "MistCantonLaw" method_3_code 7 175 := ⟨B.exec, B.bytes, hml, hown, hgw, hE, hbase, hG, fun z => absurd z (by rw [am_shl_len]; decide)⟩
  have F1 : am_Fx p s m ((rs_Bs ys).map (am_cv ad)).toArray c D cA ad base b L xs "MistCantonLaw" method_3_code 7 1175 := ⟨B.exec, B.bytes, hml, hown, hgw, hE, hbase, hG, fun z => absurd z (by rw [am_shl_len]; decide)⟩
  have hC0 : am_Cs l (am_rm 30 1 6) D cA ad base b L xs (fun _ _ _ _ => False) := fun _ _ _ _ k => k.elim
  have hl := lv_entry ((rs_Bs ys).map (am_cv ad)) (n := 7) (by rw [am_sl_len]; exact Nat.le_of_ble_eq_true rfl)
  rw [am_args_cl] at hl
  rw [lg_entry_eq]
  have key := am_X_sound (p := p) (e := e) (below := below) (meth := meth) (Qw := MQ below (am_Qc D cA ad base L xs (rs_Q h K V)) ((rs_Bs ys).map (am_cv ad)).toArray s 1 6 (am_A base)) (R := am_rm 30 1 6) (lim := 175) (rt := some .int) (ini := false) (E := fun pc lv st h' => pc = 9 ∧ lv = lv_args 0 (rs_Bs ys) ∧ st = rs_st ys ∧ h' = h) (Q := fun _ _ => False) F hC0 ⟨rs_rm.1.1, rs_rm.1.2⟩ ⟨by show 1 ≤ 30; omega, by show 20 ≤ 1200; omega⟩ (fun q => by cases q) rs_rR_at ?_ (fun _ _ _ _ _ _ _ q => q.elim) 0 (lv_args 0 (rs_Bs ys)) [] h s.heap [] _ (rs_pre ⟨rfl, rfl, rfl, rfl⟩) ⟨hP, va_S.rf, hro, hwf.1, by rw [h175]; exact Nat.le_refl _, fun z => absurd z (by decide)⟩ hl
  · have z1 : am_ce 175 h = 0 := (rs_sc h175).1
    have z2 : am_sc 175 h = 0 := (rs_sc h175).2.1
    rw [z1, z2] at key
    exact key
  · intro pc lv st h' H locs ls hx hI hl'
    obtain ⟨rfl, rfl, rfl, rfl⟩ := hx
    have z1 : am_ce 175 h' = 0 := (rs_sc h175).1
    have z2 : am_sc 175 h' = 0 := (rs_sc h175).2.1
    rw [z1, z2]
    obtain ⟨v1, v2, v3, v4, v5, v6, v7, v8, v9, v10⟩ := am_vls_at rs_vl
    obtain ⟨C, T9, N, e1, e2, e3, e4, e5, ty, e6, e7, e8⟩ := am_ci_ok 10 v5
    have ho : am_so h' 0 = some (10, 0) := (ag_so_ok (D := ag_DD) (h := h') (o := 0) (e := (10, 0)) ag_DD_sh h175 (by decide +kernel)).1
    have hG2 : GoodIn am_gw (wsV "MistCantonLaw" 7 (am_cn 10) (am_y 168) (am_ws 168)) := am_good_in (fun w hw => by
      unfold wsV at hw
      rcases List.mem_append.mp hw with q | q
      · simp only [List.mem_cons, List.not_mem_nil, or_false] at q
        rcases q with rfl | rfl | rfl | rfl
        · exact am_gw_ml rs_ml v10
        · exact am_gw_in v1
        · rw [v4]; exact am_gw_se v2
        · rw [v4]; exact am_gw_ii v6
      · exact am_ws_in v7 w q)
    have hwf' : am_wf base h' H := ⟨hI.2.2.2.1, fun z => absurd z (by rw [h175, am_shl_len]; decide)⟩
    have hrun := vx_runV (p := p) (e := e) (below := below) (meth := meth) (locs := locs) (cells := 0) (slots := 0) (g := F0 m 9 ls ((rs_st ys).map (am_cv ad))) (As := [.int (ys 1), .int (ys 2), .int (ys 3), .int (ys 4)]) (rest := [.int (Int32.ofInt 0), .ref (ad 174)]) (b := ad 0) (cc := method_3_code) (nL := 7) ⟨B.exec, B.bytes, hml, hown, hgw⟩ (rs_vMet (D := D) (cA := cA) (h := h') hl0 hG h175 hCX) (cwV (R := am_rm 30 1 6) 4 hgw hG2 rfl rfl rfl ⟨v4.symm, v9.1, v9.2, v3⟩ ⟨by show 20 + 1 ≤ 30; omega, rs_nl v8⟩) ⟨rs_Pc.blind, by rw [e3]; exact va_recv hE.1 hI.1 e1 ((am_cc_at ho).trans (by rw [am_cell_obj v5])), fun U hU hW => ⟨⟨rfl, hE.warm hW (fun x9 g9 g8 => by rw [hU]; exact hI.2.1.2.1 x9 g9 g8) (Nat.lt_of_lt_of_le hG.2.2.1 hbase) (fun q => absurd hG.2.2.1 (Nat.not_lt.mpr q)), by rw [hU]; exact Nat.le_trans hbase hI.2.1.1, by rw [hU]; exact hI.1, hI.2.2.1, by rw [hU]; exact hwf'⟩, hZ.warm hW (by rw [hU]; exact hI.2.1.2.1)⟩⟩ rfl rfl hl'.1 rfl (lv_room (Nat.le_of_ble_eq_true rfl)) rs_dR.1 ⟨by show 0 + 1 ≤ 1; omega, by show 0 + 6 ≤ 6; omega⟩
    intro T hT X
    rcases hrun T hT X with ⟨v, st₀, t, T', Lc, h0, X', hL, g1, g2, ⟨⟨v', h2, hv, ⟨hK, hv2, hr⟩, hP2, hro2, hwf2⟩, hz, hk⟩, st⟩ | ⟨q, st₀, t, T', Lc, E, ce, h0, X', hL, g1, g2, ⟨hEq, hK, ⟨h2, hr, hP2, hro2⟩, hz, hk⟩, hce, hcv, hcl, st⟩
    · rw [h0] at hz hk
      subst hv2
      cases hv
      have hS2 : va_S (am_A base) s.heap T'.heap (locs ++ Lc) := ⟨Nat.le_trans hI.2.1.1 (by rw [g1]; exact hz), fun q h1 h2 => by rw [g1, hk q (Nat.lt_of_lt_of_le h1 hI.2.1.1) h2]; exact hI.2.1.2.1 q h1 h2, fun q hq => by
        rcases List.mem_append.mp hq with h | h
        · exact hI.2.1.2.2 q h
        · exact hL q h⟩
      have h275 : h2.2.2.2.2 = 175 := by rw [hr]; exact h175
      have hso : am_so h2 174 = some (14, 1) := (ag_so_ok (D := ag_DD) (h := h2) (o := 174) (e := (14, 1)) ag_DD_sh h275 (by decide +kernel)).1
      have key1 := am_X_sound (p := p) (e := e) (below := below) (meth := meth) (Qw := MQ below (am_Qc D cA ad base L xs (rs_Q h' K V)) ((rs_Bs ys).map (am_cv ad)).toArray s 1 6 (am_A base)) (R := am_rm 30 1 6) (lim := 175) (rt := some .int) (ini := false) (E := fun _ _ _ _ => False) (Q := rs_Q h' K V) F1 hC0 ⟨rs_rm.2.1, rs_rm.2.2⟩ ⟨by show 1 ≤ 30; omega, by show 20 ≤ 1200; omega⟩ (fun q => by cases q) rs_rR_at (fun _ _ _ _ _ _ _ q => q.elim) ?_ 12 (lv_args 0 (rs_Bs ys)) [.int (Int32.ofInt V), .int (Int32.ofInt 0), .ref 174] h2 T'.heap (locs ++ Lc) ls (rs_post hso (Or.inr ⟨hK, rfl, by rw [hr]⟩)) ⟨by rw [g1]; exact hP2, hS2, hro2, hwf2, by rw [h275]; exact Nat.le_refl _, fun _ => by rw [h275, am_shl_len]⟩ hl'
      · have z3 : am_ce 1175 h2 = 0 + 1 := (rs_sc h275).2.2.1
        have z4 : am_sc 1175 h2 = 0 + 6 := (rs_sc h275).2.2.2
        rw [z3, z4] at key1
        obtain ⟨t2, a1, b1⟩ := key1 T' rfl X'
        exact ⟨t2, st t2 a1, b1⟩
      · intro v h3 H3 locs3 pc ls3 st3 hQ hI3 hrk
        have h375 : h3.2.2.2.2 = 175 := by
          rcases hQ with hQ | hQ
          · rw [hQ.2.2]; exact h175
          · rw [hQ.2.2]; exact h175
        have z3 : am_ce 1175 h3 = 1 := (rs_sc h375).2.2.1
        have z4 : am_sc 1175 h3 = 6 := (rs_sc h375).2.2.2
        rw [z3, z4]
        rcases hrk with ⟨x, h1, rfl, hd, ty, h4, h5⟩ | ⟨x, h1, -⟩ | ⟨h1, -⟩
        · exact W.zret B.exec B.bytes (B.returns.trans h4) h5 (fun t ht _ => ⟨⟨v, h3, by rw [h1]; rfl, hQ, by rw [ht]; exact hI3.1, hI3.2.2.1, hI3.2.2.2.1⟩, hI3.2.1.F ht⟩) hI3.2.1.2.2 hd (hlocks := B.notSynchronized)
        · exfalso
          rcases hQ with hQ | hQ <;> rw [h1] at hQ <;> cases hQ.2.1
        · exfalso
          rcases hQ with hQ | hQ <;> rw [h1] at hQ <;> cases hQ.2.1
    · rw [h0] at hz hk
      subst hEq
      have hS2 : va_S (am_A base) s.heap T'.heap (locs ++ Lc) := ⟨Nat.le_trans hI.2.1.1 (by rw [g1]; exact hz), fun q h1 h2 => by rw [g1, hk q (Nat.lt_of_lt_of_le h1 hI.2.1.1) h2]; exact hI.2.1.2.1 q h1 h2, fun q hq => by
        rcases List.mem_append.mp hq with h | h
        · exact hI.2.1.2.2 q h
        · exact hL q h⟩
      have h275 : h2.2.2.2.2 = 175 := by rw [hr]; exact h175
      have kx : vx_W p l e (am_rm 30 1 6) s m ((rs_Bs ys).map (am_cv ad)).toArray below meth c T'.heap (locs ++ Lc) (0 + 1) (0 + 6) (MQ below (am_Qc D cA ad base L xs (rs_Q h' K V)) ((rs_Bs ys).map (am_cv ad)).toArray s 1 6 (am_A base)) (F0 m 9 ls [.int (Int32.ofInt 0), .ref (ad 174)]) q := by
        refine vx_catch (own := "MistCantonLaw") (name := rs_nse) (E := rs_nse) hown [] ⟨0, 14, 17, 13⟩ [] htab (fun z hz => nomatch hz) (by decide) (by decide) (hgw _ (rs_w4_at (by simp))) (va_Nw.use rfl hZ.2.2.2.2.2.2.2) (by rw [g1]; exact hce) hcv hcl ?_
        refine lv_astore (i := 6) (nL := 7) B.exec B.bytes rs_dR.2.1 hl' (by decide) rfl (fun ls' hl2 => ?_)
        refine lv_iconst (v := 1) B.exec B.bytes rs_dR.2.2.1 rfl ?_
        exact W.zret B.exec B.bytes B.returns rfl (fun t ht _ => ⟨⟨some (.int 1), h2, rfl, Or.inl ⟨hK, rfl, hr⟩, by rw [ht, g1]; exact hP2, hro2, by rw [h275, am_shl_len]; exact Nat.le_refl _⟩, hS2.F ht⟩) hS2.2.2 rs_dR.2.2.2 (hlocks := B.notSynchronized)
      obtain ⟨t2, a1, b1⟩ := kx T' rfl X'
      exact ⟨t2, st.trans a1, b1⟩
set_option maxHeartbeats 4000000 in
theorem rs_Z0 {s : State} {b : Nat} (hts : ∀ w ∈ lw_tbl, w.before #[Value.ref b] s = true) (hgv : (Jvm.Cond.and given_1 narrow_1).before #[Value.ref b] s = true) : rs_Z s.heap.size s s.heap := by
  have hs := flat_of_before _ hgv
  have hA : ∀ a : Nat, a < s.heap.size → ¬ am_A s.heap.size a := fun a h q => absurd h (Nat.not_lt.mpr q)
  have hi : (Cond.initialized Bundle.tN).before #[Value.ref b] s = true := hts _ (by decide +kernel)
  have x1 : (Cond.exactly (.string "MistCanton" 314) "java/lang/String").before #[Value.ref b] s = true := hs _ (by decide +kernel)
  have x2 : (Cond.exactly (.string "MistCanton" 323) "java/lang/String").before #[Value.ref b] s = true := hs _ (by decide +kernel)
  obtain ⟨a1, -, -, -, q1, -⟩ := Cond.exactly_spec x1
  obtain ⟨a2, -, -, -, q2, -⟩ := Cond.exactly_spec x2
  exact ⟨vx_Zqof (hts _ (by decide +kernel)) hi (hs _ (by decide +kernel)) hA, vx_Zqof (hts _ (by decide +kernel)) hi (hs _ (by decide +kernel)) hA, ⟨a1, vk_R.of (hts _ (by decide +kernel)) q1⟩, ⟨a2, vk_R.of (hts _ (by decide +kernel)) q2⟩, va_Nw.of rfl (hts _ (by decide +kernel)), va_Nw.of rfl (hts _ (by decide +kernel)), va_Nw.of rfl (hts _ (by decide +kernel)), va_Nw.of rfl (hts _ (by decide +kernel))⟩
end
section
/-! rests OF BOTH: the same answer, the same throw, in any state -/
theorem iv_wL {h : am_H} (hI : iv_I h) (x : Int64) : iv_I (am_wL h 174 0 x) := by
  obtain ⟨N, hN, ⟨a, ⟨b1, b2, b3⟩, c, d⟩, hX, ha, hc⟩ := hI
  exact ⟨N, hN, ⟨a, ⟨b1, fun o k => ag_i64r _, b3⟩, c, d⟩, hX, ha, hc⟩
theorem rs_K01 : rs_bx.all (fun q => Nat.beq q.1 0 || Nat.beq q.1 1) = true := by decide +kernel
theorem rs_both (ys : Nat → Int32) : ∃ (K : Nat) (V : Int), (K = 0 ∨ K = 1) ∧
    (∀ h, iv_I h → am_X (am_call am_cod 9) 9 175 (some .int) (am_find am_r168) (fun pc _ st h' => K = 1 ∧ (pc = 30 ∨ pc = 144) ∧ st = [] ∧ h' = h) (fun v h' => K = 0 ∧ v = some (.int (Int32.ofInt V)) ∧ h' = h) 0 (lv_args 0 (rs_As ys)) [] h) ∧
    (∀ h, iv_I h → am_call am_cod 60 286 [.ref 154, .int (ys 1), .int (ys 2), .int (ys 3), .int (ys 4)] h (fun v h' => iv_I h' ∧ ag_fr [(154, 0, 0)] h h' ∧ v = some (.int (Int32.ofInt V)) ∧ h'.1 154 0 = Int32.ofInt K)) := by
  obtain ⟨q, hq, hat⟩ := rs_cov ys
  have hK := List.all_eq_true.mp rs_K01 q hq
  refine ⟨q.1, q.2.1, ?_, fun h hI => rc_run hq hat hI, fun h hI => rq_call hq hat hI⟩
  rcases Bool.or_eq_true_iff.mp hK with z | z
  · exact Or.inl (Nat.eq_of_beq_eq_true z)
  · exact Or.inr (Nat.eq_of_beq_eq_true z)
/-- what the reference's calls leave alone: the answer that the class gave -/
theorem rs_keepL {h h' : am_H} (hf : ag_fr [(154, 0, 0)] h h') : h'.2.1 174 0 = h.2.1 174 0 := (hf.2 174 0 (by decide)).2.1
end
section
/-! WHAT STANDS AT THE LAW'S ENTRY -/
theorem am_nl_ok : am_nl.all (fun q => decide (Cond.methodLinkNest q.1 q.2.1 (am_y q.2.2) "MistCanton" ∈ lw_tbl)) = true := by decide +kernel
theorem am_ao_ok : Cond.arrayOver (.object "MistCanton$Mark") ∈ lw_tbl ∧ Cond.arrayOver (.object "MistCanton$State") ∈ lw_tbl := by decide +kernel
theorem lw_gw {args : Array Value} {s : State} (hts : ∀ w ∈ lw_tbl, w.before args s = true) : ∀ w ∈ am_gw, w.before args s = true := fun w hw => hts w (List.mem_filter.mp hw).1
theorem lw_arr {args : Array Value} {s : State} {ty : FieldType} (hp : ∀ C, ty ≠ .object C) (h : (Cond.arrayClass ty).before args s = true) : ∃ cA : ClassId, ArrOfT s cA ty ∧ va_RA s cA ty := by
  obtain ⟨cA, kA, comp, h1, h2, h3⟩ := Cond.arrayClass_spec h
  refine ⟨cA, fun n z => ⟨fun k h => (by cases h), kA, h2, comp, h3⟩, ?_⟩
  cases ty with
  | object C => exact absurd rfl (hp C)
  | _ => exact h1
theorem lw_arrO {args : Array Value} {s : State} {C : String} (h : (Cond.arrayOver (.object C)).before args s = true) : ∃ cA : ClassId, ArrOfT s cA (.object C) ∧ va_RA s cA (.object C) := by
  obtain ⟨comp, cA, kA, h1, h2, h3, h4, h5⟩ := Cond.arrayOver_spec h
  exact ⟨cA, fun n z => ⟨fun k h => (by cases h), kA, h3, comp, h4⟩, kA, comp, h3, h4, h1, h5⟩
def lw_fl : List Cond := flatC (Jvm.Cond.and given_1 narrow_1)
def lw_tm (i : Nat) : Term := match am_stt[i]? with
  | some q => .string q.1 q.2.1
  | none => .string "" 0
def lw_vl (i : Nat) : Term := .field (lw_tm i) "java/lang/String" "value" "[B"
/-- the conditions of each String, in the Statement's order -/
def lw_wn (i : Nat) : List Cond := [Cond.exactly (lw_tm i) "java/lang/String", Cond.eq (.field (lw_tm i) "java/lang/String" "coder" "B") (.int 0), Cond.arrayOf (lw_vl i) .byte, Cond.eq (.length (lw_vl i)) (.int (Int32.ofNat (am_sln.getD i 0)))] ++ (List.range (am_sln.getD i 0)).map (fun j => Cond.eq (.elem (lw_vl i) (.int (Int32.ofNat j))) (.int ((am_sby.getD i []).getD j 0)))
def lw_sub : List Cond → List Cond → Bool
  | ws, [] => ws.isEmpty
  | ws, c :: cs => match ws with
    | [] => true
    | w :: ws' => bif decide (w = c) then lw_sub ws' cs else lw_sub (w :: ws') cs
theorem lw_sub_ok : ∀ (cs ws : List Cond), lw_sub ws cs = true → ∀ w ∈ ws, w ∈ cs
  | [], ws, h, w, hw => by
    have e : ws = [] := List.isEmpty_iff.mp h
    rw [e] at hw
    exact absurd hw List.not_mem_nil
  | c :: cs, [], _, w, hw => absurd hw List.not_mem_nil
  | c :: cs, w0 :: ws', h, w, hw => by
    have h : (bif decide (w0 = c) then lw_sub ws' cs else lw_sub (w0 :: ws') cs) = true := h
    cases hd : decide (w0 = c) with
    | true =>
      rw [hd] at h
      rcases List.mem_cons.mp hw with z | z
      · rw [z, of_decide_eq_true hd]
        exact List.mem_cons_self
      · exact List.mem_cons_of_mem _ (lw_sub_ok cs ws' h w z)
    | false =>
      rw [hd] at h
      exact List.mem_cons_of_mem _ (lw_sub_ok cs (w0 :: ws') h w hw)
theorem lw_q1 : lw_sub ((List.range 26).flatMap lw_wn) lw_fl = true := by decide +kernel
theorem lw_wm {i : Nat} (hi : i < 26) {w : Cond} (hw : w ∈ lw_wn i) : w ∈ lw_fl := lw_sub_ok _ _ lw_q1 w (List.mem_flatMap.mpr ⟨i, List.mem_range.mpr hi, hw⟩)
theorem lw_q6 : am_stt.all (fun q => decide (Cond.stringRef q.1 q.2.1 q.2.2 ∈ lw_tbl)) = true := by decide +kernel
theorem lw_q7 : am_stt.length = 26 := by decide +kernel
theorem lw_q8 : am_sln.all (fun n => Nat.ble n 1000) = true := by decide +kernel
theorem lw_str {s : State} {b : Nat} (hgv : (Jvm.Cond.and given_1 narrow_1).before #[Value.ref b] s = true) : ∃ adK adV : Nat → Nat, ∀ i, i < 26 → vk_S 1 [am_sln.getD i 0] [am_sby.getD i []] (fun _ => adK i) (fun _ => adV i) (fun q => s.heap.size ≤ q) s s.heap ∧ (lw_tm i).eval #[Value.ref b] s none [] s = some (.ref (adK i)) := by
  have hs : ∀ w ∈ lw_fl, w.before #[Value.ref b] s = true := flat_of_before _ hgv
  have hA : ∀ a : Nat, a < s.heap.size → ¬ (fun q => s.heap.size ≤ q) a := fun a h q => absurd h (Nat.not_lt.mpr q)
  have h0 : ∀ i : Nat, ∃ q : Nat × Nat, i < 26 → vk_S 1 [am_sln.getD i 0] [am_sby.getD i []] (fun _ => q.1) (fun _ => q.2) (fun q => s.heap.size ≤ q) s s.heap ∧ (lw_tm i).eval #[Value.ref b] s none [] s = some (.ref q.1) := by
    intro i
    by_cases hi : i < 26
    · have e0 : ∀ k : Nat, k < 1 → k = 0 := fun k hk => by omega
      obtain ⟨adK, adV, h1, h2⟩ := vk_Sof (args := #[Value.ref b]) (s := s) (N := 1) (tm := fun _ => lw_tm i) (len := [am_sln.getD i 0]) (byt := [am_sby.getD i []]) (A := fun q => s.heap.size ≤ q)
        (fun k hk => by
          have e := e0 k hk
          subst e
          show am_sln.getD i 0 < 2 ^ 31
          have := am_sln_le i
          omega)
        (fun k hk => hs _ (lw_wm hi (List.mem_append_left _ List.mem_cons_self)))
        (fun k hk => hs _ (lw_wm hi (List.mem_append_left _ (List.mem_cons_of_mem _ List.mem_cons_self))))
        (fun k hk => hs _ (lw_wm hi (List.mem_append_left _ (List.mem_cons_of_mem _ (List.mem_cons_of_mem _ List.mem_cons_self)))))
        (fun k hk => by
          have e := e0 k hk
          subst e
          exact hs _ (lw_wm hi (List.mem_append_left _ (List.mem_cons_of_mem _ (List.mem_cons_of_mem _ (List.mem_cons_of_mem _ List.mem_cons_self))))))
        (fun k hk j hj => by
          have e := e0 k hk
          subst e
          exact hs _ (lw_wm hi (List.mem_append_right _ (List.mem_map.mpr ⟨j, List.mem_range.mpr hj, rfl⟩))))
        (fun k k' hk hk' hne => absurd ((e0 k hk).trans (e0 k' hk').symm) hne) hA
      refine ⟨(adK 0, adV 0), fun _ => ⟨⟨fun k hk => ?_, fun k k' hk hk' _ => (e0 k hk).trans (e0 k' hk').symm⟩, h2 0 (by decide)⟩⟩
      have e := e0 k hk
      subst e
      exact h1.1 0 (by decide)
    · exact ⟨(0, 0), fun h => absurd h hi⟩
  obtain ⟨f, hf⟩ := Classical.axiomOfChoice h0
  exact ⟨fun i => (f i).1, fun i => (f i).2, fun i hi => hf i hi⟩
theorem lw_rm {s : State} {b i : Nat} {own tx : String} {k a : Nat} (hts : ∀ w ∈ lw_tbl, w.before #[Value.ref b] s = true) (hk : am_stt[i]? = some (own, k, tx)) (he : (lw_tm i).eval #[Value.ref b] s none [] s = some (.ref a)) : vk_R own k tx a s := by
  have h1 := hts _ (of_decide_eq_true (List.all_eq_true.mp lw_q6 _ (List.mem_of_getElem? hk)))
  unfold lw_tm at he
  rw [hk] at he
  exact vk_R.of h1 he
def lw_ad (adK adV : Nat → Nat) (t z b : Nat) (o : Nat) : Nat := if o = 3000000 then b else if o = 6000000 then t else if 5000000 ≤ o then adV (o - 5000000) else if 4000000 ≤ o then adK (o - 4000000) else z + o
theorem lw_ad4 (adK adV : Nat → Nat) (t z b : Nat) {i : Nat} (hi : i < 26) : lw_ad adK adV t z b (4000000 + i) = adK i := by
  unfold lw_ad
  rw [if_neg (by omega), if_neg (by omega), if_neg (by omega), if_pos (by omega), Nat.add_sub_cancel_left]
theorem lw_ad5 (adK adV : Nat → Nat) (t z b : Nat) {i : Nat} (hi : i < 26) : lw_ad adK adV t z b (5000000 + i) = adV i := by
  unfold lw_ad
  rw [if_neg (by omega), if_neg (by omega), if_pos (by omega), Nat.add_sub_cancel_left]
theorem lw_ad6 (adK adV : Nat → Nat) (t z b : Nat) : lw_ad adK adV t z b 6000000 = t := by
  unfold lw_ad
  rw [if_neg (by omega), if_pos rfl]
theorem lw_ad0 (adK adV : Nat → Nat) (t z b : Nat) {o : Nat} (ho : o < 175) : lw_ad adK adV t z b o = z + o := by
  unfold lw_ad
  rw [if_neg (by omega), if_neg (by omega), if_neg (by omega), if_neg (by omega)]
set_option maxRecDepth 20000 in
/-- what stays, at the law's entry -/
theorem lw_EE {s : State} {b L : Nat} {xs : Nat → Int32} (hts : ∀ w ∈ lw_tbl, w.before #[Value.ref b] s = true) (hgv : (Jvm.Cond.and given_1 narrow_1).before #[Value.ref b] s = true) (hX : va_X b L xs s s.heap) (hbl : b < s.heap.size) (hL : L < 2 ^ 31) : ∃ (D : va_G) (cA : Nat → ClassId) (ad : Nat → Nat), am_E D cA ad s.heap.size b L xs s ∧ am_G ad s.heap.size b L := by
  have hgw := lw_gw hts
  have hs : ∀ w ∈ lw_fl, w.before #[Value.ref b] s = true := flat_of_before _ hgv
  have hA : ∀ a : Nat, a < s.heap.size → ¬ (fun q => s.heap.size ≤ q) a := fun a h q => absurd h (Nat.not_lt.mpr q)
  have hk : ∀ ci : Nat, ∃ q : ClassId × (Nat → Nat), ∀ r : vw_C, vwCl[ci]? = some r → u_Kn s r.1 r.2.1 r.2.2 q.1 q.2 := by
    intro ci
    by_cases hci : ci < 12
    · obtain ⟨C, T, N, e1, e2, e3, e4, e5, -⟩ := am_ci_ok ci hci
      have q := List.all_eq_true.mp am_iaw_ok ci (List.mem_range.mpr hci)
      rw [e2, e3] at q
      obtain ⟨cC, iS, hK⟩ := u_known hgw e5 (hgw _ (am_gw_ia (of_decide_eq_true q)))
      refine ⟨(cC, iS), fun r hr => ?_⟩
      cases e1.symm.trans hr
      exact hK
    · refine ⟨(0, fun _ => 0), fun r hr => ?_⟩
      have := (List.getElem?_eq_some_iff.mp hr).1
      exact absurd this hci
  obtain ⟨f, hf⟩ := Classical.axiomOfChoice hk
  obtain ⟨a12, p12⟩ := lw_arr (by intro C h; cases h) (hts _ am_ac_char)
  obtain ⟨a13, p13⟩ := lw_arr (by intro C h; cases h) (hts _ am_ac_int)
  obtain ⟨a14, p14⟩ := lw_arr (by intro C h; cases h) (hts _ am_ac_long)
  obtain ⟨a15, p15⟩ := lw_arr (by intro C h; cases h) (hts _ am_ac_boolean)
  obtain ⟨a16, p16⟩ := lw_arrO (hts _ am_ao_ok.1)
  obtain ⟨a17, p17⟩ := lw_arrO (hts _ am_ao_ok.2)
  obtain ⟨adK, adV, hst⟩ := lw_str hgv
  have hzc : va_Z "java/lang/String" "COMPACT_STRINGS" "Z" (.int 1) (fun q => s.heap.size ≤ q) s s.heap := va_Zof (hts _ (by decide +kernel)) (hts _ (by decide +kernel)) (va_eqt (hs _ (by decide +kernel))) hA
  have hzf : ∃ t : Nat, va_Z "jdk/internal/util/Preconditions" "SIOOBE_FORMATTER" "Ljava/util/function/BiFunction;" .null (fun q => s.heap.size ≤ q) s s.heap ∨ va_Z "jdk/internal/util/Preconditions" "SIOOBE_FORMATTER" "Ljava/util/function/BiFunction;" (.ref t) (fun q => s.heap.size ≤ q) s s.heap := by
    rcases va_Zqof (C := "jdk/internal/util/Preconditions") (n := "SIOOBE_FORMATTER") (d := "Ljava/util/function/BiFunction;") (A := fun q => s.heap.size ≤ q) (hts _ (by decide +kernel)) (hts _ (by decide +kernel)) (hs _ (by decide +kernel)) hA with z | ⟨t, z⟩
    · exact ⟨0, Or.inl z⟩
    · exact ⟨t, Or.inr z⟩
  obtain ⟨t, hzf⟩ := hzf
  refine ⟨(fun ci => (f ci).1, fun ci => (f ci).2), fun t => if t = 12 then a12 else if t = 13 then a13 else if t = 14 then a14 else if t = 15 then a15 else if t = 16 then a16 else a17, lw_ad adK adV t s.heap.size b, ⟨⟨fun c q hq => hf c q hq, fun k q hq => ?_⟩, fun k i n a hk => ?_, hX, va_AO.of (hts _ am_ao_ok.1), va_AO.of (hts _ am_ao_ok.2), fun i hi => ?_, fun i k own tx hk => ?_, hzc, ?_⟩, ⟨fun o ho => ?_, if_pos rfl, hbl, hL⟩⟩
  · match k, hq with
    | 0, hq => cases hq; exact p12
    | 1, hq => cases hq; exact p13
    | 2, hq => cases hq; exact p14
    | 3, hq => cases hq; exact p15
    | 4, hq => cases hq; exact p16
    | 5, hq => cases hq; exact p17
    | k + 6, hq => simp [am_tys] at hq
  · have q : decide (Cond.methodLinkNest a i (am_y n) "MistCanton" ∈ lw_tbl) = true := List.all_eq_true.mp am_nl_ok (a, i, n) (List.mem_of_getElem? hk)
    have q2 := of_decide_eq_true q
    have q3 := hts _ q2
    exact va_Nw.of rfl q3
  · rw [lw_ad4 _ _ _ _ _ hi, lw_ad5 _ _ _ _ _ hi]
    exact (hst i hi).1
  · have hi : i < 26 := by
      have := (List.getElem?_eq_some_iff.mp hk).1
      rw [lw_q7] at this
      exact this
    rw [lw_ad4 _ _ _ _ _ hi]
    exact lw_rm hts hk (hst i hi).2
  · rw [lw_ad6]
    exact hzf
  · rw [am_shl_len] at ho
    exact lw_ad0 _ _ _ _ _ ho
end
section
/-! THE REFERENCE'S PARSER BY HAND: its state between two steps: N tokens, a of them taken, c codes laid -/
def pz_P (N a c : Nat) (h : am_H) : Prop := ag_WH ag_DD N h ∧ xw_X h ∧ N ≤ 1000 ∧ h.1 154 7 = nI a ∧ a ≤ N ∧ h.1 154 13 = nI c ∧ c ≤ 1100
def pz_M : ag_M := [(154, 7, 8), (154, 13, 13), (161, 1100, 2199), (162, 1100, 2199)]
/-- one more of a fault, or of the codes that make k -/
def pz_K (k : Nat) (h : am_H) : Prop := ¬ h.1 154 8 = 0 ∨ xf_P 0 k h
def pz_S (nL : Nat) (rt : Option FieldType) (rows : List (Nat × am_R)) (d : Nat) (Q : am_Q) : Nat → am_V → List Value → am_H → Prop := am_X (am_call am_cod d) nL 175 rt (am_find rows) (fun _ _ _ _ => False) (fun v h' => h'.2.2.2.2 = 175 ∧ Q v h')
theorem pz_call {n d nL : Nat} {rt : Option FieldType} {rows : List (Nat × am_R)} {args : List Value} {h : am_H} {Q : am_Q} (hn : am_nL n = nL) (hr : am_rt n = rt) (hal : am_al n = 0) (hc : am_cod n = am_find rows) (h175 : h.2.2.2.2 = 175) (hlen : (lg_sl args).length ≤ nL) (k : pz_S nL rt rows d Q 0 (lv_args 0 args) [] h) : am_call am_cod (d + 1) n args h Q := by
  refine Or.inr ⟨by rw [hn]; exact hlen, ?_⟩
  rw [hn, hr, hal, hc, h175]
  exact k
variable {N a c : Nat} {h : am_H}
theorem pz_175 (hP : pz_P N a c h) : h.2.2.2.2 = 175 := hP.1.1
theorem pz_so (hP : pz_P N a c h) {o : Nat} {e : Nat × Nat} (he : ag_so ag_DD o = some e) : am_so h o = some e ∧ am_sh h o = some e := ag_so_ok (D := ag_DD) ag_DD_sh hP.1.1 he
theorem pz_154 (hP : pz_P N a c h) : am_sh h 154 = some (11, 0) := (pz_so hP (by decide +kernel)).2
theorem pz_155 (hP : pz_P N a c h) : am_sh h 155 = some (13, 1000) := (pz_so hP (by decide +kernel)).2
theorem pz_w155 (hP : pz_P N a c h) : am_so h 155 = some (13, 1000) := (pz_so hP (by decide +kernel)).1
theorem pz_156 (hP : pz_P N a c h) : am_sh h 156 = some (13, 1002) := (pz_so hP (by decide +kernel)).2
theorem pz_w156 (hP : pz_P N a c h) : am_so h 156 = some (13, 1002) := (pz_so hP (by decide +kernel)).1
theorem pz_157 (hP : pz_P N a c h) : am_sh h 157 = some (13, 1002) := (pz_so hP (by decide +kernel)).2
theorem pz_w157 (hP : pz_P N a c h) : am_so h 157 = some (13, 1002) := (pz_so hP (by decide +kernel)).1
theorem pz_158 (hP : pz_P N a c h) : am_sh h 158 = some (14, 1002) := (pz_so hP (by decide +kernel)).2
theorem pz_w158 (hP : pz_P N a c h) : am_so h 158 = some (14, 1002) := (pz_so hP (by decide +kernel)).1
theorem pz_159 (hP : pz_P N a c h) : am_sh h 159 = some (14, 21) := (pz_so hP (by decide +kernel)).2
theorem pz_w159 (hP : pz_P N a c h) : am_so h 159 = some (14, 21) := (pz_so hP (by decide +kernel)).1
theorem pz_160 (hP : pz_P N a c h) : am_sh h 160 = some (13, 80) := (pz_so hP (by decide +kernel)).2
theorem pz_w160 (hP : pz_P N a c h) : am_so h 160 = some (13, 80) := (pz_so hP (by decide +kernel)).1
theorem pz_161 (hP : pz_P N a c h) : am_sh h 161 = some (13, 2200) := (pz_so hP (by decide +kernel)).2
theorem pz_w161 (hP : pz_P N a c h) : am_so h 161 = some (13, 2200) := (pz_so hP (by decide +kernel)).1
theorem pz_162 (hP : pz_P N a c h) : am_sh h 162 = some (13, 2200) := (pz_so hP (by decide +kernel)).2
theorem pz_w162 (hP : pz_P N a c h) : am_so h 162 = some (13, 2200) := (pz_so hP (by decide +kernel)).1
theorem pz_163 (hP : pz_P N a c h) : am_sh h 163 = some (14, 11) := (pz_so hP (by decide +kernel)).2
theorem pz_w163 (hP : pz_P N a c h) : am_so h 163 = some (14, 11) := (pz_so hP (by decide +kernel)).1
theorem pz_164 (hP : pz_P N a c h) : am_sh h 164 = some (14, 11) := (pz_so hP (by decide +kernel)).2
theorem pz_w164 (hP : pz_P N a c h) : am_so h 164 = some (14, 11) := (pz_so hP (by decide +kernel)).1
theorem pz_165 (hP : pz_P N a c h) : am_sh h 165 = some (13, 11) := (pz_so hP (by decide +kernel)).2
theorem pz_w165 (hP : pz_P N a c h) : am_so h 165 = some (13, 11) := (pz_so hP (by decide +kernel)).1
theorem pz_166 (hP : pz_P N a c h) : am_sh h 166 = some (13, 11) := (pz_so hP (by decide +kernel)).2
theorem pz_w166 (hP : pz_P N a c h) : am_so h 166 = some (13, 11) := (pz_so hP (by decide +kernel)).1
theorem pz_167 (hP : pz_P N a c h) : am_sh h 167 = some (13, 250) := (pz_so hP (by decide +kernel)).2
theorem pz_w167 (hP : pz_P N a c h) : am_so h 167 = some (13, 250) := (pz_so hP (by decide +kernel)).1
theorem pz_168 (hP : pz_P N a c h) : am_sh h 168 = some (13, 4) := (pz_so hP (by decide +kernel)).2
theorem pz_w168 (hP : pz_P N a c h) : am_so h 168 = some (13, 4) := (pz_so hP (by decide +kernel)).1
theorem pz_169 (hP : pz_P N a c h) : am_sh h 169 = some (13, 1100) := (pz_so hP (by decide +kernel)).2
theorem pz_w169 (hP : pz_P N a c h) : am_so h 169 = some (13, 1100) := (pz_so hP (by decide +kernel)).1
theorem pz_refs : ag_lk ag_reft 154 1 = some 155 ∧ ag_lk ag_reft 154 4 = some 156 ∧ ag_lk ag_reft 154 5 = some 157 ∧ ag_lk ag_reft 154 6 = some 158 ∧ ag_lk ag_reft 154 9 = some 159 ∧ ag_lk ag_reft 154 10 = some 160 ∧ ag_lk ag_reft 154 11 = some 161 ∧ ag_lk ag_reft 154 12 = some 162 ∧ ag_lk ag_reft 154 14 = some 163 ∧ ag_lk ag_reft 154 15 = some 164 ∧ ag_lk ag_reft 154 16 = some 165 ∧ ag_lk ag_reft 154 17 = some 166 ∧ ag_lk ag_reft 154 21 = some 167 ∧ ag_lk ag_reft 154 22 = some 168 ∧ ag_lk ag_reft 154 23 = some 169 := by decide +kernel
theorem pz_r1 (hP : pz_P N a c h) : h.2.2.1 154 1 = some 155 := hP.1.2.1.2.2 154 1 155 pz_refs.1
theorem pz_r4 (hP : pz_P N a c h) : h.2.2.1 154 4 = some 156 := hP.1.2.1.2.2 154 4 156 pz_refs.2.1
theorem pz_r5 (hP : pz_P N a c h) : h.2.2.1 154 5 = some 157 := hP.1.2.1.2.2 154 5 157 pz_refs.2.2.1
theorem pz_r6 (hP : pz_P N a c h) : h.2.2.1 154 6 = some 158 := hP.1.2.1.2.2 154 6 158 pz_refs.2.2.2.1
theorem pz_r9 (hP : pz_P N a c h) : h.2.2.1 154 9 = some 159 := hP.1.2.1.2.2 154 9 159 pz_refs.2.2.2.2.1
theorem pz_r10 (hP : pz_P N a c h) : h.2.2.1 154 10 = some 160 := hP.1.2.1.2.2 154 10 160 pz_refs.2.2.2.2.2.1
theorem pz_r11 (hP : pz_P N a c h) : h.2.2.1 154 11 = some 161 := hP.1.2.1.2.2 154 11 161 pz_refs.2.2.2.2.2.2.1
theorem pz_r12 (hP : pz_P N a c h) : h.2.2.1 154 12 = some 162 := hP.1.2.1.2.2 154 12 162 pz_refs.2.2.2.2.2.2.2.1
theorem pz_r14 (hP : pz_P N a c h) : h.2.2.1 154 14 = some 163 := hP.1.2.1.2.2 154 14 163 pz_refs.2.2.2.2.2.2.2.2.1
theorem pz_r15 (hP : pz_P N a c h) : h.2.2.1 154 15 = some 164 := hP.1.2.1.2.2 154 15 164 pz_refs.2.2.2.2.2.2.2.2.2.1
theorem pz_r16 (hP : pz_P N a c h) : h.2.2.1 154 16 = some 165 := hP.1.2.1.2.2 154 16 165 pz_refs.2.2.2.2.2.2.2.2.2.2.1
theorem pz_r17 (hP : pz_P N a c h) : h.2.2.1 154 17 = some 166 := hP.1.2.1.2.2 154 17 166 pz_refs.2.2.2.2.2.2.2.2.2.2.2.1
theorem pz_r21 (hP : pz_P N a c h) : h.2.2.1 154 21 = some 167 := hP.1.2.1.2.2 154 21 167 pz_refs.2.2.2.2.2.2.2.2.2.2.2.2.1
theorem pz_r22 (hP : pz_P N a c h) : h.2.2.1 154 22 = some 168 := hP.1.2.1.2.2 154 22 168 pz_refs.2.2.2.2.2.2.2.2.2.2.2.2.2.1
theorem pz_r23 (hP : pz_P N a c h) : h.2.2.1 154 23 = some 169 := hP.1.2.1.2.2 154 23 169 pz_refs.2.2.2.2.2.2.2.2.2.2.2.2.2.2
theorem pz_rc (hP : pz_P N a c h) : am_rc h 154 11 := Or.inl ⟨by decide, pz_154 hP⟩
theorem pz_lim (hP : pz_P N a c h) {n : Nat} (hn : am_al n = 0) : h.2.2.2.2 + am_al n ≤ 175 := by
  rw [pz_175 hP, hn]
  exact Nat.le_refl _
theorem pz_same {o k : Nat} {v : Int32} (e : h.1 o k = v) : am_wI h o k v = h := by
  obtain ⟨i, r⟩ := h
  show ((fun a b => if a = o ∧ b = k then v else i a b), r) = (i, r)
  congr 1
  funext x y
  by_cases z : x = o ∧ y = k
  · rw [if_pos z, z.1, z.2]
    exact e.symm
  · rw [if_neg z]
/-- an int is written that keeps its interval -/
theorem pz_wG {o k : Nat} {v : Int32} (hG : ag_G ag_DD h) (hv : ∀ s ∈ ag_sg o, ag_seg s k v) : ag_G ag_DD (am_wI h o k v) := by
  refine ⟨fun o' s hs k' => ?_, hG.2.1, hG.2.2⟩
  show ag_seg s k' (if o' = o ∧ k' = k then v else h.1 o' k')
  by_cases z : o' = o ∧ k' = k
  · rw [if_pos z]
    obtain ⟨z1, z2⟩ := z
    subst z1
    subst z2
    exact hv s hs
  · rw [if_neg z]
    exact hG.1 o' s hs k'
theorem pz_wW {o k : Nat} {v : Int32} {N' : Int} (hW : ag_WH ag_DD N' h) (ho : ¬ o = 156) (hv : ∀ s ∈ ag_sg o, ag_seg s k v) : ag_WH ag_DD N' (am_wI h o k v) := by
  refine ⟨hW.1, pz_wG hW.2.1 hv, hW.2.2.1, ?_⟩
  show (if (156 : Nat) = o ∧ N'.toNat = k then v else h.1 156 N'.toNat) = 0
  rw [if_neg (fun z => ho z.1.symm)]
  exact hW.2.2.2
theorem pz_wX {o k : Nat} {v : Int32} (hX : xw_X h) (ho : ¬ ag_kp o k) : xw_X (am_wI h o k v) := by
  refine xw_Xk h _ (fun o' k' hk => ?_) hX
  show (if o' = o ∧ k' = k then v else h.1 o' k') = h.1 o' k'
  rw [if_neg (fun z => ho (by rw [← z.1, ← z.2]; exact hk))]
theorem pz_fr {o k : Nat} {v : Int32} {M : ag_M} (hm : ag_atM M o k = true) : ag_fr M h (am_wI h o k v) := by
  refine ⟨rfl, fun o' k' hk => ⟨?_, rfl, rfl⟩⟩
  show (if o' = o ∧ k' = k then v else h.1 o' k') = h.1 o' k'
  rw [if_neg (fun z => by rw [z.1, z.2, hm] at hk; cases hk)]
theorem pz_tr {h1 h2 : am_H} (f1 : ag_fr pz_M h h1) (f2 : ag_fr pz_M h1 h2) : ag_fr pz_M h h2 := f1.trans (by decide +kernel) f2
theorem pz_sg7 : (ag_sg 154).all (fun s => !(Nat.ble s.1 7 && Nat.ble 7 s.2.1) || (decide (s.2.2.2.2.1 ≤ 0) && decide (1000 ≤ s.2.2.2.2.2))) = true := by decide +kernel
theorem pz_sg8 : (ag_sg 154).all (fun s => !(Nat.ble s.1 8 && Nat.ble 8 s.2.1) || (decide (s.2.2.2.2.1 ≤ 0) && decide (16005 ≤ s.2.2.2.2.2))) = true := by decide +kernel
theorem pz_sg13 : (ag_sg 154).all (fun s => !(Nat.ble s.1 13 && Nat.ble 13 s.2.1) || (decide (s.2.2.2.2.1 ≤ 0) && decide (1100 ≤ s.2.2.2.2.2))) = true := by decide +kernel
theorem pz_sgv {o k : Nat} {lo hi : Int} {v : Int32} (hs : (ag_sg o).all (fun s => !(Nat.ble s.1 k && Nat.ble k s.2.1) || (decide (s.2.2.2.2.1 ≤ lo) && decide (hi ≤ s.2.2.2.2.2))) = true) (h1 : lo ≤ v.toInt) (h2 : v.toInt ≤ hi) : ∀ s ∈ ag_sg o, ag_seg s k v := by
  intro s hm k1 k2 _
  have w := List.all_eq_true.mp hs s hm
  rw [Nat.ble_eq_true_of_le k1, Nat.ble_eq_true_of_le k2] at w
  have w : (decide (s.2.2.2.2.1 ≤ lo) && decide (hi ≤ s.2.2.2.2.2)) = true := w
  rw [Bool.and_eq_true, decide_eq_true_eq, decide_eq_true_eq] at w
  omega
/-- the place in the tokens is written -/
theorem pz_at {a' : Nat} (hP : pz_P N a c h) (ha : a' ≤ N) : pz_P N a' c (am_wI h 154 7 (nI a')) := by
  obtain ⟨p1, p2, p3, p4, p5, p6, p7⟩ := hP
  have hz : (nI a').toInt = a' := nI_toInt (by omega)
  refine ⟨pz_wW p1 (by decide) (pz_sgv pz_sg7 (by omega) (by omega)), pz_wX p2 (by unfold ag_kp; omega), p3, em_we h 154 7 _, ha, ?_, p7⟩
  rw [em_wn h _ (by decide)]
  exact p6
theorem pz_atf {a' : Nat} : ag_fr pz_M h (am_wI h 154 7 (nI a')) := pz_fr rfl
theorem pz_atK {a' k : Nat} (hK : pz_K k h) : pz_K k (am_wI h 154 7 (nI a')) := by
  rcases hK with z | z
  · left
    rw [em_wn h _ (by decide)]
    exact z
  · right
    refine xf_keep (fun s hs j _ _ => em_wn h _ (fun w => ?_)) z
    have hs : s ∈ ([(161, 1100, 2199), (162, 1100, 2199), (154, 13, 13)] : ag_M) := hs
    simp only [List.mem_cons, List.not_mem_nil, or_false] at hs
    rcases hs with rfl | rfl | rfl
    · exact absurd w.1 (by decide)
    · exact absurd w.1 (by decide)
    · rename_i j1 j2
      have : j = 13 := by
        have j1 : 13 ≤ j := j1
        have j2 : j ≤ 13 := j2
        omega
      omega
/-- a fault is written -/
theorem pz_ft {v : Int32} (hP : pz_P N a c h) (h1 : 0 < v.toInt) (h2 : v.toInt ≤ 16005) : pz_P N a c (am_wI h 154 8 v) ∧ ¬ (am_wI h 154 8 v).1 154 8 = 0 := by
  obtain ⟨p1, p2, p3, p4, p5, p6, p7⟩ := hP
  refine ⟨⟨pz_wW p1 (by decide) (pz_sgv pz_sg8 (by omega) h2), pz_wX p2 (by unfold ag_kp; omega), p3, ?_, p5, ?_, p7⟩, ?_⟩
  · rw [em_wn h _ (by decide)]
    exact p4
  · rw [em_wn h _ (by decide)]
    exact p6
  · rw [em_we]
    intro z
    rw [z] at h1
    exact absurd h1 (by decide)
theorem pz_ft0 (hP : pz_P N a c h) : 0 ≤ (h.1 154 8).toInt ∧ (h.1 154 8).toInt ≤ 16005 := hP.1.2.1.1 154 (8, 8, 1, 0, 0, 16005) (iv_sgm (o := 154) (s := (8, 8, 1, 0, 0, 16005)) (by decide +kernel)) 8 (by decide) (by decide) (by decide)
theorem pz_le0 (hP : pz_P N a c h) (hc : ¬ h.1 154 8 ≤ 0) : ¬ h.1 154 8 = 0 := fun z => hc (by rw [z]; decide)
theorem pz_eq0 (hP : pz_P N a c h) (hc : h.1 154 8 ≤ 0) : h.1 154 8 = 0 := by
  have z := (pz_ft0 hP).1
  rw [Int32.le_iff_toInt_le] at hc
  have hc : (h.1 154 8).toInt ≤ 0 := hc
  have e : (h.1 154 8).toInt = (0 : Int32).toInt := by
    show _ = (0 : Int)
    omega
  exact Int32.toInt_inj.mp e
/-- what is at a place before the last is no end -/
theorem pz_lt (hP : pz_P N a c h) (hs : ¬ h.1 156 a = 0) : a < N := by
  rcases Nat.lt_or_ge a N with z | z
  · exact z
  · have e : a = N := Nat.le_antisymm hP.2.2.2.2.1 z
    have hw : h.1 156 N = 0 := hP.1.2.2.2
    rw [e] at hs
    exact absurd hw hs
def pz_b (b : Bool) : Int32 := bif b then 1 else 0
def pz_sg (h : am_H) (a : Nat) (x : Int32) : Bool := decide (h.1 154 8 = 0) && (decide (h.1 156 a = 3) && decide (h.2.1 158 a = x.toInt64))
def pz_wd (h : am_H) (a w : Nat) : Bool := decide (h.1 154 8 = 0) && (decide (h.1 156 a = 1) && decide (h.2.1 158 a = h.2.1 159 w))
theorem pz_sg_lt {x : Int32} (hP : pz_P N a c h) (hs : pz_sg h a x = true) : h.1 154 8 = 0 ∧ a < N := by
  unfold pz_sg at hs
  rw [Bool.and_eq_true, Bool.and_eq_true, decide_eq_true_eq, decide_eq_true_eq] at hs
  exact ⟨hs.1, pz_lt hP (by rw [hs.2.1]; decide)⟩
theorem pz_wd_lt {w : Nat} (hP : pz_P N a c h) (hs : pz_wd h a w = true) : h.1 154 8 = 0 ∧ a < N := by
  unfold pz_wd at hs
  rw [Bool.and_eq_true, Bool.and_eq_true, decide_eq_true_eq, decide_eq_true_eq] at hs
  exact ⟨hs.1, pz_lt hP (by rw [hs.2.1]; decide)⟩
theorem pz_al (hP : pz_P N a c h) : a < 1002 := by
  have := hP.2.2.1
  have := hP.2.2.2.2.1
  omega
theorem pz_cmp (x y : Int64) : lg_cmp x y = 0 ↔ x = y := by
  constructor
  · intro z
    unfold lg_cmp at z
    by_cases h1 : x > y
    · rw [if_pos h1] at z
      exact absurd z (by decide)
    · rw [if_neg h1] at z
      by_cases h2 : x = y
      · exact h2
      · rw [if_neg h2] at z
        exact absurd z (by decide)
  · intro z
    rw [z]
    unfold lg_cmp
    simp
theorem pz_sign {Q : am_Q} {x : Int32} (hP : pz_P N a c h) (hQ : Q (some (.int (pz_b (pz_sg h a x)))) h) : am_call am_cod 1 215 [.ref 154, .int x] h Q := by
  refine pz_call (n := 215) (nL := 2) (rt := (some .boolean)) (rows := am_r215) (d := 0) (by decide +kernel) (by decide +kernel) rfl (by funext pc; rfl) (pz_175 hP) (by exact Nat.le_of_ble_eq_true rfl) ?_
  refine am_goX 3 (show am_sh h 154 = some (11, 0) ∧ (¬ (h.1 154 8) = 0 → pz_S 2 (some .boolean) am_r215 0 Q 39 [(0, .ref 154), (1, .int x)] [] h) ∧ (¬ ¬ (h.1 154 8) = 0 → pz_S 2 (some .boolean) am_r215 0 Q 7 [(0, .ref 154), (1, .int x)] [] h) from ⟨pz_154 hP, fun hc => ?_, fun hc => ?_⟩)
  · have e : pz_sg h a x = false := by
      unfold pz_sg
      rw [decide_eq_false hc]; rfl
    rw [e] at hQ
    exact am_goX 2 (show (∃ ty, (some .boolean) = some ty ∧ narrow ty (.int ((Int32.ofInt 0))) = .int ((Int32.ofInt 0))) ∧ h.2.2.2.2 = 175 ∧ _ from ⟨⟨.boolean, rfl, rfl⟩, pz_175 hP, hQ⟩)
  · have hf : h.1 154 8 = 0 := Decidable.not_not.mp hc
    clear hc
    refine am_goX 2 (show am_sh h 154 = some (11, 0) ∧ pz_S 2 (some .boolean) am_r215 0 Q 11 [(0, .ref 154), (1, .int x)] [am_rf (h.2.2.1 154 4)] h from ⟨pz_154 hP, ?_⟩)
    rw [pz_r4 hP]
    refine am_goX 3 (show am_sh h 154 = some (11, 0) ∧ ∃ j n : Nat, am_sh h 156 = some (13, n) ∧ j < n ∧ (h.1 154 7) = nI j ∧ pz_S 2 (some .boolean) am_r215 0 Q 16 [(0, .ref 154), (1, .int x)] [.int (h.1 156 j)] h from ⟨pz_154 hP, a, 1002, pz_156 hP, pz_al hP, hP.2.2.2.1, ?_⟩)
    refine am_goX 2 (show (¬ (h.1 156 a) = (Int32.ofInt 3) → pz_S 2 (some .boolean) am_r215 0 Q 39 [(0, .ref 154), (1, .int x)] [] h) ∧ (¬ ¬ (h.1 156 a) = (Int32.ofInt 3) → pz_S 2 (some .boolean) am_r215 0 Q 20 [(0, .ref 154), (1, .int x)] [] h) from ⟨fun hc => ?_, fun hc => ?_⟩)
    · have e : pz_sg h a x = false := by
        unfold pz_sg
        rw [decide_eq_true hf, decide_eq_false (show ¬ h.1 156 a = 3 from hc)]; rfl
      rw [e] at hQ
      exact am_goX 2 (show (∃ ty, (some .boolean) = some ty ∧ narrow ty (.int ((Int32.ofInt 0))) = .int ((Int32.ofInt 0))) ∧ h.2.2.2.2 = 175 ∧ _ from ⟨⟨.boolean, rfl, rfl⟩, pz_175 hP, hQ⟩)
    · have hs : h.1 156 a = 3 := Decidable.not_not.mp hc
      clear hc
      refine am_goX 2 (show am_sh h 154 = some (11, 0) ∧ pz_S 2 (some .boolean) am_r215 0 Q 24 [(0, .ref 154), (1, .int x)] [am_rf (h.2.2.1 154 6)] h from ⟨pz_154 hP, ?_⟩)
      rw [pz_r6 hP]
      refine am_goX 3 (show am_sh h 154 = some (11, 0) ∧ ∃ j n : Nat, am_sh h 158 = some (14, n) ∧ j < n ∧ (h.1 154 7) = nI j ∧ pz_S 2 (some .boolean) am_r215 0 Q 29 [(0, .ref 154), (1, .int x)] [.long (h.2.1 158 j)] h from ⟨pz_154 hP, a, 1002, pz_158 hP, pz_al hP, hP.2.2.2.1, ?_⟩)
      refine am_goX 4 (show (¬ (lg_cmp ((h.2.1 158 a)) ((x).toInt64)) = 0 → pz_S 2 (some .boolean) am_r215 0 Q 39 [(0, .ref 154), (1, .int x)] [] h) ∧ (¬ ¬ (lg_cmp ((h.2.1 158 a)) ((x).toInt64)) = 0 → pz_S 2 (some .boolean) am_r215 0 Q 35 [(0, .ref 154), (1, .int x)] [] h) from ⟨fun hc => ?_, fun hc => ?_⟩)
      · have e : pz_sg h a x = false := by
          unfold pz_sg
          rw [decide_eq_true hf, decide_eq_true hs, decide_eq_false (fun z => hc ((pz_cmp _ _).mpr z))]; rfl
        rw [e] at hQ
        exact am_goX 2 (show (∃ ty, (some .boolean) = some ty ∧ narrow ty (.int ((Int32.ofInt 0))) = .int ((Int32.ofInt 0))) ∧ h.2.2.2.2 = 175 ∧ _ from ⟨⟨.boolean, rfl, rfl⟩, pz_175 hP, hQ⟩)
      · have e : pz_sg h a x = true := by
          unfold pz_sg
          rw [decide_eq_true hf, decide_eq_true hs, decide_eq_true ((pz_cmp _ _).mp (Decidable.not_not.mp hc))]; rfl
        rw [e] at hQ
        exact am_goX 3 (show (∃ ty, (some .boolean) = some ty ∧ narrow ty (.int ((Int32.ofInt 1))) = .int ((Int32.ofInt 1))) ∧ h.2.2.2.2 = 175 ∧ _ from ⟨⟨.boolean, rfl, rfl⟩, pz_175 hP, hQ⟩)
theorem pz_word {Q : am_Q} {w : Nat} (hP : pz_P N a c h) (hw : w < 21) (hQ : Q (some (.int (pz_b (pz_wd h a w)))) h) : am_call am_cod 1 195 [.ref 154, .int (nI w)] h Q := by
  refine pz_call (n := 195) (nL := 2) (rt := (some .boolean)) (rows := am_r195) (d := 0) (by decide +kernel) (by decide +kernel) rfl (by funext pc; rfl) (pz_175 hP) (by exact Nat.le_of_ble_eq_true rfl) ?_
  refine am_goX 3 (show am_sh h 154 = some (11, 0) ∧ (¬ (h.1 154 8) = 0 → pz_S 2 (some .boolean) am_r195 0 Q 43 [(0, .ref 154), (1, .int (nI w))] [] h) ∧ (¬ ¬ (h.1 154 8) = 0 → pz_S 2 (some .boolean) am_r195 0 Q 7 [(0, .ref 154), (1, .int (nI w))] [] h) from ⟨pz_154 hP, fun hc => ?_, fun hc => ?_⟩)
  · have e : pz_wd h a w = false := by
      unfold pz_wd
      rw [decide_eq_false hc]; rfl
    rw [e] at hQ
    exact am_goX 2 (show (∃ ty, (some .boolean) = some ty ∧ narrow ty (.int ((Int32.ofInt 0))) = .int ((Int32.ofInt 0))) ∧ h.2.2.2.2 = 175 ∧ _ from ⟨⟨.boolean, rfl, rfl⟩, pz_175 hP, hQ⟩)
  · have hf : h.1 154 8 = 0 := Decidable.not_not.mp hc
    clear hc
    refine am_goX 2 (show am_sh h 154 = some (11, 0) ∧ pz_S 2 (some .boolean) am_r195 0 Q 11 [(0, .ref 154), (1, .int (nI w))] [am_rf (h.2.2.1 154 4)] h from ⟨pz_154 hP, ?_⟩)
    rw [pz_r4 hP]
    refine am_goX 3 (show am_sh h 154 = some (11, 0) ∧ ∃ j n : Nat, am_sh h 156 = some (13, n) ∧ j < n ∧ (h.1 154 7) = nI j ∧ pz_S 2 (some .boolean) am_r195 0 Q 16 [(0, .ref 154), (1, .int (nI w))] [.int (h.1 156 j)] h from ⟨pz_154 hP, a, 1002, pz_156 hP, pz_al hP, hP.2.2.2.1, ?_⟩)
    refine am_goX 2 (show (¬ (h.1 156 a) = (Int32.ofInt 1) → pz_S 2 (some .boolean) am_r195 0 Q 43 [(0, .ref 154), (1, .int (nI w))] [] h) ∧ (¬ ¬ (h.1 156 a) = (Int32.ofInt 1) → pz_S 2 (some .boolean) am_r195 0 Q 20 [(0, .ref 154), (1, .int (nI w))] [] h) from ⟨fun hc => ?_, fun hc => ?_⟩)
    · have e : pz_wd h a w = false := by
        unfold pz_wd
        rw [decide_eq_true hf, decide_eq_false (show ¬ h.1 156 a = 1 from hc)]; rfl
      rw [e] at hQ
      exact am_goX 2 (show (∃ ty, (some .boolean) = some ty ∧ narrow ty (.int ((Int32.ofInt 0))) = .int ((Int32.ofInt 0))) ∧ h.2.2.2.2 = 175 ∧ _ from ⟨⟨.boolean, rfl, rfl⟩, pz_175 hP, hQ⟩)
    · have hs : h.1 156 a = 1 := Decidable.not_not.mp hc
      clear hc
      refine am_goX 2 (show am_sh h 154 = some (11, 0) ∧ pz_S 2 (some .boolean) am_r195 0 Q 24 [(0, .ref 154), (1, .int (nI w))] [am_rf (h.2.2.1 154 6)] h from ⟨pz_154 hP, ?_⟩)
      rw [pz_r6 hP]
      refine am_goX 3 (show am_sh h 154 = some (11, 0) ∧ ∃ j n : Nat, am_sh h 158 = some (14, n) ∧ j < n ∧ (h.1 154 7) = nI j ∧ pz_S 2 (some .boolean) am_r195 0 Q 29 [(0, .ref 154), (1, .int (nI w))] [.long (h.2.1 158 j)] h from ⟨pz_154 hP, a, 1002, pz_158 hP, pz_al hP, hP.2.2.2.1, ?_⟩)
      refine am_goX 2 (show am_sh h 154 = some (11, 0) ∧ pz_S 2 (some .boolean) am_r195 0 Q 33 [(0, .ref 154), (1, .int (nI w))] [am_rf (h.2.2.1 154 9), .long (h.2.1 158 a)] h from ⟨pz_154 hP, ?_⟩)
      rw [pz_r9 hP]
      refine am_goX 2 (show ∃ j n : Nat, am_sh h 159 = some (14, n) ∧ j < n ∧ (nI w) = nI j ∧ pz_S 2 (some .boolean) am_r195 0 Q 35 [(0, .ref 154), (1, .int (nI w))] [.long (h.2.1 159 j), .long (h.2.1 158 a)] h from ⟨w, 21, pz_159 hP, hw, rfl, ?_⟩)
      refine am_goX 2 (show (¬ (lg_cmp ((h.2.1 158 a)) ((h.2.1 159 w))) = 0 → pz_S 2 (some .boolean) am_r195 0 Q 43 [(0, .ref 154), (1, .int (nI w))] [] h) ∧ (¬ ¬ (lg_cmp ((h.2.1 158 a)) ((h.2.1 159 w))) = 0 → pz_S 2 (some .boolean) am_r195 0 Q 39 [(0, .ref 154), (1, .int (nI w))] [] h) from ⟨fun hc => ?_, fun hc => ?_⟩)
      · have e : pz_wd h a w = false := by
          unfold pz_wd
          rw [decide_eq_true hf, decide_eq_true hs, decide_eq_false (fun z => hc ((pz_cmp _ _).mpr z))]; rfl
        rw [e] at hQ
        exact am_goX 2 (show (∃ ty, (some .boolean) = some ty ∧ narrow ty (.int ((Int32.ofInt 0))) = .int ((Int32.ofInt 0))) ∧ h.2.2.2.2 = 175 ∧ _ from ⟨⟨.boolean, rfl, rfl⟩, pz_175 hP, hQ⟩)
      · have e : pz_wd h a w = true := by
          unfold pz_wd
          rw [decide_eq_true hf, decide_eq_true hs, decide_eq_true ((pz_cmp _ _).mp (Decidable.not_not.mp hc))]; rfl
        rw [e] at hQ
        exact am_goX 3 (show (∃ ty, (some .boolean) = some ty ∧ narrow ty (.int ((Int32.ofInt 1))) = .int ((Int32.ofInt 1))) ∧ h.2.2.2.2 = 175 ∧ _ from ⟨⟨.boolean, rfl, rfl⟩, pz_175 hP, hQ⟩)
theorem pz_plr (hP : pz_P N a c h) : 0 ≤ (h.1 157 a).toInt ∧ (h.1 157 a).toInt ≤ 1000 := hP.1.2.1.1 157 (0, 1001, 1, 0, 0, 1000) (iv_sgm (o := 157) (s := (0, 1001, 1, 0, 0, 1000)) (by decide +kernel)) a (Nat.zero_le _) (Nat.le_of_lt_succ (pz_al hP)) (Nat.mod_one _)
theorem pz_wv {x : Int32} (hx : 1 ≤ x.toInt ∧ x.toInt ≤ 5) {y : Int32} (hy : 0 ≤ y.toInt ∧ y.toInt ≤ 1000) : 0 < (x + (Int8.ofInt 16).toInt32 * y).toInt ∧ (x + (Int8.ofInt 16).toInt32 * y).toInt ≤ 16005 := by
  have e16 : ((Int8.ofInt 16).toInt32).toInt = 16 := by decide
  have e1 : ((Int8.ofInt 16).toInt32 * y).toInt = 16 * y.toInt := by
    rw [Int32.toInt_mul, e16]
    exact Int.bmod_eq_of_le (by omega) (by omega)
  have e2 : (x + (Int8.ofInt 16).toInt32 * y).toInt = x.toInt + 16 * y.toInt := by
    rw [Int32.toInt_add, e1]
    exact Int.bmod_eq_of_le (by omega) (by omega)
  omega
def pz_wh (h : am_H) (a : Nat) (x : Int32) : am_H := am_wI h 154 8 (x + (Int8.ofInt 16).toInt32 * h.1 157 a)
theorem pz_wrong {Q : am_Q} {x : Int32} (hP : pz_P N a c h) (hx : 1 ≤ x.toInt ∧ x.toInt ≤ 5) (hQ : ∀ h', pz_P N a c h' → ag_fr pz_M h h' → ¬ h'.1 154 8 = 0 → Q none h') : am_call am_cod 1 197 [.ref 154, .int x] h Q := by
  refine pz_call (n := 197) (nL := 2) (rt := none) (rows := am_r197) (d := 0) (by decide +kernel) (by decide +kernel) rfl (by funext pc; rfl) (pz_175 hP) (by exact Nat.le_of_ble_eq_true rfl) ?_
  refine am_goX 3 (show am_sh h 154 = some (11, 0) ∧ (¬ (h.1 154 8) = 0 → pz_S 2 none am_r197 0 Q 25 [(0, .ref 154), (1, .int x)] [] h) ∧ (¬ ¬ (h.1 154 8) = 0 → pz_S 2 none am_r197 0 Q 7 [(0, .ref 154), (1, .int x)] [] h) from ⟨pz_154 hP, fun hc => ?_, fun hc => ?_⟩)
  · exact am_goX 1 (show (none : Option FieldType) = none ∧ h.2.2.2.2 = 175 ∧ _ from ⟨rfl, pz_175 hP, hQ h hP (ag_fr.refl h) hc⟩)
  · refine am_goX 5 (show am_sh h 154 = some (11, 0) ∧ pz_S 2 none am_r197 0 Q 15 [(0, .ref 154), (1, .int x)] [am_rf (h.2.2.1 154 5), .int (Int8.ofInt 16).toInt32, .int x, .ref 154] h from ⟨pz_154 hP, ?_⟩)
    rw [pz_r5 hP]
    refine am_goX 3 (show am_sh h 154 = some (11, 0) ∧ ∃ j n : Nat, am_sh h 157 = some (13, n) ∧ j < n ∧ (h.1 154 7) = nI j ∧ pz_S 2 none am_r197 0 Q 20 [(0, .ref 154), (1, .int x)] [.int (h.1 157 j), .int (Int8.ofInt 16).toInt32, .int x, .ref 154] h from ⟨pz_154 hP, a, 1002, pz_157 hP, pz_al hP, hP.2.2.2.1, ?_⟩)
    refine am_goX 3 (show am_sh h 154 = some (11, 0) ∧ narrow (am_fty 11 8) (.int ((x + ((Int8.ofInt 16).toInt32 * (h.1 157 a))))) = .int ((x + ((Int8.ofInt 16).toInt32 * (h.1 157 a)))) ∧ fits (am_fty 11 8) (.int ((x + ((Int8.ofInt 16).toInt32 * (h.1 157 a))))) = true ∧ pz_S 2 none am_r197 0 Q 25 [(0, .ref 154), (1, .int x)] [] (am_wI h 154 8 ((x + ((Int8.ofInt 16).toInt32 * (h.1 157 a))))) from ⟨pz_154 hP, rfl, rfl, ?_⟩)
    have hv := pz_wv hx (pz_plr hP)
    have hf := pz_ft hP hv.1 hv.2
    exact am_goX 1 (show (none : Option FieldType) = none ∧ (am_wI h 154 8 ((x + ((Int8.ofInt 16).toInt32 * (h.1 157 a))))).2.2.2.2 = 175 ∧ _ from ⟨rfl, pz_175 hf.1, hQ _ hf.1 (pz_fr rfl) hf.2⟩)
theorem pz_hsign {Q : am_Q} {x : Int32} (hP : pz_P N a c h) (h1 : pz_sg h a x = true → Q (some (.int 1)) (am_wI h 154 7 (nI (a + 1)))) (h0 : pz_sg h a x = false → Q (some (.int 0)) h) : am_call am_cod 2 217 [.ref 154, .int x] h Q := by
  refine pz_call (n := 217) (nL := 3) (rt := (some .boolean)) (rows := am_r217) (d := 1) (by decide +kernel) (by decide +kernel) rfl (by funext pc; rfl) (pz_175 hP) (by exact Nat.le_of_ble_eq_true rfl) ?_
  refine am_goX 3 (show am_rc h 154 11 ∧ 0 ≤ 8 ∧ h.2.2.2.2 + am_al 215 ≤ 175 ∧ am_call am_cod 1 215 [.ref 154, .int x] h (fun vv h' => pz_S 3 (some .boolean) am_r217 1 Q 5 [(0, .ref 154), (1, .int x)] (vv.toList ++ []) h') from ⟨pz_rc hP, by decide, pz_lim hP rfl, pz_sign hP ?_⟩)
  cases e : pz_sg h a x with
  | true =>
    refine am_goX 6 (show 2 < 3 ∧ (Value.ref 154).category = 1 ∧ am_sh h 154 = some (11, 0) ∧ (pz_b true = 0 → pz_S 3 (some .boolean) am_r217 1 Q 19 [(2, .int (pz_b true)), (0, .ref 154), (1, .int x)] [.int (h.1 154 7), .ref 154] h) ∧ (¬ pz_b true = 0 → pz_S 3 (some .boolean) am_r217 1 Q 15 [(2, .int (pz_b true)), (0, .ref 154), (1, .int x)] [.int (h.1 154 7), .ref 154] h) from ⟨by decide, rfl, pz_154 hP, fun z => absurd z (by decide), fun _ => ?_⟩)
    refine am_goX 4 (show am_sh h 154 = some (11, 0) ∧ narrow (am_fty 11 7) (.int (((h.1 154 7) + (Int32.ofInt 1)))) = .int (((h.1 154 7) + (Int32.ofInt 1))) ∧ fits (am_fty 11 7) (.int (((h.1 154 7) + (Int32.ofInt 1)))) = true ∧ pz_S 3 (some .boolean) am_r217 1 Q 24 [(2, .int (pz_b true)), (0, .ref 154), (1, .int x)] [] (am_wI h 154 7 (((h.1 154 7) + (Int32.ofInt 1)))) from ⟨pz_154 hP, rfl, rfl, ?_⟩)
    rw [hP.2.2.2.1, xw_i1]
    have hP1 := pz_at (a' := a + 1) hP (by have := (pz_sg_lt hP e).2; omega)
    exact am_goX 2 (show (∃ ty, (some .boolean) = some ty ∧ narrow ty (.int ((pz_b true))) = .int ((pz_b true))) ∧ (am_wI h 154 7 (nI (a + 1))).2.2.2.2 = 175 ∧ _ from ⟨⟨.boolean, rfl, rfl⟩, pz_175 hP1, h1 e⟩)
  | false =>
    refine am_goX 6 (show 2 < 3 ∧ (Value.ref 154).category = 1 ∧ am_sh h 154 = some (11, 0) ∧ (pz_b false = 0 → pz_S 3 (some .boolean) am_r217 1 Q 19 [(2, .int (pz_b false)), (0, .ref 154), (1, .int x)] [.int (h.1 154 7), .ref 154] h) ∧ (¬ pz_b false = 0 → pz_S 3 (some .boolean) am_r217 1 Q 15 [(2, .int (pz_b false)), (0, .ref 154), (1, .int x)] [.int (h.1 154 7), .ref 154] h) from ⟨by decide, rfl, pz_154 hP, fun _ => ?_, fun z => absurd rfl z⟩)
    refine am_goX 3 (show am_sh h 154 = some (11, 0) ∧ narrow (am_fty 11 7) (.int (((h.1 154 7) + (Int32.ofInt 0)))) = .int (((h.1 154 7) + (Int32.ofInt 0))) ∧ fits (am_fty 11 7) (.int (((h.1 154 7) + (Int32.ofInt 0)))) = true ∧ pz_S 3 (some .boolean) am_r217 1 Q 24 [(2, .int (pz_b false)), (0, .ref 154), (1, .int x)] [] (am_wI h 154 7 (((h.1 154 7) + (Int32.ofInt 0)))) from ⟨pz_154 hP, rfl, rfl, ?_⟩)
    rw [pz_same (show h.1 154 7 = h.1 154 7 + Int32.ofInt 0 from (Int32.add_zero _).symm)]
    exact am_goX 2 (show (∃ ty, (some .boolean) = some ty ∧ narrow ty (.int ((pz_b false))) = .int ((pz_b false))) ∧ h.2.2.2.2 = 175 ∧ _ from ⟨⟨.boolean, rfl, rfl⟩, pz_175 hP, h0 e⟩)
theorem pz_hword {Q : am_Q} {w : Nat} (hP : pz_P N a c h) (hw : w < 21) (h1 : pz_wd h a w = true → Q (some (.int 1)) (am_wI h 154 7 (nI (a + 1)))) (h0 : pz_wd h a w = false → Q (some (.int 0)) h) : am_call am_cod 2 204 [.ref 154, .int (nI w)] h Q := by
  refine pz_call (n := 204) (nL := 3) (rt := (some .boolean)) (rows := am_r204) (d := 1) (by decide +kernel) (by decide +kernel) rfl (by funext pc; rfl) (pz_175 hP) (by exact Nat.le_of_ble_eq_true rfl) ?_
  refine am_goX 3 (show am_rc h 154 11 ∧ 0 ≤ 8 ∧ h.2.2.2.2 + am_al 195 ≤ 175 ∧ am_call am_cod 1 195 [.ref 154, .int (nI w)] h (fun vv h' => pz_S 3 (some .boolean) am_r204 1 Q 5 [(0, .ref 154), (1, .int (nI w))] (vv.toList ++ []) h') from ⟨pz_rc hP, by decide, pz_lim hP rfl, pz_word hP hw ?_⟩)
  cases e : pz_wd h a w with
  | true =>
    refine am_goX 6 (show 2 < 3 ∧ (Value.ref 154).category = 1 ∧ am_sh h 154 = some (11, 0) ∧ (pz_b true = 0 → pz_S 3 (some .boolean) am_r204 1 Q 19 [(2, .int (pz_b true)), (0, .ref 154), (1, .int (nI w))] [.int (h.1 154 7), .ref 154] h) ∧ (¬ pz_b true = 0 → pz_S 3 (some .boolean) am_r204 1 Q 15 [(2, .int (pz_b true)), (0, .ref 154), (1, .int (nI w))] [.int (h.1 154 7), .ref 154] h) from ⟨by decide, rfl, pz_154 hP, fun z => absurd z (by decide), fun _ => ?_⟩)
    refine am_goX 4 (show am_sh h 154 = some (11, 0) ∧ narrow (am_fty 11 7) (.int (((h.1 154 7) + (Int32.ofInt 1)))) = .int (((h.1 154 7) + (Int32.ofInt 1))) ∧ fits (am_fty 11 7) (.int (((h.1 154 7) + (Int32.ofInt 1)))) = true ∧ pz_S 3 (some .boolean) am_r204 1 Q 24 [(2, .int (pz_b true)), (0, .ref 154), (1, .int (nI w))] [] (am_wI h 154 7 (((h.1 154 7) + (Int32.ofInt 1)))) from ⟨pz_154 hP, rfl, rfl, ?_⟩)
    rw [hP.2.2.2.1, xw_i1]
    have hP1 := pz_at (a' := a + 1) hP (by have := (pz_wd_lt hP e).2; omega)
    exact am_goX 2 (show (∃ ty, (some .boolean) = some ty ∧ narrow ty (.int ((pz_b true))) = .int ((pz_b true))) ∧ (am_wI h 154 7 (nI (a + 1))).2.2.2.2 = 175 ∧ _ from ⟨⟨.boolean, rfl, rfl⟩, pz_175 hP1, h1 e⟩)
  | false =>
    refine am_goX 6 (show 2 < 3 ∧ (Value.ref 154).category = 1 ∧ am_sh h 154 = some (11, 0) ∧ (pz_b false = 0 → pz_S 3 (some .boolean) am_r204 1 Q 19 [(2, .int (pz_b false)), (0, .ref 154), (1, .int (nI w))] [.int (h.1 154 7), .ref 154] h) ∧ (¬ pz_b false = 0 → pz_S 3 (some .boolean) am_r204 1 Q 15 [(2, .int (pz_b false)), (0, .ref 154), (1, .int (nI w))] [.int (h.1 154 7), .ref 154] h) from ⟨by decide, rfl, pz_154 hP, fun _ => ?_, fun z => absurd rfl z⟩)
    refine am_goX 3 (show am_sh h 154 = some (11, 0) ∧ narrow (am_fty 11 7) (.int (((h.1 154 7) + (Int32.ofInt 0)))) = .int (((h.1 154 7) + (Int32.ofInt 0))) ∧ fits (am_fty 11 7) (.int (((h.1 154 7) + (Int32.ofInt 0)))) = true ∧ pz_S 3 (some .boolean) am_r204 1 Q 24 [(2, .int (pz_b false)), (0, .ref 154), (1, .int (nI w))] [] (am_wI h 154 7 (((h.1 154 7) + (Int32.ofInt 0)))) from ⟨pz_154 hP, rfl, rfl, ?_⟩)
    rw [pz_same (show h.1 154 7 = h.1 154 7 + Int32.ofInt 0 from (Int32.add_zero _).symm)]
    exact am_goX 2 (show (∃ ty, (some .boolean) = some ty ∧ narrow ty (.int ((pz_b false))) = .int ((pz_b false))) ∧ h.2.2.2.2 = 175 ∧ _ from ⟨⟨.boolean, rfl, rfl⟩, pz_175 hP, h0 e⟩)
theorem pz_tsign {Q : am_Q} {x : Int32} (hP : pz_P N a c h) (h1 : pz_sg h a x = true → Q none (am_wI h 154 7 (nI (a + 1)))) (h0 : ∀ h', pz_P N a c h' → ag_fr pz_M h h' → ¬ h'.1 154 8 = 0 → Q none h') : am_call am_cod 2 218 [.ref 154, .int x] h Q := by
  refine pz_call (n := 218) (nL := 2) (rt := none) (rows := am_r218) (d := 1) (by decide +kernel) (by decide +kernel) rfl (by funext pc; rfl) (pz_175 hP) (by exact Nat.le_of_ble_eq_true rfl) ?_
  refine am_goX 3 (show am_rc h 154 11 ∧ 0 ≤ 8 ∧ h.2.2.2.2 + am_al 215 ≤ 175 ∧ am_call am_cod 1 215 [.ref 154, .int x] h (fun vv h' => pz_S 2 none am_r218 1 Q 5 [(0, .ref 154), (1, .int x)] (vv.toList ++ []) h') from ⟨pz_rc hP, by decide, pz_lim hP rfl, pz_sign hP ?_⟩)
  cases e : pz_sg h a x with
  | true =>
    refine am_goX 1 (show (pz_b true = 0 → pz_S 2 none am_r218 1 Q 21 [(0, .ref 154), (1, .int x)] [] h) ∧ (¬ pz_b true = 0 → pz_S 2 none am_r218 1 Q 8 [(0, .ref 154), (1, .int x)] [] h) from ⟨fun z => absurd z (by decide), fun _ => ?_⟩)
    refine am_goX 6 (show (Value.ref 154).category = 1 ∧ am_sh h 154 = some (11, 0) ∧ am_sh h 154 = some (11, 0) ∧ narrow (am_fty 11 7) (.int (((h.1 154 7) + (Int32.ofInt 1)))) = .int (((h.1 154 7) + (Int32.ofInt 1))) ∧ fits (am_fty 11 7) (.int (((h.1 154 7) + (Int32.ofInt 1)))) = true ∧ pz_S 2 none am_r218 1 Q 18 [(0, .ref 154), (1, .int x)] [] (am_wI h 154 7 (((h.1 154 7) + (Int32.ofInt 1)))) from ⟨rfl, pz_154 hP, pz_154 hP, rfl, rfl, ?_⟩)
    rw [hP.2.2.2.1, xw_i1]
    have hP1 := pz_at (a' := a + 1) hP (by have := (pz_sg_lt hP e).2; omega)
    exact am_goX 2 (show (none : Option FieldType) = none ∧ (am_wI h 154 7 (nI (a + 1))).2.2.2.2 = 175 ∧ _ from ⟨rfl, pz_175 hP1, h1 e⟩)
  | false =>
    refine am_goX 1 (show (pz_b false = 0 → pz_S 2 none am_r218 1 Q 21 [(0, .ref 154), (1, .int x)] [] h) ∧ (¬ pz_b false = 0 → pz_S 2 none am_r218 1 Q 8 [(0, .ref 154), (1, .int x)] [] h) from ⟨fun _ => ?_, fun z => absurd rfl z⟩)
    refine am_goX 3 (show am_rc h 154 11 ∧ 0 ≤ 8 ∧ h.2.2.2.2 + am_al 197 ≤ 175 ∧ am_call am_cod 1 197 [.ref 154, .int (Int32.ofInt 1)] h (fun vv h' => pz_S 2 none am_r218 1 Q 26 [(0, .ref 154), (1, .int x)] (vv.toList ++ []) h') from ⟨pz_rc hP, by decide, pz_lim hP rfl, pz_wrong hP (by decide) (fun h' q1 q2 q3 => ?_)⟩)
    exact am_goX 1 (show (none : Option FieldType) = none ∧ h'.2.2.2.2 = 175 ∧ _ from ⟨rfl, pz_175 q1, h0 h' q1 q2 q3⟩)
end
section
/-! THE LAW'S GRAMMAR BY HAND -/
variable {N a c : Nat} {h : am_H}
theorem pz_e161 : ag_sg 161 = [] ∧ ag_sg 162 = [] := by decide +kernel
/-- one more code -/
theorem pz_emP {x y : Int32} (hP : pz_P N a c h) (hc : c ≤ 1000) : pz_P N a (c + 1) (em_h h c x y) := by
  obtain ⟨p1, p2, p3, p4, p5, p6, p7⟩ := hP
  have hz : (nI (c + 1)).toInt = (c + 1 : Nat) := nI_toInt (by omega)
  refine ⟨?_, ?_, p3, ?_, p5, em_n h c x y, by omega⟩
  · unfold em_h
    refine pz_wW (pz_wW (pz_wW p1 (by decide) (fun s hs => ?_)) (by decide) (fun s hs => ?_)) (by decide) (pz_sgv pz_sg13 (by omega) (by omega))
    · rw [pz_e161.1] at hs
      exact absurd hs List.not_mem_nil
    · rw [pz_e161.2] at hs
      exact absurd hs List.not_mem_nil
  · unfold em_h
    refine pz_wX (pz_wX (pz_wX p2 ?_) ?_) ?_
    · unfold ag_kp
      omega
    · unfold ag_kp
      omega
    · unfold ag_kp
      omega
  · rw [em_o h c x y (by omega) (by omega) (by omega)]
    exact p4
theorem pz_emf {x y : Int32} (hc : c ≤ 1000) : ag_fr pz_M h (em_h h c x y) := by
  unfold em_h
  have q : ∀ o, o = 161 ∨ o = 162 → ag_atM pz_M o (1100 + c) = true := fun o ho => by
    have e1 : Nat.ble 1100 (1100 + c) = true := Nat.ble_eq_true_of_le (by omega)
    have e2 : Nat.ble (1100 + c) 2199 = true := Nat.ble_eq_true_of_le (by omega)
    unfold ag_atM pz_M
    rcases ho with rfl | rfl
    · simp [List.any, e1, e2]
    · simp [List.any, e1, e2]
  exact pz_tr (pz_tr (pz_fr (q 161 (Or.inl rfl))) (pz_fr (q 162 (Or.inr rfl)))) (pz_fr rfl)
theorem pz_emit {Q : am_Q} {x y : Int32} {k k' : Nat} (hP : pz_P N a c h) (hc : c ≤ a) (hK : pz_K k h)
    (hx : (x = 1 ∧ k' = k + 1) ∨ (x = 2 ∧ (∃ a0 : Nat, a0 < 4 ∧ y = nI a0) ∧ k' = k + 1) ∨ (x = 3 ∧ 1 ≤ k ∧ k' = k) ∨ ((∃ q : Nat, 4 ≤ q ∧ q ≤ 10 ∧ x = nI q) ∧ 2 ≤ k ∧ k' + 1 = k))
    (hQ : ∀ h', pz_P N a (c + 1) h' → ag_fr pz_M h h' → pz_K k' h' → Q none h') : am_call am_cod 1 216 [.ref 154, .int x, .int y] h Q := by
  have h1 := hP.2.2.1
  have h2 := hP.2.2.2.2.1
  refine em_call hP.1 hP.2.2.2.2.2.1 (by omega) (hQ _ (pz_emP hP (by omega)) (pz_emf (by omega)) ?_)
  rcases hK with z | z
  · left
    rw [em_o h c x y (by omega) (by omega) (by omega)]
    exact z
  · right
    refine em_fact z hP.2.2.2.2.2.1 (by omega) ?_
    rcases hx with ⟨q1, q2⟩ | ⟨q1, q3, q2⟩ | ⟨q1, q3, q2⟩ | ⟨q1, q3, q2⟩
    · exact Or.inl ⟨q1, by omega⟩
    · exact Or.inr (Or.inl ⟨q1, q3, by omega⟩)
    · exact Or.inr (Or.inr (Or.inl ⟨q1, by omega, by omega⟩))
    · exact Or.inr (Or.inr (Or.inr ⟨q1, by omega, by omega⟩))
/-- a word among some -/
def pz_hr (h : am_H) (a f m : Nat) (r : Int32) : Prop := r = Int32.ofInt (-1) ∨ ∃ k, k < m ∧ r = nI k ∧ pz_wd h a (f + k) = true
theorem pz_hl {Q : am_Q} {f m : Nat} (hP : pz_P N a c h) (hfm : f + m ≤ 21) (hQ : ∀ r : Int32, pz_hr h a f m r → Q (some (.int r)) h) : ∀ (n k : Nat) (w : Int32), k + n = m → pz_hr h a f m w → pz_S 5 (some .int) am_r199 1 Q 5 [(4, .int (nI k)), (3, .int w), (0, .ref 154), (1, .int (nI f)), (2, .int (nI m))] [] h := by
  intro n
  induction n with
  | zero =>
    intro k w hk hw
    refine am_goX 3 (show ((nI m) ≤ (nI k) → pz_S 5 (some .int) am_r199 1 Q 35 [(4, .int (nI k)), (3, .int w), (0, .ref 154), (1, .int (nI f)), (2, .int (nI m))] [] h) ∧ (¬ ((nI m) ≤ (nI k)) → pz_S 5 (some .int) am_r199 1 Q 11 [(4, .int (nI k)), (3, .int w), (0, .ref 154), (1, .int (nI f)), (2, .int (nI m))] [] h) from ⟨fun hc => ?_, fun hc => ?_⟩)
    · exact am_goX 2 (show (∃ ty, (some .int) = some ty ∧ narrow ty (.int (w)) = .int (w)) ∧ h.2.2.2.2 = 175 ∧ _ from ⟨⟨.int, rfl, rfl⟩, pz_175 hP, hQ w hw⟩)
    · exact absurd (nI_le (by omega) (by omega)) hc
  | succ n ih =>
    intro k w hk hw
    refine am_goX 3 (show ((nI m) ≤ (nI k) → pz_S 5 (some .int) am_r199 1 Q 35 [(4, .int (nI k)), (3, .int w), (0, .ref 154), (1, .int (nI f)), (2, .int (nI m))] [] h) ∧ (¬ ((nI m) ≤ (nI k)) → pz_S 5 (some .int) am_r199 1 Q 11 [(4, .int (nI k)), (3, .int w), (0, .ref 154), (1, .int (nI f)), (2, .int (nI m))] [] h) from ⟨fun hc => ?_, fun hc => ?_⟩)
    · exact absurd hc (nI_ge (by omega) (by omega))
    · refine am_goX 5 (show am_rc h 154 11 ∧ 0 ≤ 8 ∧ h.2.2.2.2 + am_al 195 ≤ 175 ∧ am_call am_cod 1 195 [.ref 154, .int ((nI f) + (nI k))] h (fun vv h' => pz_S 5 (some .int) am_r199 1 Q 19 [(4, .int (nI k)), (3, .int w), (0, .ref 154), (1, .int (nI f)), (2, .int (nI m))] (vv.toList ++ []) h') from ⟨pz_rc hP, by decide, pz_lim hP rfl, ?_⟩)
      rw [nI_add]
      refine pz_word hP (by omega) ?_
      cases e : pz_wd h a (f + k) with
      | true =>
        refine am_goX 1 (show (pz_b true = 0 → pz_S 5 (some .int) am_r199 1 Q 27 [(4, .int (nI k)), (3, .int w), (0, .ref 154), (1, .int (nI f)), (2, .int (nI m))] [] h) ∧ (¬ pz_b true = 0 → pz_S 5 (some .int) am_r199 1 Q 22 [(4, .int (nI k)), (3, .int w), (0, .ref 154), (1, .int (nI f)), (2, .int (nI m))] [] h) from ⟨fun z => absurd z (by decide), fun _ => ?_⟩)
        refine am_goX 3 (show 3 < 5 ∧ pz_S 5 (some .int) am_r199 1 Q 29 [(3, .int (nI k)), (4, .int (nI k)), (0, .ref 154), (1, .int (nI f)), (2, .int (nI m))] [] h from ⟨by decide, ?_⟩)
        refine am_goX 2 (show 4 < 5 ∧ pz_S 5 (some .int) am_r199 1 Q 5 [(4, .int (nI k + Int32.ofInt 1)), (3, .int (nI k)), (0, .ref 154), (1, .int (nI f)), (2, .int (nI m))] [] h from ⟨by decide, ?_⟩)
        rw [xw_i1]
        exact ih (k + 1) _ (by omega) (Or.inr ⟨k, by omega, rfl, e⟩)
      | false =>
        refine am_goX 1 (show (pz_b false = 0 → pz_S 5 (some .int) am_r199 1 Q 27 [(4, .int (nI k)), (3, .int w), (0, .ref 154), (1, .int (nI f)), (2, .int (nI m))] [] h) ∧ (¬ pz_b false = 0 → pz_S 5 (some .int) am_r199 1 Q 22 [(4, .int (nI k)), (3, .int w), (0, .ref 154), (1, .int (nI f)), (2, .int (nI m))] [] h) from ⟨fun _ => ?_, fun z => absurd rfl z⟩)
        refine am_goX 2 (show 3 < 5 ∧ pz_S 5 (some .int) am_r199 1 Q 29 [(3, .int w), (4, .int (nI k)), (0, .ref 154), (1, .int (nI f)), (2, .int (nI m))] [] h from ⟨by decide, ?_⟩)
        refine am_goX 2 (show 4 < 5 ∧ pz_S 5 (some .int) am_r199 1 Q 5 [(4, .int (nI k + Int32.ofInt 1)), (3, .int w), (0, .ref 154), (1, .int (nI f)), (2, .int (nI m))] [] h from ⟨by decide, ?_⟩)
        rw [xw_i1]
        exact ih (k + 1) _ (by omega) (hw)
theorem pz_here {Q : am_Q} {f m : Nat} (hP : pz_P N a c h) (hfm : f + m ≤ 21) (hQ : ∀ r : Int32, pz_hr h a f m r → Q (some (.int r)) h) : am_call am_cod 2 199 [.ref 154, .int (nI f), .int (nI m)] h Q := by
  refine pz_call (n := 199) (nL := 5) (rt := (some .int)) (rows := am_r199) (d := 1) (by decide +kernel) (by decide +kernel) rfl (by funext pc; rfl) (pz_175 hP) (by exact Nat.le_of_ble_eq_true rfl) ?_
  refine am_goX 4 (show 3 < 5 ∧ 4 < 5 ∧ pz_S 5 (some .int) am_r199 1 Q 5 [(4, .int (Int32.ofInt 0)), (3, .int (Int32.ofInt (-1))), (0, .ref 154), (1, .int (nI f)), (2, .int (nI m))] [] h from ⟨by decide, by decide, ?_⟩)
  exact pz_hl hP hfm hQ m 0 _ (Nat.zero_add m) (Or.inl rfl)
/-- what each of the five does: one part more, no more codes than tokens -/
def pz_T (D n d : Nat) : Prop := ∀ (N a c k : Nat) (h : am_H) (Q : am_Q), pz_P N a c h → c ≤ a → pz_K k h → (∀ a' c' h', pz_P N a' c' h' → ag_fr pz_M h h' → a ≤ a' → c' + a ≤ c + a' → pz_K (k + 1) h' → Q none h') → am_call am_cod D n [.ref 154, .int (nI d)] h Q
def pz_po (N a c k : Nat) (h0 : am_H) (a' c' : Nat) (h' : am_H) : Prop := pz_P N a' c' h' ∧ ag_fr pz_M h0 h' ∧ a ≤ a' ∧ c' + a ≤ c + a' ∧ pz_K k h'

theorem pz_prl {D d N a c k : Nat} {h : am_H} {Q : am_Q} (hD : 2 ≤ D) (hT : pz_T D 214 d) (hca : c ≤ a) (hQ : ∀ a' c' h', pz_po N a c (k + 1) h a' c' h' → Q none h') : ∀ (n a1 c1 : Nat) (h1 : am_H), N ≤ a1 + n → pz_po N a c (k + 1) h a1 c1 h1 → pz_S 2 none am_r213 D Q 5 [(0, .ref 154), (1, .int (nI d))] [] h1 := by
  intro n
  induction n with
  | zero =>
    intro a1 c1 h1 hn hp
    obtain ⟨hP, hf, ha, hc, hK⟩ := id hp
    refine am_goX 3 (show am_rc h1 154 11 ∧ 0 ≤ 8 ∧ h1.2.2.2.2 + am_al 217 ≤ 175 ∧ am_call am_cod D 217 [.ref 154, .int (Int8.ofInt 42).toInt32] h1 (fun vv h' => pz_S 2 none am_r213 D Q 11 [(0, .ref 154), (1, .int (nI d))] (vv.toList ++ []) h') from ⟨pz_rc hP, by decide, pz_lim hP rfl, am_call.up (pz_hsign hP (fun e => ?_) (fun e => ?_)) hD⟩)
    · exact absurd (pz_sg_lt hP e).2 (by have := hP.2.2.2.2.1; omega)
    · refine am_goX 1 (show ((0 : Int32) = 0 → pz_S 2 none am_r213 D Q 29 [(0, .ref 154), (1, .int (nI d))] [] h1) ∧ (¬ (0 : Int32) = 0 → pz_S 2 none am_r213 D Q 14 [(0, .ref 154), (1, .int (nI d))] [] h1) from ⟨fun _ => ?_, fun z => absurd rfl z⟩)
      exact am_goX 1 (show (none : Option FieldType) = none ∧ h1.2.2.2.2 = 175 ∧ _ from ⟨rfl, pz_175 hP, hQ a1 c1 h1 hp⟩)
  | succ n ih =>
    intro a1 c1 h1 hn hp
    obtain ⟨hP, hf, ha, hc, hK⟩ := id hp
    refine am_goX 3 (show am_rc h1 154 11 ∧ 0 ≤ 8 ∧ h1.2.2.2.2 + am_al 217 ≤ 175 ∧ am_call am_cod D 217 [.ref 154, .int (Int8.ofInt 42).toInt32] h1 (fun vv h' => pz_S 2 none am_r213 D Q 11 [(0, .ref 154), (1, .int (nI d))] (vv.toList ++ []) h') from ⟨pz_rc hP, by decide, pz_lim hP rfl, am_call.up (pz_hsign hP (fun e => ?_) (fun e => ?_)) hD⟩)
    · have hlt := (pz_sg_lt hP e).2
      have hP1 := pz_at (a' := a1 + 1) hP (by omega)
      refine am_goX 1 (show ((1 : Int32) = 0 → pz_S 2 none am_r213 D Q 29 [(0, .ref 154), (1, .int (nI d))] [] (am_wI h1 154 7 (nI (a1 + 1)))) ∧ (¬ (1 : Int32) = 0 → pz_S 2 none am_r213 D Q 14 [(0, .ref 154), (1, .int (nI d))] [] (am_wI h1 154 7 (nI (a1 + 1)))) from ⟨fun z => absurd z (by decide), fun _ => ?_⟩)
      refine am_goX 3 (show am_rc (am_wI h1 154 7 (nI (a1 + 1))) 154 11 ∧ 0 ≤ 8 ∧ (am_wI h1 154 7 (nI (a1 + 1))).2.2.2.2 + am_al 214 ≤ 175 ∧ am_call am_cod D 214 [.ref 154, .int (nI d)] (am_wI h1 154 7 (nI (a1 + 1))) (fun vv h' => pz_S 2 none am_r213 D Q 19 [(0, .ref 154), (1, .int (nI d))] (vv.toList ++ []) h') from ⟨pz_rc hP1, by decide, pz_lim hP1 rfl, hT N (a1 + 1) c1 (k + 1) _ _ hP1 (by omega) (pz_atK hK) (fun a2 c2 h2 q1 q2 q3 q4 q5 => ?_)⟩)
      refine am_goX 4 (show am_rc h2 154 11 ∧ 0 ≤ 8 ∧ h2.2.2.2.2 + am_al 216 ≤ 175 ∧ am_call am_cod D 216 [.ref 154, .int (Int8.ofInt 6).toInt32, .int (Int32.ofInt 0)] h2 (fun vv h' => pz_S 2 none am_r213 D Q 26 [(0, .ref 154), (1, .int (nI d))] (vv.toList ++ []) h') from ⟨pz_rc q1, by decide, pz_lim q1 rfl, am_call.up (pz_emit (k := k + 1 + 1) (k' := k + 1) q1 (by omega) q5 (Or.inr (Or.inr (Or.inr ⟨⟨6, by decide, by decide, rfl⟩, by omega, rfl⟩))) (fun h3 r1 r2 r3 => ?_)) (Nat.le_trans (by decide) hD)⟩)
      refine am_goX 1 (show pz_S 2 none am_r213 D Q 5 [(0, .ref 154), (1, .int (nI d))] [] h3 from ?_)
      exact ih a2 (c2 + 1) h3 (by omega) ⟨r1, pz_tr (pz_tr (pz_tr hf pz_atf) q2) r2, by omega, by omega, r3⟩
    · refine am_goX 1 (show ((0 : Int32) = 0 → pz_S 2 none am_r213 D Q 29 [(0, .ref 154), (1, .int (nI d))] [] h1) ∧ (¬ (0 : Int32) = 0 → pz_S 2 none am_r213 D Q 14 [(0, .ref 154), (1, .int (nI d))] [] h1) from ⟨fun _ => ?_, fun z => absurd rfl z⟩)
      exact am_goX 1 (show (none : Option FieldType) = none ∧ h1.2.2.2.2 = 175 ∧ _ from ⟨rfl, pz_175 hP, hQ a1 c1 h1 hp⟩)
theorem pz_products {D d : Nat} (hD : 2 ≤ D) (hT : pz_T D 214 d) : pz_T (D + 1) 213 d := by
  intro N a c k h Q hP hca hK hQ
  refine pz_call (n := 213) (nL := 2) (rt := none) (rows := am_r213) (d := D) (by decide +kernel) (by decide +kernel) rfl (by funext pc; rfl) (pz_175 hP) (by exact Nat.le_of_ble_eq_true rfl) ?_
  refine am_goX 3 (show am_rc h 154 11 ∧ 0 ≤ 8 ∧ h.2.2.2.2 + am_al 214 ≤ 175 ∧ am_call am_cod D 214 [.ref 154, .int (nI d)] h (fun vv h' => pz_S 2 none am_r213 D Q 5 [(0, .ref 154), (1, .int (nI d))] (vv.toList ++ []) h') from ⟨pz_rc hP, by decide, pz_lim hP rfl, hT N a c k h _ hP hca hK (fun a1 c1 h1 q1 q2 q3 q4 q5 => ?_)⟩)
  exact pz_prl hD hT hca (fun a' c' h' q => hQ a' c' h' q.1 q.2.1 q.2.2.1 q.2.2.2.1 q.2.2.2.2) N a1 c1 h1 (by omega) ⟨q1, q2, q3, q4, q5⟩
theorem pz_sums_l {D d N a c k : Nat} {h : am_H} {Q : am_Q} (hD : 2 ≤ D) (hT : pz_T D 213 d) (hca : c ≤ a) (hQ : ∀ a' c' h', pz_po N a c (k + 1) h a' c' h' → Q none h') : ∀ (n a1 c1 : Nat) (v : Int32) (h1 : am_H), N ≤ a1 + n → pz_po N a c (k + 1) h a1 c1 h1 → pz_S 3 none am_r212 D Q 5 [(2, .int v), (0, .ref 154), (1, .int (nI d))] [] h1 := by
  intro n
  induction n with
  | zero =>
    intro a1 c1 v h1 hn hp
    obtain ⟨hP, hf, ha, hc, hK⟩ := id hp
    refine am_goX 3 (show am_rc h1 154 11 ∧ 0 ≤ 8 ∧ h1.2.2.2.2 + am_al 215 ≤ 175 ∧ am_call am_cod D 215 [.ref 154, .int (Int8.ofInt 43).toInt32] h1 (fun vv h' => pz_S 3 none am_r212 D Q 11 [(2, .int v), (0, .ref 154), (1, .int (nI d))] (vv.toList ++ []) h') from ⟨pz_rc hP, by decide, pz_lim hP rfl, am_call.up (pz_sign hP ?_) (Nat.le_trans (by decide) hD)⟩)
    have fin : pz_sg h1 a1 (Int8.ofInt 43).toInt32 = true ∨ pz_sg h1 a1 (Int8.ofInt 45).toInt32 = true → pz_S 3 none am_r212 D Q 23 [(2, .int v), (0, .ref 154), (1, .int (nI d))] [] h1 := ?_
    rotate_left
    · intro hz
      rcases hz with z | z
      · exact absurd (pz_sg_lt hP z).2 (by have := hP.2.2.2.2.1; omega)
      · exact absurd (pz_sg_lt hP z).2 (by have := hP.2.2.2.2.1; omega)
    · cases e : pz_sg h1 a1 (Int8.ofInt 43).toInt32 with
      | true => exact am_goX 1 (show (¬ pz_b true = 0 → pz_S 3 none am_r212 D Q 23 [(2, .int v), (0, .ref 154), (1, .int (nI d))] [] h1) ∧ (¬ ¬ pz_b true = 0 → pz_S 3 none am_r212 D Q 14 [(2, .int v), (0, .ref 154), (1, .int (nI d))] [] h1) from ⟨fun _ => fin (Or.inl e), fun z => absurd (by decide) z⟩)
      | false =>
        refine am_goX 1 (show (¬ pz_b false = 0 → pz_S 3 none am_r212 D Q 23 [(2, .int v), (0, .ref 154), (1, .int (nI d))] [] h1) ∧ (¬ ¬ pz_b false = 0 → pz_S 3 none am_r212 D Q 14 [(2, .int v), (0, .ref 154), (1, .int (nI d))] [] h1) from ⟨fun z => absurd rfl z, fun _ => ?_⟩)
        refine am_goX 3 (show am_rc h1 154 11 ∧ 0 ≤ 8 ∧ h1.2.2.2.2 + am_al 215 ≤ 175 ∧ am_call am_cod D 215 [.ref 154, .int (Int8.ofInt 45).toInt32] h1 (fun vv h' => pz_S 3 none am_r212 D Q 20 [(2, .int v), (0, .ref 154), (1, .int (nI d))] (vv.toList ++ []) h') from ⟨pz_rc hP, by decide, pz_lim hP rfl, am_call.up (pz_sign hP ?_) (Nat.le_trans (by decide) hD)⟩)
        cases e2 : pz_sg h1 a1 (Int8.ofInt 45).toInt32 with
        | true => exact am_goX 1 (show (pz_b true = 0 → pz_S 3 none am_r212 D Q 62 [(2, .int v), (0, .ref 154), (1, .int (nI d))] [] h1) ∧ (¬ pz_b true = 0 → pz_S 3 none am_r212 D Q 23 [(2, .int v), (0, .ref 154), (1, .int (nI d))] [] h1) from ⟨fun z => absurd z (by decide), fun _ => fin (Or.inr e2)⟩)
        | false =>
          refine am_goX 1 (show (pz_b false = 0 → pz_S 3 none am_r212 D Q 62 [(2, .int v), (0, .ref 154), (1, .int (nI d))] [] h1) ∧ (¬ pz_b false = 0 → pz_S 3 none am_r212 D Q 23 [(2, .int v), (0, .ref 154), (1, .int (nI d))] [] h1) from ⟨fun _ => ?_, fun z => absurd rfl z⟩)
          exact am_goX 1 (show (none : Option FieldType) = none ∧ h1.2.2.2.2 = 175 ∧ _ from ⟨rfl, pz_175 hP, hQ a1 c1 h1 hp⟩)
  | succ n ih =>
    intro a1 c1 v h1 hn hp
    obtain ⟨hP, hf, ha, hc, hK⟩ := id hp
    refine am_goX 3 (show am_rc h1 154 11 ∧ 0 ≤ 8 ∧ h1.2.2.2.2 + am_al 215 ≤ 175 ∧ am_call am_cod D 215 [.ref 154, .int (Int8.ofInt 43).toInt32] h1 (fun vv h' => pz_S 3 none am_r212 D Q 11 [(2, .int v), (0, .ref 154), (1, .int (nI d))] (vv.toList ++ []) h') from ⟨pz_rc hP, by decide, pz_lim hP rfl, am_call.up (pz_sign hP ?_) (Nat.le_trans (by decide) hD)⟩)
    have fin : pz_sg h1 a1 (Int8.ofInt 43).toInt32 = true ∨ pz_sg h1 a1 (Int8.ofInt 45).toInt32 = true → pz_S 3 none am_r212 D Q 23 [(2, .int v), (0, .ref 154), (1, .int (nI d))] [] h1 := ?_
    rotate_left
    · intro hz
      have hlt : a1 < N := by
        rcases hz with z | z
        · exact (pz_sg_lt hP z).2
        · exact (pz_sg_lt hP z).2
      have hP1 := pz_at (a' := a1 + 1) hP (by omega)
      refine am_goX 3 (show am_rc h1 154 11 ∧ 0 ≤ 8 ∧ h1.2.2.2.2 + am_al 215 ≤ 175 ∧ am_call am_cod D 215 [.ref 154, .int (Int8.ofInt 43).toInt32] h1 (fun vv h' => pz_S 3 none am_r212 D Q 29 [(2, .int v), (0, .ref 154), (1, .int (nI d))] (vv.toList ++ []) h') from ⟨pz_rc hP, by decide, pz_lim hP rfl, am_call.up (pz_sign hP ?_) (Nat.le_trans (by decide) hD)⟩)
      generalize pz_b (pz_sg h1 a1 (Int8.ofInt 43).toInt32) = v1
      refine am_goX 7 (show 2 < 3 ∧ (Value.ref 154).category = 1 ∧ am_sh h1 154 = some (11, 0) ∧ am_sh h1 154 = some (11, 0) ∧ narrow (am_fty 11 7) (.int (((h1.1 154 7) + (Int32.ofInt 1)))) = .int (((h1.1 154 7) + (Int32.ofInt 1))) ∧ fits (am_fty 11 7) (.int (((h1.1 154 7) + (Int32.ofInt 1)))) = true ∧ pz_S 3 none am_r212 D Q 40 [(2, .int v1), (0, .ref 154), (1, .int (nI d))] [] (am_wI h1 154 7 (((h1.1 154 7) + (Int32.ofInt 1)))) from ⟨by decide, rfl, pz_154 hP, pz_154 hP, rfl, rfl, ?_⟩)
      rw [hP.2.2.2.1, xw_i1]
      refine am_goX 3 (show am_rc (am_wI h1 154 7 (nI (a1 + 1))) 154 11 ∧ 0 ≤ 8 ∧ (am_wI h1 154 7 (nI (a1 + 1))).2.2.2.2 + am_al 213 ≤ 175 ∧ am_call am_cod D 213 [.ref 154, .int (nI d)] (am_wI h1 154 7 (nI (a1 + 1))) (fun vv h' => pz_S 3 none am_r212 D Q 45 [(2, .int v1), (0, .ref 154), (1, .int (nI d))] (vv.toList ++ []) h') from ⟨pz_rc hP1, by decide, pz_lim hP1 rfl, hT N (a1 + 1) c1 (k + 1) _ _ hP1 (by omega) (pz_atK hK) (fun a2 c2 h2 q1 q2 q3 q4 q5 => ?_)⟩)
      refine am_goX 3 (show (v1 = 0 → pz_S 3 none am_r212 D Q 54 [(2, .int v1), (0, .ref 154), (1, .int (nI d))] [.ref 154] h2) ∧ (¬ v1 = 0 → pz_S 3 none am_r212 D Q 50 [(2, .int v1), (0, .ref 154), (1, .int (nI d))] [.ref 154] h2) from ⟨fun hc1 => ?_, fun hc1 => ?_⟩)
      · refine am_goX 3 (show am_rc h2 154 11 ∧ 0 ≤ 8 ∧ h2.2.2.2.2 + am_al 216 ≤ 175 ∧ am_call am_cod D 216 [.ref 154, .int (Int32.ofInt 5), .int (Int32.ofInt 0)] h2 (fun vv h' => pz_S 3 none am_r212 D Q 59 [(2, .int v1), (0, .ref 154), (1, .int (nI d))] (vv.toList ++ []) h') from ⟨pz_rc q1, by decide, pz_lim q1 rfl, am_call.up (pz_emit (k := k + 1 + 1) (k' := k + 1) q1 (by omega) q5 (Or.inr (Or.inr (Or.inr ⟨⟨5, by decide, by decide, rfl⟩, by omega, rfl⟩))) (fun h3 r1 r2 r3 => ?_)) (Nat.le_trans (by decide) hD)⟩)
        refine am_goX 1 (show pz_S 3 none am_r212 D Q 5 [(2, .int v1), (0, .ref 154), (1, .int (nI d))] [] h3 from ?_)
        exact ih a2 (c2 + 1) v1 h3 (by omega) ⟨r1, pz_tr (pz_tr (pz_tr hf pz_atf) q2) r2, by omega, by omega, r3⟩
      · refine am_goX 4 (show am_rc h2 154 11 ∧ 0 ≤ 8 ∧ h2.2.2.2.2 + am_al 216 ≤ 175 ∧ am_call am_cod D 216 [.ref 154, .int (Int32.ofInt 4), .int (Int32.ofInt 0)] h2 (fun vv h' => pz_S 3 none am_r212 D Q 59 [(2, .int v1), (0, .ref 154), (1, .int (nI d))] (vv.toList ++ []) h') from ⟨pz_rc q1, by decide, pz_lim q1 rfl, am_call.up (pz_emit (k := k + 1 + 1) (k' := k + 1) q1 (by omega) q5 (Or.inr (Or.inr (Or.inr ⟨⟨4, by decide, by decide, rfl⟩, by omega, rfl⟩))) (fun h3 r1 r2 r3 => ?_)) (Nat.le_trans (by decide) hD)⟩)
        refine am_goX 1 (show pz_S 3 none am_r212 D Q 5 [(2, .int v1), (0, .ref 154), (1, .int (nI d))] [] h3 from ?_)
        exact ih a2 (c2 + 1) v1 h3 (by omega) ⟨r1, pz_tr (pz_tr (pz_tr hf pz_atf) q2) r2, by omega, by omega, r3⟩
    · cases e : pz_sg h1 a1 (Int8.ofInt 43).toInt32 with
      | true => exact am_goX 1 (show (¬ pz_b true = 0 → pz_S 3 none am_r212 D Q 23 [(2, .int v), (0, .ref 154), (1, .int (nI d))] [] h1) ∧ (¬ ¬ pz_b true = 0 → pz_S 3 none am_r212 D Q 14 [(2, .int v), (0, .ref 154), (1, .int (nI d))] [] h1) from ⟨fun _ => fin (Or.inl e), fun z => absurd (by decide) z⟩)
      | false =>
        refine am_goX 1 (show (¬ pz_b false = 0 → pz_S 3 none am_r212 D Q 23 [(2, .int v), (0, .ref 154), (1, .int (nI d))] [] h1) ∧ (¬ ¬ pz_b false = 0 → pz_S 3 none am_r212 D Q 14 [(2, .int v), (0, .ref 154), (1, .int (nI d))] [] h1) from ⟨fun z => absurd rfl z, fun _ => ?_⟩)
        refine am_goX 3 (show am_rc h1 154 11 ∧ 0 ≤ 8 ∧ h1.2.2.2.2 + am_al 215 ≤ 175 ∧ am_call am_cod D 215 [.ref 154, .int (Int8.ofInt 45).toInt32] h1 (fun vv h' => pz_S 3 none am_r212 D Q 20 [(2, .int v), (0, .ref 154), (1, .int (nI d))] (vv.toList ++ []) h') from ⟨pz_rc hP, by decide, pz_lim hP rfl, am_call.up (pz_sign hP ?_) (Nat.le_trans (by decide) hD)⟩)
        cases e2 : pz_sg h1 a1 (Int8.ofInt 45).toInt32 with
        | true => exact am_goX 1 (show (pz_b true = 0 → pz_S 3 none am_r212 D Q 62 [(2, .int v), (0, .ref 154), (1, .int (nI d))] [] h1) ∧ (¬ pz_b true = 0 → pz_S 3 none am_r212 D Q 23 [(2, .int v), (0, .ref 154), (1, .int (nI d))] [] h1) from ⟨fun z => absurd z (by decide), fun _ => fin (Or.inr e2)⟩)
        | false =>
          refine am_goX 1 (show (pz_b false = 0 → pz_S 3 none am_r212 D Q 62 [(2, .int v), (0, .ref 154), (1, .int (nI d))] [] h1) ∧ (¬ pz_b false = 0 → pz_S 3 none am_r212 D Q 23 [(2, .int v), (0, .ref 154), (1, .int (nI d))] [] h1) from ⟨fun _ => ?_, fun z => absurd rfl z⟩)
          exact am_goX 1 (show (none : Option FieldType) = none ∧ h1.2.2.2.2 = 175 ∧ _ from ⟨rfl, pz_175 hP, hQ a1 c1 h1 hp⟩)
theorem pz_sums {D d : Nat} (hD : 2 ≤ D) (hT : pz_T D 213 d) : pz_T (D + 1) 212 d := by
  intro N a c k h Q hP0 hca hK0 hQ0
  have hQ : ∀ a' c' h', pz_po N a c (k + 1) h a' c' h' → Q none h' := fun a' c' h' q => hQ0 a' c' h' q.1 q.2.1 q.2.2.1 q.2.2.2.1 q.2.2.2.2
  refine pz_call (n := 212) (nL := 3) (rt := none) (rows := am_r212) (d := D) (by decide +kernel) (by decide +kernel) rfl (by funext pc; rfl) (pz_175 hP0) (by exact Nat.le_of_ble_eq_true rfl) ?_
  refine am_goX 3 (show am_rc h 154 11 ∧ 0 ≤ 8 ∧ h.2.2.2.2 + am_al 213 ≤ 175 ∧ am_call am_cod D 213 [.ref 154, .int (nI d)] h (fun vv h' => pz_S 3 none am_r212 D Q 5 [(0, .ref 154), (1, .int (nI d))] (vv.toList ++ []) h') from ⟨pz_rc hP0, by decide, pz_lim hP0 rfl, hT N a c k h _ hP0 hca hK0 (fun a1 c1 h1 q1 q2 q3 q4 q5 => ?_)⟩)
  have hp : pz_po N a c (k + 1) h a1 c1 h1 := ⟨q1, q2, q3, q4, q5⟩
  clear q1 q2 q3 q4 q5
  obtain ⟨hP, hf, ha, hc, hK⟩ := id hp
  refine am_goX 3 (show am_rc h1 154 11 ∧ 0 ≤ 8 ∧ h1.2.2.2.2 + am_al 215 ≤ 175 ∧ am_call am_cod D 215 [.ref 154, .int (Int8.ofInt 43).toInt32] h1 (fun vv h' => pz_S 3 none am_r212 D Q 11 [(0, .ref 154), (1, .int (nI d))] (vv.toList ++ []) h') from ⟨pz_rc hP, by decide, pz_lim hP rfl, am_call.up (pz_sign hP ?_) (Nat.le_trans (by decide) hD)⟩)
  have fin : pz_sg h1 a1 (Int8.ofInt 43).toInt32 = true ∨ pz_sg h1 a1 (Int8.ofInt 45).toInt32 = true → pz_S 3 none am_r212 D Q 23 [(0, .ref 154), (1, .int (nI d))] [] h1 := ?_
  rotate_left
  · intro hz
    have hlt : a1 < N := by
      rcases hz with z | z
      · exact (pz_sg_lt hP z).2
      · exact (pz_sg_lt hP z).2
    have hP1 := pz_at (a' := a1 + 1) hP (by omega)
    refine am_goX 3 (show am_rc h1 154 11 ∧ 0 ≤ 8 ∧ h1.2.2.2.2 + am_al 215 ≤ 175 ∧ am_call am_cod D 215 [.ref 154, .int (Int8.ofInt 43).toInt32] h1 (fun vv h' => pz_S 3 none am_r212 D Q 29 [(0, .ref 154), (1, .int (nI d))] (vv.toList ++ []) h') from ⟨pz_rc hP, by decide, pz_lim hP rfl, am_call.up (pz_sign hP ?_) (Nat.le_trans (by decide) hD)⟩)
    generalize pz_b (pz_sg h1 a1 (Int8.ofInt 43).toInt32) = v1
    refine am_goX 7 (show 2 < 3 ∧ (Value.ref 154).category = 1 ∧ am_sh h1 154 = some (11, 0) ∧ am_sh h1 154 = some (11, 0) ∧ narrow (am_fty 11 7) (.int (((h1.1 154 7) + (Int32.ofInt 1)))) = .int (((h1.1 154 7) + (Int32.ofInt 1))) ∧ fits (am_fty 11 7) (.int (((h1.1 154 7) + (Int32.ofInt 1)))) = true ∧ pz_S 3 none am_r212 D Q 40 [(2, .int v1), (0, .ref 154), (1, .int (nI d))] [] (am_wI h1 154 7 (((h1.1 154 7) + (Int32.ofInt 1)))) from ⟨by decide, rfl, pz_154 hP, pz_154 hP, rfl, rfl, ?_⟩)
    rw [hP.2.2.2.1, xw_i1]
    refine am_goX 3 (show am_rc (am_wI h1 154 7 (nI (a1 + 1))) 154 11 ∧ 0 ≤ 8 ∧ (am_wI h1 154 7 (nI (a1 + 1))).2.2.2.2 + am_al 213 ≤ 175 ∧ am_call am_cod D 213 [.ref 154, .int (nI d)] (am_wI h1 154 7 (nI (a1 + 1))) (fun vv h' => pz_S 3 none am_r212 D Q 45 [(2, .int v1), (0, .ref 154), (1, .int (nI d))] (vv.toList ++ []) h') from ⟨pz_rc hP1, by decide, pz_lim hP1 rfl, hT N (a1 + 1) c1 (k + 1) _ _ hP1 (by omega) (pz_atK hK) (fun a2 c2 h2 q1 q2 q3 q4 q5 => ?_)⟩)
    refine am_goX 3 (show (v1 = 0 → pz_S 3 none am_r212 D Q 54 [(2, .int v1), (0, .ref 154), (1, .int (nI d))] [.ref 154] h2) ∧ (¬ v1 = 0 → pz_S 3 none am_r212 D Q 50 [(2, .int v1), (0, .ref 154), (1, .int (nI d))] [.ref 154] h2) from ⟨fun hc1 => ?_, fun hc1 => ?_⟩)
    · refine am_goX 3 (show am_rc h2 154 11 ∧ 0 ≤ 8 ∧ h2.2.2.2.2 + am_al 216 ≤ 175 ∧ am_call am_cod D 216 [.ref 154, .int (Int32.ofInt 5), .int (Int32.ofInt 0)] h2 (fun vv h' => pz_S 3 none am_r212 D Q 59 [(2, .int v1), (0, .ref 154), (1, .int (nI d))] (vv.toList ++ []) h') from ⟨pz_rc q1, by decide, pz_lim q1 rfl, am_call.up (pz_emit (k := k + 1 + 1) (k' := k + 1) q1 (by omega) q5 (Or.inr (Or.inr (Or.inr ⟨⟨5, by decide, by decide, rfl⟩, by omega, rfl⟩))) (fun h3 r1 r2 r3 => ?_)) (Nat.le_trans (by decide) hD)⟩)
      refine am_goX 1 (show pz_S 3 none am_r212 D Q 5 [(2, .int v1), (0, .ref 154), (1, .int (nI d))] [] h3 from ?_)
      exact pz_sums_l hD hT hca hQ N a2 (c2 + 1) v1 h3 (by omega) ⟨r1, pz_tr (pz_tr (pz_tr hf pz_atf) q2) r2, by omega, by omega, r3⟩
    · refine am_goX 4 (show am_rc h2 154 11 ∧ 0 ≤ 8 ∧ h2.2.2.2.2 + am_al 216 ≤ 175 ∧ am_call am_cod D 216 [.ref 154, .int (Int32.ofInt 4), .int (Int32.ofInt 0)] h2 (fun vv h' => pz_S 3 none am_r212 D Q 59 [(2, .int v1), (0, .ref 154), (1, .int (nI d))] (vv.toList ++ []) h') from ⟨pz_rc q1, by decide, pz_lim q1 rfl, am_call.up (pz_emit (k := k + 1 + 1) (k' := k + 1) q1 (by omega) q5 (Or.inr (Or.inr (Or.inr ⟨⟨4, by decide, by decide, rfl⟩, by omega, rfl⟩))) (fun h3 r1 r2 r3 => ?_)) (Nat.le_trans (by decide) hD)⟩)
      refine am_goX 1 (show pz_S 3 none am_r212 D Q 5 [(2, .int v1), (0, .ref 154), (1, .int (nI d))] [] h3 from ?_)
      exact pz_sums_l hD hT hca hQ N a2 (c2 + 1) v1 h3 (by omega) ⟨r1, pz_tr (pz_tr (pz_tr hf pz_atf) q2) r2, by omega, by omega, r3⟩
  · cases e : pz_sg h1 a1 (Int8.ofInt 43).toInt32 with
    | true => exact am_goX 1 (show (¬ pz_b true = 0 → pz_S 3 none am_r212 D Q 23 [(0, .ref 154), (1, .int (nI d))] [] h1) ∧ (¬ ¬ pz_b true = 0 → pz_S 3 none am_r212 D Q 14 [(0, .ref 154), (1, .int (nI d))] [] h1) from ⟨fun _ => fin (Or.inl e), fun z => absurd (by decide) z⟩)
    | false =>
      refine am_goX 1 (show (¬ pz_b false = 0 → pz_S 3 none am_r212 D Q 23 [(0, .ref 154), (1, .int (nI d))] [] h1) ∧ (¬ ¬ pz_b false = 0 → pz_S 3 none am_r212 D Q 14 [(0, .ref 154), (1, .int (nI d))] [] h1) from ⟨fun z => absurd rfl z, fun _ => ?_⟩)
      refine am_goX 3 (show am_rc h1 154 11 ∧ 0 ≤ 8 ∧ h1.2.2.2.2 + am_al 215 ≤ 175 ∧ am_call am_cod D 215 [.ref 154, .int (Int8.ofInt 45).toInt32] h1 (fun vv h' => pz_S 3 none am_r212 D Q 20 [(0, .ref 154), (1, .int (nI d))] (vv.toList ++ []) h') from ⟨pz_rc hP, by decide, pz_lim hP rfl, am_call.up (pz_sign hP ?_) (Nat.le_trans (by decide) hD)⟩)
      cases e2 : pz_sg h1 a1 (Int8.ofInt 45).toInt32 with
      | true => exact am_goX 1 (show (pz_b true = 0 → pz_S 3 none am_r212 D Q 62 [(0, .ref 154), (1, .int (nI d))] [] h1) ∧ (¬ pz_b true = 0 → pz_S 3 none am_r212 D Q 23 [(0, .ref 154), (1, .int (nI d))] [] h1) from ⟨fun z => absurd z (by decide), fun _ => fin (Or.inr e2)⟩)
      | false =>
        refine am_goX 1 (show (pz_b false = 0 → pz_S 3 none am_r212 D Q 62 [(0, .ref 154), (1, .int (nI d))] [] h1) ∧ (¬ pz_b false = 0 → pz_S 3 none am_r212 D Q 23 [(0, .ref 154), (1, .int (nI d))] [] h1) from ⟨fun _ => ?_, fun z => absurd rfl z⟩)
        exact am_goX 1 (show (none : Option FieldType) = none ∧ h1.2.2.2.2 = 175 ∧ _ from ⟨rfl, pz_175 hP, hQ a1 c1 h1 hp⟩)
theorem pz_whole_l {D d N a c k : Nat} {h : am_H} {Q : am_Q} (hD : 2 ≤ D) (hT : pz_T D 211 d) (hca : c ≤ a) (hQ : ∀ a' c' h', pz_po N a c (k + 1) h a' c' h' → Q none h') : ∀ (n a1 c1 : Nat) (v : Int32) (h1 : am_H), N ≤ a1 + n → pz_po N a c (k + 1) h a1 c1 h1 → pz_S 3 none am_r210 D Q 5 [(2, .int v), (0, .ref 154), (1, .int (nI d))] [] h1 := by
  intro n
  induction n with
  | zero =>
    intro a1 c1 v h1 hn hp
    obtain ⟨hP, hf, ha, hc, hK⟩ := id hp
    refine am_goX 3 (show am_rc h1 154 11 ∧ 0 ≤ 8 ∧ h1.2.2.2.2 + am_al 195 ≤ 175 ∧ am_call am_cod D 195 [.ref 154, .int (Int8.ofInt 15).toInt32] h1 (fun vv h' => pz_S 3 none am_r210 D Q 11 [(2, .int v), (0, .ref 154), (1, .int (nI d))] (vv.toList ++ []) h') from ⟨pz_rc hP, by decide, pz_lim hP rfl, am_call.up (pz_word (w := 15) hP (by decide) ?_) (Nat.le_trans (by decide) hD)⟩)
    have fin : pz_wd h1 a1 15 = true ∨ pz_wd h1 a1 16 = true → pz_S 3 none am_r210 D Q 23 [(2, .int v), (0, .ref 154), (1, .int (nI d))] [] h1 := ?_
    rotate_left
    · intro hz
      rcases hz with z | z
      · exact absurd (pz_wd_lt hP z).2 (by have := hP.2.2.2.2.1; omega)
      · exact absurd (pz_wd_lt hP z).2 (by have := hP.2.2.2.2.1; omega)
    · cases e : pz_wd h1 a1 15 with
      | true => exact am_goX 1 (show (¬ pz_b true = 0 → pz_S 3 none am_r210 D Q 23 [(2, .int v), (0, .ref 154), (1, .int (nI d))] [] h1) ∧ (¬ ¬ pz_b true = 0 → pz_S 3 none am_r210 D Q 14 [(2, .int v), (0, .ref 154), (1, .int (nI d))] [] h1) from ⟨fun _ => fin (Or.inl e), fun z => absurd (by decide) z⟩)
      | false =>
        refine am_goX 1 (show (¬ pz_b false = 0 → pz_S 3 none am_r210 D Q 23 [(2, .int v), (0, .ref 154), (1, .int (nI d))] [] h1) ∧ (¬ ¬ pz_b false = 0 → pz_S 3 none am_r210 D Q 14 [(2, .int v), (0, .ref 154), (1, .int (nI d))] [] h1) from ⟨fun z => absurd rfl z, fun _ => ?_⟩)
        refine am_goX 3 (show am_rc h1 154 11 ∧ 0 ≤ 8 ∧ h1.2.2.2.2 + am_al 195 ≤ 175 ∧ am_call am_cod D 195 [.ref 154, .int (Int8.ofInt 16).toInt32] h1 (fun vv h' => pz_S 3 none am_r210 D Q 20 [(2, .int v), (0, .ref 154), (1, .int (nI d))] (vv.toList ++ []) h') from ⟨pz_rc hP, by decide, pz_lim hP rfl, am_call.up (pz_word (w := 16) hP (by decide) ?_) (Nat.le_trans (by decide) hD)⟩)
        cases e2 : pz_wd h1 a1 16 with
        | true => exact am_goX 1 (show (pz_b true = 0 → pz_S 3 none am_r210 D Q 64 [(2, .int v), (0, .ref 154), (1, .int (nI d))] [] h1) ∧ (¬ pz_b true = 0 → pz_S 3 none am_r210 D Q 23 [(2, .int v), (0, .ref 154), (1, .int (nI d))] [] h1) from ⟨fun z => absurd z (by decide), fun _ => fin (Or.inr e2)⟩)
        | false =>
          refine am_goX 1 (show (pz_b false = 0 → pz_S 3 none am_r210 D Q 64 [(2, .int v), (0, .ref 154), (1, .int (nI d))] [] h1) ∧ (¬ pz_b false = 0 → pz_S 3 none am_r210 D Q 23 [(2, .int v), (0, .ref 154), (1, .int (nI d))] [] h1) from ⟨fun _ => ?_, fun z => absurd rfl z⟩)
          exact am_goX 1 (show (none : Option FieldType) = none ∧ h1.2.2.2.2 = 175 ∧ _ from ⟨rfl, pz_175 hP, hQ a1 c1 h1 hp⟩)
  | succ n ih =>
    intro a1 c1 v h1 hn hp
    obtain ⟨hP, hf, ha, hc, hK⟩ := id hp
    refine am_goX 3 (show am_rc h1 154 11 ∧ 0 ≤ 8 ∧ h1.2.2.2.2 + am_al 195 ≤ 175 ∧ am_call am_cod D 195 [.ref 154, .int (Int8.ofInt 15).toInt32] h1 (fun vv h' => pz_S 3 none am_r210 D Q 11 [(2, .int v), (0, .ref 154), (1, .int (nI d))] (vv.toList ++ []) h') from ⟨pz_rc hP, by decide, pz_lim hP rfl, am_call.up (pz_word (w := 15) hP (by decide) ?_) (Nat.le_trans (by decide) hD)⟩)
    have fin : pz_wd h1 a1 15 = true ∨ pz_wd h1 a1 16 = true → pz_S 3 none am_r210 D Q 23 [(2, .int v), (0, .ref 154), (1, .int (nI d))] [] h1 := ?_
    rotate_left
    · intro hz
      have hlt : a1 < N := by
        rcases hz with z | z
        · exact (pz_wd_lt hP z).2
        · exact (pz_wd_lt hP z).2
      have hP1 := pz_at (a' := a1 + 1) hP (by omega)
      refine am_goX 3 (show am_rc h1 154 11 ∧ 0 ≤ 8 ∧ h1.2.2.2.2 + am_al 195 ≤ 175 ∧ am_call am_cod D 195 [.ref 154, .int (Int8.ofInt 15).toInt32] h1 (fun vv h' => pz_S 3 none am_r210 D Q 29 [(2, .int v), (0, .ref 154), (1, .int (nI d))] (vv.toList ++ []) h') from ⟨pz_rc hP, by decide, pz_lim hP rfl, am_call.up (pz_word (w := 15) hP (by decide) ?_) (Nat.le_trans (by decide) hD)⟩)
      generalize pz_b (pz_wd h1 a1 15) = v1
      refine am_goX 7 (show 2 < 3 ∧ (Value.ref 154).category = 1 ∧ am_sh h1 154 = some (11, 0) ∧ am_sh h1 154 = some (11, 0) ∧ narrow (am_fty 11 7) (.int (((h1.1 154 7) + (Int32.ofInt 1)))) = .int (((h1.1 154 7) + (Int32.ofInt 1))) ∧ fits (am_fty 11 7) (.int (((h1.1 154 7) + (Int32.ofInt 1)))) = true ∧ pz_S 3 none am_r210 D Q 40 [(2, .int v1), (0, .ref 154), (1, .int (nI d))] [] (am_wI h1 154 7 (((h1.1 154 7) + (Int32.ofInt 1)))) from ⟨by decide, rfl, pz_154 hP, pz_154 hP, rfl, rfl, ?_⟩)
      rw [hP.2.2.2.1, xw_i1]
      refine am_goX 3 (show am_rc (am_wI h1 154 7 (nI (a1 + 1))) 154 11 ∧ 0 ≤ 8 ∧ (am_wI h1 154 7 (nI (a1 + 1))).2.2.2.2 + am_al 211 ≤ 175 ∧ am_call am_cod D 211 [.ref 154, .int (nI d)] (am_wI h1 154 7 (nI (a1 + 1))) (fun vv h' => pz_S 3 none am_r210 D Q 45 [(2, .int v1), (0, .ref 154), (1, .int (nI d))] (vv.toList ++ []) h') from ⟨pz_rc hP1, by decide, pz_lim hP1 rfl, hT N (a1 + 1) c1 (k + 1) _ _ hP1 (by omega) (pz_atK hK) (fun a2 c2 h2 q1 q2 q3 q4 q5 => ?_)⟩)
      refine am_goX 3 (show (v1 = 0 → pz_S 3 none am_r210 D Q 55 [(2, .int v1), (0, .ref 154), (1, .int (nI d))] [.ref 154] h2) ∧ (¬ v1 = 0 → pz_S 3 none am_r210 D Q 50 [(2, .int v1), (0, .ref 154), (1, .int (nI d))] [.ref 154] h2) from ⟨fun hc1 => ?_, fun hc1 => ?_⟩)
      · refine am_goX 3 (show am_rc h2 154 11 ∧ 0 ≤ 8 ∧ h2.2.2.2.2 + am_al 216 ≤ 175 ∧ am_call am_cod D 216 [.ref 154, .int (Int8.ofInt 10).toInt32, .int (Int32.ofInt 0)] h2 (fun vv h' => pz_S 3 none am_r210 D Q 61 [(2, .int v1), (0, .ref 154), (1, .int (nI d))] (vv.toList ++ []) h') from ⟨pz_rc q1, by decide, pz_lim q1 rfl, am_call.up (pz_emit (k := k + 1 + 1) (k' := k + 1) q1 (by omega) q5 (Or.inr (Or.inr (Or.inr ⟨⟨10, by decide, by decide, rfl⟩, by omega, rfl⟩))) (fun h3 r1 r2 r3 => ?_)) (Nat.le_trans (by decide) hD)⟩)
        refine am_goX 1 (show pz_S 3 none am_r210 D Q 5 [(2, .int v1), (0, .ref 154), (1, .int (nI d))] [] h3 from ?_)
        exact ih a2 (c2 + 1) v1 h3 (by omega) ⟨r1, pz_tr (pz_tr (pz_tr hf pz_atf) q2) r2, by omega, by omega, r3⟩
      · refine am_goX 4 (show am_rc h2 154 11 ∧ 0 ≤ 8 ∧ h2.2.2.2.2 + am_al 216 ≤ 175 ∧ am_call am_cod D 216 [.ref 154, .int (Int8.ofInt 9).toInt32, .int (Int32.ofInt 0)] h2 (fun vv h' => pz_S 3 none am_r210 D Q 61 [(2, .int v1), (0, .ref 154), (1, .int (nI d))] (vv.toList ++ []) h') from ⟨pz_rc q1, by decide, pz_lim q1 rfl, am_call.up (pz_emit (k := k + 1 + 1) (k' := k + 1) q1 (by omega) q5 (Or.inr (Or.inr (Or.inr ⟨⟨9, by decide, by decide, rfl⟩, by omega, rfl⟩))) (fun h3 r1 r2 r3 => ?_)) (Nat.le_trans (by decide) hD)⟩)
        refine am_goX 1 (show pz_S 3 none am_r210 D Q 5 [(2, .int v1), (0, .ref 154), (1, .int (nI d))] [] h3 from ?_)
        exact ih a2 (c2 + 1) v1 h3 (by omega) ⟨r1, pz_tr (pz_tr (pz_tr hf pz_atf) q2) r2, by omega, by omega, r3⟩
    · cases e : pz_wd h1 a1 15 with
      | true => exact am_goX 1 (show (¬ pz_b true = 0 → pz_S 3 none am_r210 D Q 23 [(2, .int v), (0, .ref 154), (1, .int (nI d))] [] h1) ∧ (¬ ¬ pz_b true = 0 → pz_S 3 none am_r210 D Q 14 [(2, .int v), (0, .ref 154), (1, .int (nI d))] [] h1) from ⟨fun _ => fin (Or.inl e), fun z => absurd (by decide) z⟩)
      | false =>
        refine am_goX 1 (show (¬ pz_b false = 0 → pz_S 3 none am_r210 D Q 23 [(2, .int v), (0, .ref 154), (1, .int (nI d))] [] h1) ∧ (¬ ¬ pz_b false = 0 → pz_S 3 none am_r210 D Q 14 [(2, .int v), (0, .ref 154), (1, .int (nI d))] [] h1) from ⟨fun z => absurd rfl z, fun _ => ?_⟩)
        refine am_goX 3 (show am_rc h1 154 11 ∧ 0 ≤ 8 ∧ h1.2.2.2.2 + am_al 195 ≤ 175 ∧ am_call am_cod D 195 [.ref 154, .int (Int8.ofInt 16).toInt32] h1 (fun vv h' => pz_S 3 none am_r210 D Q 20 [(2, .int v), (0, .ref 154), (1, .int (nI d))] (vv.toList ++ []) h') from ⟨pz_rc hP, by decide, pz_lim hP rfl, am_call.up (pz_word (w := 16) hP (by decide) ?_) (Nat.le_trans (by decide) hD)⟩)
        cases e2 : pz_wd h1 a1 16 with
        | true => exact am_goX 1 (show (pz_b true = 0 → pz_S 3 none am_r210 D Q 64 [(2, .int v), (0, .ref 154), (1, .int (nI d))] [] h1) ∧ (¬ pz_b true = 0 → pz_S 3 none am_r210 D Q 23 [(2, .int v), (0, .ref 154), (1, .int (nI d))] [] h1) from ⟨fun z => absurd z (by decide), fun _ => fin (Or.inr e2)⟩)
        | false =>
          refine am_goX 1 (show (pz_b false = 0 → pz_S 3 none am_r210 D Q 64 [(2, .int v), (0, .ref 154), (1, .int (nI d))] [] h1) ∧ (¬ pz_b false = 0 → pz_S 3 none am_r210 D Q 23 [(2, .int v), (0, .ref 154), (1, .int (nI d))] [] h1) from ⟨fun _ => ?_, fun z => absurd rfl z⟩)
          exact am_goX 1 (show (none : Option FieldType) = none ∧ h1.2.2.2.2 = 175 ∧ _ from ⟨rfl, pz_175 hP, hQ a1 c1 h1 hp⟩)
theorem pz_whole {D d : Nat} (hD : 2 ≤ D) (hT : pz_T D 211 d) : pz_T (D + 1) 210 d := by
  intro N a c k h Q hP0 hca hK0 hQ0
  have hQ : ∀ a' c' h', pz_po N a c (k + 1) h a' c' h' → Q none h' := fun a' c' h' q => hQ0 a' c' h' q.1 q.2.1 q.2.2.1 q.2.2.2.1 q.2.2.2.2
  refine pz_call (n := 210) (nL := 3) (rt := none) (rows := am_r210) (d := D) (by decide +kernel) (by decide +kernel) rfl (by funext pc; rfl) (pz_175 hP0) (by exact Nat.le_of_ble_eq_true rfl) ?_
  refine am_goX 3 (show am_rc h 154 11 ∧ 0 ≤ 8 ∧ h.2.2.2.2 + am_al 211 ≤ 175 ∧ am_call am_cod D 211 [.ref 154, .int (nI d)] h (fun vv h' => pz_S 3 none am_r210 D Q 5 [(0, .ref 154), (1, .int (nI d))] (vv.toList ++ []) h') from ⟨pz_rc hP0, by decide, pz_lim hP0 rfl, hT N a c k h _ hP0 hca hK0 (fun a1 c1 h1 q1 q2 q3 q4 q5 => ?_)⟩)
  have hp : pz_po N a c (k + 1) h a1 c1 h1 := ⟨q1, q2, q3, q4, q5⟩
  clear q1 q2 q3 q4 q5
  obtain ⟨hP, hf, ha, hc, hK⟩ := id hp
  refine am_goX 3 (show am_rc h1 154 11 ∧ 0 ≤ 8 ∧ h1.2.2.2.2 + am_al 195 ≤ 175 ∧ am_call am_cod D 195 [.ref 154, .int (Int8.ofInt 15).toInt32] h1 (fun vv h' => pz_S 3 none am_r210 D Q 11 [(0, .ref 154), (1, .int (nI d))] (vv.toList ++ []) h') from ⟨pz_rc hP, by decide, pz_lim hP rfl, am_call.up (pz_word (w := 15) hP (by decide) ?_) (Nat.le_trans (by decide) hD)⟩)
  have fin : pz_wd h1 a1 15 = true ∨ pz_wd h1 a1 16 = true → pz_S 3 none am_r210 D Q 23 [(0, .ref 154), (1, .int (nI d))] [] h1 := ?_
  rotate_left
  · intro hz
    have hlt : a1 < N := by
      rcases hz with z | z
      · exact (pz_wd_lt hP z).2
      · exact (pz_wd_lt hP z).2
    have hP1 := pz_at (a' := a1 + 1) hP (by omega)
    refine am_goX 3 (show am_rc h1 154 11 ∧ 0 ≤ 8 ∧ h1.2.2.2.2 + am_al 195 ≤ 175 ∧ am_call am_cod D 195 [.ref 154, .int (Int8.ofInt 15).toInt32] h1 (fun vv h' => pz_S 3 none am_r210 D Q 29 [(0, .ref 154), (1, .int (nI d))] (vv.toList ++ []) h') from ⟨pz_rc hP, by decide, pz_lim hP rfl, am_call.up (pz_word (w := 15) hP (by decide) ?_) (Nat.le_trans (by decide) hD)⟩)
    generalize pz_b (pz_wd h1 a1 15) = v1
    refine am_goX 7 (show 2 < 3 ∧ (Value.ref 154).category = 1 ∧ am_sh h1 154 = some (11, 0) ∧ am_sh h1 154 = some (11, 0) ∧ narrow (am_fty 11 7) (.int (((h1.1 154 7) + (Int32.ofInt 1)))) = .int (((h1.1 154 7) + (Int32.ofInt 1))) ∧ fits (am_fty 11 7) (.int (((h1.1 154 7) + (Int32.ofInt 1)))) = true ∧ pz_S 3 none am_r210 D Q 40 [(2, .int v1), (0, .ref 154), (1, .int (nI d))] [] (am_wI h1 154 7 (((h1.1 154 7) + (Int32.ofInt 1)))) from ⟨by decide, rfl, pz_154 hP, pz_154 hP, rfl, rfl, ?_⟩)
    rw [hP.2.2.2.1, xw_i1]
    refine am_goX 3 (show am_rc (am_wI h1 154 7 (nI (a1 + 1))) 154 11 ∧ 0 ≤ 8 ∧ (am_wI h1 154 7 (nI (a1 + 1))).2.2.2.2 + am_al 211 ≤ 175 ∧ am_call am_cod D 211 [.ref 154, .int (nI d)] (am_wI h1 154 7 (nI (a1 + 1))) (fun vv h' => pz_S 3 none am_r210 D Q 45 [(2, .int v1), (0, .ref 154), (1, .int (nI d))] (vv.toList ++ []) h') from ⟨pz_rc hP1, by decide, pz_lim hP1 rfl, hT N (a1 + 1) c1 (k + 1) _ _ hP1 (by omega) (pz_atK hK) (fun a2 c2 h2 q1 q2 q3 q4 q5 => ?_)⟩)
    refine am_goX 3 (show (v1 = 0 → pz_S 3 none am_r210 D Q 55 [(2, .int v1), (0, .ref 154), (1, .int (nI d))] [.ref 154] h2) ∧ (¬ v1 = 0 → pz_S 3 none am_r210 D Q 50 [(2, .int v1), (0, .ref 154), (1, .int (nI d))] [.ref 154] h2) from ⟨fun hc1 => ?_, fun hc1 => ?_⟩)
    · refine am_goX 3 (show am_rc h2 154 11 ∧ 0 ≤ 8 ∧ h2.2.2.2.2 + am_al 216 ≤ 175 ∧ am_call am_cod D 216 [.ref 154, .int (Int8.ofInt 10).toInt32, .int (Int32.ofInt 0)] h2 (fun vv h' => pz_S 3 none am_r210 D Q 61 [(2, .int v1), (0, .ref 154), (1, .int (nI d))] (vv.toList ++ []) h') from ⟨pz_rc q1, by decide, pz_lim q1 rfl, am_call.up (pz_emit (k := k + 1 + 1) (k' := k + 1) q1 (by omega) q5 (Or.inr (Or.inr (Or.inr ⟨⟨10, by decide, by decide, rfl⟩, by omega, rfl⟩))) (fun h3 r1 r2 r3 => ?_)) (Nat.le_trans (by decide) hD)⟩)
      refine am_goX 1 (show pz_S 3 none am_r210 D Q 5 [(2, .int v1), (0, .ref 154), (1, .int (nI d))] [] h3 from ?_)
      exact pz_whole_l hD hT hca hQ N a2 (c2 + 1) v1 h3 (by omega) ⟨r1, pz_tr (pz_tr (pz_tr hf pz_atf) q2) r2, by omega, by omega, r3⟩
    · refine am_goX 4 (show am_rc h2 154 11 ∧ 0 ≤ 8 ∧ h2.2.2.2.2 + am_al 216 ≤ 175 ∧ am_call am_cod D 216 [.ref 154, .int (Int8.ofInt 9).toInt32, .int (Int32.ofInt 0)] h2 (fun vv h' => pz_S 3 none am_r210 D Q 61 [(2, .int v1), (0, .ref 154), (1, .int (nI d))] (vv.toList ++ []) h') from ⟨pz_rc q1, by decide, pz_lim q1 rfl, am_call.up (pz_emit (k := k + 1 + 1) (k' := k + 1) q1 (by omega) q5 (Or.inr (Or.inr (Or.inr ⟨⟨9, by decide, by decide, rfl⟩, by omega, rfl⟩))) (fun h3 r1 r2 r3 => ?_)) (Nat.le_trans (by decide) hD)⟩)
      refine am_goX 1 (show pz_S 3 none am_r210 D Q 5 [(2, .int v1), (0, .ref 154), (1, .int (nI d))] [] h3 from ?_)
      exact pz_whole_l hD hT hca hQ N a2 (c2 + 1) v1 h3 (by omega) ⟨r1, pz_tr (pz_tr (pz_tr hf pz_atf) q2) r2, by omega, by omega, r3⟩
  · cases e : pz_wd h1 a1 15 with
    | true => exact am_goX 1 (show (¬ pz_b true = 0 → pz_S 3 none am_r210 D Q 23 [(0, .ref 154), (1, .int (nI d))] [] h1) ∧ (¬ ¬ pz_b true = 0 → pz_S 3 none am_r210 D Q 14 [(0, .ref 154), (1, .int (nI d))] [] h1) from ⟨fun _ => fin (Or.inl e), fun z => absurd (by decide) z⟩)
    | false =>
      refine am_goX 1 (show (¬ pz_b false = 0 → pz_S 3 none am_r210 D Q 23 [(0, .ref 154), (1, .int (nI d))] [] h1) ∧ (¬ ¬ pz_b false = 0 → pz_S 3 none am_r210 D Q 14 [(0, .ref 154), (1, .int (nI d))] [] h1) from ⟨fun z => absurd rfl z, fun _ => ?_⟩)
      refine am_goX 3 (show am_rc h1 154 11 ∧ 0 ≤ 8 ∧ h1.2.2.2.2 + am_al 195 ≤ 175 ∧ am_call am_cod D 195 [.ref 154, .int (Int8.ofInt 16).toInt32] h1 (fun vv h' => pz_S 3 none am_r210 D Q 20 [(0, .ref 154), (1, .int (nI d))] (vv.toList ++ []) h') from ⟨pz_rc hP, by decide, pz_lim hP rfl, am_call.up (pz_word (w := 16) hP (by decide) ?_) (Nat.le_trans (by decide) hD)⟩)
      cases e2 : pz_wd h1 a1 16 with
      | true => exact am_goX 1 (show (pz_b true = 0 → pz_S 3 none am_r210 D Q 64 [(0, .ref 154), (1, .int (nI d))] [] h1) ∧ (¬ pz_b true = 0 → pz_S 3 none am_r210 D Q 23 [(0, .ref 154), (1, .int (nI d))] [] h1) from ⟨fun z => absurd z (by decide), fun _ => fin (Or.inr e2)⟩)
      | false =>
        refine am_goX 1 (show (pz_b false = 0 → pz_S 3 none am_r210 D Q 64 [(0, .ref 154), (1, .int (nI d))] [] h1) ∧ (¬ pz_b false = 0 → pz_S 3 none am_r210 D Q 23 [(0, .ref 154), (1, .int (nI d))] [] h1) from ⟨fun _ => ?_, fun z => absurd rfl z⟩)
        exact am_goX 1 (show (none : Option FieldType) = none ∧ h1.2.2.2.2 = 175 ∧ _ from ⟨rfl, pz_175 hP, hQ a1 c1 h1 hp⟩)
theorem pz_test {D d : Nat} (hD : 2 ≤ D) (hT : pz_T D 212 d) : pz_T (D + 1) 211 d := by
  intro N a c k h Q hP0 hca hK0 hQ
  refine pz_call (n := 211) (nL := 3) (rt := none) (rows := am_r211) (d := D) (by decide +kernel) (by decide +kernel) rfl (by funext pc; rfl) (pz_175 hP0) (by exact Nat.le_of_ble_eq_true rfl) ?_
  refine am_goX 3 (show am_rc h 154 11 ∧ 0 ≤ 8 ∧ h.2.2.2.2 + am_al 212 ≤ 175 ∧ am_call am_cod D 212 [.ref 154, .int (nI d)] h (fun vv h' => pz_S 3 none am_r211 D Q 5 [(0, .ref 154), (1, .int (nI d))] (vv.toList ++ []) h') from ⟨pz_rc hP0, by decide, pz_lim hP0 rfl, hT N a c k h _ hP0 hca hK0 (fun a1 c1 h1 hP hf ha hc hK => ?_)⟩)
  refine am_goX 3 (show am_rc h1 154 11 ∧ 0 ≤ 8 ∧ h1.2.2.2.2 + am_al 215 ≤ 175 ∧ am_call am_cod D 215 [.ref 154, .int (Int8.ofInt 60).toInt32] h1 (fun vv h' => pz_S 3 none am_r211 D Q 11 [(0, .ref 154), (1, .int (nI d))] (vv.toList ++ []) h') from ⟨pz_rc hP, by decide, pz_lim hP rfl, am_call.up (pz_sign hP ?_) (Nat.le_trans (by decide) hD)⟩)
  generalize pz_b (pz_sg h1 a1 (Int8.ofInt 60).toInt32) = v1
  have fin : ∀ x : Int32, pz_sg h1 a1 x = true → pz_S 3 none am_r211 D Q 30 [(2, .int v1), (0, .ref 154), (1, .int (nI d))] [] (am_wI h1 154 7 (nI (a1 + 1))) := ?_
  rotate_left
  · intro x hz
    have hlt : a1 < N := (pz_sg_lt hP hz).2
    have hP1 := pz_at (a' := a1 + 1) hP (by omega)
    refine am_goX 3 (show am_rc (am_wI h1 154 7 (nI (a1 + 1))) 154 11 ∧ 0 ≤ 8 ∧ (am_wI h1 154 7 (nI (a1 + 1))).2.2.2.2 + am_al 212 ≤ 175 ∧ am_call am_cod D 212 [.ref 154, .int (nI d)] (am_wI h1 154 7 (nI (a1 + 1))) (fun vv h' => pz_S 3 none am_r211 D Q 35 [(2, .int v1), (0, .ref 154), (1, .int (nI d))] (vv.toList ++ []) h') from ⟨pz_rc hP1, by decide, pz_lim hP1 rfl, hT N (a1 + 1) c1 (k + 1) _ _ hP1 (by omega) (pz_atK hK) (fun a2 c2 h2 q1 q2 q3 q4 q5 => ?_)⟩)
    refine am_goX 3 (show (v1 = 0 → pz_S 3 none am_r211 D Q 45 [(2, .int v1), (0, .ref 154), (1, .int (nI d))] [.ref 154] h2) ∧ (¬ v1 = 0 → pz_S 3 none am_r211 D Q 40 [(2, .int v1), (0, .ref 154), (1, .int (nI d))] [.ref 154] h2) from ⟨fun hc1 => ?_, fun hc1 => ?_⟩)
    · refine am_goX 3 (show am_rc h2 154 11 ∧ 0 ≤ 8 ∧ h2.2.2.2.2 + am_al 216 ≤ 175 ∧ am_call am_cod D 216 [.ref 154, .int (Int8.ofInt 8).toInt32, .int (Int32.ofInt 0)] h2 (fun vv h' => pz_S 3 none am_r211 D Q 51 [(2, .int v1), (0, .ref 154), (1, .int (nI d))] (vv.toList ++ []) h') from ⟨pz_rc q1, by decide, pz_lim q1 rfl, am_call.up (pz_emit (k := k + 1 + 1) (k' := k + 1) q1 (by omega) q5 (Or.inr (Or.inr (Or.inr ⟨⟨8, by decide, by decide, rfl⟩, by omega, rfl⟩))) (fun h3 r1 r2 r3 => ?_)) (Nat.le_trans (by decide) hD)⟩)
      exact am_goX 1 (show (none : Option FieldType) = none ∧ h3.2.2.2.2 = 175 ∧ _ from ⟨rfl, pz_175 r1, hQ a2 (c2 + 1) h3 r1 (pz_tr (pz_tr (pz_tr hf pz_atf) q2) r2) (by omega) (by omega) r3⟩)
    · refine am_goX 4 (show am_rc h2 154 11 ∧ 0 ≤ 8 ∧ h2.2.2.2.2 + am_al 216 ≤ 175 ∧ am_call am_cod D 216 [.ref 154, .int (Int8.ofInt 7).toInt32, .int (Int32.ofInt 0)] h2 (fun vv h' => pz_S 3 none am_r211 D Q 51 [(2, .int v1), (0, .ref 154), (1, .int (nI d))] (vv.toList ++ []) h') from ⟨pz_rc q1, by decide, pz_lim q1 rfl, am_call.up (pz_emit (k := k + 1 + 1) (k' := k + 1) q1 (by omega) q5 (Or.inr (Or.inr (Or.inr ⟨⟨7, by decide, by decide, rfl⟩, by omega, rfl⟩))) (fun h3 r1 r2 r3 => ?_)) (Nat.le_trans (by decide) hD)⟩)
      exact am_goX 1 (show (none : Option FieldType) = none ∧ h3.2.2.2.2 = 175 ∧ _ from ⟨rfl, pz_175 r1, hQ a2 (c2 + 1) h3 r1 (pz_tr (pz_tr (pz_tr hf pz_atf) q2) r2) (by omega) (by omega) r3⟩)
  refine am_goX 4 (show 2 < 3 ∧ am_rc h1 154 11 ∧ 0 ≤ 8 ∧ h1.2.2.2.2 + am_al 217 ≤ 175 ∧ am_call am_cod D 217 [.ref 154, .int (Int8.ofInt 60).toInt32] h1 (fun vv h' => pz_S 3 none am_r211 D Q 18 [(2, .int v1), (0, .ref 154), (1, .int (nI d))] (vv.toList ++ []) h') from ⟨by decide, pz_rc hP, by decide, pz_lim hP rfl, am_call.up (pz_hsign hP (fun e => ?_) (fun e => ?_)) hD⟩)
  · exact am_goX 1 (show (¬ (1 : Int32) = 0 → pz_S 3 none am_r211 D Q 30 [(2, .int v1), (0, .ref 154), (1, .int (nI d))] [] (am_wI h1 154 7 (nI (a1 + 1)))) ∧ (¬ ¬ (1 : Int32) = 0 → pz_S 3 none am_r211 D Q 21 [(2, .int v1), (0, .ref 154), (1, .int (nI d))] [] (am_wI h1 154 7 (nI (a1 + 1)))) from ⟨fun _ => fin _ e, fun z => absurd (by decide) z⟩)
  · refine am_goX 1 (show (¬ (0 : Int32) = 0 → pz_S 3 none am_r211 D Q 30 [(2, .int v1), (0, .ref 154), (1, .int (nI d))] [] h1) ∧ (¬ ¬ (0 : Int32) = 0 → pz_S 3 none am_r211 D Q 21 [(2, .int v1), (0, .ref 154), (1, .int (nI d))] [] h1) from ⟨fun z => absurd rfl z, fun _ => ?_⟩)
    refine am_goX 3 (show am_rc h1 154 11 ∧ 0 ≤ 8 ∧ h1.2.2.2.2 + am_al 217 ≤ 175 ∧ am_call am_cod D 217 [.ref 154, .int (Int8.ofInt 61).toInt32] h1 (fun vv h' => pz_S 3 none am_r211 D Q 27 [(2, .int v1), (0, .ref 154), (1, .int (nI d))] (vv.toList ++ []) h') from ⟨pz_rc hP, by decide, pz_lim hP rfl, am_call.up (pz_hsign hP (fun e2 => ?_) (fun e2 => ?_)) hD⟩)
    · exact am_goX 1 (show ((1 : Int32) = 0 → pz_S 3 none am_r211 D Q 51 [(2, .int v1), (0, .ref 154), (1, .int (nI d))] [] (am_wI h1 154 7 (nI (a1 + 1)))) ∧ (¬ (1 : Int32) = 0 → pz_S 3 none am_r211 D Q 30 [(2, .int v1), (0, .ref 154), (1, .int (nI d))] [] (am_wI h1 154 7 (nI (a1 + 1)))) from ⟨fun z => absurd z (by decide), fun _ => fin _ e2⟩)
    · refine am_goX 1 (show ((0 : Int32) = 0 → pz_S 3 none am_r211 D Q 51 [(2, .int v1), (0, .ref 154), (1, .int (nI d))] [] h1) ∧ (¬ (0 : Int32) = 0 → pz_S 3 none am_r211 D Q 30 [(2, .int v1), (0, .ref 154), (1, .int (nI d))] [] h1) from ⟨fun _ => ?_, fun z => absurd rfl z⟩)
      exact am_goX 1 (show (none : Option FieldType) = none ∧ h1.2.2.2.2 = 175 ∧ _ from ⟨rfl, pz_175 hP, hQ a1 c1 h1 hP hf ha hc hK⟩)
end
section
/-! takePart, AND THE GRAMMAR AS A WHOLE -/
theorem pz_part {D d : Nat} (hd : d ≤ 5) (hD : 2 ≤ D) (hrec : ¬ d = 5 → pz_T D 214 (d + 1) ∧ pz_T D 210 (d + 1)) : pz_T (D + 1) 214 d := by
  intro N a c k h Q hP hca hK hQ
  refine pz_call (n := 214) (nL := 4) (rt := none) (rows := am_r214) (d := D) (by decide +kernel) (by decide +kernel) rfl (by funext pc; rfl) (pz_175 hP) (by exact Nat.le_of_ble_eq_true rfl) ?_
  refine am_goX 3 (show am_sh h 154 = some (11, 0) ∧ ((h.1 154 8) ≤ 0 → pz_S 4 none am_r214 D Q 8 [(0, .ref 154), (1, .int (nI d))] [] h) ∧ (¬ ((h.1 154 8) ≤ 0) → pz_S 4 none am_r214 D Q 7 [(0, .ref 154), (1, .int (nI d))] [] h) from ⟨pz_154 hP, fun hc => ?_, fun hc => ?_⟩)
  rotate_left
  · exact am_goX 1 (show (none : Option FieldType) = none ∧ h.2.2.2.2 = 175 ∧ _ from ⟨rfl, pz_175 hP, hQ a c h hP (ag_fr.refl h) (Nat.le_refl _) (Nat.le_refl _) (Or.inl (pz_le0 hP hc))⟩)
  have hf : h.1 154 8 = 0 := pz_eq0 hP hc
  clear hc
  refine am_goX 2 (show am_sh h 154 = some (11, 0) ∧ pz_S 4 none am_r214 D Q 12 [(0, .ref 154), (1, .int (nI d))] [am_rf (h.2.2.1 154 4)] h from ⟨pz_154 hP, ?_⟩)
  rw [pz_r4 hP]
  refine am_goX 3 (show am_sh h 154 = some (11, 0) ∧ ∃ j n : Nat, am_sh h 156 = some (13, n) ∧ j < n ∧ (h.1 154 7) = nI j ∧ pz_S 4 none am_r214 D Q 17 [(0, .ref 154), (1, .int (nI d))] [.int (h.1 156 j)] h from ⟨pz_154 hP, a, 1002, pz_156 hP, pz_al hP, hP.2.2.2.1, ?_⟩)
  suffices key : ∀ nb : Bool, (nb = true → h.1 156 a = 2) → pz_S 4 none am_r214 D Q 26 [(0, .ref 154), (1, .int (nI d))] [.int (pz_b nb)] h by
    refine am_goX 2 (show (¬ (h.1 156 a) = (Int32.ofInt 2) → pz_S 4 none am_r214 D Q 25 [(0, .ref 154), (1, .int (nI d))] [] h) ∧ (¬ ¬ (h.1 156 a) = (Int32.ofInt 2) → pz_S 4 none am_r214 D Q 21 [(0, .ref 154), (1, .int (nI d))] [] h) from ⟨fun hc => ?_, fun hc => ?_⟩)
    · exact am_goX 1 (key false (fun z => by cases z))
    · exact am_goX 2 (key true (fun _ => Decidable.not_not.mp hc))
  intro nb hnb
  refine am_goX 5 (show 2 < 4 ∧ am_rc h 154 11 ∧ 0 ≤ 8 ∧ h.2.2.2.2 + am_al 199 ≤ 175 ∧ am_call am_cod D 199 [.ref 154, .int (Int8.ofInt 17).toInt32, .int (Int32.ofInt 4)] h (fun vv h' => pz_S 4 none am_r214 D Q 34 [(2, .int (pz_b nb)), (0, .ref 154), (1, .int (nI d))] (vv.toList ++ []) h') from ⟨by decide, pz_rc hP, by decide, pz_lim hP rfl, am_call.up (pz_here (f := 17) (m := 4) hP (by decide) (fun r hr => ?_)) hD⟩)
  refine am_goX 1 (show 3 < 4 ∧ pz_S 4 none am_r214 D Q 35 [(3, .int r), (2, .int (pz_b nb)), (0, .ref 154), (1, .int (nI d))] [] h from ⟨by decide, ?_⟩)
  have kflt : ∀ h', pz_P N a c h' → ag_fr pz_M h h' → ¬ h'.1 154 8 = 0 → pz_S 4 none am_r214 D Q 79 [(3, .int r), (2, .int (pz_b nb)), (0, .ref 154), (1, .int (nI d))] [] h' := ?_
  rotate_left
  · intro h' q1 q2 q3
    refine am_goX 3 (show am_sh h' 154 = some (11, 0) ∧ ((h'.1 154 8) ≤ 0 → pz_S 4 none am_r214 D Q 87 [(3, .int r), (2, .int (pz_b nb)), (0, .ref 154), (1, .int (nI d))] [] h') ∧ (¬ ((h'.1 154 8) ≤ 0) → pz_S 4 none am_r214 D Q 86 [(3, .int r), (2, .int (pz_b nb)), (0, .ref 154), (1, .int (nI d))] [] h') from ⟨pz_154 q1, fun hc => ?_, fun hc => ?_⟩)
    · exact absurd (pz_eq0 q1 hc) q3
    · exact am_goX 1 (show (none : Option FieldType) = none ∧ h'.2.2.2.2 = 175 ∧ _ from ⟨rfl, pz_175 q1, hQ a c h' q1 q2 (Nat.le_refl _) (Nat.le_refl _) (Or.inl q3)⟩)
  have k69 : (nb = true ∨ 0 ≤ r ∨ pz_sg h a (Int8.ofInt 40).toInt32 = true ∨ pz_wd h a 14 = true) → pz_S 4 none am_r214 D Q 69 [(3, .int r), (2, .int (pz_b nb)), (0, .ref 154), (1, .int (nI d))] [] h := ?_
  rotate_left
  · intro hz
    refine am_goX 3 (show (¬ (nI d) = (Int32.ofInt 5) → pz_S 4 none am_r214 D Q 79 [(3, .int r), (2, .int (pz_b nb)), (0, .ref 154), (1, .int (nI d))] [] h) ∧ (¬ ¬ (nI d) = (Int32.ofInt 5) → pz_S 4 none am_r214 D Q 74 [(3, .int r), (2, .int (pz_b nb)), (0, .ref 154), (1, .int (nI d))] [] h) from ⟨fun hc => ?_, fun hc => ?_⟩)
    rotate_left
    · refine am_goX 3 (show am_rc h 154 11 ∧ 0 ≤ 8 ∧ h.2.2.2.2 + am_al 197 ≤ 175 ∧ am_call am_cod D 197 [.ref 154, .int (Int32.ofInt 5)] h (fun vv h' => pz_S 4 none am_r214 D Q 79 [(3, .int r), (2, .int (pz_b nb)), (0, .ref 154), (1, .int (nI d))] (vv.toList ++ []) h') from ⟨pz_rc hP, by decide, pz_lim hP rfl, am_call.up (pz_wrong hP (by decide) (fun h' q1 q2 q3 => ?_)) (Nat.le_trans (by decide) hD)⟩)
      exact kflt h' q1 q2 q3
    have hd5 : ¬ d = 5 := fun z => hc (by rw [z]; rfl)
    clear hc
    obtain ⟨hrp, hrw⟩ := hrec hd5
    refine am_goX 3 (show am_sh h 154 = some (11, 0) ∧ ((h.1 154 8) ≤ 0 → pz_S 4 none am_r214 D Q 87 [(3, .int r), (2, .int (pz_b nb)), (0, .ref 154), (1, .int (nI d))] [] h) ∧ (¬ ((h.1 154 8) ≤ 0) → pz_S 4 none am_r214 D Q 86 [(3, .int r), (2, .int (pz_b nb)), (0, .ref 154), (1, .int (nI d))] [] h) from ⟨pz_154 hP, fun hc => ?_, fun hc => ?_⟩)
    rotate_left
    · exact absurd (by rw [hf]; decide) hc
    clear hc
    refine am_goX 3 (show am_rc h 154 11 ∧ 0 ≤ 8 ∧ h.2.2.2.2 + am_al 204 ≤ 175 ∧ am_call am_cod D 204 [.ref 154, .int (Int8.ofInt 14).toInt32] h (fun vv h' => pz_S 4 none am_r214 D Q 93 [(3, .int r), (2, .int (pz_b nb)), (0, .ref 154), (1, .int (nI d))] (vv.toList ++ []) h') from ⟨pz_rc hP, by decide, pz_lim hP rfl, am_call.up (pz_hword (w := 14) hP (by decide) (fun e => ?_) (fun e => ?_)) hD⟩)
    · refine am_goX 1 (show ((1 : Int32) = 0 → pz_S 4 none am_r214 D Q 112 [(3, .int r), (2, .int (pz_b nb)), (0, .ref 154), (1, .int (nI d))] [] (am_wI h 154 7 (nI (a + 1)))) ∧ (¬ (1 : Int32) = 0 → pz_S 4 none am_r214 D Q 96 [(3, .int r), (2, .int (pz_b nb)), (0, .ref 154), (1, .int (nI d))] [] (am_wI h 154 7 (nI (a + 1)))) from ⟨fun z => absurd z (by decide), fun _ => ?_⟩)
      have hlt := (pz_wd_lt hP e).2
      have hP1 := pz_at (a' := a + 1) hP (by omega)
      refine am_goX 5 (show am_rc (am_wI h 154 7 (nI (a + 1))) 154 11 ∧ 0 ≤ 8 ∧ (am_wI h 154 7 (nI (a + 1))).2.2.2.2 + am_al 214 ≤ 175 ∧ am_call am_cod D 214 [.ref 154, .int ((nI d) + (Int32.ofInt 1))] (am_wI h 154 7 (nI (a + 1))) (fun vv h' => pz_S 4 none am_r214 D Q 103 [(3, .int r), (2, .int (pz_b nb)), (0, .ref 154), (1, .int (nI d))] (vv.toList ++ []) h') from ⟨pz_rc hP1, by decide, pz_lim hP1 rfl, ?_⟩)
      rw [xw_i1]
      refine hrp N (a + 1) c k _ _ hP1 (by omega) (pz_atK hK) (fun a2 c2 h2 q1 q2 q3 q4 q5 => ?_)
      refine am_goX 4 (show am_rc h2 154 11 ∧ 0 ≤ 8 ∧ h2.2.2.2.2 + am_al 216 ≤ 175 ∧ am_call am_cod D 216 [.ref 154, .int (Int32.ofInt 3), .int (Int32.ofInt 0)] h2 (fun vv h' => pz_S 4 none am_r214 D Q 109 [(3, .int r), (2, .int (pz_b nb)), (0, .ref 154), (1, .int (nI d))] (vv.toList ++ []) h') from ⟨pz_rc q1, by decide, pz_lim q1 rfl, am_call.up (pz_emit (k := k + 1) (k' := k + 1) q1 (by omega) q5 (Or.inr (Or.inr (Or.inl ⟨rfl, by omega, rfl⟩))) (fun h3 r1 r2 r3 => ?_)) (Nat.le_trans (by decide) hD)⟩)
      exact am_goX 2 (show (none : Option FieldType) = none ∧ h3.2.2.2.2 = 175 ∧ _ from ⟨rfl, pz_175 r1, hQ a2 (c2 + 1) h3 r1 (pz_tr (pz_tr pz_atf q2) r2) (by omega) (by omega) r3⟩)
    · refine am_goX 1 (show ((0 : Int32) = 0 → pz_S 4 none am_r214 D Q 112 [(3, .int r), (2, .int (pz_b nb)), (0, .ref 154), (1, .int (nI d))] [] h) ∧ (¬ (0 : Int32) = 0 → pz_S 4 none am_r214 D Q 96 [(3, .int r), (2, .int (pz_b nb)), (0, .ref 154), (1, .int (nI d))] [] h) from ⟨fun _ => ?_, fun z => absurd rfl z⟩)
      refine am_goX 3 (show am_rc h 154 11 ∧ 0 ≤ 8 ∧ h.2.2.2.2 + am_al 217 ≤ 175 ∧ am_call am_cod D 217 [.ref 154, .int (Int8.ofInt 40).toInt32] h (fun vv h' => pz_S 4 none am_r214 D Q 118 [(3, .int r), (2, .int (pz_b nb)), (0, .ref 154), (1, .int (nI d))] (vv.toList ++ []) h') from ⟨pz_rc hP, by decide, pz_lim hP rfl, am_call.up (pz_hsign hP (fun e2 => ?_) (fun e2 => ?_)) hD⟩)
      · refine am_goX 1 (show ((1 : Int32) = 0 → pz_S 4 none am_r214 D Q 137 [(3, .int r), (2, .int (pz_b nb)), (0, .ref 154), (1, .int (nI d))] [] (am_wI h 154 7 (nI (a + 1)))) ∧ (¬ (1 : Int32) = 0 → pz_S 4 none am_r214 D Q 121 [(3, .int r), (2, .int (pz_b nb)), (0, .ref 154), (1, .int (nI d))] [] (am_wI h 154 7 (nI (a + 1)))) from ⟨fun z => absurd z (by decide), fun _ => ?_⟩)
        have hlt := (pz_sg_lt hP e2).2
        have hP1 := pz_at (a' := a + 1) hP (by omega)
        refine am_goX 5 (show am_rc (am_wI h 154 7 (nI (a + 1))) 154 11 ∧ 0 ≤ 8 ∧ (am_wI h 154 7 (nI (a + 1))).2.2.2.2 + am_al 210 ≤ 175 ∧ am_call am_cod D 210 [.ref 154, .int ((nI d) + (Int32.ofInt 1))] (am_wI h 154 7 (nI (a + 1))) (fun vv h' => pz_S 4 none am_r214 D Q 128 [(3, .int r), (2, .int (pz_b nb)), (0, .ref 154), (1, .int (nI d))] (vv.toList ++ []) h') from ⟨pz_rc hP1, by decide, pz_lim hP1 rfl, ?_⟩)
        rw [xw_i1]
        refine hrw N (a + 1) c k _ _ hP1 (by omega) (pz_atK hK) (fun a2 c2 h2 q1 q2 q3 q4 q5 => ?_)
        refine am_goX 3 (show am_rc h2 154 11 ∧ 0 ≤ 8 ∧ h2.2.2.2.2 + am_al 218 ≤ 175 ∧ am_call am_cod D 218 [.ref 154, .int (Int8.ofInt 41).toInt32] h2 (fun vv h' => pz_S 4 none am_r214 D Q 134 [(3, .int r), (2, .int (pz_b nb)), (0, .ref 154), (1, .int (nI d))] (vv.toList ++ []) h') from ⟨pz_rc q1, by decide, pz_lim q1 rfl, am_call.up (pz_tsign q1 (fun e3 => ?_) (fun h' r1 r2 r3 => ?_)) hD⟩)
        · have hlt2 := (pz_sg_lt q1 e3).2
          have hP2 := pz_at (a' := a2 + 1) q1 (by omega)
          exact am_goX 2 (show (none : Option FieldType) = none ∧ (am_wI h2 154 7 (nI (a2 + 1))).2.2.2.2 = 175 ∧ _ from ⟨rfl, pz_175 hP2, hQ (a2 + 1) c2 _ hP2 (pz_tr (pz_tr pz_atf q2) pz_atf) (by omega) (by omega) (pz_atK q5)⟩)
        · exact am_goX 2 (show (none : Option FieldType) = none ∧ h'.2.2.2.2 = 175 ∧ _ from ⟨rfl, pz_175 r1, hQ a2 c2 h' r1 (pz_tr (pz_tr pz_atf q2) r2) (by omega) (by omega) (Or.inl r3)⟩)
      · refine am_goX 1 (show ((0 : Int32) = 0 → pz_S 4 none am_r214 D Q 137 [(3, .int r), (2, .int (pz_b nb)), (0, .ref 154), (1, .int (nI d))] [] h) ∧ (¬ (0 : Int32) = 0 → pz_S 4 none am_r214 D Q 121 [(3, .int r), (2, .int (pz_b nb)), (0, .ref 154), (1, .int (nI d))] [] h) from ⟨fun _ => ?_, fun z => absurd rfl z⟩)
        have kq : ∀ (x y : Int32), a < N → ((x = 1 ∧ k + 1 = k + 1) ∨ (x = 2 ∧ (∃ a0 : Nat, a0 < 4 ∧ y = nI a0) ∧ k + 1 = k + 1)) → pz_S 4 none am_r214 D Q 165 [(3, .int r), (2, .int (pz_b nb)), (0, .ref 154), (1, .int (nI d))] [.int y, .int x, .ref 154] h := ?_
        rotate_left
        · intro x y hlt hxy
          refine am_goX 1 (show am_rc h 154 11 ∧ 0 ≤ 8 ∧ h.2.2.2.2 + am_al 216 ≤ 175 ∧ am_call am_cod D 216 [.ref 154, .int x, .int y] h (fun vv h' => pz_S 4 none am_r214 D Q 168 [(3, .int r), (2, .int (pz_b nb)), (0, .ref 154), (1, .int (nI d))] (vv.toList ++ []) h') from ⟨pz_rc hP, by decide, pz_lim hP rfl, am_call.up (pz_emit (k := k) (k' := k + 1) hP hca hK (hxy.imp (fun z => z) (fun z => Or.inl z)) (fun h3 r1 r2 r3 => ?_)) (Nat.le_trans (by decide) hD)⟩)
          refine am_goX 6 (show (Value.ref 154).category = 1 ∧ am_sh h3 154 = some (11, 0) ∧ am_sh h3 154 = some (11, 0) ∧ narrow (am_fty 11 7) (.int (((h3.1 154 7) + (Int32.ofInt 1)))) = .int (((h3.1 154 7) + (Int32.ofInt 1))) ∧ fits (am_fty 11 7) (.int (((h3.1 154 7) + (Int32.ofInt 1)))) = true ∧ pz_S 4 none am_r214 D Q 178 [(3, .int r), (2, .int (pz_b nb)), (0, .ref 154), (1, .int (nI d))] [] (am_wI h3 154 7 (((h3.1 154 7) + (Int32.ofInt 1)))) from ⟨rfl, pz_154 r1, pz_154 r1, rfl, rfl, ?_⟩)
          rw [r1.2.2.2.1, xw_i1]
          have hP2 := pz_at (a' := a + 1) r1 (by omega)
          exact am_goX 1 (show (none : Option FieldType) = none ∧ (am_wI h3 154 7 (nI (a + 1))).2.2.2.2 = 175 ∧ _ from ⟨rfl, pz_175 hP2, hQ (a + 1) (c + 1) _ hP2 (pz_tr r2 pz_atf) (by omega) (by omega) (pz_atK r3)⟩)
        cases hb : nb with
        | true =>
          subst hb
          have hlt : a < N := pz_lt hP (by rw [hnb rfl]; decide)
          refine am_goX 3 (show ((pz_b true) = 0 → pz_S 4 none am_r214 D Q 146 [(3, .int r), (2, .int (pz_b true)), (0, .ref 154), (1, .int (nI d))] [.ref 154] h) ∧ (¬ (pz_b true) = 0 → pz_S 4 none am_r214 D Q 142 [(3, .int r), (2, .int (pz_b true)), (0, .ref 154), (1, .int (nI d))] [.ref 154] h) from ⟨fun z => absurd z (by decide), fun _ => ?_⟩)
          refine am_goX 4 (show ((pz_b true) = 0 → pz_S 4 none am_r214 D Q 164 [(3, .int r), (2, .int (pz_b true)), (0, .ref 154), (1, .int (nI d))] [.int (Int32.ofInt 1), .ref 154] h) ∧ (¬ (pz_b true) = 0 → pz_S 4 none am_r214 D Q 151 [(3, .int r), (2, .int (pz_b true)), (0, .ref 154), (1, .int (nI d))] [.int (Int32.ofInt 1), .ref 154] h) from ⟨fun z => absurd z (by decide), fun _ => ?_⟩)
          refine am_goX 2 (show am_sh h 154 = some (11, 0) ∧ pz_S 4 none am_r214 D Q 155 [(3, .int r), (2, .int (pz_b true)), (0, .ref 154), (1, .int (nI d))] [am_rf (h.2.2.1 154 6), .int (Int32.ofInt 1), .ref 154] h from ⟨pz_154 hP, ?_⟩)
          rw [pz_r6 hP]
          refine am_goX 3 (show am_sh h 154 = some (11, 0) ∧ ∃ j n : Nat, am_sh h 158 = some (14, n) ∧ j < n ∧ (h.1 154 7) = nI j ∧ pz_S 4 none am_r214 D Q 160 [(3, .int r), (2, .int (pz_b true)), (0, .ref 154), (1, .int (nI d))] [.long (h.2.1 158 j), .int (Int32.ofInt 1), .ref 154] h from ⟨pz_154 hP, a, 1002, pz_158 hP, pz_al hP, hP.2.2.2.1, ?_⟩)
          refine am_goX 2 (show pz_S 4 none am_r214 D Q 165 [(3, .int r), (2, .int (pz_b true)), (0, .ref 154), (1, .int (nI d))] [.int ((h.2.1 158 a)).toInt32, .int (Int32.ofInt 1), .ref 154] h from ?_)
          exact kq _ _ hlt (Or.inl ⟨rfl, rfl⟩)
        | false =>
          subst hb
          have hr4 : ∃ k0, k0 < 4 ∧ r = nI k0 ∧ pz_wd h a (17 + k0) = true := by
            rcases hr with z | z
            · rcases hz with w | w | w | w
              · cases w
              · rw [z] at w
                exact absurd w (by decide)
              · rw [e2] at w
                cases w
              · rw [e] at w
                cases w
            · exact z
          obtain ⟨k0, g1, g2, g3⟩ := hr4
          have hlt := (pz_wd_lt hP g3).2
          refine am_goX 3 (show ((pz_b false) = 0 → pz_S 4 none am_r214 D Q 146 [(3, .int r), (2, .int (pz_b false)), (0, .ref 154), (1, .int (nI d))] [.ref 154] h) ∧ (¬ (pz_b false) = 0 → pz_S 4 none am_r214 D Q 142 [(3, .int r), (2, .int (pz_b false)), (0, .ref 154), (1, .int (nI d))] [.ref 154] h) from ⟨fun _ => ?_, fun z => absurd rfl z⟩)
          refine am_goX 3 (show ((pz_b false) = 0 → pz_S 4 none am_r214 D Q 164 [(3, .int r), (2, .int (pz_b false)), (0, .ref 154), (1, .int (nI d))] [.int (Int32.ofInt 2), .ref 154] h) ∧ (¬ (pz_b false) = 0 → pz_S 4 none am_r214 D Q 151 [(3, .int r), (2, .int (pz_b false)), (0, .ref 154), (1, .int (nI d))] [.int (Int32.ofInt 2), .ref 154] h) from ⟨fun _ => ?_, fun z => absurd rfl z⟩)
          refine am_goX 1 (show pz_S 4 none am_r214 D Q 165 [(3, .int r), (2, .int (pz_b false)), (0, .ref 154), (1, .int (nI d))] [.int r, .int (Int32.ofInt 2), .ref 154] h from ?_)
          exact kq _ _ hlt (Or.inr ⟨rfl, ⟨k0, g1, g2⟩, rfl⟩)
  refine am_goX 2 (show (0 ≤ r → pz_S 4 none am_r214 D Q 69 [(3, .int r), (2, .int (pz_b nb)), (0, .ref 154), (1, .int (nI d))] [] h) ∧ (¬ (0 ≤ r) → pz_S 4 none am_r214 D Q 39 [(3, .int r), (2, .int (pz_b nb)), (0, .ref 154), (1, .int (nI d))] [] h) from ⟨fun hc => ?_, fun hc => ?_⟩)
  · exact k69 (Or.inr (Or.inl hc))
  · refine am_goX 2 (show (¬ (pz_b nb) = 0 → pz_S 4 none am_r214 D Q 69 [(3, .int r), (2, .int (pz_b nb)), (0, .ref 154), (1, .int (nI d))] [] h) ∧ (¬ ¬ (pz_b nb) = 0 → pz_S 4 none am_r214 D Q 43 [(3, .int r), (2, .int (pz_b nb)), (0, .ref 154), (1, .int (nI d))] [] h) from ⟨fun hc => ?_, fun hc => ?_⟩)
    · refine k69 (Or.inl ?_)
      cases hb : nb with
      | true => rfl
      | false => rw [hb] at hc; exact absurd rfl hc
    · refine am_goX 3 (show am_rc h 154 11 ∧ 0 ≤ 8 ∧ h.2.2.2.2 + am_al 215 ≤ 175 ∧ am_call am_cod D 215 [.ref 154, .int (Int8.ofInt 40).toInt32] h (fun vv h' => pz_S 4 none am_r214 D Q 49 [(3, .int r), (2, .int (pz_b nb)), (0, .ref 154), (1, .int (nI d))] (vv.toList ++ []) h') from ⟨pz_rc hP, by decide, pz_lim hP rfl, am_call.up (pz_sign hP ?_) (Nat.le_trans (by decide) hD)⟩)
      cases e : pz_sg h a (Int8.ofInt 40).toInt32 with
      | true => exact am_goX 1 (show (¬ pz_b true = 0 → pz_S 4 none am_r214 D Q 69 [(3, .int r), (2, .int (pz_b nb)), (0, .ref 154), (1, .int (nI d))] [] h) ∧ (¬ ¬ pz_b true = 0 → pz_S 4 none am_r214 D Q 52 [(3, .int r), (2, .int (pz_b nb)), (0, .ref 154), (1, .int (nI d))] [] h) from ⟨fun _ => k69 (Or.inr (Or.inr (Or.inl e))), fun z => absurd (by decide) z⟩)
      | false =>
        refine am_goX 1 (show (¬ pz_b false = 0 → pz_S 4 none am_r214 D Q 69 [(3, .int r), (2, .int (pz_b nb)), (0, .ref 154), (1, .int (nI d))] [] h) ∧ (¬ ¬ pz_b false = 0 → pz_S 4 none am_r214 D Q 52 [(3, .int r), (2, .int (pz_b nb)), (0, .ref 154), (1, .int (nI d))] [] h) from ⟨fun z => absurd rfl z, fun _ => ?_⟩)
        refine am_goX 3 (show am_rc h 154 11 ∧ 0 ≤ 8 ∧ h.2.2.2.2 + am_al 195 ≤ 175 ∧ am_call am_cod D 195 [.ref 154, .int (Int8.ofInt 14).toInt32] h (fun vv h' => pz_S 4 none am_r214 D Q 58 [(3, .int r), (2, .int (pz_b nb)), (0, .ref 154), (1, .int (nI d))] (vv.toList ++ []) h') from ⟨pz_rc hP, by decide, pz_lim hP rfl, am_call.up (pz_word (w := 14) hP (by decide) ?_) (Nat.le_trans (by decide) hD)⟩)
        cases e4 : pz_wd h a 14 with
        | true => exact am_goX 1 (show (¬ pz_b true = 0 → pz_S 4 none am_r214 D Q 69 [(3, .int r), (2, .int (pz_b nb)), (0, .ref 154), (1, .int (nI d))] [] h) ∧ (¬ ¬ pz_b true = 0 → pz_S 4 none am_r214 D Q 61 [(3, .int r), (2, .int (pz_b nb)), (0, .ref 154), (1, .int (nI d))] [] h) from ⟨fun _ => k69 (Or.inr (Or.inr (Or.inr e4))), fun z => absurd (by decide) z⟩)
        | false =>
          refine am_goX 1 (show (¬ pz_b false = 0 → pz_S 4 none am_r214 D Q 69 [(3, .int r), (2, .int (pz_b nb)), (0, .ref 154), (1, .int (nI d))] [] h) ∧ (¬ ¬ pz_b false = 0 → pz_S 4 none am_r214 D Q 61 [(3, .int r), (2, .int (pz_b nb)), (0, .ref 154), (1, .int (nI d))] [] h) from ⟨fun z => absurd rfl z, fun _ => ?_⟩)
          refine am_goX 3 (show am_rc h 154 11 ∧ 0 ≤ 8 ∧ h.2.2.2.2 + am_al 197 ≤ 175 ∧ am_call am_cod D 197 [.ref 154, .int (Int32.ofInt 1)] h (fun vv h' => pz_S 4 none am_r214 D Q 66 [(3, .int r), (2, .int (pz_b nb)), (0, .ref 154), (1, .int (nI d))] (vv.toList ++ []) h') from ⟨pz_rc hP, by decide, pz_lim hP rfl, am_call.up (pz_wrong hP (by decide) (fun h' q1 q2 q3 => ?_)) (Nat.le_trans (by decide) hD)⟩)
          exact am_goX 1 (kflt h' q1 q2 q3)
/-- all five, at every depth -/
theorem pz_gram : ∀ n d : Nat, d + n = 5 → pz_T (3 + 5 * n) 214 d ∧ pz_T (7 + 5 * n) 210 d
  | 0, d, hd => by
    have h0 : pz_T 3 214 d := pz_part (by omega) (Nat.le_refl _) (fun z => absurd (by omega) z)
    exact ⟨h0, pz_whole (by decide) (pz_test (by decide) (pz_sums (by decide) (pz_products (by decide) h0)))⟩
  | n + 1, d, hd => by
    obtain ⟨h1, h2⟩ := pz_gram n (d + 1) (by omega)
    have e : 3 + 5 * (n + 1) = 7 + 5 * n + 1 := by omega
    have h1' : pz_T (7 + 5 * n) 214 (d + 1) := fun N a c k h Q q1 q2 q3 q4 => am_call.up (h1 N a c k h Q q1 q2 q3 q4) (by omega)
    have h0 : pz_T (7 + 5 * n + 1) 214 d := pz_part (by omega) (by omega) (fun _ => ⟨h1', h2⟩)
    have h3 := pz_whole (by omega) (pz_test (by omega) (pz_sums (by omega) (pz_products (by omega) h0)))
    have e2 : 7 + 5 * (n + 1) = 7 + 5 * n + 1 + 1 + 1 + 1 + 1 := by omega
    rw [e, e2]
    exact ⟨h0, h3⟩
theorem pz_whole0 : pz_T 32 210 0 := (pz_gram 5 0 rfl).2
end
