/-! OPCODE 40: the class's rests as a contract that returns or throws -/
variable {D : va_G} {cA : Nat → ClassId} {ad : Nat → Nat} {base b L : Nat} {xs ys : Nat → Int32} {l : Launch}
abbrev rs_nse : String := "java/util/NoSuchElementException"
abbrev rs_nm : List String := ["java/lang/RuntimeException", "java/lang/Exception"]
/-- what a throw stands on: two statics of Throwable, two texts, four words that a warmer machine keeps but that are no good ones -/
def rs_Z (base : Nat) (U : State) (H : Heap) : Prop := vx_Zq Bundle.tN "UNASSIGNED_STACK" Bundle.steD (am_A base) U H ∧ vx_Zq Bundle.tN "SUPPRESSED_SENTINEL" Bundle.listD (am_A base) U H ∧ (∃ sa, vk_R "MistCanton" 314 "a stake is 0 to 9" sa U) ∧ (∃ sa, vk_R "MistCanton" 323 "no such rest" sa U) ∧ va_Nw (.declares (Bundle.initS "java/lang/RuntimeException")) U ∧ va_Nw (.declares (Bundle.initS "java/lang/Exception")) U ∧ va_Nw (.declares (Bundle.initS Bundle.tN)) U ∧ va_Nw (.castable rs_nse rs_nse) U
theorem rs_Z.warm {s U : State} {H : Heap} (hW : s.WarmedH U.vm) (hq : ∀ a : Nat, a < s.heap.size → ¬ am_A base a → H[a]? = s.heap[a]?) (h : rs_Z base s s.heap) : rs_Z base U H :=
  ⟨vx_Zq.moved hW.alike (h.1.kept hq), vx_Zq.moved hW.alike (h.2.1.kept hq), h.2.2.1.imp fun _ q => q.warm hW, h.2.2.2.1.imp fun _ q => q.warm hW, h.2.2.2.2.1.warmD hW, h.2.2.2.2.2.1.warmD hW, h.2.2.2.2.2.2.1.warmD hW, h.2.2.2.2.2.2.2.warmC hW⟩
def rs_Pc (D : va_G) (cA : Nat → ClassId) (ad : Nat → Nat) (base b L : Nat) (xs : Nat → Int32) (As : List Value) (h : am_H) : Array Value → State → Prop := fun a U => am_Pc D cA ad base b L xs As h a U ∧ rs_Z base U U.heap
theorem rs_Pc.blind {As : List Value} {h : am_H} : FrameBlind (rs_Pc D cA ad base b L xs As h) := by
  intro a U g mk hp
  exact ⟨am_Pc.blind a U g mk hp.1, vx_Zq.moved (u := U) (U := U.calling g mk a) (Vm.Alike.refl U.vm) hp.2.1, vx_Zq.moved (u := U) (U := U.calling g mk a) (Vm.Alike.refl U.vm) hp.2.2.1, hp.2.2.2.1.imp fun _ q => vk_R.same (u := U) rfl q, hp.2.2.2.2.1.imp fun _ q => vk_R.same (u := U) rfl q, va_Nw.same (u := U) rfl rfl hp.2.2.2.2.2.1, va_Nw.same (u := U) rfl rfl hp.2.2.2.2.2.2.1, va_Nw.same (u := U) rfl rfl hp.2.2.2.2.2.2.2.1, va_Nw.same (u := U) rfl rfl hp.2.2.2.2.2.2.2.2⟩
/-- a world of the abstract machine in a heap -/
def rs_w (D : va_G) (cA : Nat → ClassId) (ad : Nat → Nat) (L : Nat) (xs : Nat → Int32) (h : am_H) (H : Heap) : Prop := ∃ h' : am_H, h' = h ∧ va_P D vwCl (am_cc cA ad h') H ∧ am_ro L xs h'
def rs_XC (D : va_G) (cA : Nat → ClassId) (ad : Nat → Nat) (base L : Nat) (xs : Nat → Int32) (h : am_H) (K : Nat) : String → State → State → Prop := fun E st t => E = rs_nse ∧ K = 1 ∧ rs_w D cA ad L xs h t.heap ∧ va_F (am_A base) st t
def rs_As (ys : Nat → Int32) : List Value := [.ref 0, .int (ys 1), .int (ys 2), .int (ys 3), .int (ys 4)]
abbrev rs_rx : ByteArray := prog_28_method_4_code
abbrev rs_wat : List Cond := rs_atX "MistCanton" 316 rs_nse 13 rs_rx rs_nm
theorem rs_x : decode rs_rx 0 = .ok (.aload_n 0, 1) ∧ decode rs_rx 1 = .ok (.aload_n 1, 1) ∧ decode rs_rx 2 = .ok (.invokespecial 13, 3) ∧ decode rs_rx 5 = .ok (.return_, 1) := by decide +kernel
theorem rs_good : (Cond.classLink "MistCanton" 312 rs_nse :: Cond.initialized rs_nse :: rs_wat.filter goodWord).all (fun w => decide (w ∈ lw_tbl) && goodWord w) = true := by decide +kernel
theorem rs_bad : ∀ w ∈ rs_wat.filter (fun w => !goodWord w), w ∈ ([.declares (Bundle.initS "java/lang/RuntimeException"), .declares (Bundle.initS "java/lang/Exception"), .declares (Bundle.initS Bundle.tN), .castable rs_nse rs_nse] : List Cond) := by decide +kernel
theorem rs_ot : (Cond.classLink "MistCanton" 312 rs_nse :: Cond.initialized rs_nse :: rs_wat).all vx_ot = true := by decide +kernel
theorem rs_y168 : am_y 168 = ⟨"MistCanton", "rests", "(IIII)I"⟩ := by decide +kernel
theorem rs_inf : am_inf[168]? = some (am_r168, 9, some .int) := rfl
theorem rs_d : (decode (am_by 168) 30 = .ok (.new 312, 3) ∧ decode (am_by 168) 33 = .ok (.dup, 1) ∧ decode (am_by 168) 34 = .ok (.ldc_w 314, 3) ∧ decode (am_by 168) 37 = .ok (.invokespecial 316, 3) ∧ decode (am_by 168) 40 = .ok (.athrow, 1)) ∧ (decode (am_by 168) 144 = .ok (.new 312, 3) ∧ decode (am_by 168) 147 = .ok (.dup, 1) ∧ decode (am_by 168) 148 = .ok (.ldc_w 323, 3) ∧ decode (am_by 168) 151 = .ok (.invokespecial 316, 3) ∧ decode (am_by 168) 154 = .ok (.athrow, 1)) := by decide +kernel
theorem rs_sc {h : am_H} (e : h.2.2.2.2 = 175) : am_ce 175 h = 0 ∧ am_sc 175 h = 0 ∧ am_ce 1175 h = 1 ∧ am_sc 1175 h = 6 := by
  have q1 : am_ss (175 % 1000) = am_ss h.2.2.2.2 := congrArg am_ss (by omega)
  have q2 : am_ss (1175 % 1000) = am_ss h.2.2.2.2 := congrArg am_ss (by omega)
  refine ⟨?_, ?_, ?_, ?_⟩
  · unfold am_ce
    omega
  · unfold am_sc
    omega
  · unfold am_ce
    omega
  · unfold am_sc
    omega
theorem rs_rm : (175 - 175 % 1000 + 175 / 1000 ≤ 1 ∧ am_ss 175 - am_ss (175 % 1000) + 6 * (175 / 1000) ≤ 6) ∧ (175 - 1175 % 1000 + 1175 / 1000 ≤ 1 ∧ am_ss 175 - am_ss (1175 % 1000) + 6 * (1175 / 1000) ≤ 6) := by
  have q1 : am_ss (175 % 1000) = am_ss 175 := congrArg am_ss (by omega)
  have q2 : am_ss (1175 % 1000) = am_ss 175 := congrArg am_ss (by omega)
  omega
set_option maxHeartbeats 4000000 in
theorem rs_vMet {K : Nat} {V : Int} {h : am_H} (hl0 : l.stackTraces = false) (hG : am_G ad base b L) (h175 : h.2.2.2.2 = 175) (hCX : am_X (am_call am_cod 9) 9 175 (some .int) (am_find am_r168) (fun pc _ st h' => K = 1 ∧ (pc = 30 ∨ pc = 144) ∧ st = [] ∧ h' = h) (fun v h' => K = 0 ∧ v = some (.int (Int32.ofInt V)) ∧ h' = h) 0 (lv_args 0 (rs_As ys)) [] h) :
    vx_Met l (am_y 168) (am_ws 168) (am_rm 20 1 6) (rs_Pc D cA ad base b L xs (rs_As ys) h) (am_Qc D cA ad base L xs (fun v h' => K = 0 ∧ v = some (.int (Int32.ofInt V)) ∧ h' = h)) (rs_XC D cA ad base L xs h K) 1 6 (am_A base) := by
  have hq := am_inf_at rs_inf
  refine vx_ofW (cc := am_by 168) (maxL := am_nL 168) (ret := am_rt 168) (by rw [rs_y168]; decide) rfl ?_
  intro p e s m args below meth c s₁ B hml hnt hv
  obtain ⟨⟨rfl, hE, hbase, hP, hro, hwf⟩, hZ⟩ := hv
  have hts := atoms_spec (ws := am_ws 168) B.pre
  have hgw : ∀ w ∈ am_gw, w.before ((rs_As ys).map (am_cv ad)).toArray s = true := fun w hw => hts w (List.mem_cons_of_mem _ hw)
  have hown : s.vm.findClass "MistCanton" = some m.cls := by have := findClass_of_methodNamed B.named; rw [rs_y168] at this; exact this
  have hnL : am_nL 168 = 9 := hq.1.symm
  have hrt : am_rt 168 = some .int := hq.2.1.symm
  have F : am_Fx p s m ((rs_As ys).map (am_cv ad)).toArray c D cA ad base b L xs "MistCanton" (am_by 168) 9 175 := ⟨B.exec, B.bytes, hml.trans hnL, hown, hgw, hE, hbase, hG, fun z => absurd z (by rw [am_shl_len]; decide)⟩
  have hC : am_Cs l (am_rm 20 1 6) D cA ad base b L xs (am_call am_cod 9) := by
    intro n' As' h' Q' k'
    obtain ⟨d', h1, h2⟩ := am_Met am_cod_ok hG 9 n' As' h' Q' k'
    exact ⟨d', h2, by show d' + 1 ≤ 20; omega, by show 40 + 40 * d' ≤ 800; omega⟩
  have hw1 : ∀ w ∈ Cond.classLink "MistCanton" 312 rs_nse :: Cond.initialized rs_nse :: rs_wat.filter goodWord, w ∈ am_gw := fun w hw => by
    have := List.all_eq_true.mp rs_good w hw
    simp only [Bool.and_eq_true, decide_eq_true_eq] at this
    exact am_gw_of this.1 this.2
  have hat : ∀ w ∈ rs_wat, w.before ((rs_As ys).map (am_cv ad)).toArray s = true := vx_hat (fun w hw => hgw _ (hw1 w (List.mem_cons_of_mem _ (List.mem_cons_of_mem _ hw)))) rs_bad (vx_c (va_Nw.use rfl hZ.2.2.2.2.1) (vx_c (va_Nw.use rfl hZ.2.2.2.2.2.1) (vx_c (va_Nw.use rfl hZ.2.2.2.2.2.2.1) (vx_c (va_Nw.use rfl hZ.2.2.2.2.2.2.2) vx_n))))
  have hl := lv_entry ((rs_As ys).map (am_cv ad)) (n := am_nL 168) (by rw [am_sl_len, hnL]; exact Nat.le_of_ble_eq_true rfl)
  rw [am_args_cl] at hl
  rw [lg_entry_eq]
  have key := am_X_sound (p := p) (e := e) (below := below) (meth := meth) (Qw := vx_MQ below (am_Qc D cA ad base L xs (fun v h' => K = 0 ∧ v = some (.int (Int32.ofInt V)) ∧ h' = h)) (rs_XC D cA ad base L xs h K) ((rs_As ys).map (am_cv ad)).toArray s 1 6 (am_A base)) (R := am_rm 20 1 6) (lim := 175) (rt := some .int) (ini := false) F hC ⟨rs_rm.1.1, rs_rm.1.2⟩ ⟨by show 1 ≤ 20; omega, by show 20 ≤ 800; omega⟩ (fun q => by cases q) (fun pc r hc => by
      have := (hq.2.2 pc r hc).2
      rw [rs_y168] at this
      exact this.resolve_left (fun z => absurd z.1 (by decide))) ?_ ?_ 0 (lv_args 0 (rs_As ys)) [] h s.heap [] _ hCX ⟨hP, va_S.rf, hro, hwf.1, by rw [h175]; exact Nat.le_refl _, fun z => absurd z (by decide)⟩ (by rw [← hnL]; exact hl)
  · have z1 : am_ce 175 h = 0 := (rs_sc h175).1
    have z2 : am_sc 175 h = 0 := (rs_sc h175).2.1
    rw [z1, z2] at key
    exact key
  · intro pc lv st h' H locs ls hx hI hl'
    obtain ⟨hK, hpc, rfl, hr⟩ := hx
    have h175' : h'.2.2.2.2 = 175 := by rw [hr]; exact h175
    have z1 : am_ce 175 h' = 0 := (rs_sc h175').1
    have z2 : am_sc 175 h' = 0 := (rs_sc h175').2.1
    rw [z1, z2]
    have hXC : ∀ t : State, s.vm.Alike t.vm → H.size ≤ t.heap.size → (∀ q : Nat, q < H.size → t.heap[q]? = H[q]?) → rs_XC D cA ad base L xs h K rs_nse s t := fun t _ t1 t2 =>
      ⟨rfl, hK, ⟨h', hr, hI.1.kept (fun k x hx => t2 x.1 ((hI.1 k x hx).lt)), hI.2.2.1⟩, Nat.le_trans hI.2.1.1 t1, fun q q1 q2 => (t2 q (Nat.lt_of_lt_of_le q1 hI.2.1.1)).trans (hI.2.1.2.1 q q1 q2)⟩
    rcases hpc with rfl | rfl
    · obtain ⟨sa, hsa⟩ := hZ.2.2.1
      obtain ⟨d0, d3, d4, d7, d10⟩ := rs_d.1
      exact rs_throwSW (A := am_A base) (names := rs_nm) (rx := rs_rx) (ix := 13) B.exec B.bytes hl0 rs_x.1 rs_x.2.1 rs_x.2.2.1 rs_x.2.2.2 hown (by decide) (by decide) (hgw _ (hw1 _ List.mem_cons_self)) (hgw _ (hw1 _ (List.mem_cons_of_mem _ List.mem_cons_self))) hsa hat (fun w hw => List.all_eq_true.mp rs_ot w hw) hZ.1 hZ.2.1 hI.2.1 (hl'.1.trans (hml.trans hnL).symm) d0 d3 d4 d7 d10 (fun x hx => (hnt x hx).elim) (by show 5 < 20; omega) (by show 0 + 82 ≤ 800; omega) (by show 0 + 1 ≤ 1; omega) (by show 0 + 6 ≤ 6; omega) B.notSynchronized hXC hI.2.1.2.2 (Nat.le_refl _) (Nat.le_refl _)
    · obtain ⟨sa, hsa⟩ := hZ.2.2.2.1
      obtain ⟨d0, d3, d4, d7, d10⟩ := rs_d.2
      exact rs_throwSW (A := am_A base) (names := rs_nm) (rx := rs_rx) (ix := 13) B.exec B.bytes hl0 rs_x.1 rs_x.2.1 rs_x.2.2.1 rs_x.2.2.2 hown (by decide) (by decide) (hgw _ (hw1 _ List.mem_cons_self)) (hgw _ (hw1 _ (List.mem_cons_of_mem _ List.mem_cons_self))) hsa hat (fun w hw => List.all_eq_true.mp rs_ot w hw) hZ.1 hZ.2.1 hI.2.1 (hl'.1.trans (hml.trans hnL).symm) d0 d3 d4 d7 d10 (fun x hx => (hnt x hx).elim) (by show 5 < 20; omega) (by show 0 + 82 ≤ 800; omega) (by show 0 + 1 ≤ 1; omega) (by show 0 + 6 ≤ 6; omega) B.notSynchronized hXC hI.2.1.2.2 (Nat.le_refl _) (Nat.le_refl _)
  · intro v h' H locs pc ls st hQ hI hrk
    have h175' : h'.2.2.2.2 = 175 := by rw [hQ.2.2]; exact h175
    have z1 : am_ce 175 h' = 0 := (rs_sc h175').1
    have z2 : am_sc 175 h' = 0 := (rs_sc h175').2.1
    rw [z1, z2]
    have hv : v = some (.int (Int32.ofInt V)) := hQ.2.1
    rcases hrk with ⟨x, h1, rfl, hd, ty, h2, h3⟩ | ⟨x, h1, -⟩ | ⟨h1, -⟩
    · refine vx_ret (W.widen (k := 1) (n := 6) (Nat.zero_le _) (Nat.zero_le _) ?_)
      exact W.zret B.exec B.bytes (B.returns.trans (hrt.trans h2)) h3 (fun t ht _ => ⟨⟨v, h', by rw [h1]; rfl, hQ, by rw [ht]; exact hI.1, hI.2.2.1, hI.2.2.2.1⟩, hI.2.1.F ht⟩) hI.2.1.2.2 hd (hlocks := B.notSynchronized)
    · rw [hv] at h1; cases h1
    · rw [hv] at h1; cases h1
