/-! THE LAW, WALKED -/
def R_law : String := "MistCantonLaw"
def lw_P (b : Addr) (xs : List Int32) (args : Array Value) (s : State) : Prop := args = #[.ref b] ∧ s.IntsAt b xs ∧ xs.length ≤ 3584 ∧ (Jvm.Cond.and given_1 narrow_1).before args s = true
def lw_Q (_ : Array Value) (s : State) (o : Outcome) (t : State) : Prop := o = .returned (some (.int 1)) ∧ Framed s o t [] 601024 7293034
def lw_Z (below : List Frame) (a : Array Value) (s : State) : State → Prop := fun t => ∃ o, t.status = .running ∧ Ended t below o ∧ lw_Q a s o t
variable {p : Program} {l : Launch} {e : Env} {s : State} {m : MethodId} {below : List Frame} {meth : Method} {c : Code} {b L : Nat} {xs : Nat → Int32} {D : va_G} {cA : Nat → ClassId} {ad : Nat → Nat}
/-- the law's own end, with 1 on the stack, nothing written that was there before, its room as the claim has it -/
theorem lw_ret {H : Heap} (hx : p.tables.exec = Jvm.exec) (hb : c.code = code) (hr : meth.sig.returnType = ret) (hlocks : meth.locks = false) {pc : Nat} {ls : Array Slot} (hdg : decode code pc = .ok (.ireturn, 1)) : W p l e room_1 s m #[Value.ref b] below meth c H [] 601024 7293034 (lw_Z below #[Value.ref b] s) (F0 m pc ls [.int 1]) := by
  intro T hT X
  obtain ⟨fs, hret, hrun, hended, hW, hframe⟩ := X.leave (v := some (.int 1)) (hlocks := hlocks) (fun h => by rw [hr] at h; cases h)
  have hmeth' : T.vm.method? m = some meth := X.method'
  refine ⟨T.setFrames fs, ?_, .returned (some (.int 1)), hrun, hended, rfl, ⟨_, rfl⟩, hW, hframe⟩
  jvm_step X.here [X.here.top, hx, hb, hdg, hmeth', hr, ret, narrow_b1]
  (try refine ⟨rfl, ?_⟩); (try refine ⟨rfl, ?_⟩)
  first | (intro acts; rw [hret _ acts rfl rfl rfl]) | rw [hret _ _ rfl rfl rfl]
  exact Steps.refl _
/-- what holds at the law's entry -/
def lw_At (p : Program) (s : State) (m : MethodId) (meth : Method) (c : Code) (b L : Nat) (xs : Nat → Int32) : Prop :=
  p.tables.exec = Jvm.exec ∧ c.code = code ∧ meth.sig.returnType = ret ∧ c.maxLocals = 7 ∧ s.vm.findClass R_law = some m.cls ∧ (∀ w ∈ lw_tbl, w.before #[Value.ref b] s = true) ∧ va_X b L xs s s.heap ∧ b < s.heap.size ∧ meth.locks = false ∧ (Jvm.Cond.and given_1 narrow_1).before #[Value.ref b] s = true
/-- and the world that was found there -/
def lw_Fc (l : Launch) (p : Program) (s : State) (m : MethodId) (meth : Method) (c : Code) (b L : Nat) (xs : Nat → Int32) (D : va_G) (cA : Nat → ClassId) (ad : Nat → Nat) : Prop := lw_At p s m meth c b L xs ∧ am_E D cA ad s.heap.size b L xs s ∧ am_G ad s.heap.size b L ∧ L ≤ 3584 ∧ l.stackTraces = false
theorem lw_ss : am_ss 175 + 4000 ≤ 7293034 := by
  have h : Nat.ble (am_ss 175 + 4000) 7293034 = true := by decide +kernel
  generalize am_ss 175 = x at h ⊢
  exact Nat.le_of_ble_eq_true h
theorem lw_m0 (t : Nat) : 1000 * t % 1000 = 0 := Nat.mul_mod_right 1000 t
theorem lw_d0 (t : Nat) : 1000 * t / 1000 = t := Nat.mul_div_right t (by decide)
def lw_Kx (p : Program) (l : Launch) (e : Env) (s : State) (m : MethodId) (below : List Frame) (meth : Method) (c : Code) (b L : Nat) (xs : Nat → Int32) (D : va_G) (cA : Nat → ClassId) (ad : Nat → Nat) (t : Nat) (K : Nat → am_V → List Value → am_H → Prop) : Prop :=
  am_Kw p l e room_1 s m #[Value.ref b] below meth c (1000 * t) (lw_Z below #[Value.ref b] s) D cA ad s.heap.size L 7 xs K
def lw_Qx (p : Program) (l : Launch) (e : Env) (s : State) (m : MethodId) (below : List Frame) (meth : Method) (c : Code) (b L : Nat) (xs : Nat → Int32) (D : va_G) (cA : Nat → ClassId) (ad : Nat → Nat) (t : Nat) (Q : am_Q) : Prop :=
  am_Qr p l e room_1 s m #[Value.ref b] below meth c (1000 * t) (lw_Z below #[Value.ref b] s) D cA ad s.heap.size L xs code (some .boolean) Q
theorem lw_Qn {t : Nat} : lw_Qx p l e s m below meth c b L xs D cA ad t lw_no := fun _ _ _ _ _ _ _ q => q.elim
def lw_Qt : am_Q := fun v _ => v = some (.int 1)
theorem lw_end (C0 : lw_Fc l p s m meth c b L xs D cA ad) {t : Nat} (ht : t ≤ 512) : lw_Qx p l e s m below meth c b L xs D cA ad t lw_Qt := by
  obtain ⟨⟨hx, hb, hr, hml, hown, hts, hX, hbl, hlocks, hgv⟩, -⟩ := C0
  intro v h H locs pc ls st hQ hI hrk
  have hv : v = some (.int 1) := hQ
  subst hv
  rcases hrk with ⟨x, h1, rfl, hd, ty, h2, h3⟩ | ⟨x, h1, -⟩ | ⟨h1, -⟩
  · cases h1
    have h4 := hI.2.2.2.1
    rw [am_shl_len] at h4
    have h5 := am_ss_mono h4
    have h6 := lw_ss
    refine va_forget (fun q hq => hI.2.1.2.2 q hq) ?_
    refine W.widen (k := 601024) (n := 7293034) ?_ ?_ (lw_ret hx hb hr hlocks hd)
    · unfold am_ce
      rw [lw_d0]
      omega
    · unfold am_sc
      rw [lw_d0]
      omega
  · cases h1
  · cases h1
theorem lw_run (C0 : lw_Fc l p s m meth c b L xs D cA ad) {t : Nat} (ht : t ≤ 512) {rows : List (Nat × am_R)} (hok : rows.all (fun q => am_okB false "MistCantonLaw" code q.1 q.2) = true) {E : Nat → am_V → List Value → am_H → Prop} {Q : am_Q} (hE : lw_Kx p l e s m below meth c b L xs D cA ad t E) (hq : lw_Qx p l e s m below meth c b L xs D cA ad t Q) : lw_Kx p l e s m below meth c b L xs D cA ad t (lw_G rows E Q) := by
  obtain ⟨⟨hx, hb, hr, hml, hown, hts, hX, hbl, hlocks, hgv⟩, hEE, hG, hL, hl0⟩ := C0
  have hC : am_Cs l room_1 D cA ad s.heap.size b L xs (am_call am_cod 60) := by
    intro n As h Q k
    obtain ⟨d, h1, h2⟩ := am_Met am_cod_ok hG 60 n As h Q k
    exact ⟨d, h2, by show d + 1 ≤ 2048; omega, by show 40 + 40 * d ≤ 84000; omega⟩
  have hss := lw_ss
  exact am_X_sound (R := room_1) (lim := 175) (rt := some .boolean) (ini := false) (own := "MistCantonLaw") (cc := code) ⟨hx, hb, hml, hown, lw_gw hts, hEE, Nat.le_refl _, hG, fun _ => by rw [lw_m0]; rfl⟩ hC ⟨by rw [lw_m0, lw_d0]; show 175 - 0 + t ≤ 601024; omega, by rw [lw_m0, lw_d0]; show am_ss 175 - am_ss 0 + 6 * t ≤ 7293034; omega⟩ ⟨by show 1 ≤ 2048; omega, by show 20 ≤ 84000; omega⟩ (fun q => by cases q) (fun pc r hc => List.all_eq_true.mp hok _ (am_find_mem hc)) hE hq
theorem lw_seg (C0 : lw_Fc l p s m meth c b L xs D cA ad) {t i : Nat} (ht : t ≤ 512) (hi : i + 7 ≤ L) {a e' : Nat} {J J' : am_H → Prop} {rows : List (Nat × am_R)} (hok : rows.all (fun q => am_okB false "MistCantonLaw" code q.1 q.2) = true) (hrun : ∀ h, J h → i + 7 ≤ h.2.2.2.1 → h.2.2.2.1 ≤ 4096 → lw_S rows J' i e' a (lw_lv i) [] h) (hE : lw_Kx p l e s m below meth c b L xs D cA ad t (lw_Ex J' i e')) : lw_Kx p l e s m below meth c b L xs D cA ad t (lw_Ex J i a) := by
  intro pc lv st h H locs ls hx hI hl
  obtain ⟨rfl, rfl, rfl, hIv⟩ := hx
  exact lw_run C0 ht hok hE lw_Qn _ _ _ _ _ _ _ (hrun h hIv (by rw [hI.2.2.1.1]; exact hi) (by rw [hI.2.2.1.1]; exact Nat.le_trans C0.2.2.2.1 (by decide))) hI hl
theorem lw_K1513 (C0 : lw_Fc l p s m meth c b L xs D cA ad) {t i : Nat} (ht : t ≤ 512) (hE : lw_Kx p l e s m below meth c b L xs D cA ad t (lw_Ex (lw_J (i + 7)) (i + 7) 23)) : lw_Kx p l e s m below meth c b L xs D cA ad t (lw_Ex (lw_J (i + 7)) i 1513) := by
  intro pc lv st h H locs ls hx hI hl
  obtain ⟨rfl, rfl, rfl, hIv⟩ := hx
  exact lw_run C0 ht lw_oN hE lw_Qn _ _ _ _ _ _ _ (lw_tN hIv) hI hl
set_option maxHeartbeats 4000000 in
theorem lw_K40 (C0 : lw_Fc l p s m meth c b L xs D cA ad) {t i : Nat} (ht : t + 1 ≤ 512) (hi : i + 7 ≤ L) (hE : lw_Kx p l e s m below meth c b L xs D cA ad (t + 1) (lw_Ex (lw_J (i + 7)) i 1513)) : lw_Kx p l e s m below meth c b L xs D cA ad t (lw_Ex (lw_J i) i 1322) := by
  intro pc lv st h H locs ls hx hI hl
  obtain ⟨rfl, rfl, rfl, hIv⟩ := hx
  refine lw_run C0 (by omega) lw_o1322 (E := lw_E40 i h) ?_ lw_Qn _ _ _ _ _ _ _ (lw_t1322 (by rw [hI.2.2.1.1]; exact hi)) hI hl
  clear hI hl
  intro pc lv st h' H locs ls hx hI hl'
  obtain ⟨rfl, rfl, rfl, rfl⟩ := hx
  obtain ⟨⟨hx, hb, hr, hml, hown, hts, hX, hbl, hlocks, hgv⟩, hEE, hG, hL, hl0⟩ := id C0
  obtain ⟨K, V, hK01, hcx, hcr⟩ := rs_both (fun k => h'.1 3000000 (i + k))
  have hCX := hcx h' hIv.1
  have h175 : h'.2.2.2.2 = 175 := lw_175 hIv.1
  have hwf' : am_wf s.heap.size h' H := ⟨hI.2.2.2.1, fun z => absurd z (by rw [h175, am_shl_len]; decide)⟩
  have hd : decode code 1348 = .ok (.invokestatic 188, 3) := by decide +kernel
  have hG2 : GoodIn am_gw (va_wsS "MistCantonLaw" 188 rs_y rs_ws) := am_good_in (fun w hw => by
    unfold va_wsS at hw
    rcases List.mem_append.mp hw with q | q
    · simp only [List.mem_cons, List.not_mem_nil, or_false] at q
      rcases q with rfl | rfl | rfl <;> exact rs_w4_at (by simp)
    · rcases List.mem_cons.mp q with rfl | q
      · exact rs_w4_at (by simp)
      · exact q)
  have hss := lw_ss
  have hce : am_ce (1000 * t) h' = 175 + t := by
    unfold am_ce
    rw [lw_m0, lw_d0, h175]
  have hsc : am_sc (1000 * t) h' = am_ss 175 - am_ss 0 + 6 * t := by
    unfold am_sc
    rw [lw_m0, lw_d0, h175]
  have hrun := vx_runSW (H := H) (p := p) (e := e) (below := below) (meth := meth) (locs := locs) (cells := am_ce (1000 * t) h') (slots := am_sc (1000 * t) h') (g := F0 m 1348 ls (([.ref 174, .int (h'.1 3000000 (i + 4)), .int (h'.1 3000000 (i + 3)), .int (h'.1 3000000 (i + 2)), .int (h'.1 3000000 (i + 1)), .ref 0] : List Value).map (am_cv ad))) (As := (rs_Bs (fun k => h'.1 3000000 (i + k))).map (am_cv ad)) (rest := []) (cc := code) (nL := 7) ⟨hx, hb, hml, hown, lw_gw hts⟩ (rs_Met (D := D) (cA := cA) (h := h') hl0 hG h175 hCX) (vx_cwSW (R := room_1) 6 (lw_gw hts) hG2 rfl rfl rfl ⟨by decide, by decide, by decide +kernel⟩ ⟨by show 30 + 1 ≤ 2048; omega, by show 8 + (7 + 11) + 1200 ≤ 84000; omega⟩) ⟨rs_Pc.blind, fun U hU hW => ⟨⟨rfl, hEE.warm hW (fun x9 g9 g8 => by rw [hU]; exact hI.2.1.2.1 x9 g9 g8) hbl (fun q => absurd hbl (Nat.not_lt.mpr q)), by rw [hU]; exact hI.2.1.1, by rw [hU]; exact hI.1, hI.2.2.1, by rw [hU]; exact hwf'⟩, (rs_Z0 hts hgv).warm hW (by rw [hU]; exact hI.2.1.2.1)⟩⟩ rfl rfl hl'.1 rfl (lv_room (Nat.zero_le _)) hd ⟨by rw [hce]; show 175 + t + 1 ≤ 601024; omega, by rw [hsc]; show am_ss 175 - am_ss 0 + 6 * t + 6 ≤ 7293034; omega⟩
  intro T hT X
  obtain ⟨v, st₀, t', T', Lc, h0, X', hL', g1, g2, ⟨⟨v', h2, hv, hq, hP2, hro2, hwf2⟩, hz, hk⟩, st⟩ := hrun T hT X
  rw [h0] at hz hk
  have hS2 : va_S (am_A s.heap.size) s.heap T'.heap (locs ++ Lc) := ⟨Nat.le_trans hI.2.1.1 (by rw [g1]; exact hz), fun q h1 h2 => by rw [g1, hk q (Nat.lt_of_lt_of_le h1 hI.2.1.1) h2]; exact hI.2.1.2.1 q h1 h2, fun q hq => by
    rcases List.mem_append.mp hq with h | h
    · exact hI.2.1.2.2 q h
    · exact hL' q h⟩
  have hE6 : lw_Kx p l e s m below meth c b L xs D cA ad (t + 1) (lw_Ex6 i 1513) := by
    intro pc lv st h3 H3 locs3 ls3 hx3 hI3 hl3
    obtain ⟨rfl, ⟨k3, b3, rfl⟩, rfl, hIv3⟩ := hx3
    exact hE _ (lw_lv i) _ _ _ _ _ ⟨rfl, rfl, rfl, hIv3⟩ hI3 ⟨hl3.1, hl3.2.1, fun q hq => hl3.2.2 q (List.mem_cons_of_mem _ (List.mem_cons_of_mem _ hq))⟩
  have hi2 : i + 7 ≤ h2.2.2.2.1 := by
    rw [hro2.1]
    exact hi
  have fin : lw_J i h2 → h2.1 = h'.1 → ∃ t2, Steps p.tables e below (T'.setTop (F0 m 1351 ls (([.int (Int32.ofInt K)] : List Value).map (am_cv ad)))) t2 ∧ lw_Z below #[Value.ref b] s t2 := fun hIv2 hy => by
    have h275 : h2.2.2.2.2 = 175 := lw_175 hIv2.1
    have k3 := lw_run C0 ht lw_o1351 hE6 lw_Qn 1351 (lw_lv i) [.int (Int32.ofInt K)] h2 T'.heap (locs ++ Lc) ls (lw_t1351 (ys := fun k => h'.1 3000000 (i + k)) hIv2 hi2 hcr (by rw [hy]) (by rw [hy]) (by rw [hy]) (by rw [hy])) ⟨by rw [g1]; exact hP2, hS2, hro2, hwf2, by rw [lw_m0]; exact Nat.zero_le _, fun _ => by rw [h275, am_shl_len]⟩ hl'
    have z3 : am_ce (1000 * (t + 1)) h2 = am_ce (1000 * t) h' + 1 := by
      rw [hce]
      unfold am_ce
      rw [lw_m0, lw_d0, h275]
      omega
    have z4 : am_sc (1000 * (t + 1)) h2 = am_sc (1000 * t) h' + 6 := by
      rw [hsc]
      unfold am_sc
      rw [lw_m0, lw_d0, h275]
      omega
    rw [z3, z4] at k3
    exact k3 T' rfl X'
  rcases hq with ⟨hK, hv2, hh⟩ | ⟨hK, hv2, hh⟩
  · subst hv2
    cases hv
    subst hh
    subst hK
    obtain ⟨t2, a1, b1⟩ := fin hIv rfl
    exact ⟨t2, st t2 a1, b1⟩
  · subst hv2
    cases hv
    subst hh
    subst hK
    obtain ⟨t2, a1, b1⟩ := fin ⟨iv_wL hIv.1 _, hIv.2.1, hIv.2.2.1, fun w hw => (ex_ln (by omega)).trans (hIv.2.2.2.1 w hw), jx_k (R := kr_Q) hIv.2.2.2.2 (kr_l (by decide +kernel))⟩ rfl
    exact ⟨t2, st t2 a1, b1⟩
set_option maxHeartbeats 4000000 in
theorem lw_all (C0 : lw_Fc l p s m meth c b L xs D cA ad) {t i : Nat} (ht : t ≤ 512) (hi7 : 7 * t ≤ i) (hi : i + 7 ≤ L) (hn : ∀ t', t' ≤ t + 1 → lw_Kx p l e s m below meth c b L xs D cA ad t' (lw_Ex (lw_J (i + 7)) (i + 7) 23)) : ∀ a ∈ lw_hd, lw_Kx p l e s m below meth c b L xs D cA ad t (lw_Ex (lw_J i) i a) := by
  have hL : L ≤ 3584 := C0.2.2.2.1
  have k1 := lw_K1513 C0 ht (hn t (Nat.le_succ _))
  have k0 : lw_Kx p l e s m below meth c b L xs D cA ad t (lw_Ex (lw_J i) i 1513) := fun pc lv st h H locs ls hx => k1 pc lv st h H locs ls ⟨hx.1, hx.2.1, hx.2.2.1, lw_upJ hx.2.2.2⟩
  exact List.forall_mem_cons.mpr ⟨k0, List.forall_mem_cons.mpr ⟨lw_seg C0 ht hi lw_o232 (fun h hI hL hb => lw_t232 hI hL hb) k1,
  List.forall_mem_cons.mpr ⟨lw_seg C0 ht hi lw_o379 (fun h hI hL hb => lw_t379 hI hL hb) k1,
  List.forall_mem_cons.mpr ⟨lw_seg C0 ht hi lw_o392 (fun h hI hL hb => lw_t392 hI hL hb) k1,
  List.forall_mem_cons.mpr ⟨lw_seg C0 ht hi lw_o405 (fun h hI hL hb => lw_t405 hI hL hb) (lw_seg C0 ht hi lw_o422 (fun h hI hL hb => lw_t422 hI hL hb) (k1)),
  List.forall_mem_cons.mpr ⟨lw_seg C0 ht hi lw_o442 (fun h hI hL hb => lw_t442 hI hL hb) (lw_seg C0 ht hi lw_o459 (fun h hI hL hb => lw_t459 hI hL hb) (k1)),
  List.forall_mem_cons.mpr ⟨lw_seg C0 ht hi lw_o479 (fun h hI hL hb => lw_t479 hI hL hb) k1,
  List.forall_mem_cons.mpr ⟨lw_seg C0 ht hi lw_o492 (fun h hI hL hb => lw_t492 hI hL hb) k1,
  List.forall_mem_cons.mpr ⟨lw_seg C0 ht hi lw_o529 (fun h hI hL hb => lw_t529 hI hL hb) k1,
  List.forall_mem_cons.mpr ⟨lw_seg C0 ht hi lw_o554 (fun h hI hL hb => lw_t554 hI hL hb) k1,
  List.forall_mem_cons.mpr ⟨lw_seg C0 ht hi lw_o567 (fun h hI hL hb => lw_t567 hI hL hb) (lw_seg C0 ht hi lw_o578 (fun h hI hL hb => lw_t578 hI hL hb) (k1)),
  List.forall_mem_cons.mpr ⟨lw_seg C0 ht hi lw_o592 (fun h hI hL hb => lw_t592 hI hL hb) (lw_seg C0 ht hi lw_o609 (fun h hI hL hb => lw_t609 hI hL hb) (k1)),
  List.forall_mem_cons.mpr ⟨lw_seg C0 ht hi lw_o629 (fun h hI hL hb => lw_t629 hI hL hb) (lw_seg C0 ht hi lw_o646 (fun h hI hL hb => lw_t646 hI hL hb) (k1)),
  List.forall_mem_cons.mpr ⟨lw_seg C0 ht hi lw_o666 (fun h hI hL hb => lw_t666 hI hL hb) (lw_seg C0 ht hi lw_o677 (fun h hI hL hb => lw_t677 hI hL hb) (k1)),
  List.forall_mem_cons.mpr ⟨lw_seg C0 ht hi lw_o691 (fun h hI hL hb => lw_t691 hI hL hb) (lw_seg C0 ht hi lw_o708 (fun h hI hL hb => lw_t708 hI hL hb) (k1)),
  List.forall_mem_cons.mpr ⟨lw_seg C0 ht hi lw_o728 (fun h hI hL hb => lw_t728 hI hL hb) (lw_seg C0 ht hi lw_o745 (fun h hI hL hb => lw_t745 hI hL hb) (k1)),
  List.forall_mem_cons.mpr ⟨lw_seg C0 ht hi lw_o765 (fun h hI hL hb => lw_t765 hI hL hb) (lw_seg C0 ht hi lw_o776 (fun h hI hL hb => lw_t776 hI hL hb) (k1)),
  List.forall_mem_cons.mpr ⟨lw_seg C0 ht hi lw_o790 (fun h hI hL hb => lw_t790 hI hL hb) (lw_seg C0 ht hi lw_o795 (fun h hI hL hb => lw_t795 hI hL hb) (k1)),
  List.forall_mem_cons.mpr ⟨lw_seg C0 ht hi lw_o803 (fun h hI hL hb => lw_t803 hI hL hb) (lw_seg C0 ht hi lw_o814 (fun h hI hL hb => lw_t814 hI hL hb) (k1)),
  List.forall_mem_cons.mpr ⟨lw_seg C0 ht hi lw_o828 (fun h hI hL hb => lw_t828 hI hL hb) (lw_seg C0 ht hi lw_o845 (fun h hI hL hb => lw_t845 hI hL hb) (k1)),
  List.forall_mem_cons.mpr ⟨lw_seg C0 ht hi lw_o865 (fun h hI hL hb => lw_t865 hI hL hb) k1,
  List.forall_mem_cons.mpr ⟨lw_seg C0 ht hi lw_o930 (fun h hI hL hb => lw_t930 hI hL hb) (lw_seg C0 ht hi lw_o935 (fun h hI hL hb => lw_t935 hI hL hb) (k1)),
  List.forall_mem_cons.mpr ⟨lw_seg C0 ht hi lw_o943 (fun h hI hL hb => lw_t943 hI hL hb) (lw_seg C0 ht hi lw_o948 (fun h hI hL hb => lw_t948 hI hL hb) (k1)),
  List.forall_mem_cons.mpr ⟨lw_seg C0 ht hi lw_o956 (fun h hI hL hb => lw_t956 hI hL hb) (lw_seg C0 ht hi lw_o961 (fun h hI hL hb => lw_t961 hI hL hb) (k1)),
  List.forall_mem_cons.mpr ⟨lw_seg C0 ht hi lw_o969 (fun h hI hL hb => lw_t969 hI hL hb) (lw_seg C0 ht hi lw_o974 (fun h hI hL hb => lw_t974 hI hL hb) (k1)),
  List.forall_mem_cons.mpr ⟨lw_seg C0 ht hi lw_o982 (fun h hI hL hb => lw_t982 hI hL hb) (lw_seg C0 ht hi lw_o993 (fun h hI hL hb => lw_t993 hI hL hb) (k1)),
  List.forall_mem_cons.mpr ⟨lw_seg C0 ht hi lw_o1007 (fun h hI hL hb => lw_t1007 hI hL hb) (lw_seg C0 ht hi lw_o1012 (fun h hI hL hb => lw_t1012 hI hL hb) (k1)),
  List.forall_mem_cons.mpr ⟨lw_seg C0 ht hi lw_o1020 (fun h hI hL hb => lw_t1020 hI hL hb) (lw_seg C0 ht hi lw_o1025 (fun h hI hL hb => lw_t1025 hI hL hb) (k1)),
  List.forall_mem_cons.mpr ⟨lw_seg C0 ht hi lw_o1033 (fun h hI hL hb => lw_t1033 hI hL hb) (lw_seg C0 ht hi lw_o1044 (fun h hI hL hb => lw_t1044 hI hL hb) (k1)),
  List.forall_mem_cons.mpr ⟨lw_seg C0 ht hi lw_o1058 (fun h hI hL hb => lw_t1058 hI hL hb) (lw_seg C0 ht hi lw_o1075 (fun h hI hL hb => lw_t1075 hI hL hb) (k1)),
  List.forall_mem_cons.mpr ⟨lw_seg C0 ht hi lw_o1095 (fun h hI hL hb => lw_t1095 hI hL hb) (lw_seg C0 ht hi lw_o1100 (fun h hI hL hb => lw_t1100 hI hL hb) (k1)),
  List.forall_mem_cons.mpr ⟨lw_seg C0 ht hi lw_o1108 (fun h hI hL hb => lw_t1108 hI hL hb) (lw_seg C0 ht hi lw_o1113 (fun h hI hL hb => lw_t1113 hI hL hb) (k1)),
  List.forall_mem_cons.mpr ⟨lw_seg C0 ht hi lw_o1121 (fun h hI hL hb => lw_t1121 hI hL hb) (lw_seg C0 ht hi lw_o1126 (fun h hI hL hb => lw_t1126 hI hL hb) (k1)),
  List.forall_mem_cons.mpr ⟨lw_seg C0 ht hi lw_o1134 (fun h hI hL hb => lw_t1134 hI hL hb) (lw_seg C0 ht hi lw_o1151 (fun h hI hL hb => lw_t1151 hI hL hb) (k1)),
  List.forall_mem_cons.mpr ⟨lw_seg C0 ht hi lw_o1171 (fun h hI hL hb => lw_t1171 hI hL hb) (lw_seg C0 ht hi lw_o1176 (fun h hI hL hb => lw_t1176 hI hL hb) (k1)),
  List.forall_mem_cons.mpr ⟨lw_seg C0 ht hi lw_o1184 (fun h hI hL hb => lw_t1184 hI hL hb) (lw_seg C0 ht hi lw_o1189 (fun h hI hL hb => lw_t1189 hI hL hb) (k1)),
  List.forall_mem_cons.mpr ⟨lw_seg C0 ht hi lw_o1197 (fun h hI hL hb => lw_t1197 hI hL hb) k1,
  List.forall_mem_cons.mpr ⟨lw_seg C0 ht hi lw_o1222 (fun h hI hL hb => lw_t1222 hI hL hb) (lw_seg C0 ht hi lw_o1227 (fun h hI hL hb => lw_t1227 hI hL hb) (k1)),
  List.forall_mem_cons.mpr ⟨lw_seg C0 ht hi lw_o1235 (fun h hI hL hb => lw_t1235 hI hL hb) (lw_seg C0 ht hi lw_o1246 (fun h hI hL hb => lw_t1246 hI hL hb) (k1)),
  List.forall_mem_cons.mpr ⟨lw_seg C0 ht hi lw_o1260 (fun h hI hL hb => lw_t1260 hI hL hb) (lw_seg C0 ht hi lw_o1265 (fun h hI hL hb => lw_t1265 hI hL hb) (k1)),
  List.forall_mem_cons.mpr ⟨lw_seg C0 ht hi lw_o1273 (fun h hI hL hb => lw_t1273 hI hL hb) (lw_seg C0 ht hi lw_o1296 (fun h hI hL hb => lw_t1296 hI hL hb) (k1)),
  List.forall_mem_cons.mpr ⟨lw_K40 C0 (by omega) hi (lw_K1513 C0 (by omega) (hn (t + 1) (Nat.le_refl _))),
  List.forall_mem_cons.mpr ⟨lw_seg C0 ht hi lw_o1386 (fun h hI hL hb => lw_t1386 hI hL hb) (lw_seg C0 ht hi lw_o1409 (fun h hI hL hb => lw_t1409 hI hL hb) (k1)),
  List.forall_mem_cons.mpr ⟨lw_seg C0 ht hi lw_o1435 (fun h hI hL hb => lw_t1435 hI hL hb) k1,
  List.forall_mem_cons.mpr ⟨lw_seg C0 ht hi lw_o1488 (fun h hI hL hb => lw_t1488 hI hL hb) (lw_seg C0 ht hi lw_o1499 (fun h hI hL hb => lw_t1499 hI hL hb) (k1)),
  fun _ z => absurd z List.not_mem_nil⟩⟩⟩⟩⟩⟩⟩⟩⟩⟩⟩⟩⟩⟩⟩⟩⟩⟩⟩⟩⟩⟩⟩⟩⟩⟩⟩⟩⟩⟩⟩⟩⟩⟩⟩⟩⟩⟩⟩⟩⟩⟩⟩⟩⟩
theorem lw_step (C0 : lw_Fc l p s m meth c b L xs D cA ad) {t i : Nat} (hi7 : 7 * t ≤ i) (hi : i ≤ L) (hn : i + 7 ≤ L → ∀ t', t' ≤ t + 1 → lw_Kx p l e s m below meth c b L xs D cA ad t' (lw_Ex (lw_J (i + 7)) (i + 7) 23)) : lw_Kx p l e s m below meth c b L xs D cA ad t (lw_Ex (lw_J i) i 23) := by
  have hL : L ≤ 3584 := C0.2.2.2.1
  have ht : t ≤ 512 := by omega
  intro pc lv st h H locs ls hx hI hl
  obtain ⟨rfl, rfl, rfl, hIv⟩ := hx
  have hl4 : h.2.2.2.1 = L := hI.2.2.1.1
  refine lw_run C0 ht lw_oH (E := lw_EH i h) ?_ lw_Qn _ _ _ _ _ _ _ (lw_tH (by rw [hl4]; exact hL) (by rw [hl4]; exact hi)) hI hl
  clear hI hl
  intro pc lv st h' H locs ls hx hI hl
  obtain ⟨rfl, rfl, rfl, hcase⟩ := hx
  rcases hcase with ⟨hle, hm⟩ | rfl
  · rw [hl4] at hle
    exact lw_all C0 ht hi7 hle (hn hle) pc hm _ _ _ _ _ _ _ ⟨rfl, rfl, rfl, hIv⟩ hI hl
  · exact lw_run C0 ht lw_oE (E := fun _ _ _ _ => False) (fun _ _ _ _ _ _ _ q => q.elim) (lw_end C0 ht) _ _ _ _ _ _ _ lw_tE hI hl
theorem lw_loop (C0 : lw_Fc l p s m meth c b L xs D cA ad) : ∀ n i t, L ≤ i + n → i ≤ L → 7 * t ≤ i → lw_Kx p l e s m below meth c b L xs D cA ad t (lw_Ex (lw_J i) i 23) := by
  intro n
  induction n with
  | zero => exact fun i t h1 h2 h3 => lw_step C0 h3 h2 (fun z => absurd z (by omega))
  | succ n ih => exact fun i t h1 h2 h3 => lw_step C0 h3 h2 (fun z t' ht' => ih (i + 7) t' (by omega) z (by omega))
def lw_h0 (xs : Nat → Int32) (L : Nat) : am_H := (fun o j => if o = 3000000 then xs j else 0, fun _ _ => 0, fun _ _ => none, L, 0)
theorem lw_lv0 : ae_cl (fun _ => 0) ae_lv0 = lw_lv 0 := rfl
theorem lw_in0 : ae_in (fun _ => 0) ae_env0 := by
  refine ⟨fun i w hw => ?_, by decide⟩
  have hm := List.mem_of_getElem? hw
  have hz : ae_env0.all (fun w => decide (w.1 ≤ 0) && decide (0 ≤ w.2)) = true := by decide +kernel
  have := List.all_eq_true.mp hz w hm
  simp only [Bool.and_eq_true, decide_eq_true_eq] at this
  exact this
def lw_X0 (xs : Nat → Int32) (L : Nat) : Prop := am_X (am_call am_cod 20) 7 175 (some .boolean) (am_find am_rL) (lw_Ex (lw_J 0) 0 23) lw_no 0 [(0, .ref 3000000)] [] (lw_h0 xs L)
theorem jx_s {ρ : Nat → Int32} {h : am_H} (hR : ae_R ρ 0 ae_H0 h) : jx 0 h := K_s hR
theorem lw_0 {xs : Nat → Int32} {L : Nat} : lw_X0 xs L := by
  unfold lw_X0
  have hR : ae_R (fun _ => 0) 0 ([], [], 0, 0) (lw_h0 xs L) := ⟨rfl, fun z => absurd z (by decide), by decide, fun o k ho => by have : 0 ≤ o ∧ o < 0 := ho; omega, fun o k ho => by have : 0 ≤ o ∧ o < 0 := ho; omega, fun j hj => by omega, fun _ _ _ => rfl, fun _ _ _ => rfl⟩
  refine am_X_sub (am_X.mono (fun pc lv st h q => ?_) (fun _ _ q => q) (wd_law (fun _ _ _ _ e => e.1) (ae_go_ok (ρ := fun _ => 0) (LL := 0) (E := fun pc lv st h => pc = 23 ∧ lv = ae_cl (fun _ => 0) ae_lv0 ∧ st = [] ∧ ae_R (fun _ => 0) 0 ae_H0 h) (Q := lw_no0) (fun _ _ _ _ z => by cases z) (fun env pc lv st H z1 z2 hi h' hr => by
    unfold ae_fin0 at z2
    simp only [Bool.and_eq_true, decide_eq_true_eq] at z2
    obtain ⟨q1, q2, q3, q4, q5⟩ := z2
    subst q1
    have e2 : st = [] := List.isEmpty_iff.mp q2
    subst e2
    exact ⟨Nat.eq_of_beq_eq_true z1, rfl, rfl, ae_R_same hr q3 q4 q5⟩) (fun _ _ _ z => by cases z) _ _ _ _ _ _ _ _ _ _ _ _ ae_run1 lw_in0 (lw_h0 xs L) hR)))
  obtain ⟨⟨rfl, rfl, rfl, hr⟩, hW⟩ := q
  have e2 : h.1 154 2 = 0 := by
    rcases iv_int (k := 2) hr (o := 154) (by decide) with ⟨w2, -, -⟩ | ⟨w2, -, -⟩ | ⟨w2, -, -⟩
    · exact w2
    · exact absurd w2 (by decide)
    · exact absurd w2 (by decide)
  refine am_xexit ⟨rfl, lw_lv0, rfl, iv_start hr, ?_, jt_0 e2, hW.2, jx_s hr⟩
  rcases iv_int (k := 1) hr (o := 1) (by decide) with ⟨w, -, -⟩ | ⟨w, -, -⟩ | ⟨w, -, -⟩
  · rcases iv_int (k := 2) hr (o := 154) (by decide) with ⟨w2, -, -⟩ | ⟨w2, -, -⟩ | ⟨w2, -, -⟩
    · rw [w, w2]
    · exact absurd w2 (by decide)
    · exact absurd w2 (by decide)
  · exact absurd w (by decide)
  · exact absurd w (by decide)
