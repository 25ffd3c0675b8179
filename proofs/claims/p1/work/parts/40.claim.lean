/-! THE CLAIM OUT OF ONE WALK OF THE LAW'S BODY. Your part is whole_start (and what it stands on); all else here is the same for every law, but numbers. -/
def R_law : String := "MistCantonLaw"
def lw_P (b : Addr) (xs : List Int32) (args : Array Value) (s : State) : Prop := args = #[.ref b] ∧ s.IntsAt b xs ∧ xs.length ≤ 7 ∧ (Jvm.Cond.and given_1 narrow_1).before args s = true
def lw_Q (_ : Array Value) (s : State) (o : Outcome) (t : State) : Prop := o = .returned (some (.int 1)) ∧ Framed s o t [] 600002 7302232
def lw_Z (below : List Frame) (a : Array Value) (s : State) : State → Prop := fun t => ∃ o, t.status = .running ∧ Ended t below o ∧ lw_Q a s o t
/-- the law's own end, with 1 on the stack, nothing written that was there before, its room as the claim has it -/
theorem lw_ret {p : Program} {l : Launch} {e : Env} {s : State} {m : MethodId} {below : List Frame} {meth : Method} {c : Code} {b : Nat} (hx : p.tables.exec = Jvm.exec) (hb : c.code = code) (hr : meth.sig.returnType = ret) (hlocks : meth.locks = false) {pc : Nat} {H : Heap} {ls : Array Slot} (hdg : decode code pc = .ok (.ireturn, 1)) : W p l e room_1 s m #[Value.ref b] below meth c H [] 600002 7302232 (lw_Z below #[Value.ref b] s) (F0 m pc ls [.int 1]) := by
  intro T hT X
  obtain ⟨fs, hret, hrun, hended, hW, hframe⟩ := X.leave (v := some (.int 1)) (hlocks := hlocks) (fun h => by rw [hr] at h; cases h)
  have hmeth' : T.vm.method? m = some meth := X.method'
  refine ⟨T.setFrames fs, ?_, .returned (some (.int 1)), hrun, hended, rfl, ⟨_, rfl⟩, hW, hframe⟩
  jvm_step X.here [X.here.top, hx, hb, hdg, hmeth', hr, ret, narrow_b1]
  (try refine ⟨rfl, ?_⟩); (try refine ⟨rfl, ?_⟩)
  first | (intro acts; rw [hret _ acts rfl rfl rfl]) | rw [hret _ _ rfl rfl rfl]
  exact Steps.refl _
/-- what holds at the law's entry: the machine, the code, the tables' words (any of lw_tbl by 'hts w (by decide +kernel)'), the script of L ints xs at the cell b, what the Statement gives of the start (any of its parts by flat_of_before) -/
def lw_At (p : Program) (s : State) (m : MethodId) (meth : Method) (c : Code) (b L : Nat) (xs : Nat → Int32) : Prop :=
  p.tables.exec = Jvm.exec ∧ c.code = code ∧ meth.sig.returnType = ret ∧ c.maxLocals = 7 ∧ s.vm.findClass R_law = some m.cls ∧ (∀ w ∈ lw_tbl, w.before #[Value.ref b] s = true) ∧ va_X b L xs s s.heap ∧ b < s.heap.size ∧ meth.locks = false ∧ (Jvm.Cond.and given_1 narrow_1).before #[Value.ref b] s = true
theorem lw_ss6 : am_ss 175 + 6 ≤ 7302232 := by
  have h : Nat.ble (am_ss 175 + 6) 7302232 = true := by decide +kernel
  generalize am_ss 175 = x at h ⊢
  exact Nat.le_of_ble_eq_true h
/-- the law's end, whatever threw before -/
theorem lw_end {p : Program} {l : Launch} {e : Env} {s : State} {m : MethodId} {below : List Frame} {meth : Method} {c : Code} {b L c0 : Nat} {xs : Nat → Int32} {D : va_G} {cA : Nat → ClassId} {ad : Nat → Nat} (hx : p.tables.exec = Jvm.exec) (hb : c.code = code) (hr : meth.sig.returnType = ret) (hlocks : meth.locks = false) (hc : c0 / 1000 ≤ 1) : am_Qr p l e room_1 s m #[Value.ref b] below meth c c0 (lw_Z below #[Value.ref b] s) D cA ad s.heap.size L xs code (some .boolean) lw_Qt := by
  intro v h H locs pc ls st hQ hI hrk
  have hv : v = some (.int 1) := hQ
  subst hv
  rcases hrk with ⟨x, h1, rfl, hd, ty, h2, h3⟩ | ⟨x, h1, -⟩ | ⟨h1, -⟩
  · cases h1
    have h4 := hI.2.2.2.1
    rw [am_shl_len] at h4
    have h5 := am_ss_mono h4
    have h6 := lw_ss6
    refine va_forget (fun q hq => hI.2.1.2.2 q hq) ?_
    refine W.widen (k := 600002) (n := 7302232) ?_ ?_ (lw_ret hx hb hr hlocks hd)
    · unfold am_ce
      omega
    · unfold am_sc
      omega
  · cases h1
  · cases h1
set_option maxHeartbeats 4000000 in
theorem whole_start {p : Program} {e : Env} {s : State} {m : MethodId} {below : List Frame} {meth : Method} {c : Code} (l : Launch) (hflags : l.flags = flags0) {b L : Nat} {xs : Nat → Int32} (hL : L ≤ 7) (C0 : lw_At p s m meth c b L xs) : W p l e room_1 s m #[Value.ref b] below meth c s.heap [] 0 0 (lw_Z below #[Value.ref b] s) (entryFrame m ([Value.ref b] : List Value).toArray 7) := by
  obtain ⟨hx, hb, hr, hml, hown, hts, hX, hbl, hlocks, hgv⟩ := id C0
  obtain ⟨D, cA, hE⟩ := lw_EE hts hX
  have hG : am_G (fun o => if o = 3000000 then b else s.heap.size + o) s.heap.size b L := by
    refine ⟨fun o ho => ?_, if_pos rfl, hbl, by omega⟩
    rw [am_shl_len] at ho
    show (if o = 3000000 then b else s.heap.size + o) = _
    rw [if_neg (by omega)]
  have F : am_Fx p s m #[Value.ref b] c D cA (fun o => if o = 3000000 then b else s.heap.size + o) s.heap.size b L xs "MistCantonLaw" code 7 0 := ⟨hx, hb, hml, hown, lw_gw hts, hE, Nat.le_refl _, hG, fun _ => rfl⟩
  have hC : am_Cs l room_1 D cA (fun o => if o = 3000000 then b else s.heap.size + o) s.heap.size b L xs (am_call am_cod 20) := by
    intro n As h Q k
    obtain ⟨d, h1, h2⟩ := am_Met am_cod_ok hG 20 n As h Q k
    exact ⟨d, h2, Nat.le_trans (Nat.succ_le_succ h1) (Nat.le_of_ble_eq_true rfl), by show 40 + 40 * d ≤ 84000; omega⟩
  have hl := lv_entry ([.ref b]) (n := 7) (Nat.le_of_ble_eq_true rfl)
  rw [lg_entry_eq]
  generalize (lg_sl ([.ref b]) ++ List.replicate (7 - (lg_sl ([.ref b])).length) Slot.unset).toArray = ls at hl ⊢
  have hl : lv_has ls 7 (am_cl2 (fun o => if o = 3000000 then b else s.heap.size + o) [(0, .ref 3000000)]) := hl
  have key := am_X_sound (p := p) (e := e) (below := below) (meth := meth) (Qw := lw_Z below #[Value.ref b] s) (R := room_1) (lim := 175) (rt := some .boolean) (ini := false) (E := lw_E xs) (Q := lw_Qt) F hC ⟨by show 175 - 0 % 1000 + 0 / 1000 ≤ 600002; omega, by have := lw_ss; show am_ss 175 - am_ss (0 % 1000) + 6 * (0 / 1000) ≤ 7302232; omega⟩ ⟨by show 1 ≤ 2048; exact Nat.le_of_ble_eq_true rfl, by show 20 ≤ 84000; exact Nat.le_of_ble_eq_true rfl⟩ (fun q => by cases q) am_law_ok ?_ ?_ 0 [(0, .ref 3000000)] [] (lw_h0 xs L) s.heap [] ls (lw_0 hL) ⟨fun k q hq => by simp [am_cc, lw_h0] at hq, va_S.rf, ⟨rfl, fun j hj => by simp [lw_h0]⟩, Nat.zero_le _, Nat.le_refl _, fun z => absurd z (by decide)⟩ hl
  · exact key
  · intro pc lv st h H locs ls hx0 hI hl'
    obtain ⟨rfl, rfl, rfl, hae, h40⟩ := hx0
    obtain ⟨K, V, hCX, hcase⟩ := rs_main xs h40
    have hl0 : l.stackTraces = false := by
      unfold Launch.stackTraces
      rw [hflags]
      decide +kernel
    have h175 : h.2.2.2.2 = 175 := hae.1
    have hwf' : am_wf s.heap.size h H := ⟨hI.2.2.2.1, fun z => absurd z (by rw [h175, am_shl_len]; decide)⟩
    have hd : decode code 1348 = .ok (.invokestatic 188, 3) := by decide +kernel
    have hG2 : GoodIn am_gw (va_wsS "MistCantonLaw" 188 rs_y rs_ws) := am_good_in (fun w hw => by
      unfold va_wsS at hw
      rcases List.mem_append.mp hw with q | q
      · simp only [List.mem_cons, List.not_mem_nil, or_false] at q
        rcases q with rfl | rfl | rfl <;> exact rs_w4_at (by simp)
      · rcases List.mem_cons.mp q with rfl | q
        · exact rs_w4_at (by simp)
        · exact q)
    have hss := lw_ss6
    have hrun := vx_runSW (H := H) (p := p) (e := e) (below := below) (meth := meth) (locs := locs) (cells := am_ce 0 h) (slots := am_sc 0 h) (g := F0 m 1348 ls (([.ref 174, .int (xs 4), .int (xs 3), .int (xs 2), .int (xs 1), .ref 0] : List Value).map (am_cv (fun o => if o = 3000000 then b else s.heap.size + o)))) (As := (rs_Bs xs).map (am_cv (fun o => if o = 3000000 then b else s.heap.size + o))) (rest := []) (cc := code) (nL := 7) ⟨hx, hb, hml, hown, lw_gw hts⟩ (rs_Met (D := D) (cA := cA) (h := h) hl0 hG hCX hae) (vx_cwSW (R := room_1) 6 (lw_gw hts) hG2 rfl rfl rfl ⟨by decide, by decide, by decide +kernel⟩ ⟨by show 30 + 1 ≤ 2048; omega, by show 8 + (7 + 11) + 1200 ≤ 84000; omega⟩) ⟨rs_Pc.blind, fun U hU hW => ⟨⟨rfl, hE.warm hW (by rw [hU]; exact hI.2.1.2.1 b hbl (fun q => absurd hbl (Nat.not_lt.mpr q))), by rw [hU]; exact hI.2.1.1, by rw [hU]; exact hI.1, hI.2.2.1, by rw [hU]; exact hwf'⟩, (rs_Z0 hts hgv).warm hW (by rw [hU]; exact hI.2.1.2.1)⟩⟩ rfl rfl hl'.1 rfl (lv_room (Nat.zero_le _)) hd ⟨by unfold am_ce; rw [h175]; show 175 - 0 % 1000 + 0 / 1000 + 1 ≤ 600002; omega, by unfold am_sc; rw [h175]; show am_ss 175 - am_ss (0 % 1000) + 6 * (0 / 1000) + 6 ≤ 7302232; omega⟩
    intro T hT X
    obtain ⟨v, st₀, t, T', Lc, h0, X', hL, g1, g2, ⟨⟨v', h2, hv, hq, hP2, hro2, hwf2⟩, hz, hk⟩, st⟩ := hrun T hT X
    rw [h0] at hz hk
    have hS2 : va_S (am_A s.heap.size) s.heap T'.heap (locs ++ Lc) := ⟨Nat.le_trans hI.2.1.1 (by rw [g1]; exact hz), fun q h1 h2 => by rw [g1, hk q (Nat.lt_of_lt_of_le h1 hI.2.1.1) h2]; exact hI.2.1.2.1 q h1 h2, fun q hq => by
      rcases List.mem_append.mp hq with h | h
      · exact hI.2.1.2.2 q h
      · exact hL q h⟩
    have hr2 : ae_R (lw_rho xs 0 0) 7 ae_H0 h2 := by
      rcases hq with hq | hq
      · exact hq.2.2
      · exact hq.2.2.1
    have h275 : h2.2.2.2.2 = 175 := hr2.1
    have F1 : am_Fx p s m #[Value.ref b] c D cA (fun o => if o = 3000000 then b else s.heap.size + o) s.heap.size b L xs "MistCantonLaw" code 7 1000 := ⟨hx, hb, hml, hown, lw_gw hts, hE, Nat.le_refl _, hG, fun _ => rfl⟩
    have key2 := am_X_sound (p := p) (e := e) (below := below) (meth := meth) (Qw := lw_Z below #[Value.ref b] s) (R := room_1) (lim := 175) (rt := some .boolean) (ini := false) (E := fun _ _ _ _ => False) (Q := lw_Qt) F1 hC ⟨by show 175 - 1000 % 1000 + 1000 / 1000 ≤ 600002; omega, by show am_ss 175 - am_ss (1000 % 1000) + 6 * (1000 / 1000) ≤ 7302232; omega⟩ ⟨by show 1 ≤ 2048; omega, by show 20 ≤ 84000; omega⟩ (fun q => by cases q) am_law_ok (fun _ _ _ _ _ _ _ q => q.elim) (lw_end hx hb hr hlocks (by decide))
    have fin : ∀ st' : List Value, lw_X (fun _ _ _ _ => False) 1351 (ae_cl (lw_rho xs 0 0) ae_lv0) st' h2 → ∃ t2, Steps p.tables e below (T'.setTop (F0 m 1351 ls (st'.map (am_cv (fun o => if o = 3000000 then b else s.heap.size + o))))) t2 ∧ lw_Z below #[Value.ref b] s t2 := fun st' hX2 => by
      have k3 := key2 1351 (ae_cl (lw_rho xs 0 0) ae_lv0) st' h2 T'.heap (locs ++ Lc) ls hX2 ⟨by rw [g1]; exact hP2, hS2, hro2, hwf2, Nat.zero_le _, fun _ => by rw [h275, am_shl_len]⟩ hl'
      have z3 : am_ce 1000 h2 = am_ce 0 h + 1 := by
        unfold am_ce
        omega
      have z4 : am_sc 1000 h2 = am_sc 0 h + 6 := by
        have q1 : am_ss (1000 % 1000) = am_ss (0 % 1000) := congrArg am_ss (by omega)
        have q2 : am_ss h2.2.2.2.2 = am_ss h.2.2.2.2 := congrArg am_ss (by omega)
        unfold am_sc
        omega
      rw [z3, z4] at k3
      exact k3 T' rfl X'
    rcases hq with ⟨hK, hv2, -⟩ | ⟨hK, hv2, -, hV⟩
    · subst hv2
      cases hv
      rcases hcase with ⟨-, hc1⟩ | ⟨hK0, -⟩
      · obtain ⟨t2, a1, b1⟩ := fin [.int 1] (hc1 _ h2 hr2)
        exact ⟨t2, st t2 a1, b1⟩
      · omega
    · subst hv2
      cases hv
      rcases hcase with ⟨hK1, -⟩ | ⟨-, hc0⟩
      · omega
      · obtain ⟨t2, a1, b1⟩ := fin [.int 0] (hc0 _ h2 hr2 hV)
        exact ⟨t2, st t2 a1, b1⟩
  · exact lw_end hx hb hr hlocks (by decide)
set_option maxHeartbeats 4000000 in
theorem lw_walk (l : Launch) (hflags : l.flags = flags0) (b : Addr) (xs : List Int32) : MetFree l x (headSpec (Jvm.Cond.code x code maxLocals ret :: tables_1) room_1) (lw_P b xs) (fun _ _ _ _ _ => True) lw_Q := by
  refine MetFree.of_bodyS (code := code) (maxLocals := maxLocals) (ret := ret) (by decide) ?_ ?_
  · intro args s m h hn
    obtain ⟨meth, c, h1, h2, h3, h4, h5, h6, -, -⟩ := Cond.code_spec hn (atoms_spec (ws := Jvm.Cond.code x code maxLocals ret :: tables_1) h _ List.mem_cons_self)
    exact ⟨meth, c, h1, h2, h3, h4, h5, h6⟩
  · intro p e s m args below meth c s₁ B hml0 hP _
    obtain ⟨rfl, hx, hbd, hgv⟩ := hP
    obtain ⟨scr, harrAt, hlist, hof, hsmall⟩ := hx
    obtain ⟨hcb, hkn, -, -⟩ := State.arrayAt?_spec harrAt
    have hown : s.vm.findClass R_law = some m.cls := findClass_of_methodNamed B.named
    have hts0 : ∀ c ∈ (Jvm.Cond.code x code maxLocals ret :: tables_1), c.before #[Value.ref b] s = true := atoms_spec (ws := Jvm.Cond.code x code maxLocals ret :: tables_1) B.pre
    have hts : ∀ w ∈ lw_tbl, w.before #[Value.ref b] s = true := k2_hts_sels lw_privs (fun w hw => hts0 w (List.mem_cons_of_mem _ hw)) lw_privs_ok
    have hml : c.maxLocals = 7 := B.maxLocals_eq (hts0 _ List.mem_cons_self)
    have X₀ : Stand p l e room_1 s m #[Value.ref b] below meth c s₁ [] 0 0 := Stand.of_body B
    have hh0 : s₁.heap = s.heap := by rw [B.state]; rfl
    have hsz : scr.slots.size = xs.length := by rw [← Array.length_toList, hlist, List.length_map]
    have hval : ∀ j : Nat, j < xs.length → scr.slots[j]? = some (.int (xs.getD j 0)) := fun j hj => by
      rw [← Array.getElem?_toList, hlist]
      simp [hj]
    have hbl : b < s.heap.size := (Array.getElem?_eq_some_iff.mp hcb).1
    have hX : va_X b xs.length (fun j => xs.getD j 0) s s.heap := ⟨scr, hcb, hof, hkn, hsz, hval⟩
    have K : W p l e room_1 s m #[Value.ref b] below meth c s₁.heap [] 0 0 (lw_Z below #[Value.ref b] s) (entryFrame m ([Value.ref b] : List Value).toArray 7) := by
      rw [hh0]
      exact whole_start l hflags hbd ⟨B.exec, B.bytes, B.returns, hml, hown, hts, hX, hbl, B.notSynchronized, hgv⟩
    obtain ⟨t, a1, o, b1, b2, b3⟩ := K s₁ rfl X₀
    exact ⟨t, o, a1, b1, b2, b3⟩
theorem lw_pre_spec {args : Array Value} {s : State} (h : (Jvm.Cond.and given_1 narrow_1).before args s = true) (hr : rest_1_c.before args s = true) : ∃ (b : Addr) (xs : List Int32), lw_P b xs args s := by
  have hs := flat_of_before _ h
  have hq := flat_of_before _ hr
  have hc : (Cond.count 1).before args s = true := hs _ (by decide +kernel)
  have harr : (Cond.arrayOf (.arg 0) .int).before args s = true := hs _ (by decide +kernel)
  have hle : (Cond.le (.length (.arg 0)) (.int 7)).before args s = true := hs _ (by decide +kernel)
  have hlen : (Cond.isInt (.length (.arg 0))).before args s = true := hq _ (by decide +kernel)
  have hall : (Cond.all (.arg 0) (.isInt (.elem (.arg 0) (.index 0)))).before args s = true := hq _ (by decide +kernel)
  obtain ⟨b, xs, hb, hx⟩ := State.ints_of_pre rfl harr hlen hall
  have hsm : xs.length < 2 ^ 31 := hx.choose_spec.2.2.2
  have hev : (Term.length (.arg 0)).eval args s none [] s = some (.int xs.length.toInt32) := hx.length_eval hb
  have hv := Cond.le_ints hev (show (Term.int 7).eval args s none [] s = some (.int 7) from rfl)
  have hd : xs.length.toInt32 ≤ 7 := by
    simpa [Cond.before, Cond.holds, hv] using hle
  have hN : xs.length ≤ 7 := (Int32.ofNat_le_ofNat hsm (by decide)).mp (show Int32.ofNat xs.length ≤ Int32.ofNat 7 from hd)
  exact ⟨b, xs, Cond.one_arg hc (show args[0]? = some (.ref b) from hb), hx, hN, h⟩
theorem lw_comes (l : Launch) (hflags : l.flags = flags0) : Comes l x (Jvm.Cond.code x code maxLocals ret :: tables_1) room_1 (fun tb e args s => Calls_1 tb e args s ∧ rest_1 tb e args s ∧ Pre_1 tb e args s)
    (fun _ _ args s o t => lw_Q args s o t) := by
  intro p e ha hc hk s m args below hf hfit hheap happ hpre
  obtain ⟨b, xs, hP⟩ := lw_pre_spec hpre.2.2 hpre.2.1
  obtain ⟨k, o, h1, h2, h3, hQ⟩ := lw_walk l hflags b xs p e ha hc hk s m args below hf ((Spec.applies_iff_loose hf).mp happ).1 hP trivial
  exact ⟨k, o, h1, h2, h3, hQ⟩
theorem lw_frame {s t : State} {o : Outcome} {args : Array Value} (h : Framed s o t [] 600002 7302232) :
    Framed s o t (fieldLocs frame_1_writes args s ++ arrayLocs frame_1_arrays args s ++ staticLocs frame_1_statics s) 600002 7302232 := h
theorem lw_limb (L : Cond) (hL : ∀ (args : Array Value) (s t : State), L.after args s (.returned (some (.int 1))) t = true) :
    ArmFor flags0 classFile x code maxLocals ret World_1 tables_1 room_1 Calls_1 rest_1 Pre_1
      (fun tb e a s o t => postC L tb e a s o t ∧ Framed s o t (fieldLocs frame_1_writes a s ++ arrayLocs frame_1_arrays a s ++ staticLocs frame_1_statics s) 600002 7302232) := by
  intro l hflags _ _ p e ha hc hk s m args below hf hfit hheap happ hpre
  obtain ⟨k, o, h1, h2, h3, rfl, hF⟩ := lw_comes l hflags p e ha hc hk s m args below hf hfit hheap happ hpre
  exact ⟨k, _, h1, h2, h3, hL args s _, lw_frame hF⟩
theorem i_vc : Claimed_1_1 ∧ Claimed_1_2 := ⟨lw_limb limb_1_1 (fun args s t => by simp [limb_1_1, Cond.after, Cond.holds, Cond.value]), lw_limb limb_1_2 (fun args s t => Cond.after_iff.mpr (by
  first | (rw [show limb_1_2 = Cond.eq .result (.int 1) from rfl, Cond.eq_ints (x := 1) (y := 1) rfl rfl]; simp; done) | (simp [limb_1_2, Cond.value, Term.eval]; done)))⟩
