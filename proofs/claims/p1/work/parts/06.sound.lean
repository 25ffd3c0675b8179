/-! ONE STEP, SOUND -/
variable {p : Program} {l : Launch} {e : Env} {R : Room} {s : State} {m : MethodId} {args : Array Value} {below : List Frame} {meth : Method} {c : Code} {H : Heap} {locs : List Loc} {cells slots : Nat} {Qw : State → Prop} {D : va_G} {cA : Nat → ClassId} {ad : Nat → Nat} {base b L nL : Nat} {xs : Nat → Int32} {own : String} {cc : ByteArray} {cp : am_P} {rt : Option FieldType}
/-- behind a continuation the machine goes on -/
def am_Kw (p : Program) (l : Launch) (e : Env) (R : Room) (s : State) (m : MethodId) (args : Array Value) (below : List Frame) (meth : Method) (c : Code) (cells slots : Nat) (Qw : State → Prop) (D : va_G) (cA : Nat → ClassId) (ad : Nat → Nat) (base L nL : Nat) (xs : Nat → Int32) (K : Nat → am_V → List Value → am_H → Prop) : Prop :=
  ∀ pc lv st h H locs ls, K pc lv st h → am_Inv D cA ad base L xs s h H locs → lv_has ls nL (am_cl2 ad lv) → W p l e R s m args below meth c H locs cells slots Qw (F0 m pc ls (st.map (am_cv ad)))
/-- a return's place: the instruction, its stack, its type -/
def am_rk (cc : ByteArray) (rt : Option FieldType) (pc : Nat) (v : Option Value) (st : List Value) : Prop :=
  (∃ x, v = some (.int x) ∧ st = [.int x] ∧ decode cc pc = .ok (.ireturn, 1) ∧ ∃ ty, rt = some ty ∧ narrow ty (.int x) = .int x) ∨ (∃ x, v = some (.long x) ∧ st = [.long x] ∧ decode cc pc = .ok (.lreturn, 1) ∧ rt = some .long) ∨ (v = none ∧ st = [] ∧ decode cc pc = .ok (.return_, 1) ∧ rt = none)
def am_Qr (p : Program) (l : Launch) (e : Env) (R : Room) (s : State) (m : MethodId) (args : Array Value) (below : List Frame) (meth : Method) (c : Code) (cells slots : Nat) (Qw : State → Prop) (D : va_G) (cA : Nat → ClassId) (ad : Nat → Nat) (base L : Nat) (xs : Nat → Int32) (cc : ByteArray) (rt : Option FieldType) (Q0 : am_Q) : Prop :=
  ∀ v h H locs pc ls st, Q0 v h → am_Inv D cA ad base L xs s h H locs → am_rk cc rt pc v st → W p l e R s m args below meth c H locs cells slots Qw (F0 m pc ls st)
theorem am_call_go {Q : am_Q} {a : Array Value} {pc : Nat} {ls : Array Slot} {st0 rest : List Value} (hr : va_Run p l e R s m args below meth c H locs cells slots 0 0 (F0 m pc ls st0) rest (am_Qc D cA ad base L xs Q a) (am_A base)) (hS : va_S (am_A base) s.heap H locs)
    (kk : ∀ v h' H1 locs1, Q v h' → am_Inv D cA ad base L xs s h' H1 locs1 → W p l e R s m args below meth c H1 locs1 cells slots Qw (F0 m (pc + 3) ls ((v.map (am_cv ad)).toList ++ rest))) : W p l e R s m args below meth c H locs cells slots Qw (F0 m pc ls st0) := by
  intro T hT X
  obtain ⟨v, st₀, t, T', Lc, h0, X', hL, e1, e2, ⟨⟨v', h', hv, hp, hP, hro⟩, hz, hk⟩, st⟩ := hr T hT X
  cases hv
  rw [h0] at hz hk
  obtain ⟨t2, a1, b1⟩ := kk v' h' T'.heap (locs ++ Lc) hp ⟨by rw [e1]; exact hP, ⟨Nat.le_trans hS.1 (by rw [e1]; exact hz), fun q h1 h2 => by rw [e1, hk q (Nat.lt_of_lt_of_le h1 hS.1) h2]; exact hS.2.1 q h1 h2, fun q hq => by
      rcases List.mem_append.mp hq with h | h
      · exact hS.2.2 q h
      · exact hL q h⟩, hro⟩ T' rfl X'
  exact ⟨t2, st t2 a1, b1⟩
theorem am_obj {h : am_H} {o ci : Nat} (hsh : am_sh h o = some (ci, 0)) (hc : ci < 12) : am_shl[o]? = some (ci, 0) := by
  rcases am_sh_cases hsh with ⟨-, h2⟩ | h2
  · have := congrArg Prod.fst h2
    dsimp only at this
    omega
  · exact h2
theorem am_cell_i {h : am_H} {o t n : Nat} (ht : t = 12 ∨ t = 13 ∨ t = 15) : am_cell cA ad h o (t, n) = .inl (cA t, n, .inl (h.1 o)) := by
  rcases ht with rfl | rfl | rfl <;> simp [am_cell]
theorem am_cell_l {h : am_H} {o n : Nat} : am_cell cA ad h o (14, n) = .inl (cA 14, n, .inr (.inl (h.2.1 o))) := by simp [am_cell]
theorem am_cell_r {h : am_H} {o t n : Nat} (ht : t = 16 ∨ t = 17) : am_cell cA ad h o (t, n) = .inl (cA t, n, .inr (.inr (.inr (.inr (fun j => (h.2.2.1 o j).map ad))))) := by
  rcases ht with rfl | rfl <;> simp [am_cell]
theorem am_wI_upd {h : am_H} {o j : Nat} {x : Int32} : (am_wI h o j x).1 o = upd (h.1 o) j x := by
  funext k
  simp [am_wI, upd]
theorem am_wL_upd {h : am_H} {o j : Nat} {x : Int64} : (am_wL h o j x).2.1 o = vp_updL (h.2.1 o) j x := by
  funext k
  simp [am_wL, vp_updL]
theorem am_lenlt {o t n : Nat} (h : am_shl[o]? = some (t, n)) : n < 2 ^ 31 := am_len_sh (t, n) (List.mem_of_getElem? h)
theorem am_good_in {ws : List Cond} (h : ∀ w ∈ ws, w ∈ am_gw) : GoodIn am_gw ws := fun w hw => ⟨h w hw, good_of_word (List.mem_filter.mp (h w hw)).2⟩
theorem am_ws_in {n : Nat} (hn : n < am_mi.length) : ∀ w ∈ am_ws n, w ∈ am_gw := by
  intro w hw
  rcases List.mem_cons.mp hw with rfl | h
  · have h1 : am_mi[n]? = some am_mi[n] := List.getElem?_eq_getElem hn
    have h2 := am_gw_code h1
    unfold am_y am_by am_nL am_rt
    rw [h1]
    exact h2
  · exact h
theorem am_put_gv {h : am_H} {o a ci : Nat} {x : Int32} (hk : am_kd ci a = 0) : am_gv (am_wI h o a x) ci a o = .int x := by simp [am_gv, hk, am_wI]
theorem am_put_gvL {h : am_H} {o a ci : Nat} {x : Int64} (hk : am_kd ci a = 1) : am_gv (am_wL h o a x) ci a o = .long x := by simp [am_gv, hk, am_wL]
theorem am_put_gvR {h : am_H} {o a ci x : Nat} (hk : ¬ am_kd ci a = 0) (hk1 : ¬ am_kd ci a = 1) : am_gv (am_wR h o a (some x)) ci a o = .ref x := by
  unfold am_gv
  split
  · exact absurd ‹_› hk
  · exact absurd ‹_› hk1
  · simp [am_wR, am_rf]
theorem am_put_oI {h : am_H} {o a ci : Nat} {x : Int32} (j : Nat) (hj : j ≠ a) : am_gv (am_wI h o a x) ci j o = am_gv h ci j o := by
  unfold am_gv
  split <;> simp [am_wI, hj]
theorem am_put_oL {h : am_H} {o a ci : Nat} {x : Int64} (j : Nat) (hj : j ≠ a) : am_gv (am_wL h o a x) ci j o = am_gv h ci j o := by
  unfold am_gv
  split <;> simp [am_wL, hj]
theorem am_put_oR {h : am_H} {o a ci : Nat} {x : Option Nat} (j : Nat) (hj : j ≠ a) : am_gv (am_wR h o a x) ci j o = am_gv h ci j o := by
  unfold am_gv
  split <;> simp [am_wR, hj]
theorem am_ro.wL {h : am_H} {o k : Nat} {v : Int64} (hr : am_ro L xs h) : am_ro L xs (am_wL h o k v) := hr
theorem am_ro.wR {h : am_H} {o k : Nat} {v : Option Nat} (hr : am_ro L xs h) : am_ro L xs (am_wR h o k v) := hr
theorem am_set_P {h h' : am_H} {o : Nat} {e : Nat × Nat} {E : va_E} {H1 : Heap} (ho : am_shl[o]? = some e) (hs : ∀ o' e', o' ≠ o → am_cell cA ad h' o' e' = am_cell cA ad h o' e') (hE : am_cell cA ad h' o e = E) (hP : va_P D vwCl ((am_cc cA ad h).set o (ad o, E)) H1) : va_P D vwCl (am_cc cA ad h') H1 := by
  rw [am_cc_set ho hs, hE]
  exact hP
theorem am_ar (o t n : Nat) (h : am_shl[o]? = some (t, n)) (ht : 12 ≤ t) : t = 12 ∨ t = 13 ∨ t = 14 ∨ t = 15 ∨ t = 16 ∨ t = 17 := by
  have h1 : ∀ e ∈ am_shl, e.1 < 18 := by decide +kernel
  have := h1 (t, n) (List.mem_of_getElem? h)
  dsimp only at this
  omega
theorem am_mok_at {n : Nat} (h : am_mok n = true) : (am_y n).cls ∈ am_iiw ∧ n < am_mi.length ∧ am_nL n ≤ 21 ∧ ((am_y n).cls ≠ "java/lang/invoke/MethodHandle" ∧ (am_y n).cls ≠ "java/lang/invoke/VarHandle") ∧ ¬ n = 999 := by
  simp only [am_mok, am_hd, Bool.and_eq_true, decide_eq_true_eq, Bool.not_eq_true'] at h
  obtain ⟨h1, h2, h3, h4, h5⟩ := h
  exact ⟨h1, h2, h3, h4, fun q => by subst q; cases h5⟩
theorem am_vls_at {a b d : Nat} (h : (a, b, d) ∈ am_vls) : am_y a ∈ am_inw ∧ am_y a ∈ am_sew ∧ am_prm (am_y a) = some b ∧ am_cn d = (am_y a).cls ∧ d < 12 ∧ (am_y a).cls ∈ am_iiw ∧ a < am_mi.length ∧ am_nL a ≤ 21 ∧ ((am_y a).cls ≠ "java/lang/invoke/MethodHandle" ∧ (am_y a).cls ≠ "java/lang/invoke/VarHandle") ∧ ¬ a = 999 := by
  have h1 := List.all_eq_true.mp am_vls_ok _ h
  simp only [Bool.and_eq_true, decide_eq_true_eq] at h1
  obtain ⟨h1, h2, h3, h4, h5, h6⟩ := h1
  exact ⟨h1, h2, h3, h4, h5, am_mok_at h6⟩
theorem am_sls_at {a b : Nat} (h : (a, b) ∈ am_sls) : am_y a ∈ am_stw ∧ am_prm (am_y a) = some b ∧ (am_y a).cls ∈ am_iiw ∧ a < am_mi.length ∧ am_nL a ≤ 21 ∧ ((am_y a).cls ≠ "java/lang/invoke/MethodHandle" ∧ (am_y a).cls ≠ "java/lang/invoke/VarHandle") ∧ ¬ a = 999 := by
  have h1 := List.all_eq_true.mp am_sls_ok _ h
  simp only [Bool.and_eq_true, decide_eq_true_eq] at h1
  obtain ⟨h1, h2, h6⟩ := h1
  exact ⟨h1, h2, am_mok_at h6⟩
set_option maxHeartbeats 4000000 in
set_option maxRecDepth 20000 in
theorem am_sound1 (F : am_Fx p s m args c D cA ad base b L xs own cc nL) (hC : am_Cs l R D cA ad base b L xs cp) (hcs : cells ≤ R.cells ∧ slots ≤ R.slots) {pc nx a b' c' d : Nat} {lv : am_V} {st : List Value} {h : am_H} {K : Nat → am_V → List Value → am_H → Prop} {Q0 : am_Q} {ls : Array Slot} (hI : am_Inv D cA ad base L xs s h H locs) (hl : lv_has ls nL (am_cl2 ad lv)) (hk : am_Kw p l e R s m args below meth c cells slots Qw D cA ad base L nL xs K) (hq : am_Qr p l e R s m args below meth c cells slots Qw D cA ad base L xs cc rt Q0) {i : Instr} (hok : am_okB own cc pc (i, nx, a, b', c', d) = true) (hs : am_stp cp nL rt pc (i, nx, a, b', c', d) lv st h K Q0) : W p l e R s m args below meth c H locs cells slots Qw (F0 m pc ls (st.map (am_cv ad))) := by
  obtain ⟨hexec, hb, hml, hown, hts, hE, hbase, hG⟩ := id F
  cases i
  case iconst n =>
    obtain ⟨hd, rfl, hx⟩ := am_ok3 hok
    exact lv_iconst hexec hb hd rfl (hk _ _ _ _ _ _ _ hs hI hl)
  case bipush n =>
    obtain ⟨hd, rfl, hx⟩ := am_ok3 hok
    exact lv_bipush hexec hb hd rfl (hk _ _ _ _ _ _ _ hs hI hl)
  case sipush n =>
    obtain ⟨hd, rfl, hx⟩ := am_ok3 hok
    exact lv_sipush hexec hb hd rfl (hk _ _ _ _ _ _ _ hs hI hl)
  case lconst n =>
    obtain ⟨hd, rfl, hx⟩ := am_ok3 hok
    exact lv_lconst hexec hb hd rfl (hk _ _ _ _ _ _ _ hs hI hl)
  case iload_n k =>
    obtain ⟨hd, rfl, hx⟩ := am_ok3 hok
    obtain ⟨x, ex, hs⟩ := am_li.inv hs
    exact lv_iload_n hexec hb hd rfl (am_lk_at hl ex) (hk _ _ _ _ _ _ _ hs hI hl)
  case iload k =>
    obtain ⟨hd, rfl, hx⟩ := am_ok3 hok
    obtain ⟨x, ex, hs⟩ := am_li.inv hs
    exact lv_iload hexec hb hd (am_lk_at hl ex) (hk _ _ _ _ _ _ _ hs hI hl)
  case lload_n k =>
    obtain ⟨hd, rfl, hx⟩ := am_ok3 hok
    obtain ⟨x, ex, hs⟩ := am_ll.inv hs
    exact lv_lload_n hexec hb hd rfl (am_lk_at hl ex) (hk _ _ _ _ _ _ _ hs hI hl)
  case lload k =>
    obtain ⟨hd, rfl, hx⟩ := am_ok3 hok
    obtain ⟨x, ex, hs⟩ := am_ll.inv hs
    exact lv_lload hexec hb hd (am_lk_at hl ex) (hk _ _ _ _ _ _ _ hs hI hl)
  case aload_n k =>
    obtain ⟨hd, rfl, hx⟩ := am_ok3 hok
    obtain ⟨x, ex, hs⟩ := am_la.inv hs
    exact lv_aload_n hexec hb hd rfl (am_lk_at hl ex) (hk _ _ _ _ _ _ _ hs hI hl)
  case aload k =>
    obtain ⟨hd, rfl, hx⟩ := am_ok3 hok
    obtain ⟨x, ex, hs⟩ := am_la.inv hs
    exact lv_aload hexec hb hd (am_lk_at hl ex) (hk _ _ _ _ _ _ _ hs hI hl)
  case istore_n k =>
    obtain ⟨hd, rfl, hx⟩ := am_ok3 hok
    obtain ⟨x, r, rfl, hn, hs⟩ := am_pI.inv hs
    exact lv_istore_n hexec hb hd rfl hl hn (am_s1_cl ad lv _ (.int x)) (fun ls hl => hk _ _ _ _ _ _ _ hs hI hl)
  case istore k =>
    obtain ⟨hd, rfl, hx⟩ := am_ok3 hok
    obtain ⟨x, r, rfl, hn, hs⟩ := am_pI.inv hs
    exact lv_istore hexec hb hd hl hn (am_s1_cl ad lv _ (.int x)) (fun ls hl => hk _ _ _ _ _ _ _ hs hI hl)
  case lstore_n k =>
    obtain ⟨hd, rfl, hx⟩ := am_ok3 hok
    obtain ⟨x, r, rfl, hn, hs⟩ := am_pL.inv hs
    exact lv_lstore_n hexec hb hd rfl hl hn (am_s2_cl ad lv _ (.long x)) (fun ls hl => hk _ _ _ _ _ _ _ hs hI hl)
  case lstore k =>
    obtain ⟨hd, rfl, hx⟩ := am_ok3 hok
    obtain ⟨x, r, rfl, hn, hs⟩ := am_pL.inv hs
    exact lv_lstore hexec hb hd hl hn (am_s2_cl ad lv _ (.long x)) (fun ls hl => hk _ _ _ _ _ _ _ hs hI hl)
  case astore_n k =>
    obtain ⟨hd, rfl, hx⟩ := am_ok3 hok
    obtain ⟨x, r, rfl, hn, hs⟩ := am_pR.inv hs
    exact lv_astore_n hexec hb hd rfl hl hn (am_s1_cl ad lv _ (.ref x)) (fun ls hl => hk _ _ _ _ _ _ _ hs hI hl)
  case astore k =>
    obtain ⟨hd, rfl, hx⟩ := am_ok3 hok
    obtain ⟨x, r, rfl, hn, hs⟩ := am_pR.inv hs
    exact lv_astore hexec hb hd hl hn (am_s1_cl ad lv _ (.ref x)) (fun ls hl => hk _ _ _ _ _ _ _ hs hI hl)
  case iinc k n =>
    obtain ⟨hd, rfl, hx⟩ := am_ok3 hok
    obtain ⟨x, ex, hn, hs⟩ := am_li.inv hs
    obtain ⟨q, hq⟩ := am_lk_pl (ad := ad) ex
    exact lv_iinc hexec hb hd hl hq rfl hn (am_s1_cl ad lv _ (.int (x + Int32.ofInt n))) (fun ls hl => hk _ _ _ _ _ _ _ hs hI hl)
  case iadd =>
    obtain ⟨hd, rfl, hx⟩ := am_ok3 hok
    obtain ⟨y, r, rfl, hs⟩ := am_pI.inv hs
    obtain ⟨x, r, rfl, hs⟩ := am_pI.inv hs
    exact lv_iadd hexec hb hd (hk _ _ _ _ _ _ _ hs hI hl)
  case isub =>
    obtain ⟨hd, rfl, hx⟩ := am_ok3 hok
    obtain ⟨y, r, rfl, hs⟩ := am_pI.inv hs
    obtain ⟨x, r, rfl, hs⟩ := am_pI.inv hs
    exact lv_isub hexec hb hd (hk _ _ _ _ _ _ _ hs hI hl)
  case imul =>
    obtain ⟨hd, rfl, hx⟩ := am_ok3 hok
    obtain ⟨y, r, rfl, hs⟩ := am_pI.inv hs
    obtain ⟨x, r, rfl, hs⟩ := am_pI.inv hs
    exact lv_imul hexec hb hd (hk _ _ _ _ _ _ _ hs hI hl)
  case iand =>
    obtain ⟨hd, rfl, hx⟩ := am_ok3 hok
    obtain ⟨y, r, rfl, hs⟩ := am_pI.inv hs
    obtain ⟨x, r, rfl, hs⟩ := am_pI.inv hs
    exact lv_iand hexec hb hd (hk _ _ _ _ _ _ _ hs hI hl)
  case ior =>
    obtain ⟨hd, rfl, hx⟩ := am_ok3 hok
    obtain ⟨y, r, rfl, hs⟩ := am_pI.inv hs
    obtain ⟨x, r, rfl, hs⟩ := am_pI.inv hs
    exact lv_ior hexec hb hd (hk _ _ _ _ _ _ _ hs hI hl)
  case ixor =>
    obtain ⟨hd, rfl, hx⟩ := am_ok3 hok
    obtain ⟨y, r, rfl, hs⟩ := am_pI.inv hs
    obtain ⟨x, r, rfl, hs⟩ := am_pI.inv hs
    exact lv_ixor hexec hb hd (hk _ _ _ _ _ _ _ hs hI hl)
  case ishl =>
    obtain ⟨hd, rfl, hx⟩ := am_ok3 hok
    obtain ⟨y, r, rfl, hs⟩ := am_pI.inv hs
    obtain ⟨x, r, rfl, hs⟩ := am_pI.inv hs
    exact lv_ishl hexec hb hd (hk _ _ _ _ _ _ _ hs hI hl)
  case ishr =>
    obtain ⟨hd, rfl, hx⟩ := am_ok3 hok
    obtain ⟨y, r, rfl, hs⟩ := am_pI.inv hs
    obtain ⟨x, r, rfl, hs⟩ := am_pI.inv hs
    exact lv_ishr hexec hb hd (hk _ _ _ _ _ _ _ hs hI hl)
  case idiv =>
    obtain ⟨hd, rfl, hx⟩ := am_ok3 hok
    obtain ⟨y, r, rfl, hs⟩ := am_pI.inv hs
    obtain ⟨x, r, rfl, hne, hs⟩ := am_pI.inv hs
    exact lv_idiv hexec hb hd hne (hk _ _ _ _ _ _ _ hs hI hl)
  case irem =>
    obtain ⟨hd, rfl, hx⟩ := am_ok3 hok
    obtain ⟨y, r, rfl, hs⟩ := am_pI.inv hs
    obtain ⟨x, r, rfl, hne, hs⟩ := am_pI.inv hs
    exact lv_irem hexec hb hd hne (hk _ _ _ _ _ _ _ hs hI hl)
  case ineg =>
    obtain ⟨hd, rfl, hx⟩ := am_ok3 hok
    obtain ⟨x, r, rfl, hs⟩ := am_pI.inv hs
    exact lv_ineg hexec hb hd (hk _ _ _ _ _ _ _ hs hI hl)
  case iushr =>
    obtain ⟨hd, rfl, hx⟩ := am_ok3 hok
    obtain ⟨y, r, rfl, hs⟩ := am_pI.inv hs
    obtain ⟨x, r, rfl, hs⟩ := am_pI.inv hs
    exact lv_iushr hexec hb hd rfl (hk _ _ _ _ _ _ _ hs hI hl)
  case ladd =>
    obtain ⟨hd, rfl, hx⟩ := am_ok3 hok
    obtain ⟨y, r, rfl, hs⟩ := am_pL.inv hs
    obtain ⟨x, r, rfl, hs⟩ := am_pL.inv hs
    exact lv_ladd hexec hb hd (hk _ _ _ _ _ _ _ hs hI hl)
  case lsub =>
    obtain ⟨hd, rfl, hx⟩ := am_ok3 hok
    obtain ⟨y, r, rfl, hs⟩ := am_pL.inv hs
    obtain ⟨x, r, rfl, hs⟩ := am_pL.inv hs
    exact lv_lsub hexec hb hd (hk _ _ _ _ _ _ _ hs hI hl)
  case lmul =>
    obtain ⟨hd, rfl, hx⟩ := am_ok3 hok
    obtain ⟨y, r, rfl, hs⟩ := am_pL.inv hs
    obtain ⟨x, r, rfl, hs⟩ := am_pL.inv hs
    exact lv_lmul hexec hb hd (hk _ _ _ _ _ _ _ hs hI hl)
  case land =>
    obtain ⟨hd, rfl, hx⟩ := am_ok3 hok
    obtain ⟨y, r, rfl, hs⟩ := am_pL.inv hs
    obtain ⟨x, r, rfl, hs⟩ := am_pL.inv hs
    exact lv_land hexec hb hd (hk _ _ _ _ _ _ _ hs hI hl)
  case lor =>
    obtain ⟨hd, rfl, hx⟩ := am_ok3 hok
    obtain ⟨y, r, rfl, hs⟩ := am_pL.inv hs
    obtain ⟨x, r, rfl, hs⟩ := am_pL.inv hs
    exact lv_lor hexec hb hd (hk _ _ _ _ _ _ _ hs hI hl)
  case ldiv =>
    obtain ⟨hd, rfl, hx⟩ := am_ok3 hok
    obtain ⟨y, r, rfl, hs⟩ := am_pL.inv hs
    obtain ⟨x, r, rfl, hne, hs⟩ := am_pL.inv hs
    exact lv_ldiv hexec hb hd hne (hk _ _ _ _ _ _ _ hs hI hl)
  case lrem =>
    obtain ⟨hd, rfl, hx⟩ := am_ok3 hok
    obtain ⟨y, r, rfl, hs⟩ := am_pL.inv hs
    obtain ⟨x, r, rfl, hne, hs⟩ := am_pL.inv hs
    exact lv_lrem hexec hb hd hne (hk _ _ _ _ _ _ _ hs hI hl)
  case lshl =>
    obtain ⟨hd, rfl, hx⟩ := am_ok3 hok
    obtain ⟨y, r, rfl, hs⟩ := am_pI.inv hs
    obtain ⟨x, r, rfl, hs⟩ := am_pL.inv hs
    exact lv_lshl hexec hb hd rfl (hk _ _ _ _ _ _ _ hs hI hl)
  case lshr =>
    obtain ⟨hd, rfl, hx⟩ := am_ok3 hok
    obtain ⟨y, r, rfl, hs⟩ := am_pI.inv hs
    obtain ⟨x, r, rfl, hs⟩ := am_pL.inv hs
    exact lv_lshr hexec hb hd rfl (hk _ _ _ _ _ _ _ hs hI hl)
  case lushr =>
    obtain ⟨hd, rfl, hx⟩ := am_ok3 hok
    obtain ⟨y, r, rfl, hs⟩ := am_pI.inv hs
    obtain ⟨x, r, rfl, hs⟩ := am_pL.inv hs
    exact lv_lushr hexec hb hd rfl (hk _ _ _ _ _ _ _ hs hI hl)
  case lcmp =>
    obtain ⟨hd, rfl, hx⟩ := am_ok3 hok
    obtain ⟨y, r, rfl, hs⟩ := am_pL.inv hs
    obtain ⟨x, r, rfl, hs⟩ := am_pL.inv hs
    exact W.lcmp hexec hb hd (hk _ _ _ _ _ _ _ hs hI hl)
  case i2l =>
    obtain ⟨hd, rfl, hx⟩ := am_ok3 hok
    obtain ⟨x, r, rfl, hs⟩ := am_pI.inv hs
    exact lv_i2l hexec hb hd rfl (hk _ _ _ _ _ _ _ hs hI hl)
  case l2i =>
    obtain ⟨hd, rfl, hx⟩ := am_ok3 hok
    obtain ⟨x, r, rfl, hs⟩ := am_pL.inv hs
    exact lv_l2i hexec hb hd rfl (hk _ _ _ _ _ _ _ hs hI hl)
  case i2c =>
    obtain ⟨hd, rfl, hx⟩ := am_ok3 hok
    obtain ⟨x, r, rfl, hs⟩ := am_pI.inv hs
    exact lv_i2c hexec hb hd rfl (hk _ _ _ _ _ _ _ hs hI hl)
  case dup =>
    obtain ⟨hd, rfl, hx⟩ := am_ok3 hok
    obtain ⟨v, r, rfl, h1, hs⟩ := am_pV.inv hs
    exact lv_dup hexec hb hd ((am_cv_cat ad v).trans h1) (hk _ _ _ _ _ _ _ hs hI hl)
  case pop =>
    obtain ⟨hd, rfl, hx⟩ := am_ok3 hok
    obtain ⟨v, r, rfl, h1, hs⟩ := am_pV.inv hs
    exact lv_pop hexec hb hd ((am_cv_cat ad v).trans h1) (hk _ _ _ _ _ _ _ hs hI hl)
  case dup2 =>
    obtain ⟨hd, rfl, hx⟩ := am_ok3 hok
    obtain ⟨v, r, rfl, hs⟩ := am_pV.inv hs
    obtain ⟨w, r, rfl, h1, h2, hs⟩ := am_pV.inv hs
    exact lv_dup2_11 hexec hb hd ((am_cv_cat ad v).trans h1) ((am_cv_cat ad w).trans h2) (hk _ _ _ _ _ _ _ hs hI hl)
  case goto o =>
    obtain ⟨hd, rfl, hx⟩ := am_ok3 hok
    exact lv_goto hexec hb hd (of_decide_eq_true hx) (hk _ _ _ _ _ _ _ hs hI hl)
  case if_icmp q o =>
    obtain ⟨hd, rfl, hx⟩ := am_ok3 hok
    obtain ⟨y, r, rfl, hs⟩ := am_pI.inv hs
    obtain ⟨x, r, rfl, hs⟩ := am_pI.inv hs
    have ht := of_decide_eq_true hx
    cases q
    case eq => exact lv_icmp_eq hexec hb hd ht (fun q => hk _ _ _ _ _ _ _ (hs.1 q) hI hl) (fun q => hk _ _ _ _ _ _ _ (hs.2 q) hI hl)
    case ne => exact lv_icmp_ne hexec hb hd ht (fun q => hk _ _ _ _ _ _ _ (hs.1 q) hI hl) (fun q => hk _ _ _ _ _ _ _ (hs.2 (fun z => z q)) hI hl)
    case lt => exact lv_icmp_lt hexec hb hd ht (fun q => hk _ _ _ _ _ _ _ (hs.1 q) hI hl) (fun q => hk _ _ _ _ _ _ _ (hs.2 q) hI hl)
    case ge => exact lv_icmp_ge hexec hb hd ht (fun q => hk _ _ _ _ _ _ _ (hs.1 q) hI hl) (fun q => hk _ _ _ _ _ _ _ (hs.2 q) hI hl)
    case gt => exact lv_icmp_gt hexec hb hd ht (fun q => hk _ _ _ _ _ _ _ (hs.1 q) hI hl) (fun q => hk _ _ _ _ _ _ _ (hs.2 q) hI hl)
    case le => exact lv_icmp_le hexec hb hd ht (fun q => hk _ _ _ _ _ _ _ (hs.1 q) hI hl) (fun q => hk _ _ _ _ _ _ _ (hs.2 q) hI hl)
  case ifCond q o =>
    obtain ⟨hd, rfl, hx⟩ := am_ok3 hok
    obtain ⟨x, r, rfl, hs⟩ := am_pI.inv hs
    have ht := of_decide_eq_true hx
    cases q
    case eq => exact lv_if_eq hexec hb hd ht (fun q => hk _ _ _ _ _ _ _ (hs.1 q) hI hl) (fun q => hk _ _ _ _ _ _ _ (hs.2 q) hI hl)
    case ne => exact lv_if_ne hexec hb hd ht (fun q => hk _ _ _ _ _ _ _ (hs.1 q) hI hl) (fun q => hk _ _ _ _ _ _ _ (hs.2 (fun z => z q)) hI hl)
    case lt => exact lv_if_lt hexec hb hd ht (fun q => hk _ _ _ _ _ _ _ (hs.1 q) hI hl) (fun q => hk _ _ _ _ _ _ _ (hs.2 q) hI hl)
    case ge => exact lv_if_ge hexec hb hd ht (fun q => hk _ _ _ _ _ _ _ (hs.1 q) hI hl) (fun q => hk _ _ _ _ _ _ _ (hs.2 q) hI hl)
    case gt => exact lv_if_gt hexec hb hd ht (fun q => hk _ _ _ _ _ _ _ (hs.1 q) hI hl) (fun q => hk _ _ _ _ _ _ _ (hs.2 q) hI hl)
    case le => exact lv_if_le hexec hb hd ht (fun q => hk _ _ _ _ _ _ _ (hs.1 q) hI hl) (fun q => hk _ _ _ _ _ _ _ (hs.2 q) hI hl)
  case ldc2_w k =>
    obtain ⟨hd, rfl, hx⟩ := am_ok3 hok
    have h1 : (am_cl[c']?).map (fun q => (q.1, q.2.1)) = some (own, k) := of_decide_eq_true hx
    cases hq : am_cl[c']? with
    | none => rw [hq] at h1; cases h1
    | some q =>
      rw [hq] at h1
      obtain ⟨q1, q2, q3⟩ := q
      have h1 := Option.some.inj h1
      have e1 : q1 = own := congrArg Prod.fst h1
      have e2 : q2 = k := congrArg Prod.snd h1
      subst e1
      subst e2
      have hv : am_kl c' = q3 := by simp [am_kl, hq]
      refine lv_ldc2 hexec hb hown (hts _ (am_gw_cl hq)) hd ?_
      rw [← hv]
      exact hk _ _ _ _ _ _ _ hs hI hl
  case ldc_w k =>
    obtain ⟨hd, rfl, hx⟩ := am_ok3 hok
    have h1 : (am_ci[c']?).map (fun q => (q.1, q.2.1)) = some (own, k) := of_decide_eq_true hx
    cases hq : am_ci[c']? with
    | none => rw [hq] at h1; cases h1
    | some q =>
      rw [hq] at h1
      obtain ⟨q1, q2, q3⟩ := q
      have h1 := Option.some.inj h1
      have e1 : q1 = own := congrArg Prod.fst h1
      have e2 : q2 = k := congrArg Prod.snd h1
      subst e1
      subst e2
      have hv : am_ki c' = q3 := by simp [am_ki, hq]
      refine lv_ldcw hexec hb hown (hts _ (am_gw_ci hq)) hd ?_
      rw [← hv]
      exact hk _ _ _ _ _ _ _ hs hI hl
  case tableswitch df lo hi os =>
    obtain ⟨x, r, rfl, hs⟩ := am_pI.inv hs
    have hok : ((match decode cc pc with
      | .ok (i', _) => decide (i' = .tableswitch df lo hi os)
      | _ => false) && (decide (0 ≤ (pc : Int) + df) && (os.toList.all (fun o => decide (0 ≤ (pc : Int) + o)) && decide ((os.size : Int) = hi - lo + 1)))) = true := hok
    simp only [Bool.and_eq_true, decide_eq_true_eq] at hok
    obtain ⟨h0, h1, h2, h3⟩ := hok
    have hd : ∃ len, decode cc pc = .ok (.tableswitch df lo hi os, len) := by
      split at h0
      · rename_i i' len hdd
        exact ⟨len, by rw [hdd, of_decide_eq_true h0]⟩
      · cases h0
    obtain ⟨len, hd⟩ := hd
    by_cases hx1 : x.toInt < lo ∨ hi < x.toInt
    · exact lv_tableOut hexec hb hd hx1 (Int.toNat_of_nonneg h1).symm (hk _ _ _ _ _ _ _ (hs.1 hx1) hI hl)
    · have hlo : ¬ x.toInt < lo := fun q => hx1 (Or.inl q)
      have hhi : ¬ hi < x.toInt := fun q => hx1 (Or.inr q)
      have hj : (x.toInt - lo).toNat < os.size := by omega
      have ho : os[(x.toInt - lo).toNat]? = some os[(x.toInt - lo).toNat] := Array.getElem?_eq_getElem hj
      have h5 : (0 : Int) ≤ (pc : Int) + os[(x.toInt - lo).toNat] := of_decide_eq_true (List.all_eq_true.mp h2 _ (by rw [Array.mem_toList_iff]; exact Array.getElem_mem hj))
      have h6 := hs.2 (x.toInt - lo).toNat (by omega) (by omega)
      rw [ho] at h6
      exact lv_tableIn hexec hb hd hlo hhi ho (Int.toNat_of_nonneg h5).symm (hk _ _ _ _ _ _ _ h6 hI hl)
  case lookupswitch df ps =>
    obtain ⟨x, r, rfl, hs⟩ := am_pI.inv hs
    have hok : ((match decode cc pc with
      | .ok (i', _) => decide (i' = .lookupswitch df ps)
      | _ => false) && (decide (0 ≤ (pc : Int) + df) && (ps.toList.all (fun o => decide (0 ≤ (pc : Int) + o.2)) && (ps.toList.zip (ps.toList.drop 1)).all (fun (a, next) => a.1 < next.1)))) = true := hok
    rw [Bool.and_eq_true, Bool.and_eq_true, Bool.and_eq_true] at hok
    obtain ⟨h0, h1, h2, h3⟩ := hok
    have h1 := of_decide_eq_true h1
    have hd : ∃ len, decode cc pc = .ok (.lookupswitch df ps, len) := by
      split at h0
      · rename_i i' len hdd
        exact ⟨len, by rw [hdd, of_decide_eq_true h0]⟩
      · cases h0
    obtain ⟨len, hd⟩ := hd
    have h6 : ∀ (z : Int) (l : List (Int × Int)), l.all (fun o => decide (0 ≤ (pc : Int) + o.2)) = true → (0 : Int) ≤ (pc : Int) + Op.lookupswitch.offset l df z := by
      intro z l
      induction l with
      | nil => intro _; exact h1
      | cons q r ih =>
        intro hq
        rw [List.all_cons, Bool.and_eq_true] at hq
        obtain ⟨q1, q2⟩ := q
        rw [Op.lookupswitch.offset_cons]
        split
        · exact of_decide_eq_true hq.1
        · exact ih hq.2
    exact lv_lookup hexec hb hd h3 rfl (Int.toNat_of_nonneg (h6 _ _ h2)).symm (hk _ _ _ _ _ _ _ hs hI hl)
  case getfield k =>
    obtain ⟨hd, rfl, hx⟩ := am_ok3 hok
    obtain ⟨h1, h2, h3⟩ := am_ok3 hx
    have h3 := of_decide_eq_true h3
    obtain ⟨o, r, rfl, hsh, hs⟩ := am_pR.inv hs
    have ho := am_obj hsh h2
    obtain ⟨C, T, N, e1, e2, e3, e4, e5, ty, e6, e7, e8⟩ := am_ci_ok b' h2
    have hlk : (Cond.fieldLink own k (T a).1 (T a).2.1 (T a).2.2.1).before args s = true := hts _ (am_gw_fl (by rw [← e4]; exact h1))
    exact va_get (ref := (T a).1) hexec hb hts e5 hown hE.1 hI.1 o ((am_cc_at ho).trans (by rw [am_cell_obj h2])) e1 a (by rw [← e2]; exact h3) hlk (fun x q => q) (am_fs_at h3) hd (hk _ _ _ _ _ _ _ hs hI hl)
  case putfield k =>
    obtain ⟨hd, rfl, hx⟩ := am_ok3 hok
    have hx : (decide (am_fl[c']? = some (own, k, (am_fd b' a).1, (am_fd b' a).2.1, (am_fd b' a).2.2.1)) && (decide (b' < 12) && (decide (a < am_nf b') && !(am_fd b' a).2.2.2))) = true := hx
    simp only [Bool.and_eq_true, decide_eq_true_eq, Bool.not_eq_true'] at hx
    obtain ⟨h1, h2, h3, h4⟩ := hx
    obtain ⟨C, T, N, e1, e2, e3, e4, e5, ty, e6, e7, e8⟩ := am_ci_ok b' h2
    have hlk : (Cond.fieldLink own k (T a).1 (T a).2.1 (T a).2.2.1).before args s = true := hts _ (am_gw_fl (by rw [← e4]; exact h1))
    have e9 := e8 a (by rw [← e2]; exact h3)
    unfold am_stp at hs
    dsimp only at hs
    split at hs
    · rename_i hkd
      obtain ⟨x, r1, rfl, hs1⟩ := am_pI.inv hs
      obtain ⟨o, r, rfl, hsh, hn, hf, hs2⟩ := am_pR.inv hs1
      have ho := am_obj hsh h2
      refine va_put (ref := (T a).1) hexec hb hts e5 ty e6 e7 hown hE.1 hI.1 (am_cc_D hG.1 h) hI.2.1 o ((am_cc_at ho).trans (by rw [am_cell_obj h2])) e1 a (by rw [← e2]; exact h3) hlk (fun x q => q) (by rw [← e4]; exact h4) (e6 a (by rw [← e2]; exact h3)) (v := .int x) (by rw [← e9.2]; exact hn) (by rw [← e9.2]; exact hf) (by simp [h3]) hd (fun H1 locs1 hP1 hD1 hS1 => ?_)
      refine hk _ _ _ _ _ _ _ hs2 ⟨am_set_P ho am_cell_oI ?_ hP1, hS1, hI.2.2.wI (am_sh_lt ho)⟩ hl
      rw [am_cell_obj h2, ← am_fs_set h3 (am_put_oI (x := x)), am_put_gv hkd]
      rfl
    · rename_i hkd
      obtain ⟨x, r1, rfl, hs1⟩ := am_pL.inv hs
      obtain ⟨o, r, rfl, hsh, hs2⟩ := am_pR.inv hs1
      have ho := am_obj hsh h2
      have hty : ty a = .long := by
        rw [hkd] at e9
        revert e9
        cases ty a <;> intro e9 <;> first | rfl | (exact absurd e9.1 (fun q => by cases q))
      refine va_put (ref := (T a).1) hexec hb hts e5 ty e6 e7 hown hE.1 hI.1 (am_cc_D hG.1 h) hI.2.1 o ((am_cc_at ho).trans (by rw [am_cell_obj h2])) e1 a (by rw [← e2]; exact h3) hlk (fun x q => q) (by rw [← e4]; exact h4) (e6 a (by rw [← e2]; exact h3)) (v := .long x) (by rw [hty]; rfl) (by rw [hty]; rfl) (by simp [h3]) hd (fun H1 locs1 hP1 hD1 hS1 => ?_)
      refine hk _ _ _ _ _ _ _ hs2 ⟨am_set_P ho am_cell_oL ?_ hP1, hS1, hI.2.2.wL⟩ hl
      rw [am_cell_obj h2, ← am_fs_set h3 (am_put_oL (x := x)), am_put_gvL hkd]
      rfl
    · rename_i hkd hkd1
      obtain ⟨x, r1, rfl, hs1⟩ := am_pR.inv hs
      obtain ⟨o, r, rfl, hsh, hs2⟩ := am_pR.inv hs1
      have ho := am_obj hsh h2
      have hty : (∃ n, ty a = .object n) ∨ ∃ t, ty a = .array t := by
        revert e9
        cases ty a <;> intro e9 <;> first | exact Or.inl ⟨_, rfl⟩ | exact Or.inr ⟨_, rfl⟩ | exact absurd e9.1 hkd | exact absurd e9.1 hkd1
      refine va_put (ref := (T a).1) hexec hb hts e5 ty e6 e7 hown hE.1 hI.1 (am_cc_D hG.1 h) hI.2.1 o ((am_cc_at ho).trans (by rw [am_cell_obj h2])) e1 a (by rw [← e2]; exact h3) hlk (fun x q => q) (by rw [← e4]; exact h4) (e6 a (by rw [← e2]; exact h3)) (v := .ref (ad x)) (by rcases hty with ⟨n, q⟩ | ⟨n, q⟩ <;> rw [q] <;> rfl) (by rcases hty with ⟨n, q⟩ | ⟨n, q⟩ <;> rw [q] <;> rfl) (by simp [h3]) hd (fun H1 locs1 hP1 hD1 hS1 => ?_)
      refine hk _ _ _ _ _ _ _ hs2 ⟨am_set_P ho am_cell_oR ?_ hP1, hS1, hI.2.2.wR⟩ hl
      rw [am_cell_obj h2, ← am_fs_set h3 (am_put_oR (x := some x)), am_put_gvR hkd hkd1]
      rfl
  case iaload =>
    obtain ⟨hd, rfl, hx⟩ := am_ok3 hok
    obtain ⟨i, r1, rfl, hs1⟩ := am_pI.inv hs
    obtain ⟨o, r, rfl, j, n, hsh, hj, rfl, hs2⟩ := am_pR.inv hs1
    rcases am_sh_cases hsh with ⟨rfl, hn⟩ | ho
    · have hnL : n = L := (congrArg Prod.snd hn).trans hI.2.2.1
      subst hnL
      have hA : ¬ am_A base b := fun q => absurd hG.2.2.1 (Nat.not_lt.mpr q)
      have e1 := hI.2.2.2 j hj
      rw [e1] at hs2
      have hs3 := hk _ _ _ _ _ _ _ hs2 hI hl
      show W p l e R s m args below meth c H locs cells slots Qw (F0 m pc ls (.int (nI j) :: .ref (ad 3000000) :: r.map (am_cv ad)))
      rw [hG.2.1]
      refine va_sld hexec hb hE.2.2 (Nat.lt_of_lt_of_le hG.2.2.1 hbase) hA hI.2.1 (vp_in_nI hj hG.2.2.2) hd ?_
      rw [nI_clamp (Nat.lt_trans hj hG.2.2.2)]
      exact hs3
    · have hn := am_lenlt ho
      refine va_iald hexec hb hE.1 hI.1 o 1 ((am_cc_at ho).trans (by rw [am_cell_i (Or.inr (Or.inl rfl))])) rfl (vp_in_nI hj hn) hd ?_
      rw [nI_clamp (Nat.lt_trans hj hn)]
      exact hk _ _ _ _ _ _ _ hs2 hI hl
  case caload =>
    obtain ⟨hd, rfl, hx⟩ := am_ok3 hok
    obtain ⟨i, r1, rfl, hs1⟩ := am_pI.inv hs
    obtain ⟨o, r, rfl, j, n, hsh, hj, rfl, hs2⟩ := am_pR.inv hs1
    rcases am_sh_cases hsh with ⟨rfl, hn⟩ | ho
    · exact absurd (show (12 : Nat) = 13 from congrArg Prod.fst hn) (by decide)
    · have hn := am_lenlt ho
      refine va_cald hexec hb hE.1 hI.1 o 0 ((am_cc_at ho).trans (by rw [am_cell_i (Or.inl rfl)])) rfl (vp_in_nI hj hn) hd ?_
      rw [nI_clamp (Nat.lt_trans hj hn)]
      exact hk _ _ _ _ _ _ _ hs2 hI hl
  case baload =>
    obtain ⟨hd, rfl, hx⟩ := am_ok3 hok
    obtain ⟨i, r1, rfl, hs1⟩ := am_pI.inv hs
    obtain ⟨o, r, rfl, j, n, hsh, hj, rfl, hs2⟩ := am_pR.inv hs1
    rcases am_sh_cases hsh with ⟨rfl, hn⟩ | ho
    · exact absurd (show (15 : Nat) = 13 from congrArg Prod.fst hn) (by decide)
    · have hn := am_lenlt ho
      refine va_zald hexec hb hE.1 hI.1 o 3 ((am_cc_at ho).trans (by rw [am_cell_i (Or.inr (Or.inr rfl))])) rfl (vp_in_nI hj hn) hd ?_
      rw [nI_clamp (Nat.lt_trans hj hn)]
      exact hk _ _ _ _ _ _ _ hs2 hI hl
  case laload =>
    obtain ⟨hd, rfl, hx⟩ := am_ok3 hok
    obtain ⟨i, r1, rfl, hs1⟩ := am_pI.inv hs
    obtain ⟨o, r, rfl, j, n, hsh, hj, rfl, hs2⟩ := am_pR.inv hs1
    rcases am_sh_cases hsh with ⟨rfl, hn⟩ | ho
    · exact absurd (show (14 : Nat) = 13 from congrArg Prod.fst hn) (by decide)
    · have hn := am_lenlt ho
      refine va_lald hexec hb hE.1 hI.1 o 2 ((am_cc_at ho).trans (by rw [am_cell_l])) rfl (vp_in_nI hj hn) hd ?_
      rw [nI_clamp (Nat.lt_trans hj hn)]
      exact hk _ _ _ _ _ _ _ hs2 hI hl
  case aaload =>
    obtain ⟨hd, rfl, hx⟩ := am_ok3 hok
    obtain ⟨i, r1, rfl, hs1⟩ := am_pI.inv hs
    obtain ⟨o, r, rfl, j, n, hsh, hj, rfl, hs2⟩ := am_pR.inv hs1
    rcases hsh with hsh | hsh
    · rcases am_sh_cases hsh with ⟨rfl, hn⟩ | ho
      · exact absurd (show (16 : Nat) = 13 from congrArg Prod.fst hn) (by decide)
      · have hn := am_lenlt ho
        refine va_aldq hexec hb hE.1 hI.1 o 4 ((am_cc_at ho).trans (by rw [am_cell_r (Or.inl rfl)])) rfl (vp_in_nI hj hn) hd ?_
        rw [nI_clamp (Nat.lt_trans hj hn), ← am_rf_cv]
        exact hk _ _ _ _ _ _ _ hs2 hI hl
    · rcases am_sh_cases hsh with ⟨rfl, hn⟩ | ho
      · exact absurd (show (17 : Nat) = 13 from congrArg Prod.fst hn) (by decide)
      · have hn := am_lenlt ho
        refine va_aldq hexec hb hE.1 hI.1 o 5 ((am_cc_at ho).trans (by rw [am_cell_r (Or.inr rfl)])) rfl (vp_in_nI hj hn) hd ?_
        rw [nI_clamp (Nat.lt_trans hj hn), ← am_rf_cv]
        exact hk _ _ _ _ _ _ _ hs2 hI hl
  case iastore =>
    obtain ⟨hd, rfl, hx⟩ := am_ok3 hok
    obtain ⟨x, r1, rfl, hs0⟩ := am_pI.inv hs
    obtain ⟨i, r2, rfl, hs1⟩ := am_pI.inv hs0
    obtain ⟨o, r, rfl, j, n, ho, hj, rfl, hs2⟩ := am_pR.inv hs1
    have hn := am_lenlt ho
    refine va_iast hexec hb hE.1 hI.1 (am_cc_D hG.1 h) hI.2.1 o 1 ((am_cc_at ho).trans (by rw [am_cell_i (Or.inr (Or.inl rfl))])) rfl (vp_in_nI hj hn) hd (fun H1 locs1 hP1 hD1 hS1 => ?_)
    rw [nI_clamp (Nat.lt_trans hj hn)] at hP1
    refine hk _ _ _ _ _ _ _ hs2 ⟨am_set_P ho am_cell_oI ?_ hP1, hS1, hI.2.2.wI (am_sh_lt ho)⟩ hl
    rw [am_cell_i (Or.inr (Or.inl rfl)), am_wI_upd]
  case castore =>
    obtain ⟨hd, rfl, hx⟩ := am_ok3 hok
    obtain ⟨x, r1, rfl, hs0⟩ := am_pI.inv hs
    obtain ⟨i, r2, rfl, hs1⟩ := am_pI.inv hs0
    obtain ⟨o, r, rfl, j, n, ho, hj, rfl, hs2⟩ := am_pR.inv hs1
    have hn := am_lenlt ho
    refine va_cast hexec hb hE.1 hI.1 (am_cc_D hG.1 h) hI.2.1 o 0 ((am_cc_at ho).trans (by rw [am_cell_i (Or.inl rfl)])) rfl (vp_in_nI hj hn) hd (fun H1 locs1 hP1 hD1 hS1 => ?_)
    rw [nI_clamp (Nat.lt_trans hj hn)] at hP1
    refine hk _ _ _ _ _ _ _ hs2 ⟨am_set_P ho am_cell_oI ?_ hP1, hS1, hI.2.2.wI (am_sh_lt ho)⟩ hl
    rw [am_cell_i (Or.inl rfl), am_wI_upd]
  case bastore =>
    obtain ⟨hd, rfl, hx⟩ := am_ok3 hok
    obtain ⟨x, r1, rfl, hs0⟩ := am_pI.inv hs
    obtain ⟨i, r2, rfl, hs1⟩ := am_pI.inv hs0
    obtain ⟨o, r, rfl, j, n, ho, hj, rfl, hs2⟩ := am_pR.inv hs1
    have hn := am_lenlt ho
    refine va_zast hexec hb hE.1 hI.1 (am_cc_D hG.1 h) hI.2.1 o 3 ((am_cc_at ho).trans (by rw [am_cell_i (Or.inr (Or.inr rfl))])) rfl (vp_in_nI hj hn) hd (fun H1 locs1 hP1 hD1 hS1 => ?_)
    rw [nI_clamp (Nat.lt_trans hj hn)] at hP1
    refine hk _ _ _ _ _ _ _ hs2 ⟨am_set_P ho am_cell_oI ?_ hP1, hS1, hI.2.2.wI (am_sh_lt ho)⟩ hl
    rw [am_cell_i (Or.inr (Or.inr rfl)), am_wI_upd]
  case lastore =>
    obtain ⟨hd, rfl, hx⟩ := am_ok3 hok
    obtain ⟨x, r1, rfl, hs0⟩ := am_pL.inv hs
    obtain ⟨i, r2, rfl, hs1⟩ := am_pI.inv hs0
    obtain ⟨o, r, rfl, j, n, ho, hj, rfl, hs2⟩ := am_pR.inv hs1
    have hn := am_lenlt ho
    refine va_last hexec hb hE.1 hI.1 (am_cc_D hG.1 h) hI.2.1 o 2 ((am_cc_at ho).trans (by rw [am_cell_l])) rfl (vp_in_nI hj hn) hd (fun H1 locs1 hP1 hD1 hS1 => ?_)
    rw [nI_clamp (Nat.lt_trans hj hn)] at hP1
    refine hk _ _ _ _ _ _ _ hs2 ⟨am_set_P ho am_cell_oL ?_ hP1, hS1, hI.2.2.wL⟩ hl
    rw [am_cell_l, am_wL_upd]
  case arraylength =>
    obtain ⟨hd, rfl, hx⟩ := am_ok3 hok
    obtain ⟨o, r, rfl, t, n, hsh, ht, hs1⟩ := am_pR.inv hs
    rcases am_sh_cases hsh with ⟨rfl, hn⟩ | ho
    · have hnL : n = L := (congrArg Prod.snd hn).trans hI.2.2.1
      subst hnL
      have hA : ¬ am_A base b := fun q => absurd hG.2.2.1 (Nat.not_lt.mpr q)
      have hs2 := hk _ _ _ _ _ _ _ hs1 hI hl
      show W p l e R s m args below meth c H locs cells slots Qw (F0 m pc ls (.ref (ad 3000000) :: r.map (am_cv ad)))
      rw [hG.2.1]
      exact va_slen hexec hb hE.2.2 (Nat.lt_of_lt_of_le hG.2.2.1 hbase) hA hI.2.1 hd hs2
    · have ht2 : t = 12 ∨ t = 13 ∨ t = 14 ∨ t = 15 ∨ t = 16 ∨ t = 17 := am_ar o t n ho ht
      rcases ht2 with rfl | rfl | rfl | rfl | rfl | rfl
      · exact va_alen (x := (n, .inl (h.1 o))) hexec hb hE.1 hI.1 o 0 ((am_cc_at ho).trans (by rw [am_cell_i (Or.inl rfl)])) rfl rfl hd (hk _ _ _ _ _ _ _ hs1 hI hl)
      · exact va_alen (x := (n, .inl (h.1 o))) hexec hb hE.1 hI.1 o 1 ((am_cc_at ho).trans (by rw [am_cell_i (Or.inr (Or.inl rfl))])) rfl rfl hd (hk _ _ _ _ _ _ _ hs1 hI hl)
      · exact va_alen (x := (n, .inr (.inl (h.2.1 o)))) hexec hb hE.1 hI.1 o 2 ((am_cc_at ho).trans (by rw [am_cell_l])) rfl rfl hd (hk _ _ _ _ _ _ _ hs1 hI hl)
      · exact va_alen (x := (n, .inl (h.1 o))) hexec hb hE.1 hI.1 o 3 ((am_cc_at ho).trans (by rw [am_cell_i (Or.inr (Or.inr rfl))])) rfl rfl hd (hk _ _ _ _ _ _ _ hs1 hI hl)
      · exact va_alen (x := (n, .inr (.inr (.inr (.inr (fun j => (h.2.2.1 o j).map ad)))))) hexec hb hE.1 hI.1 o 4 ((am_cc_at ho).trans (by rw [am_cell_r (Or.inl rfl)])) rfl rfl hd (hk _ _ _ _ _ _ _ hs1 hI hl)
      · exact va_alen (x := (n, .inr (.inr (.inr (.inr (fun j => (h.2.2.1 o j).map ad)))))) hexec hb hE.1 hI.1 o 5 ((am_cc_at ho).trans (by rw [am_cell_r (Or.inr rfl)])) rfl rfl hd (hk _ _ _ _ _ _ _ hs1 hI hl)
  case invokevirtual k =>
    obtain ⟨hd, rfl, hx⟩ := am_ok3 hok
    have hx : (decide (am_ml[c']? = some (own, k, a)) && decide ((a, b', d) ∈ am_vls)) = true := hx
    simp only [Bool.and_eq_true, decide_eq_true_eq] at hx
    obtain ⟨h1, h2⟩ := hx
    obtain ⟨v1, v2, v3, v4, v5, v6, v7, v8, v9, v10⟩ := am_vls_at h2
    unfold am_stp at hs
    dsimp only at hs
    split at hs
    · rename_i As o r hpop
      obtain ⟨B, rfl, hB, rfl⟩ := am_pop_inv hpop
      rw [List.append_nil] at hs hpop
      obtain ⟨hsh, hcat, hcp⟩ := hs
      have ho := am_obj hsh v5
      obtain ⟨dd, hM, hfr, hlo⟩ := hC _ _ _ _ hcp
      obtain ⟨C, T, N, e1, e2, e3, e4, e5, ty, e6, e7, e8⟩ := am_ci_ok d v5
      have hG2 : GoodIn am_gw (wsV own k (am_cn d) (am_y a) (am_ws a)) := am_good_in (fun w hw => by
        unfold wsV at hw
        rcases List.mem_append.mp hw with q | q
        · simp only [List.mem_cons, List.not_mem_nil, or_false] at q
          rcases q with rfl | rfl | rfl | rfl
          · exact am_gw_ml h1 v10
          · exact am_gw_in v1
          · rw [v4]; exact am_gw_se v2
          · rw [v4]; exact am_gw_ii v6
        · exact am_ws_in v7 w q)
      have hrun := va_runV (p := p) (e := e) (below := below) (meth := meth) (locs := locs) (cells := cells) (slots := slots) (g := F0 m pc ls ((B.reverse ++ .ref o :: r).map (am_cv ad))) (As := B.map (am_cv ad)) (rest := r.map (am_cv ad)) (b := ad o) ⟨hexec, hb, hml, hown, hts⟩ hM (cwV (R := R) b' hts hG2 rfl rfl rfl ⟨v4.symm, v9.1, v9.2, v3⟩ ⟨hfr, by show 8 + (am_nL a + 11) + 40 * dd ≤ R.locals; omega⟩) ⟨am_Pc.blind, by rw [e3]; exact va_recv hE.1 hI.1 e1 ((am_cc_at ho).trans (by rw [am_cell_obj v5])), fun U hU hW => ⟨rfl, hE.warm hW (by rw [hU]; exact hI.2.1.2.1 b (Nat.lt_of_lt_of_le hG.2.2.1 hbase) (fun q => absurd hG.2.2.1 (Nat.not_lt.mpr q))), by rw [hU]; exact Nat.le_trans hbase hI.2.1.1, by rw [hU]; exact hI.1, hI.2.2⟩⟩ rfl (by rw [List.length_map, hB]) hl.1 (by show (B.reverse ++ .ref o :: r).map (am_cv ad) = _; rw [List.map_append, List.map_reverse]; rfl) (lv_room (by rw [List.map_map]; exact Nat.le_trans (Nat.le_of_eq (congrArg List.sum (List.map_congr_left (fun v _ => am_cv_cat ad v)))) hcat)) hd ⟨hcs.1, hcs.2⟩
      refine am_call_go hrun hI.2.1 (fun v h' H1 locs1 hk1 hI1 => ?_)
      have := hk _ _ _ _ _ _ _ hk1 hI1 hl
      rw [List.map_append] at this
      cases v <;> exact this
    · exact hs.elim
  case invokestatic k =>
    obtain ⟨hd, rfl, hx⟩ := am_ok3 hok
    have hx : ((bif Nat.beq d 1 then decide (am_nl[c']? = some (own, k, a)) else decide (am_ml[c']? = some (own, k, a))) && decide ((a, b') ∈ am_sls)) = true := hx
    rw [Bool.and_eq_true] at hx
    obtain ⟨h1, h2⟩ := hx
    have h2 := of_decide_eq_true h2
    obtain ⟨v1, v3, v6, v7, v8, v9, v10⟩ := am_sls_at h2
    unfold am_stp at hs
    dsimp only at hs
    split at hs
    · rename_i As r hpop
      obtain ⟨B, rfl, hB, rfl⟩ := am_pop_inv hpop
      rw [List.append_nil] at hs hpop
      obtain ⟨hcat, hcp⟩ := hs
      obtain ⟨dd, hM, hfr, hlo⟩ := hC _ _ _ _ hcp
      have hpc : PreS s H (am_Pc D cA ad base b L xs B h) (B.map (am_cv ad)) := ⟨am_Pc.blind, fun U hU hW => ⟨rfl, hE.warm hW (by rw [hU]; exact hI.2.1.2.1 b (Nat.lt_of_lt_of_le hG.2.2.1 hbase) (fun q => absurd hG.2.2.1 (Nat.not_lt.mpr q))), by rw [hU]; exact Nat.le_trans hbase hI.2.1.1, by rw [hU]; exact hI.1, hI.2.2⟩⟩
      have hstk : (F0 m pc ls ((B.reverse ++ r).map (am_cv ad))).stack = (B.map (am_cv ad)).reverse ++ r.map (am_cv ad) := by show (B.reverse ++ r).map (am_cv ad) = _; rw [List.map_append, List.map_reverse]
      have hroom : 2 * (F0 m pc ls ((B.reverse ++ r).map (am_cv ad))).monitorRoom + ((r.map (am_cv ad)).map fun v => v.category).sum ≤ 8 := lv_room (by rw [List.map_map]; exact Nat.le_trans (Nat.le_of_eq (congrArg List.sum (List.map_congr_left (fun v _ => am_cv_cat ad v)))) hcat)
      have hrun : va_Run p l e R s m args below meth c H locs cells slots 0 0 (F0 m pc ls ((B.reverse ++ r).map (am_cv ad))) (r.map (am_cv ad)) (am_Qc D cA ad base L xs (fun v h' => K (pc + am_len (.invokestatic k)) lv (v.toList ++ r) h') (B.map (am_cv ad)).toArray) (am_A base) := by
        cases hq : Nat.beq d 1 with
        | true =>
          rw [hq] at h1
          have h1 : am_nl[c']? = some (own, k, a) := of_decide_eq_true h1
          exact va_runSN ⟨hexec, hb, hml, hown, hts⟩ hM ⟨va_cnB (R := R) b' hts (am_good_in (am_ws_in v7)) rfl rfl rfl (hE.2.1 c' k a own h1) (hts _ (am_gw_ii v6)) ⟨v9.1, v9.2, v3⟩ ⟨hfr, by show 8 + (am_nL a + 11) + 40 * dd ≤ R.locals; omega⟩, hts _ (am_gw_st v1), trivial⟩ hpc rfl (by rw [List.length_map, hB]) hl.1 hstk hroom hd ⟨hcs.1, hcs.2⟩
        | false =>
          rw [hq] at h1
          have h1 : am_ml[c']? = some (own, k, a) := of_decide_eq_true h1
          have hG2 : GoodIn am_gw (va_wsS own k (am_y a) (am_ws a)) := am_good_in (fun w hw => by
            unfold va_wsS at hw
            rcases List.mem_append.mp hw with q | q
            · simp only [List.mem_cons, List.not_mem_nil, or_false] at q
              rcases q with rfl | rfl | rfl
              · exact am_gw_ml h1 v10
              · exact am_gw_st v1
              · exact am_gw_ii v6
            · exact am_ws_in v7 w q)
          exact va_runS ⟨hexec, hb, hml, hown, hts⟩ hM (va_cwS (R := R) b' hts hG2 rfl rfl rfl ⟨v9.1, v9.2, v3⟩ ⟨hfr, by show 8 + (am_nL a + 11) + 40 * dd ≤ R.locals; omega⟩) hpc rfl (by rw [List.length_map, hB]) hl.1 hstk hroom hd ⟨hcs.1, hcs.2⟩
      refine am_call_go hrun hI.2.1 (fun v h' H1 locs1 hk1 hI1 => ?_)
      have := hk _ _ _ _ _ _ _ hk1 hI1 hl
      rw [List.map_append] at this
      cases v <;> exact this
    · exact hs.elim
  case ireturn =>
    obtain ⟨hd, rfl, hx⟩ := am_ok3 hok
    unfold am_stp at hs
    dsimp only at hs
    split at hs
    · rename_i x
      exact hq _ _ _ _ _ _ _ hs.2 hI (Or.inl ⟨x, rfl, rfl, hd, hs.1⟩)
    · exact hs.elim
  case lreturn =>
    obtain ⟨hd, rfl, hx⟩ := am_ok3 hok
    unfold am_stp at hs
    dsimp only at hs
    split at hs
    · rename_i x
      exact hq _ _ _ _ _ _ _ hs.2 hI (Or.inr (Or.inl ⟨x, rfl, rfl, hd, hs.1⟩))
    · exact hs.elim
  case return_ =>
    obtain ⟨hd, rfl, hx⟩ := am_ok3 hok
    unfold am_stp at hs
    dsimp only at hs
    split at hs
    · exact hq _ _ _ _ _ _ _ hs.2 hI (Or.inr (Or.inr ⟨rfl, rfl, hd, hs.1⟩))
    · exact hs.elim
  all_goals exact hs.elim
