section
/-! ONE STEP, SOUND -/
variable {p : Program} {l : Launch} {e : Env} {R : Room} {s : State} {m : MethodId} {args : Array Value} {below : List Frame} {meth : Method} {c : Code} {H : Heap} {locs : List Loc} {cells slots : Nat} {Qw : State → Prop} {D : va_G} {cA : Nat → ClassId} {ad : Nat → Nat} {base b L nL : Nat} {xs : Nat → Int32} {own : String} {cc : ByteArray} {cp : am_P} {rt : Option FieldType} {c0 lim : Nat} {ini : Bool}
/-- behind a continuation the machine goes on -/
def am_ce (c0 : Nat) (h : am_H) : Nat := h.2.2.2.2 - c0 % 1000 + c0 / 1000
def am_sc (c0 : Nat) (h : am_H) : Nat := am_ss h.2.2.2.2 - am_ss (c0 % 1000) + 6 * (c0 / 1000)
def am_Kw (p : Program) (l : Launch) (e : Env) (R : Room) (s : State) (m : MethodId) (args : Array Value) (below : List Frame) (meth : Method) (c : Code) (c0 : Nat) (Qw : State → Prop) (D : va_G) (cA : Nat → ClassId) (ad : Nat → Nat) (base L nL : Nat) (xs : Nat → Int32) (K : Nat → am_V → List Value → am_H → Prop) : Prop :=
  ∀ pc lv st h H locs ls, K pc lv st h → am_Inv D cA ad base L xs s c0 h H locs → lv_has ls nL (am_cl2 ad lv) → W p l e R s m args below meth c H locs (am_ce c0 h) (am_sc c0 h) Qw (F0 m pc ls (st.map (am_cv ad)))
/-- a return's place: the instruction, its stack, its type -/
def am_rk (cc : ByteArray) (rt : Option FieldType) (pc : Nat) (v : Option Value) (st : List Value) : Prop :=
  (∃ x, v = some (.int x) ∧ st = [.int x] ∧ decode cc pc = .ok (.ireturn, 1) ∧ ∃ ty, rt = some ty ∧ narrow ty (.int x) = .int x) ∨ (∃ x, v = some (.long x) ∧ st = [.long x] ∧ decode cc pc = .ok (.lreturn, 1) ∧ rt = some .long) ∨ (v = none ∧ st = [] ∧ decode cc pc = .ok (.return_, 1) ∧ rt = none)
def am_Qr (p : Program) (l : Launch) (e : Env) (R : Room) (s : State) (m : MethodId) (args : Array Value) (below : List Frame) (meth : Method) (c : Code) (c0 : Nat) (Qw : State → Prop) (D : va_G) (cA : Nat → ClassId) (ad : Nat → Nat) (base L : Nat) (xs : Nat → Int32) (cc : ByteArray) (rt : Option FieldType) (Q0 : am_Q) : Prop :=
  ∀ v h H locs pc ls st, Q0 v h → am_Inv D cA ad base L xs s c0 h H locs → am_rk cc rt pc v st → W p l e R s m args below meth c H locs (am_ce c0 h) (am_sc c0 h) Qw (F0 m pc ls st)
theorem am_call_go {Q : am_Q} {h : am_H} {n : Nat} {a : Array Value} {pc : Nat} {ls : Array Slot} {st0 rest : List Value} (hr : va_Run p l e R s m args below meth c H locs (am_ce c0 h) (am_sc c0 h) (am_al n) (am_ms n h) (F0 m pc ls st0) rest (am_Qc D cA ad base L xs (fun v h' => h'.2.2.2.2 = h.2.2.2.2 + am_al n ∧ Q v h') a) (am_A base)) (hS : va_S (am_A base) s.heap H locs) (hc0 : am_c0 c0 h.2.2.2.2)
    (kk : ∀ v h' H1 locs1, Q v h' → am_Inv D cA ad base L xs s c0 h' H1 locs1 → W p l e R s m args below meth c H1 locs1 (am_ce c0 h') (am_sc c0 h') Qw (F0 m (pc + 3) ls ((v.map (am_cv ad)).toList ++ rest))) : W p l e R s m args below meth c H locs (am_ce c0 h) (am_sc c0 h) Qw (F0 m pc ls st0) := by
  intro T hT X
  obtain ⟨v, st₀, t, T', Lc, h0, X', hL, e1, e2, ⟨⟨v', h', hv, ⟨hcn, hp⟩, hP, hro, hwf⟩, hz, hk⟩, st⟩ := hr T hT X
  cases hv
  rw [h0] at hz hk
  have hc1 := hc0.1
  have hc2 := hc0.2
  have g1 : am_ce c0 h + am_al n = am_ce c0 h' := by unfold am_ce; omega
  have g2 : am_sc c0 h + am_ms n h = am_sc c0 h' := by
    have q1 := am_ss_mono hc0.1
    have q2 := am_ss_mono (Nat.le_add_right h.2.2.2.2 (am_al n))
    unfold am_sc am_ms
    rw [hcn]
    omega
  rw [g1, g2] at X'
  obtain ⟨t2, a1, b1⟩ := kk v' h' T'.heap (locs ++ Lc) hp ⟨by rw [e1]; exact hP, ⟨Nat.le_trans hS.1 (by rw [e1]; exact hz), fun q h1 h2 => by rw [e1, hk q (Nat.lt_of_lt_of_le h1 hS.1) h2]; exact hS.2.1 q h1 h2, fun q hq => by
      rcases List.mem_append.mp hq with h | h
      · exact hS.2.2 q h
      · exact hL q h⟩, hro, hwf, by omega, fun z => by have := hc2 z; omega⟩ T' rfl X'
  exact ⟨t2, st t2 a1, b1⟩
theorem am_obj {h : am_H} {o ci : Nat} (hsh : am_sh h o = some (ci, 0)) (hc : ci < 12) : am_so h o = some (ci, 0) := by
  rcases am_sh_cases hsh with ⟨-, h2⟩ | h2
  · have := congrArg Prod.fst h2
    dsimp only at this
    omega
  · exact h2
theorem am_cell_i {h : am_H} {o t n : Nat} (ht : t = 12 ∨ t = 13 ∨ t = 15) : am_cell cA ad h o (t, n) = .inl (cA t, n, .inl (h.1 o)) := by
  rcases ht with rfl | rfl | rfl <;> simp [am_cell]
theorem am_cell_l {h : am_H} {o n : Nat} : am_cell cA ad h o (14, n) = .inl (cA 14, n, .inr (.inl (h.2.1 o))) := by simp [am_cell]
theorem am_cell_r {h : am_H} {o t n : Nat} (ht : t = 16 ∨ t = 17) : am_cell cA ad h o (t, n) = .inl (cA t, n, .inr (.inr (.inr (.inr (fun j => (h.2.2.1 o j).map ad))))) := by
  rcases ht with rfl | rfl <;> simp [am_cell]
theorem am_wI_upd {h : am_H} {o j : Nat} {x : Int32} : (am_wI h o j x).1 o = upd (h.1 o) j x := by
  funext k
  simp [am_wI, upd]
theorem am_wL_upd {h : am_H} {o j : Nat} {x : Int64} : (am_wL h o j x).2.1 o = vp_updL (h.2.1 o) j x := by
  funext k
  simp [am_wL, vp_updL]
theorem am_wR_upd {h : am_H} {o j x : Nat} : (fun k => ((am_wR h o j (some x)).2.2.1 o k).map ad) = va_up (fun k => (h.2.2.1 o k).map ad) j (some (ad x)) := by
  funext k
  by_cases hk : k = j <;> simp [am_wR, va_up, hk]
theorem am_ac_int : Cond.arrayClass .int ∈ lw_tbl := by decide +kernel
theorem am_ac_char : Cond.arrayClass .char ∈ lw_tbl := by decide +kernel
theorem am_ac_long : Cond.arrayClass .long ∈ lw_tbl := by decide +kernel
theorem am_ac_boolean : Cond.arrayClass .boolean ∈ lw_tbl := by decide +kernel
theorem am_sln_le (q : Nat) : am_sln.getD q 0 ≤ 1000 := by
  rcases Nat.lt_or_ge q 26 with h | h
  · have h9 : ∀ q, q < 26 → am_sln.getD q 0 ≤ 1000 := by decide
    exact h9 q h
  · rw [List.getD_eq_getElem?_getD, List.getElem?_eq_none (by exact h)]
    exact Nat.zero_le _
theorem am_lenlt {h : am_H} {o t n : Nat} (hs : am_so h o = some (t, n)) : n < 2 ^ 31 := am_len_sh (t, n) (List.mem_of_getElem? (am_so_lt hs).2)
theorem am_sw_lt {h : am_H} {o : Nat} {e : Nat × Nat} (hs : am_so h o = some e) : o < 175 := am_sh_lt (am_so_lt hs).2
theorem am_good_in {ws : List Cond} (h : ∀ w ∈ ws, w ∈ am_gw) : GoodIn am_gw ws := fun w hw => ⟨h w hw, good_of_word (List.mem_filter.mp (h w hw)).2⟩
theorem am_ws_in {n : Nat} (hn : n < am_mi.length) : ∀ w ∈ am_ws n, w ∈ am_gw := by
  intro w hw
  rcases List.mem_cons.mp hw with rfl | h
  · have h1 : am_mi[n]? = some am_mi[n] := List.getElem?_eq_getElem hn
    have h2 := am_gw_code h1
    unfold am_y am_by am_nL am_rt
    rw [h1]
    exact h2
  · exact h
theorem am_put_gv {h : am_H} {o a ci : Nat} {x : Int32} (hk : am_kd ci a = 0) : am_gv (am_wI h o a x) ci a o = .int x := by simp [am_gv, hk, am_wI]
theorem am_put_gvL {h : am_H} {o a ci : Nat} {x : Int64} (hk : am_kd ci a = 1) : am_gv (am_wL h o a x) ci a o = .long x := by simp [am_gv, hk, am_wL]
theorem am_put_gvR {h : am_H} {o a ci x : Nat} (hk : ¬ am_kd ci a = 0) (hk1 : ¬ am_kd ci a = 1) : am_gv (am_wR h o a (some x)) ci a o = .ref x := by
  unfold am_gv
  split
  · exact absurd ‹_› hk
  · exact absurd ‹_› hk1
  · simp [am_wR, am_rf]
theorem am_put_oI {h : am_H} {o a ci : Nat} {x : Int32} (j : Nat) (hj : j ≠ a) : am_gv (am_wI h o a x) ci j o = am_gv h ci j o := by
  unfold am_gv
  split <;> simp [am_wI, hj]
theorem am_put_oL {h : am_H} {o a ci : Nat} {x : Int64} (j : Nat) (hj : j ≠ a) : am_gv (am_wL h o a x) ci j o = am_gv h ci j o := by
  unfold am_gv
  split <;> simp [am_wL, hj]
theorem am_put_oR {h : am_H} {o a ci : Nat} {x : Option Nat} (j : Nat) (hj : j ≠ a) : am_gv (am_wR h o a x) ci j o = am_gv h ci j o := by
  unfold am_gv
  split <;> simp [am_wR, hj]
theorem am_Wsz {g : JFrame} {cells slots : Nat} (k : H.size ≤ s.heap.size + cells → W p l e R s m args below meth c H locs cells slots Qw g) : W p l e R s m args below meth c H locs cells slots Qw g :=
  fun T hT X => k (by rw [← hT]; exact X.heapSize) T hT X
theorem am_sizeq {h : am_H} (hG : am_G ad base b L) (hsz : c0 % 1000 < am_shl.length → s.heap.size = base + c0 % 1000) (hI : am_Inv D cA ad base L xs s c0 h H locs) (hle : H.size ≤ s.heap.size + am_ce c0 h) : am_wf base h H := by
  refine ⟨hI.2.2.2.1, fun hlt => ?_⟩
  have h0 := hI.2.2.2.2.1
  have h9 : c0 < 1000 := by
    rcases Nat.lt_or_ge c0 1000 with z | z
    · exact z
    · have := hI.2.2.2.2.2 z
      omega
  have h1 := hsz (by omega)
  have h2 := hI.2.1.1
  unfold am_ce at hle
  by_cases hc : h.2.2.2.2 = c0 % 1000
  · omega
  · have h3 : h.2.2.2.2 - 1 < am_shl.length := by omega
    have h4 : am_so h (h.2.2.2.2 - 1) = some am_shl[h.2.2.2.2 - 1] := by
      unfold am_so
      have : Nat.blt (h.2.2.2.2 - 1) h.2.2.2.2 = true := Nat.ble_eq_true_of_le (by omega)
      rw [this]
      exact List.getElem?_eq_getElem h3
    have h5 := (hI.1 _ _ (am_cc_at h4)).lt
    dsimp only at h5
    rw [hG.1 _ h3] at h5
    omega
theorem am_fit {h : am_H} {n : Nat} (hcs : lim - c0 % 1000 + c0 / 1000 ≤ R.cells ∧ am_ss lim - am_ss (c0 % 1000) + 6 * (c0 / 1000) ≤ R.slots) (hc0 : am_c0 c0 h.2.2.2.2) (hl : h.2.2.2.2 + am_al n ≤ lim) : am_ce c0 h + am_al n ≤ R.cells ∧ am_sc c0 h + am_ms n h ≤ R.slots := by
  have q1 := am_ss_mono hc0.1
  have q2 := am_ss_mono (Nat.le_add_right h.2.2.2.2 (am_al n))
  have q3 := am_ss_mono hl
  have q0 := hc0.1
  unfold am_ce am_sc am_ms
  omega
theorem am_fit1 {h : am_H} {e : Nat × Nat} (hcs : lim - c0 % 1000 + c0 / 1000 ≤ R.cells ∧ am_ss lim - am_ss (c0 % 1000) + 6 * (c0 / 1000) ≤ R.slots) (hc0 : am_c0 c0 h.2.2.2.2) (he : am_shl[h.2.2.2.2]? = some e) (hl : h.2.2.2.2 + 1 ≤ lim) : (am_ce c0 h + 1 ≤ R.cells ∧ am_sc c0 h + am_siz e ≤ R.slots) ∧ (am_ce c0 h + 1 = am_ce c0 (am_nx h) ∧ am_sc c0 h + am_siz e = am_sc c0 (am_nx h)) := by
  have q1 := am_ss_mono hc0.1
  have q2 := am_ss_succ he
  have q3 := am_ss_mono hl
  have q0 := hc0.1
  have q4 : (am_nx h).2.2.2.2 = h.2.2.2.2 + 1 := rfl
  unfold am_ce am_sc
  rw [q4]
  omega
/-- a new cell behind the others -/
theorem am_new_I {h : am_H} {ea : Nat × Nat} {H1 : Heap} (hG : am_G ad base b L) (hI : am_Inv D cA ad base L xs s c0 h H locs) (he : am_shl[h.2.2.2.2]? = some ea) (hat : va_at D vwCl (ad h.2.2.2.2, am_cell cA ad (am_nx h) h.2.2.2.2 ea) H1) (z1 : H1.size = H.size + 1) (o1 : ∀ q, q < H.size → H1[q]? = H[q]?) : am_Inv D cA ad base L xs s c0 (am_nx h) H1 locs := by
  obtain ⟨hP, hS, hro, hwf, hc0⟩ := hI
  have hlt := (List.getElem?_eq_some_iff.mp he).1
  refine ⟨?_, ⟨Nat.le_trans hS.1 (by omega), fun x h1 h2 => (o1 x (Nat.lt_of_lt_of_le h1 hS.1)).trans (hS.2.1 x h1 h2), hS.2.2⟩, ⟨hro.1, fun j hj => ?_⟩, by show h.2.2.2.2 + 1 ≤ _; omega, by have := hc0.1; show c0 % 1000 ≤ h.2.2.2.2 + 1; omega, fun z => by have := hc0.2 z; omega⟩
  · rw [am_cc_new he]
    refine (hP.kept (fun k x hx => o1 x.1 ((hP k x hx).lt))).app (fun k x hx => ?_)
    have hz : k < 1 := (List.getElem?_eq_some_iff.mp hx).1
    rw [show k = 0 by omega] at hx
    cases hx
    exact hat
  · show (if 3000000 = h.2.2.2.2 then 0 else h.1 3000000 j) = xs j
    rw [if_neg (by rw [am_shl_len] at hlt; omega)]
    exact hro.2 j hj
theorem am_dv_ok : (List.range 12).all (fun ci => (List.range (am_nf ci)).all (fun k => decide (defaultValue (am_fty ci k) = (match am_kd ci k with
    | 0 => .int 0
    | 1 => .long 0
    | _ => .null)))) = true := by decide +kernel
theorem am_gv_nx {h : am_H} {ci k : Nat} : am_cv ad (am_gv (am_nx h) ci k h.2.2.2.2) = (match am_kd ci k with
    | 0 => .int 0
    | 1 => .long 0
    | _ => .null) := by
  unfold am_gv
  split <;> rename_i hq <;> simp [am_nx, am_cv, am_rf, hq]
theorem am_big_sh : ∀ e ∈ am_shl, e.2 ≤ 10000 := by decide +kernel
theorem am_ro.wL {h : am_H} {o k : Nat} {v : Int64} (hr : am_ro L xs h) : am_ro L xs (am_wL h o k v) := hr
theorem am_ro.wR {h : am_H} {o k : Nat} {v : Option Nat} (hr : am_ro L xs h) : am_ro L xs (am_wR h o k v) := hr
theorem am_set_P {h h' : am_H} {o : Nat} {e : Nat × Nat} {E : va_E} {H1 : Heap} (ho : am_so h o = some e) (hn : h'.2.2.2.2 = h.2.2.2.2) (hs : ∀ o' e', o' ≠ o → am_cell cA ad h' o' e' = am_cell cA ad h o' e') (hE : am_cell cA ad h' o e = E) (hP : va_P D vwCl ((am_cc cA ad h).set o (ad o, E)) H1) : va_P D vwCl (am_cc cA ad h') H1 := by
  rw [am_cc_set ho hn hs, hE]
  exact hP
theorem am_ar (g : am_H) (o t n : Nat) (h : am_so g o = some (t, n)) (ht : 12 ≤ t) : t = 12 ∨ t = 13 ∨ t = 14 ∨ t = 15 ∨ t = 16 ∨ t = 17 := by
  have h1 : ∀ e ∈ am_shl, e.1 < 18 := by decide +kernel
  have := h1 (t, n) (List.mem_of_getElem? (am_so_lt h).2)
  dsimp only at this
  omega
theorem am_mok_at {n : Nat} (h : am_mok n = true) : (am_y n).cls ∈ am_iiw ∧ n < am_mi.length ∧ am_nL n ≤ 21 ∧ ((am_y n).cls ≠ "java/lang/invoke/MethodHandle" ∧ (am_y n).cls ≠ "java/lang/invoke/VarHandle") ∧ ¬ n = 999 := by
  simp only [am_mok, am_hd, Bool.and_eq_true, decide_eq_true_eq, Bool.not_eq_true'] at h
  obtain ⟨h1, h2, h3, h4, h5⟩ := h
  exact ⟨h1, h2, h3, h4, fun q => by subst q; cases h5⟩
theorem am_vls_at {a b d : Nat} (h : (a, b, d) ∈ am_vls) : am_y a ∈ am_inw ∧ am_y a ∈ am_sew ∧ am_prm (am_y a) = some b ∧ am_cn d = (am_y a).cls ∧ d < 12 ∧ (am_y a).cls ∈ am_iiw ∧ a < am_mi.length ∧ am_nL a ≤ 21 ∧ ((am_y a).cls ≠ "java/lang/invoke/MethodHandle" ∧ (am_y a).cls ≠ "java/lang/invoke/VarHandle") ∧ ¬ a = 999 := by
  have h1 := List.all_eq_true.mp am_vls_ok _ h
  simp only [Bool.and_eq_true, decide_eq_true_eq] at h1
  obtain ⟨h1, h2, h3, h4, h5, h6⟩ := h1
  exact ⟨h1, h2, h3, h4, h5, am_mok_at h6⟩
theorem am_svl_at {a b : Nat} (h : (a, b) ∈ am_svl) : am_y a ∈ am_inw ∧ am_y a ∈ am_sew ∧ am_prm (am_y a) = some b ∧ (am_y a).cls = "java/lang/String" ∧ (am_y a).cls ∈ am_iiw ∧ a < am_mi.length ∧ am_nL a ≤ 21 ∧ ((am_y a).cls ≠ "java/lang/invoke/MethodHandle" ∧ (am_y a).cls ≠ "java/lang/invoke/VarHandle") ∧ ¬ a = 999 := by
  have h1 := List.all_eq_true.mp am_svl_ok _ h
  simp only [Bool.and_eq_true, decide_eq_true_eq] at h1
  obtain ⟨h1, h2, h3, h4, h6⟩ := h1
  exact ⟨h1, h2, h3, h4, am_mok_at h6⟩
theorem am_ils_at {a b : Nat} (h : (a, b) ∈ am_ils) : am_y a ∈ am_inw ∧ am_prm (am_y a) = some b ∧ (am_y a).name = "<init>" ∧ am_rt a = none ∧ (am_y a).cls ∈ am_iiw ∧ a < am_mi.length ∧ am_nL a ≤ 21 ∧ ((am_y a).cls ≠ "java/lang/invoke/MethodHandle" ∧ (am_y a).cls ≠ "java/lang/invoke/VarHandle") ∧ ¬ a = 999 := by
  have h1 := List.all_eq_true.mp am_ils_ok _ h
  simp only [Bool.and_eq_true, decide_eq_true_eq] at h1
  obtain ⟨h1, h2, h3, h4, h6⟩ := h1
  exact ⟨h1, h2, h3, h4, am_mok_at h6⟩
theorem am_sls_at {a b : Nat} (h : (a, b) ∈ am_sls) : am_y a ∈ am_stw ∧ am_prm (am_y a) = some b ∧ (am_y a).cls ∈ am_iiw ∧ a < am_mi.length ∧ am_nL a ≤ 21 ∧ ((am_y a).cls ≠ "java/lang/invoke/MethodHandle" ∧ (am_y a).cls ≠ "java/lang/invoke/VarHandle") ∧ ¬ a = 999 := by
  have h1 := List.all_eq_true.mp am_sls_ok _ h
  simp only [Bool.and_eq_true, decide_eq_true_eq] at h1
  obtain ⟨h1, h2, h6⟩ := h1
  exact ⟨h1, h2, am_mok_at h6⟩
set_option maxHeartbeats 4000000 in
set_option maxRecDepth 20000 in
theorem am_sound1 (F : am_Fx p s m args c D cA ad base b L xs own cc nL c0) (hC : am_Cs l R D cA ad base b L xs cp) (hcs : lim - c0 % 1000 + c0 / 1000 ≤ R.cells ∧ am_ss lim - am_ss (c0 % 1000) + 6 * (c0 / 1000) ≤ R.slots) (hR1 : 1 ≤ R.frames ∧ 20 ≤ R.locals) (hini : ini = true → meth.name = "<init>") {pc nx a b' c' d : Nat} {lv : am_V} {st : List Value} {h : am_H} {K : Nat → am_V → List Value → am_H → Prop} {Q0 : am_Q} {ls : Array Slot} (hI : am_Inv D cA ad base L xs s c0 h H locs) (hl : lv_has ls nL (am_cl2 ad lv)) (hk : am_Kw p l e R s m args below meth c c0 Qw D cA ad base L nL xs K) (hq : am_Qr p l e R s m args below meth c c0 Qw D cA ad base L xs cc rt Q0) {i : Instr} (hok : am_okB ini own cc pc (i, nx, a, b', c', d) = true) (hs : am_stp cp nL lim rt pc (i, nx, a, b', c', d) lv st h K Q0) : W p l e R s m args below meth c H locs (am_ce c0 h) (am_sc c0 h) Qw (F0 m pc ls (st.map (am_cv ad))) := by
  obtain ⟨hexec, hb, hml, hown, hts, hE, hbase, hG, hsz⟩ := id F
  cases i
  case iconst n =>
    obtain ⟨hd, rfl, hx⟩ := am_ok3 hok
    exact lv_iconst hexec hb hd rfl (hk _ _ _ _ _ _ _ hs hI hl)
  case bipush n =>
    obtain ⟨hd, rfl, hx⟩ := am_ok3 hok
    exact lv_bipush hexec hb hd rfl (hk _ _ _ _ _ _ _ hs hI hl)
  case sipush n =>
    obtain ⟨hd, rfl, hx⟩ := am_ok3 hok
    exact lv_sipush hexec hb hd rfl (hk _ _ _ _ _ _ _ hs hI hl)
  case lconst n =>
    obtain ⟨hd, rfl, hx⟩ := am_ok3 hok
    exact lv_lconst hexec hb hd rfl (hk _ _ _ _ _ _ _ hs hI hl)
  case iload_n k =>
    obtain ⟨hd, rfl, hx⟩ := am_ok3 hok
    obtain ⟨x, ex, hs⟩ := am_li.inv hs
    exact lv_iload_n hexec hb hd rfl (am_lk_at hl ex) (hk _ _ _ _ _ _ _ hs hI hl)
  case iload k =>
    obtain ⟨hd, rfl, hx⟩ := am_ok3 hok
    obtain ⟨x, ex, hs⟩ := am_li.inv hs
    exact lv_iload hexec hb hd (am_lk_at hl ex) (hk _ _ _ _ _ _ _ hs hI hl)
  case lload_n k =>
    obtain ⟨hd, rfl, hx⟩ := am_ok3 hok
    obtain ⟨x, ex, hs⟩ := am_ll.inv hs
    exact lv_lload_n hexec hb hd rfl (am_lk_at hl ex) (hk _ _ _ _ _ _ _ hs hI hl)
  case lload k =>
    obtain ⟨hd, rfl, hx⟩ := am_ok3 hok
    obtain ⟨x, ex, hs⟩ := am_ll.inv hs
    exact lv_lload hexec hb hd (am_lk_at hl ex) (hk _ _ _ _ _ _ _ hs hI hl)
  case aload_n k =>
    obtain ⟨hd, rfl, hx⟩ := am_ok3 hok
    obtain ⟨x, ex, hs⟩ := am_la.inv hs
    exact lv_aload_n hexec hb hd rfl (am_lk_at hl ex) (hk _ _ _ _ _ _ _ hs hI hl)
  case aload k =>
    obtain ⟨hd, rfl, hx⟩ := am_ok3 hok
    obtain ⟨x, ex, hs⟩ := am_la.inv hs
    exact lv_aload hexec hb hd (am_lk_at hl ex) (hk _ _ _ _ _ _ _ hs hI hl)
  case istore_n k =>
    obtain ⟨hd, rfl, hx⟩ := am_ok3 hok
    obtain ⟨x, r, rfl, hn, hs⟩ := am_pI.inv hs
    exact lv_istore_n hexec hb hd rfl hl hn (am_s1_cl ad lv _ (.int x)) (fun ls hl => hk _ _ _ _ _ _ _ hs hI hl)
  case istore k =>
    obtain ⟨hd, rfl, hx⟩ := am_ok3 hok
    obtain ⟨x, r, rfl, hn, hs⟩ := am_pI.inv hs
    exact lv_istore hexec hb hd hl hn (am_s1_cl ad lv _ (.int x)) (fun ls hl => hk _ _ _ _ _ _ _ hs hI hl)
  case lstore_n k =>
    obtain ⟨hd, rfl, hx⟩ := am_ok3 hok
    obtain ⟨x, r, rfl, hn, hs⟩ := am_pL.inv hs
    exact lv_lstore_n hexec hb hd rfl hl hn (am_s2_cl ad lv _ (.long x)) (fun ls hl => hk _ _ _ _ _ _ _ hs hI hl)
  case lstore k =>
    obtain ⟨hd, rfl, hx⟩ := am_ok3 hok
    obtain ⟨x, r, rfl, hn, hs⟩ := am_pL.inv hs
    exact lv_lstore hexec hb hd hl hn (am_s2_cl ad lv _ (.long x)) (fun ls hl => hk _ _ _ _ _ _ _ hs hI hl)
  case astore_n k =>
    obtain ⟨hd, rfl, hx⟩ := am_ok3 hok
    obtain ⟨x, r, rfl, hn, hs⟩ := am_pR.inv hs
    exact lv_astore_n hexec hb hd rfl hl hn (am_s1_cl ad lv _ (.ref x)) (fun ls hl => hk _ _ _ _ _ _ _ hs hI hl)
  case astore k =>
    obtain ⟨hd, rfl, hx⟩ := am_ok3 hok
    obtain ⟨x, r, rfl, hn, hs⟩ := am_pR.inv hs
    exact lv_astore hexec hb hd hl hn (am_s1_cl ad lv _ (.ref x)) (fun ls hl => hk _ _ _ _ _ _ _ hs hI hl)
  case iinc k n =>
    obtain ⟨hd, rfl, hx⟩ := am_ok3 hok
    obtain ⟨x, ex, hn, hs⟩ := am_li.inv hs
    obtain ⟨q, hq⟩ := am_lk_pl (ad := ad) ex
    exact lv_iinc hexec hb hd hl hq rfl hn (am_s1_cl ad lv _ (.int (x + Int32.ofInt n))) (fun ls hl => hk _ _ _ _ _ _ _ hs hI hl)
  case iadd =>
    obtain ⟨hd, rfl, hx⟩ := am_ok3 hok
    obtain ⟨y, r, rfl, hs⟩ := am_pI.inv hs
    obtain ⟨x, r, rfl, hs⟩ := am_pI.inv hs
    exact lv_iadd hexec hb hd (hk _ _ _ _ _ _ _ hs hI hl)
  case isub =>
    obtain ⟨hd, rfl, hx⟩ := am_ok3 hok
    obtain ⟨y, r, rfl, hs⟩ := am_pI.inv hs
    obtain ⟨x, r, rfl, hs⟩ := am_pI.inv hs
    exact lv_isub hexec hb hd (hk _ _ _ _ _ _ _ hs hI hl)
  case imul =>
    obtain ⟨hd, rfl, hx⟩ := am_ok3 hok
    obtain ⟨y, r, rfl, hs⟩ := am_pI.inv hs
    obtain ⟨x, r, rfl, hs⟩ := am_pI.inv hs
    exact lv_imul hexec hb hd (hk _ _ _ _ _ _ _ hs hI hl)
  case iand =>
    obtain ⟨hd, rfl, hx⟩ := am_ok3 hok
    obtain ⟨y, r, rfl, hs⟩ := am_pI.inv hs
    obtain ⟨x, r, rfl, hs⟩ := am_pI.inv hs
    exact lv_iand hexec hb hd (hk _ _ _ _ _ _ _ hs hI hl)
  case ior =>
    obtain ⟨hd, rfl, hx⟩ := am_ok3 hok
    obtain ⟨y, r, rfl, hs⟩ := am_pI.inv hs
    obtain ⟨x, r, rfl, hs⟩ := am_pI.inv hs
    exact lv_ior hexec hb hd (hk _ _ _ _ _ _ _ hs hI hl)
  case ixor =>
    obtain ⟨hd, rfl, hx⟩ := am_ok3 hok
    obtain ⟨y, r, rfl, hs⟩ := am_pI.inv hs
    obtain ⟨x, r, rfl, hs⟩ := am_pI.inv hs
    exact lv_ixor hexec hb hd (hk _ _ _ _ _ _ _ hs hI hl)
  case ishl =>
    obtain ⟨hd, rfl, hx⟩ := am_ok3 hok
    obtain ⟨y, r, rfl, hs⟩ := am_pI.inv hs
    obtain ⟨x, r, rfl, hs⟩ := am_pI.inv hs
    exact lv_ishl hexec hb hd (hk _ _ _ _ _ _ _ hs hI hl)
  case ishr =>
    obtain ⟨hd, rfl, hx⟩ := am_ok3 hok
    obtain ⟨y, r, rfl, hs⟩ := am_pI.inv hs
    obtain ⟨x, r, rfl, hs⟩ := am_pI.inv hs
    exact lv_ishr hexec hb hd (hk _ _ _ _ _ _ _ hs hI hl)
  case idiv =>
    obtain ⟨hd, rfl, hx⟩ := am_ok3 hok
    obtain ⟨y, r, rfl, hs⟩ := am_pI.inv hs
    obtain ⟨x, r, rfl, hne, hs⟩ := am_pI.inv hs
    exact lv_idiv hexec hb hd hne (hk _ _ _ _ _ _ _ hs hI hl)
  case irem =>
    obtain ⟨hd, rfl, hx⟩ := am_ok3 hok
    obtain ⟨y, r, rfl, hs⟩ := am_pI.inv hs
    obtain ⟨x, r, rfl, hne, hs⟩ := am_pI.inv hs
    exact lv_irem hexec hb hd hne (hk _ _ _ _ _ _ _ hs hI hl)
  case ineg =>
    obtain ⟨hd, rfl, hx⟩ := am_ok3 hok
    obtain ⟨x, r, rfl, hs⟩ := am_pI.inv hs
    exact lv_ineg hexec hb hd (hk _ _ _ _ _ _ _ hs hI hl)
  case iushr =>
    obtain ⟨hd, rfl, hx⟩ := am_ok3 hok
    obtain ⟨y, r, rfl, hs⟩ := am_pI.inv hs
    obtain ⟨x, r, rfl, hs⟩ := am_pI.inv hs
    exact lv_iushr hexec hb hd rfl (hk _ _ _ _ _ _ _ hs hI hl)
  case ladd =>
    obtain ⟨hd, rfl, hx⟩ := am_ok3 hok
    obtain ⟨y, r, rfl, hs⟩ := am_pL.inv hs
    obtain ⟨x, r, rfl, hs⟩ := am_pL.inv hs
    exact lv_ladd hexec hb hd (hk _ _ _ _ _ _ _ hs hI hl)
  case lsub =>
    obtain ⟨hd, rfl, hx⟩ := am_ok3 hok
    obtain ⟨y, r, rfl, hs⟩ := am_pL.inv hs
    obtain ⟨x, r, rfl, hs⟩ := am_pL.inv hs
    exact lv_lsub hexec hb hd (hk _ _ _ _ _ _ _ hs hI hl)
  case lmul =>
    obtain ⟨hd, rfl, hx⟩ := am_ok3 hok
    obtain ⟨y, r, rfl, hs⟩ := am_pL.inv hs
    obtain ⟨x, r, rfl, hs⟩ := am_pL.inv hs
    exact lv_lmul hexec hb hd (hk _ _ _ _ _ _ _ hs hI hl)
  case land =>
    obtain ⟨hd, rfl, hx⟩ := am_ok3 hok
    obtain ⟨y, r, rfl, hs⟩ := am_pL.inv hs
    obtain ⟨x, r, rfl, hs⟩ := am_pL.inv hs
    exact lv_land hexec hb hd (hk _ _ _ _ _ _ _ hs hI hl)
  case lor =>
    obtain ⟨hd, rfl, hx⟩ := am_ok3 hok
    obtain ⟨y, r, rfl, hs⟩ := am_pL.inv hs
    obtain ⟨x, r, rfl, hs⟩ := am_pL.inv hs
    exact lv_lor hexec hb hd (hk _ _ _ _ _ _ _ hs hI hl)
  case ldiv =>
    obtain ⟨hd, rfl, hx⟩ := am_ok3 hok
    obtain ⟨y, r, rfl, hs⟩ := am_pL.inv hs
    obtain ⟨x, r, rfl, hne, hs⟩ := am_pL.inv hs
    exact lv_ldiv hexec hb hd hne (hk _ _ _ _ _ _ _ hs hI hl)
  case lrem =>
    obtain ⟨hd, rfl, hx⟩ := am_ok3 hok
    obtain ⟨y, r, rfl, hs⟩ := am_pL.inv hs
    obtain ⟨x, r, rfl, hne, hs⟩ := am_pL.inv hs
    exact lv_lrem hexec hb hd hne (hk _ _ _ _ _ _ _ hs hI hl)
  case lshl =>
    obtain ⟨hd, rfl, hx⟩ := am_ok3 hok
    obtain ⟨y, r, rfl, hs⟩ := am_pI.inv hs
    obtain ⟨x, r, rfl, hs⟩ := am_pL.inv hs
    exact lv_lshl hexec hb hd rfl (hk _ _ _ _ _ _ _ hs hI hl)
  case lshr =>
    obtain ⟨hd, rfl, hx⟩ := am_ok3 hok
    obtain ⟨y, r, rfl, hs⟩ := am_pI.inv hs
    obtain ⟨x, r, rfl, hs⟩ := am_pL.inv hs
    exact lv_lshr hexec hb hd rfl (hk _ _ _ _ _ _ _ hs hI hl)
  case lushr =>
    obtain ⟨hd, rfl, hx⟩ := am_ok3 hok
    obtain ⟨y, r, rfl, hs⟩ := am_pI.inv hs
    obtain ⟨x, r, rfl, hs⟩ := am_pL.inv hs
    exact lv_lushr hexec hb hd rfl (hk _ _ _ _ _ _ _ hs hI hl)
  case lcmp =>
    obtain ⟨hd, rfl, hx⟩ := am_ok3 hok
    obtain ⟨y, r, rfl, hs⟩ := am_pL.inv hs
    obtain ⟨x, r, rfl, hs⟩ := am_pL.inv hs
    exact W.lcmp hexec hb hd (hk _ _ _ _ _ _ _ hs hI hl)
  case i2l =>
    obtain ⟨hd, rfl, hx⟩ := am_ok3 hok
    obtain ⟨x, r, rfl, hs⟩ := am_pI.inv hs
    exact lv_i2l hexec hb hd rfl (hk _ _ _ _ _ _ _ hs hI hl)
  case l2i =>
    obtain ⟨hd, rfl, hx⟩ := am_ok3 hok
    obtain ⟨x, r, rfl, hs⟩ := am_pL.inv hs
    exact lv_l2i hexec hb hd rfl (hk _ _ _ _ _ _ _ hs hI hl)
  case i2c =>
    obtain ⟨hd, rfl, hx⟩ := am_ok3 hok
    obtain ⟨x, r, rfl, hs⟩ := am_pI.inv hs
    exact lv_i2c hexec hb hd rfl (hk _ _ _ _ _ _ _ hs hI hl)
  case dup =>
    obtain ⟨hd, rfl, hx⟩ := am_ok3 hok
    obtain ⟨v, r, rfl, h1, hs⟩ := am_pV.inv hs
    exact lv_dup hexec hb hd ((am_cv_cat ad v).trans h1) (hk _ _ _ _ _ _ _ hs hI hl)
  case pop =>
    obtain ⟨hd, rfl, hx⟩ := am_ok3 hok
    obtain ⟨v, r, rfl, h1, hs⟩ := am_pV.inv hs
    exact lv_pop hexec hb hd ((am_cv_cat ad v).trans h1) (hk _ _ _ _ _ _ _ hs hI hl)
  case dup2 =>
    obtain ⟨hd, rfl, hx⟩ := am_ok3 hok
    obtain ⟨v, r, rfl, hs⟩ := am_pV.inv hs
    obtain ⟨w, r, rfl, h1, h2, hs⟩ := am_pV.inv hs
    exact lv_dup2_11 hexec hb hd ((am_cv_cat ad v).trans h1) ((am_cv_cat ad w).trans h2) (hk _ _ _ _ _ _ _ hs hI hl)
  case goto o =>
    obtain ⟨hd, rfl, hx⟩ := am_ok3 hok
    exact lv_goto hexec hb hd (of_decide_eq_true hx) (hk _ _ _ _ _ _ _ hs hI hl)
  case if_icmp q o =>
    obtain ⟨hd, rfl, hx⟩ := am_ok3 hok
    obtain ⟨y, r, rfl, hs⟩ := am_pI.inv hs
    obtain ⟨x, r, rfl, hs⟩ := am_pI.inv hs
    have ht := of_decide_eq_true hx
    cases q
    case eq => exact lv_icmp_eq hexec hb hd ht (fun q => hk _ _ _ _ _ _ _ (hs.1 q) hI hl) (fun q => hk _ _ _ _ _ _ _ (hs.2 q) hI hl)
    case ne => exact lv_icmp_ne hexec hb hd ht (fun q => hk _ _ _ _ _ _ _ (hs.1 q) hI hl) (fun q => hk _ _ _ _ _ _ _ (hs.2 (fun z => z q)) hI hl)
    case lt => exact lv_icmp_lt hexec hb hd ht (fun q => hk _ _ _ _ _ _ _ (hs.1 q) hI hl) (fun q => hk _ _ _ _ _ _ _ (hs.2 q) hI hl)
    case ge => exact lv_icmp_ge hexec hb hd ht (fun q => hk _ _ _ _ _ _ _ (hs.1 q) hI hl) (fun q => hk _ _ _ _ _ _ _ (hs.2 q) hI hl)
    case gt => exact lv_icmp_gt hexec hb hd ht (fun q => hk _ _ _ _ _ _ _ (hs.1 q) hI hl) (fun q => hk _ _ _ _ _ _ _ (hs.2 q) hI hl)
    case le => exact lv_icmp_le hexec hb hd ht (fun q => hk _ _ _ _ _ _ _ (hs.1 q) hI hl) (fun q => hk _ _ _ _ _ _ _ (hs.2 q) hI hl)
  case ifCond q o =>
    obtain ⟨hd, rfl, hx⟩ := am_ok3 hok
    obtain ⟨x, r, rfl, hs⟩ := am_pI.inv hs
    have ht := of_decide_eq_true hx
    cases q
    case eq => exact lv_if_eq hexec hb hd ht (fun q => hk _ _ _ _ _ _ _ (hs.1 q) hI hl) (fun q => hk _ _ _ _ _ _ _ (hs.2 q) hI hl)
    case ne => exact lv_if_ne hexec hb hd ht (fun q => hk _ _ _ _ _ _ _ (hs.1 q) hI hl) (fun q => hk _ _ _ _ _ _ _ (hs.2 (fun z => z q)) hI hl)
    case lt => exact lv_if_lt hexec hb hd ht (fun q => hk _ _ _ _ _ _ _ (hs.1 q) hI hl) (fun q => hk _ _ _ _ _ _ _ (hs.2 q) hI hl)
    case ge => exact lv_if_ge hexec hb hd ht (fun q => hk _ _ _ _ _ _ _ (hs.1 q) hI hl) (fun q => hk _ _ _ _ _ _ _ (hs.2 q) hI hl)
    case gt => exact lv_if_gt hexec hb hd ht (fun q => hk _ _ _ _ _ _ _ (hs.1 q) hI hl) (fun q => hk _ _ _ _ _ _ _ (hs.2 q) hI hl)
    case le => exact lv_if_le hexec hb hd ht (fun q => hk _ _ _ _ _ _ _ (hs.1 q) hI hl) (fun q => hk _ _ _ _ _ _ _ (hs.2 q) hI hl)
  case ldc2_w k =>
    obtain ⟨hd, rfl, hx⟩ := am_ok3 hok
    have h1 : (am_cl[c']?).map (fun q => (q.1, q.2.1)) = some (own, k) := of_decide_eq_true hx
    cases hq : am_cl[c']? with
    | none => rw [hq] at h1; cases h1
    | some q =>
      rw [hq] at h1
      obtain ⟨q1, q2, q3⟩ := q
      have h1 := Option.some.inj h1
      have e1 : q1 = own := congrArg Prod.fst h1
      have e2 : q2 = k := congrArg Prod.snd h1
      subst e1
      subst e2
      have hv : am_kl c' = q3 := by simp [am_kl, hq]
      refine lv_ldc2 hexec hb hown (hts _ (am_gw_cl hq)) hd ?_
      rw [← hv]
      exact hk _ _ _ _ _ _ _ hs hI hl
  case ldc_w k =>
    obtain ⟨hd, rfl, hx⟩ := am_ok3 hok
    have hx : (!(Nat.beq b' 1) && decide ((am_ci[c']?).map (fun q => (q.1, q.2.1)) = some (own, k))) = true := hx
    have hs2 : (bif Nat.beq b' 1 then K (pc + 3) lv (.ref (4000000 + c') :: st) h else K (pc + 3) lv (.int (am_ki c') :: st) h) := hs
    rw [Bool.and_eq_true] at hx
    obtain ⟨hx0, hx⟩ := hx
    cases hb1 : Nat.beq b' 1 with
    | true => rw [hb1] at hx0; cases hx0
    | false =>
      rw [hb1] at hs2
      have h1 : (am_ci[c']?).map (fun q => (q.1, q.2.1)) = some (own, k) := of_decide_eq_true hx
      cases hq : am_ci[c']? with
      | none => rw [hq] at h1; cases h1
      | some q =>
        rw [hq] at h1
        obtain ⟨q1, q2, q3⟩ := q
        have h1 := Option.some.inj h1
        have e1 : q1 = own := congrArg Prod.fst h1
        have e2 : q2 = k := congrArg Prod.snd h1
        subst e1
        subst e2
        have hv : am_ki c' = q3 := by simp [am_ki, hq]
        refine lv_ldcw hexec hb hown (hts _ (am_gw_ci hq)) hd ?_
        rw [← hv]
        exact hk _ _ _ _ _ _ _ hs2 hI hl
  case ldc k =>
    obtain ⟨hd, rfl, hx⟩ := am_ok3 hok
    have hx : (bif Nat.beq b' 1 then decide ((am_stt[c']?).map (fun q => (q.1, q.2.1)) = some (own, k)) else decide ((am_ci[c']?).map (fun q => (q.1, q.2.1)) = some (own, k))) = true := hx
    have hs2 : (bif Nat.beq b' 1 then K (pc + 2) lv (.ref (4000000 + c') :: st) h else K (pc + 2) lv (.int (am_ki c') :: st) h) := hs
    cases hb1 : Nat.beq b' 1 with
    | true =>
      rw [hb1] at hs2 hx
      have h1 : (am_stt[c']?).map (fun q => (q.1, q.2.1)) = some (own, k) := of_decide_eq_true hx
      cases hq : am_stt[c']? with
      | none => rw [hq] at h1; cases h1
      | some q =>
        rw [hq] at h1
        obtain ⟨q1, q2, q3⟩ := q
        have h1 := Option.some.inj h1
        have e1 : q1 = own := congrArg Prod.fst h1
        have e2 : q2 = k := congrArg Prod.snd h1
        subst e1
        subst e2
        exact va_ldcS hexec hb hown (hE.2.2.2.2.2.2.1 c' _ _ _ hq) hd (hk _ _ _ _ _ _ _ hs2 hI hl)
    | false =>
      rw [hb1] at hs2 hx
      have h1 : (am_ci[c']?).map (fun q => (q.1, q.2.1)) = some (own, k) := of_decide_eq_true hx
      cases hq : am_ci[c']? with
      | none => rw [hq] at h1; cases h1
      | some q =>
        rw [hq] at h1
        obtain ⟨q1, q2, q3⟩ := q
        have h1 := Option.some.inj h1
        have e1 : q1 = own := congrArg Prod.fst h1
        have e2 : q2 = k := congrArg Prod.snd h1
        subst e1
        subst e2
        have hv : am_ki c' = q3 := by simp [am_ki, hq]
        refine lv_ldc hexec hb hown (hts _ (am_gw_ci hq)) hd ?_
        rw [← hv]
        exact hk _ _ _ _ _ _ _ hs2 hI hl
  case getstatic k =>
    obtain ⟨hd, rfl, hx⟩ := am_ok3 hok
    have hx : (Nat.beq b' 0 && decide (am_fl[c']? = some (own, k, "java/lang/String", "COMPACT_STRINGS", "Z"))) = true := hx
    have hs : (bif Nat.beq b' 1 then K (pc + 3) lv (.ref 6000000 :: st) h else K (pc + 3) lv (.int 1 :: st) h) := hs
    rw [Bool.and_eq_true, decide_eq_true_eq] at hx
    have e0 := Nat.eq_of_beq_eq_true hx.1
    rw [e0] at hs
    exact va_gets hexec hb hE.2.2.2.2.2.2.2.1 hI.2.1 hown (hts _ (am_gw_fl hx.2)) (fun x q => q) hd (hk _ _ _ _ _ _ _ hs hI hl)
  case i2b =>
    obtain ⟨hd, rfl, hx⟩ := am_ok3 hok
    obtain ⟨x, r, rfl, hs⟩ := am_pI.inv hs
    exact lv_i2b hexec hb hd rfl (hk _ _ _ _ _ _ _ hs hI hl)
  case tableswitch df lo hi os =>
    obtain ⟨x, r, rfl, hs⟩ := am_pI.inv hs
    have hok : ((match decode cc pc with
      | .ok (i', _) => decide (i' = .tableswitch df lo hi os)
      | _ => false) && (decide (0 ≤ (pc : Int) + df) && (os.toList.all (fun o => decide (0 ≤ (pc : Int) + o)) && decide ((os.size : Int) = hi - lo + 1)))) = true := hok
    simp only [Bool.and_eq_true, decide_eq_true_eq] at hok
    obtain ⟨h0, h1, h2, h3⟩ := hok
    have hd : ∃ len, decode cc pc = .ok (.tableswitch df lo hi os, len) := by
      split at h0
      · rename_i i' len hdd
        exact ⟨len, by rw [hdd, of_decide_eq_true h0]⟩
      · cases h0
    obtain ⟨len, hd⟩ := hd
    by_cases hx1 : x.toInt < lo ∨ hi < x.toInt
    · exact lv_tableOut hexec hb hd hx1 (Int.toNat_of_nonneg h1).symm (hk _ _ _ _ _ _ _ (hs.1 hx1) hI hl)
    · have hlo : ¬ x.toInt < lo := fun q => hx1 (Or.inl q)
      have hhi : ¬ hi < x.toInt := fun q => hx1 (Or.inr q)
      have hj : (x.toInt - lo).toNat < os.size := by omega
      have ho : os[(x.toInt - lo).toNat]? = some os[(x.toInt - lo).toNat] := Array.getElem?_eq_getElem hj
      have h5 : (0 : Int) ≤ (pc : Int) + os[(x.toInt - lo).toNat] := of_decide_eq_true (List.all_eq_true.mp h2 _ (by rw [Array.mem_toList_iff]; exact Array.getElem_mem hj))
      have h6 := hs.2 (x.toInt - lo).toNat (by omega) (by omega)
      rw [ho] at h6
      exact lv_tableIn hexec hb hd hlo hhi ho (Int.toNat_of_nonneg h5).symm (hk _ _ _ _ _ _ _ h6 hI hl)
  case lookupswitch df ps =>
    obtain ⟨x, r, rfl, hs⟩ := am_pI.inv hs
    have hok : ((match decode cc pc with
      | .ok (i', _) => decide (i' = .lookupswitch df ps)
      | _ => false) && (decide (0 ≤ (pc : Int) + df) && (ps.toList.all (fun o => decide (0 ≤ (pc : Int) + o.2)) && (ps.toList.zip (ps.toList.drop 1)).all (fun (a, next) => a.1 < next.1)))) = true := hok
    rw [Bool.and_eq_true, Bool.and_eq_true, Bool.and_eq_true] at hok
    obtain ⟨h0, h1, h2, h3⟩ := hok
    have h1 := of_decide_eq_true h1
    have hd : ∃ len, decode cc pc = .ok (.lookupswitch df ps, len) := by
      split at h0
      · rename_i i' len hdd
        exact ⟨len, by rw [hdd, of_decide_eq_true h0]⟩
      · cases h0
    obtain ⟨len, hd⟩ := hd
    have h6 : ∀ (z : Int) (l : List (Int × Int)), l.all (fun o => decide (0 ≤ (pc : Int) + o.2)) = true → (0 : Int) ≤ (pc : Int) + Op.lookupswitch.offset l df z := by
      intro z l
      induction l with
      | nil => intro _; exact h1
      | cons q r ih =>
        intro hq
        rw [List.all_cons, Bool.and_eq_true] at hq
        obtain ⟨q1, q2⟩ := q
        rw [Op.lookupswitch.offset_cons]
        split
        · exact of_decide_eq_true hq.1
        · exact ih hq.2
    exact lv_lookup hexec hb hd h3 rfl (Int.toNat_of_nonneg (h6 _ _ h2)).symm (hk _ _ _ _ _ _ _ hs hI hl)
  case getfield k =>
    obtain ⟨hd, rfl, hx⟩ := am_ok3 hok
    cases hb20 : Nat.beq b' 20 with
    | true =>
      have hx : (bif Nat.beq b' 20 then (Nat.beq a 0 && decide (am_fl[c']? = some (own, k, "java/lang/String", "value", "[B"))) || (Nat.beq a 1 && decide (am_fl[c']? = some (own, k, "java/lang/String", "coder", "B"))) else _) = true := hx
      have hs2 : (bif Nat.beq b' 20 then am_pR st fun o r => ∃ q : Nat, q < 26 ∧ o = 4000000 + q ∧ K (pc + 3) lv ((bif Nat.beq a 0 then .ref (5000000 + q) else .int 0) :: r) h else _) := hs
      rw [hb20] at hx hs2
      obtain ⟨o, r, e7, q, hq, e8, hs3⟩ := am_pR.inv hs2
      subst e8
      subst e7
      have hS9 : va_O "java/lang/String" (ad (4000000 + q)) (fun q => base ≤ q) s s.heap ∧ va_OF "java/lang/String" "coder" "B" (.int 0) (ad (4000000 + q)) (fun q => base ≤ q) s s.heap ∧ va_OF "java/lang/String" "value" "[B" (.ref (ad (5000000 + q))) (ad (4000000 + q)) (fun q => base ≤ q) s s.heap ∧ va_T .byte (ad (5000000 + q)) (am_sln.getD q 0) (fun j => .int ((am_sby.getD q []).getD j 0)) (fun q => base ≤ q) s s.heap := (hE.2.2.2.2.2.1 q hq).1 0 (by decide)
      rcases Bool.or_eq_true_iff.mp hx with hx | hx
      · rw [Bool.and_eq_true, decide_eq_true_eq] at hx
        rw [hx.1] at hs3
        exact vk_getf hexec hb hS9.2.2.1 hI.2.1 hown (hts _ (am_gw_fl hx.2)) (fun x q => q) hd (hk _ _ _ _ _ _ _ hs3 hI hl)
      · rw [Bool.and_eq_true, decide_eq_true_eq] at hx
        have e0 := Nat.eq_of_beq_eq_true hx.1
        rw [e0] at hs3
        exact vk_getf hexec hb hS9.2.1 hI.2.1 hown (hts _ (am_gw_fl hx.2)) (fun x q => q) hd (hk _ _ _ _ _ _ _ hs3 hI hl)
    | false =>
    have hx : (bif Nat.beq b' 20 then _ else decide (am_fl[c']? = some (own, k, (am_fd b' a).1, (am_fd b' a).2.1, (am_fd b' a).2.2.1)) && (decide (b' < 12) && decide (a < am_nf b'))) = true := hx
    have hs : (bif Nat.beq b' 20 then _ else am_pR st fun o r => am_sh h o = some (b', 0) ∧ K (pc + 3) lv (am_gv h b' a o :: r) h) := hs
    rw [hb20] at hx hs
    obtain ⟨h1, h2, h3⟩ := am_ok3 hx
    have h3 := of_decide_eq_true h3
    obtain ⟨o, r, rfl, hsh, hs⟩ := am_pR.inv hs
    have ho := am_obj hsh h2
    obtain ⟨C, T, N, e1, e2, e3, e4, e5, ty, e6, e7, e8⟩ := am_ci_ok b' h2
    have hlk : (Cond.fieldLink own k (T a).1 (T a).2.1 (T a).2.2.1).before args s = true := hts _ (am_gw_fl (by rw [← e4]; exact h1))
    exact va_get (ref := (T a).1) hexec hb hts e5 hown hE.1 hI.1 o ((am_cc_at ho).trans (by rw [am_cell_obj h2])) e1 a (by rw [← e2]; exact h3) hlk (fun x q => q) (am_fs_at h3) hd (hk _ _ _ _ _ _ _ hs hI hl)
  case putfield k =>
    obtain ⟨hd, rfl, hx⟩ := am_ok3 hok
    have hx : (decide (am_fl[c']? = some (own, k, (am_fd b' a).1, (am_fd b' a).2.1, (am_fd b' a).2.2.1)) && (decide (b' < 12) && (decide (a < am_nf b') && (!(am_fd b' a).2.2.2 || (ini && decide ((am_fd b' a).1 = own)))))) = true := hx
    simp only [Bool.and_eq_true, Bool.or_eq_true, decide_eq_true_eq, Bool.not_eq_true'] at hx
    obtain ⟨h1, h2, h3, h4⟩ := hx
    obtain ⟨C, T, N, e1, e2, e3, e4, e5, ty, e6, e7, e8⟩ := am_ci_ok b' h2
    have hlk : (Cond.fieldLink own k (T a).1 (T a).2.1 (T a).2.2.1).before args s = true := hts _ (am_gw_fl (by rw [← e4]; exact h1))
    have e9 := e8 a (by rw [← e2]; exact h3)
    have h4 : (am_fd b' a).2.2.2 = false ∨ ((am_fd b' a).2.2.2 = true ∧ ini = true ∧ (am_fd b' a).1 = own) := by
      cases hf : (am_fd b' a).2.2.2 with
      | false => exact Or.inl rfl
      | true =>
        rcases h4 with h4 | h4
        · rw [hf] at h4
          cases h4
        · exact Or.inr ⟨rfl, h4⟩
    unfold am_stp at hs
    dsimp only at hs
    split at hs
    · rename_i hkd
      obtain ⟨x, r1, rfl, hs1⟩ := am_pI.inv hs
      obtain ⟨o, r, rfl, hsh, hn, hf, hs2⟩ := am_pR.inv hs1
      have ho := am_obj hsh h2
      rcases h4 with h4 | h4
      · refine va_put (ref := (T a).1) hexec hb hts e5 ty e6 e7 hown hE.1 hI.1 (am_cc_D hI.2.2.2.1 hG.1) hI.2.1 o ((am_cc_at ho).trans (by rw [am_cell_obj h2])) e1 a (by rw [← e2]; exact h3) hlk (fun x q => q) (by rw [← e4]; exact h4) (e6 a (by rw [← e2]; exact h3)) (v := .int x) (by rw [← e9.2]; exact hn) (by rw [← e9.2]; exact hf) (by simp [h3]) hd (fun H1 locs1 hP1 hD1 hS1 => ?_)
        have hz := fun hI' => hk _ _ _ _ H1 locs1 _ hs2 hI' hl
        refine hz ⟨am_set_P ho rfl am_cell_oI ?_ hP1, hS1, hI.2.2.1.wI (am_sw_lt ho), hI.2.2.2.1, hI.2.2.2.2⟩
        rw [am_cell_obj h2, ← am_fs_set h3 (am_put_oI (x := x)), am_put_gv hkd]
        rfl
      · refine va_putF (ref := (T a).1) hexec hb hts e5 ty e6 e7 hown hE.1 hI.1 (am_cc_D hI.2.2.2.1 hG.1) hI.2.1 o ((am_cc_at ho).trans (by rw [am_cell_obj h2])) e1 a (by rw [← e2]; exact h3) hlk (fun x q => q) (by rw [← e4]; exact h4.1) (hini h4.2.1) (by rw [← e4]; exact h4.2.2) (e6 a (by rw [← e2]; exact h3)) (v := .int x) (by rw [← e9.2]; exact hn) (by rw [← e9.2]; exact hf) (by simp [h3]) hd (fun H1 locs1 hP1 hD1 hS1 => ?_)
        have hz := fun hI' => hk _ _ _ _ H1 locs1 _ hs2 hI' hl
        refine hz ⟨am_set_P ho rfl am_cell_oI ?_ hP1, hS1, hI.2.2.1.wI (am_sw_lt ho), hI.2.2.2.1, hI.2.2.2.2⟩
        rw [am_cell_obj h2, ← am_fs_set h3 (am_put_oI (x := x)), am_put_gv hkd]
        rfl
    · rename_i hkd
      obtain ⟨x, r1, rfl, hs1⟩ := am_pL.inv hs
      obtain ⟨o, r, rfl, hsh, hs2⟩ := am_pR.inv hs1
      have ho := am_obj hsh h2
      have hty : ty a = .long := by
        rw [hkd] at e9
        revert e9
        cases ty a <;> intro e9 <;> first | rfl | (exact absurd e9.1 (fun q => by cases q))
      rcases h4 with h4 | h4
      · refine va_put (ref := (T a).1) hexec hb hts e5 ty e6 e7 hown hE.1 hI.1 (am_cc_D hI.2.2.2.1 hG.1) hI.2.1 o ((am_cc_at ho).trans (by rw [am_cell_obj h2])) e1 a (by rw [← e2]; exact h3) hlk (fun x q => q) (by rw [← e4]; exact h4) (e6 a (by rw [← e2]; exact h3)) (v := .long x) (by rw [hty]; rfl) (by rw [hty]; rfl) (by simp [h3]) hd (fun H1 locs1 hP1 hD1 hS1 => ?_)
        have hz := fun hI' => hk _ _ _ _ H1 locs1 _ hs2 hI' hl
        refine hz ⟨am_set_P ho rfl am_cell_oL ?_ hP1, hS1, hI.2.2.1.wL, hI.2.2.2.1, hI.2.2.2.2⟩
        rw [am_cell_obj h2, ← am_fs_set h3 (am_put_oL (x := x)), am_put_gvL hkd]
        rfl
      · refine va_putF (ref := (T a).1) hexec hb hts e5 ty e6 e7 hown hE.1 hI.1 (am_cc_D hI.2.2.2.1 hG.1) hI.2.1 o ((am_cc_at ho).trans (by rw [am_cell_obj h2])) e1 a (by rw [← e2]; exact h3) hlk (fun x q => q) (by rw [← e4]; exact h4.1) (hini h4.2.1) (by rw [← e4]; exact h4.2.2) (e6 a (by rw [← e2]; exact h3)) (v := .long x) (by rw [hty]; rfl) (by rw [hty]; rfl) (by simp [h3]) hd (fun H1 locs1 hP1 hD1 hS1 => ?_)
        have hz := fun hI' => hk _ _ _ _ H1 locs1 _ hs2 hI' hl
        refine hz ⟨am_set_P ho rfl am_cell_oL ?_ hP1, hS1, hI.2.2.1.wL, hI.2.2.2.1, hI.2.2.2.2⟩
        rw [am_cell_obj h2, ← am_fs_set h3 (am_put_oL (x := x)), am_put_gvL hkd]
        rfl
    · rename_i hkd hkd1
      obtain ⟨x, r1, rfl, hs1⟩ := am_pR.inv hs
      obtain ⟨o, r, rfl, hsh, hs2⟩ := am_pR.inv hs1
      have ho := am_obj hsh h2
      have hty : (∃ n, ty a = .object n) ∨ ∃ t, ty a = .array t := by
        revert e9
        cases ty a <;> intro e9 <;> first | exact Or.inl ⟨_, rfl⟩ | exact Or.inr ⟨_, rfl⟩ | exact absurd e9.1 hkd | exact absurd e9.1 hkd1
      rcases h4 with h4 | h4
      · refine va_put (ref := (T a).1) hexec hb hts e5 ty e6 e7 hown hE.1 hI.1 (am_cc_D hI.2.2.2.1 hG.1) hI.2.1 o ((am_cc_at ho).trans (by rw [am_cell_obj h2])) e1 a (by rw [← e2]; exact h3) hlk (fun x q => q) (by rw [← e4]; exact h4) (e6 a (by rw [← e2]; exact h3)) (v := .ref (ad x)) (by rcases hty with ⟨n, q⟩ | ⟨n, q⟩ <;> rw [q] <;> rfl) (by rcases hty with ⟨n, q⟩ | ⟨n, q⟩ <;> rw [q] <;> rfl) (by simp [h3]) hd (fun H1 locs1 hP1 hD1 hS1 => ?_)
        have hz := fun hI' => hk _ _ _ _ H1 locs1 _ hs2 hI' hl
        refine hz ⟨am_set_P ho rfl am_cell_oR ?_ hP1, hS1, hI.2.2.1.wR, hI.2.2.2.1, hI.2.2.2.2⟩
        rw [am_cell_obj h2, ← am_fs_set h3 (am_put_oR (x := some x)), am_put_gvR hkd hkd1]
        rfl
      · refine va_putF (ref := (T a).1) hexec hb hts e5 ty e6 e7 hown hE.1 hI.1 (am_cc_D hI.2.2.2.1 hG.1) hI.2.1 o ((am_cc_at ho).trans (by rw [am_cell_obj h2])) e1 a (by rw [← e2]; exact h3) hlk (fun x q => q) (by rw [← e4]; exact h4.1) (hini h4.2.1) (by rw [← e4]; exact h4.2.2) (e6 a (by rw [← e2]; exact h3)) (v := .ref (ad x)) (by rcases hty with ⟨n, q⟩ | ⟨n, q⟩ <;> rw [q] <;> rfl) (by rcases hty with ⟨n, q⟩ | ⟨n, q⟩ <;> rw [q] <;> rfl) (by simp [h3]) hd (fun H1 locs1 hP1 hD1 hS1 => ?_)
        have hz := fun hI' => hk _ _ _ _ H1 locs1 _ hs2 hI' hl
        refine hz ⟨am_set_P ho rfl am_cell_oR ?_ hP1, hS1, hI.2.2.1.wR, hI.2.2.2.1, hI.2.2.2.2⟩
        rw [am_cell_obj h2, ← am_fs_set h3 (am_put_oR (x := some x)), am_put_gvR hkd hkd1]
        rfl
  case iaload =>
    obtain ⟨hd, rfl, hx⟩ := am_ok3 hok
    obtain ⟨i, r1, rfl, hs1⟩ := am_pI.inv hs
    obtain ⟨o, r, rfl, j, n, hsh, hj, rfl, hs2⟩ := am_pR.inv hs1
    rcases am_sh_cases hsh with ⟨rfl, hn⟩ | ho
    · have hnL : n = L := (congrArg Prod.snd hn).trans hI.2.2.1.1
      subst hnL
      have hA : ¬ am_A base b := fun q => absurd hG.2.2.1 (Nat.not_lt.mpr q)
      have e1 := hI.2.2.1.2 j hj
      rw [e1] at hs2
      have hs3 := hk _ _ _ _ _ _ _ hs2 hI hl
      show W p l e R s m args below meth c H locs (am_ce c0 h) (am_sc c0 h) Qw (F0 m pc ls (.int (nI j) :: .ref (ad 3000000) :: r.map (am_cv ad)))
      rw [hG.2.1]
      refine va_sld hexec hb hE.2.2.1 (Nat.lt_of_lt_of_le hG.2.2.1 hbase) hA hI.2.1 (vp_in_nI hj hG.2.2.2) hd ?_
      rw [nI_clamp (Nat.lt_trans hj hG.2.2.2)]
      exact hs3
    · have hn := am_lenlt ho
      refine va_iald hexec hb hE.1 hI.1 o 1 ((am_cc_at ho).trans (by rw [am_cell_i (Or.inr (Or.inl rfl))])) rfl (vp_in_nI hj hn) hd ?_
      rw [nI_clamp (Nat.lt_trans hj hn)]
      exact hk _ _ _ _ _ _ _ hs2 hI hl
  case caload =>
    obtain ⟨hd, rfl, hx⟩ := am_ok3 hok
    obtain ⟨i, r1, rfl, hs1⟩ := am_pI.inv hs
    obtain ⟨o, r, rfl, j, n, hsh, hj, rfl, hs2⟩ := am_pR.inv hs1
    rcases am_sh_cases hsh with ⟨rfl, hn⟩ | ho
    · exact absurd (show (12 : Nat) = 13 from congrArg Prod.fst hn) (by decide)
    · have hn := am_lenlt ho
      refine va_cald hexec hb hE.1 hI.1 o 0 ((am_cc_at ho).trans (by rw [am_cell_i (Or.inl rfl)])) rfl (vp_in_nI hj hn) hd ?_
      rw [nI_clamp (Nat.lt_trans hj hn)]
      exact hk _ _ _ _ _ _ _ hs2 hI hl
  case baload =>
    obtain ⟨hd, rfl, hx⟩ := am_ok3 hok
    obtain ⟨i, r1, rfl, hs1⟩ := am_pI.inv hs
    obtain ⟨o, r, rfl, ⟨j, n, hsh, hj, rfl, hs2⟩ | ⟨q, j, hq, rfl, hj, rfl, hs2⟩⟩ := am_pR.inv hs1
    rotate_left
    · have hS9 : va_O "java/lang/String" (ad (4000000 + q)) (fun q => base ≤ q) s s.heap ∧ va_OF "java/lang/String" "coder" "B" (.int 0) (ad (4000000 + q)) (fun q => base ≤ q) s s.heap ∧ va_OF "java/lang/String" "value" "[B" (.ref (ad (5000000 + q))) (ad (4000000 + q)) (fun q => base ≤ q) s s.heap ∧ va_T .byte (ad (5000000 + q)) (am_sln.getD q 0) (fun j => .int ((am_sby.getD q []).getD j 0)) (fun q => base ≤ q) s s.heap := (hE.2.2.2.2.2.1 q hq).1 0 (by decide)
      have hln : am_sln.getD q 0 < 2 ^ 31 := Nat.lt_of_le_of_lt (am_sln_le q) (by decide)
      refine va_tb hexec hb hS9.2.2.2 hI.2.1 (vp_in_nI hj hln) (v := .int ((am_sby.getD q []).getD j 0)) (by rw [nI_clamp (Nat.lt_trans hj hln)]) hd ?_
      exact hk _ _ _ _ _ _ _ hs2 hI hl
    rcases am_sh_cases hsh with ⟨rfl, hn⟩ | ho
    · exact absurd (show (15 : Nat) = 13 from congrArg Prod.fst hn) (by decide)
    · have hn := am_lenlt ho
      refine va_zald hexec hb hE.1 hI.1 o 3 ((am_cc_at ho).trans (by rw [am_cell_i (Or.inr (Or.inr rfl))])) rfl (vp_in_nI hj hn) hd ?_
      rw [nI_clamp (Nat.lt_trans hj hn)]
      exact hk _ _ _ _ _ _ _ hs2 hI hl
  case laload =>
    obtain ⟨hd, rfl, hx⟩ := am_ok3 hok
    obtain ⟨i, r1, rfl, hs1⟩ := am_pI.inv hs
    obtain ⟨o, r, rfl, j, n, hsh, hj, rfl, hs2⟩ := am_pR.inv hs1
    rcases am_sh_cases hsh with ⟨rfl, hn⟩ | ho
    · exact absurd (show (14 : Nat) = 13 from congrArg Prod.fst hn) (by decide)
    · have hn := am_lenlt ho
      refine va_lald hexec hb hE.1 hI.1 o 2 ((am_cc_at ho).trans (by rw [am_cell_l])) rfl (vp_in_nI hj hn) hd ?_
      rw [nI_clamp (Nat.lt_trans hj hn)]
      exact hk _ _ _ _ _ _ _ hs2 hI hl
  case aaload =>
    obtain ⟨hd, rfl, hx⟩ := am_ok3 hok
    obtain ⟨i, r1, rfl, hs1⟩ := am_pI.inv hs
    obtain ⟨o, r, rfl, j, n, hsh, hj, rfl, hs2⟩ := am_pR.inv hs1
    rcases hsh with hsh | hsh
    · rcases am_sh_cases hsh with ⟨rfl, hn⟩ | ho
      · exact absurd (show (16 : Nat) = 13 from congrArg Prod.fst hn) (by decide)
      · have hn := am_lenlt ho
        refine va_aldq hexec hb hE.1 hI.1 o 4 ((am_cc_at ho).trans (by rw [am_cell_r (Or.inl rfl)])) rfl (vp_in_nI hj hn) hd ?_
        rw [nI_clamp (Nat.lt_trans hj hn), ← am_rf_cv]
        exact hk _ _ _ _ _ _ _ hs2 hI hl
    · rcases am_sh_cases hsh with ⟨rfl, hn⟩ | ho
      · exact absurd (show (17 : Nat) = 13 from congrArg Prod.fst hn) (by decide)
      · have hn := am_lenlt ho
        refine va_aldq hexec hb hE.1 hI.1 o 5 ((am_cc_at ho).trans (by rw [am_cell_r (Or.inr rfl)])) rfl (vp_in_nI hj hn) hd ?_
        rw [nI_clamp (Nat.lt_trans hj hn), ← am_rf_cv]
        exact hk _ _ _ _ _ _ _ hs2 hI hl
  case iastore =>
    obtain ⟨hd, rfl, hx⟩ := am_ok3 hok
    obtain ⟨x, r1, rfl, hs0⟩ := am_pI.inv hs
    obtain ⟨i, r2, rfl, hs1⟩ := am_pI.inv hs0
    obtain ⟨o, r, rfl, j, n, ho, hj, rfl, hs2⟩ := am_pR.inv hs1
    have hn := am_lenlt ho
    refine va_iast hexec hb hE.1 hI.1 (am_cc_D hI.2.2.2.1 hG.1) hI.2.1 o 1 ((am_cc_at ho).trans (by rw [am_cell_i (Or.inr (Or.inl rfl))])) rfl (vp_in_nI hj hn) hd (fun H1 locs1 hP1 hD1 hS1 => ?_)
    rw [nI_clamp (Nat.lt_trans hj hn)] at hP1
    have hz := fun hI' => hk _ _ _ _ H1 locs1 _ hs2 hI' hl
    refine hz ⟨am_set_P ho rfl am_cell_oI ?_ hP1, hS1, hI.2.2.1.wI (am_sw_lt ho), hI.2.2.2.1, hI.2.2.2.2⟩
    rw [am_cell_i (Or.inr (Or.inl rfl)), am_wI_upd]
  case castore =>
    obtain ⟨hd, rfl, hx⟩ := am_ok3 hok
    obtain ⟨x, r1, rfl, hs0⟩ := am_pI.inv hs
    obtain ⟨i, r2, rfl, hs1⟩ := am_pI.inv hs0
    obtain ⟨o, r, rfl, j, n, ho, hj, rfl, hs2⟩ := am_pR.inv hs1
    have hn := am_lenlt ho
    refine va_cast hexec hb hE.1 hI.1 (am_cc_D hI.2.2.2.1 hG.1) hI.2.1 o 0 ((am_cc_at ho).trans (by rw [am_cell_i (Or.inl rfl)])) rfl (vp_in_nI hj hn) hd (fun H1 locs1 hP1 hD1 hS1 => ?_)
    rw [nI_clamp (Nat.lt_trans hj hn)] at hP1
    have hz := fun hI' => hk _ _ _ _ H1 locs1 _ hs2 hI' hl
    refine hz ⟨am_set_P ho rfl am_cell_oI ?_ hP1, hS1, hI.2.2.1.wI (am_sw_lt ho), hI.2.2.2.1, hI.2.2.2.2⟩
    rw [am_cell_i (Or.inl rfl), am_wI_upd]
  case bastore =>
    obtain ⟨hd, rfl, hx⟩ := am_ok3 hok
    obtain ⟨x, r1, rfl, hs0⟩ := am_pI.inv hs
    obtain ⟨i, r2, rfl, hs1⟩ := am_pI.inv hs0
    obtain ⟨o, r, rfl, j, n, ho, hj, rfl, hs2⟩ := am_pR.inv hs1
    have hn := am_lenlt ho
    refine va_zast hexec hb hE.1 hI.1 (am_cc_D hI.2.2.2.1 hG.1) hI.2.1 o 3 ((am_cc_at ho).trans (by rw [am_cell_i (Or.inr (Or.inr rfl))])) rfl (vp_in_nI hj hn) hd (fun H1 locs1 hP1 hD1 hS1 => ?_)
    rw [nI_clamp (Nat.lt_trans hj hn)] at hP1
    have hz := fun hI' => hk _ _ _ _ H1 locs1 _ hs2 hI' hl
    refine hz ⟨am_set_P ho rfl am_cell_oI ?_ hP1, hS1, hI.2.2.1.wI (am_sw_lt ho), hI.2.2.2.1, hI.2.2.2.2⟩
    rw [am_cell_i (Or.inr (Or.inr rfl)), am_wI_upd]
  case lastore =>
    obtain ⟨hd, rfl, hx⟩ := am_ok3 hok
    obtain ⟨x, r1, rfl, hs0⟩ := am_pL.inv hs
    obtain ⟨i, r2, rfl, hs1⟩ := am_pI.inv hs0
    obtain ⟨o, r, rfl, j, n, ho, hj, rfl, hs2⟩ := am_pR.inv hs1
    have hn := am_lenlt ho
    refine va_last hexec hb hE.1 hI.1 (am_cc_D hI.2.2.2.1 hG.1) hI.2.1 o 2 ((am_cc_at ho).trans (by rw [am_cell_l])) rfl (vp_in_nI hj hn) hd (fun H1 locs1 hP1 hD1 hS1 => ?_)
    rw [nI_clamp (Nat.lt_trans hj hn)] at hP1
    have hz := fun hI' => hk _ _ _ _ H1 locs1 _ hs2 hI' hl
    refine hz ⟨am_set_P ho rfl am_cell_oL ?_ hP1, hS1, hI.2.2.1.wL, hI.2.2.2.1, hI.2.2.2.2⟩
    rw [am_cell_l, am_wL_upd]
  case arraylength =>
    obtain ⟨hd, rfl, hx⟩ := am_ok3 hok
    obtain ⟨o, r, rfl, ⟨t, n, hsh, ht, hs1⟩ | ⟨q, hq, rfl, hs1⟩⟩ := am_pR.inv hs
    rotate_left
    · have hS9 : va_O "java/lang/String" (ad (4000000 + q)) (fun q => base ≤ q) s s.heap ∧ va_OF "java/lang/String" "coder" "B" (.int 0) (ad (4000000 + q)) (fun q => base ≤ q) s s.heap ∧ va_OF "java/lang/String" "value" "[B" (.ref (ad (5000000 + q))) (ad (4000000 + q)) (fun q => base ≤ q) s s.heap ∧ va_T .byte (ad (5000000 + q)) (am_sln.getD q 0) (fun j => .int ((am_sby.getD q []).getD j 0)) (fun q => base ≤ q) s s.heap := (hE.2.2.2.2.2.1 q hq).1 0 (by decide)
      exact va_tlen hexec hb hS9.2.2.2 hI.2.1 rfl hd (hk _ _ _ _ _ _ _ hs1 hI hl)
    rcases am_sh_cases hsh with ⟨rfl, hn⟩ | ho
    · have hnL : n = L := (congrArg Prod.snd hn).trans hI.2.2.1.1
      subst hnL
      have hA : ¬ am_A base b := fun q => absurd hG.2.2.1 (Nat.not_lt.mpr q)
      have hs2 := hk _ _ _ _ _ _ _ hs1 hI hl
      show W p l e R s m args below meth c H locs (am_ce c0 h) (am_sc c0 h) Qw (F0 m pc ls (.ref (ad 3000000) :: r.map (am_cv ad)))
      rw [hG.2.1]
      exact va_slen hexec hb hE.2.2.1 (Nat.lt_of_lt_of_le hG.2.2.1 hbase) hA hI.2.1 hd hs2
    · have ht2 : t = 12 ∨ t = 13 ∨ t = 14 ∨ t = 15 ∨ t = 16 ∨ t = 17 := am_ar h o t n ho ht
      rcases ht2 with rfl | rfl | rfl | rfl | rfl | rfl
      · exact va_alen (x := (n, .inl (h.1 o))) hexec hb hE.1 hI.1 o 0 ((am_cc_at ho).trans (by rw [am_cell_i (Or.inl rfl)])) rfl rfl hd (hk _ _ _ _ _ _ _ hs1 hI hl)
      · exact va_alen (x := (n, .inl (h.1 o))) hexec hb hE.1 hI.1 o 1 ((am_cc_at ho).trans (by rw [am_cell_i (Or.inr (Or.inl rfl))])) rfl rfl hd (hk _ _ _ _ _ _ _ hs1 hI hl)
      · exact va_alen (x := (n, .inr (.inl (h.2.1 o)))) hexec hb hE.1 hI.1 o 2 ((am_cc_at ho).trans (by rw [am_cell_l])) rfl rfl hd (hk _ _ _ _ _ _ _ hs1 hI hl)
      · exact va_alen (x := (n, .inl (h.1 o))) hexec hb hE.1 hI.1 o 3 ((am_cc_at ho).trans (by rw [am_cell_i (Or.inr (Or.inr rfl))])) rfl rfl hd (hk _ _ _ _ _ _ _ hs1 hI hl)
      · exact va_alen (x := (n, .inr (.inr (.inr (.inr (fun j => (h.2.2.1 o j).map ad)))))) hexec hb hE.1 hI.1 o 4 ((am_cc_at ho).trans (by rw [am_cell_r (Or.inl rfl)])) rfl rfl hd (hk _ _ _ _ _ _ _ hs1 hI hl)
      · exact va_alen (x := (n, .inr (.inr (.inr (.inr (fun j => (h.2.2.1 o j).map ad)))))) hexec hb hE.1 hI.1 o 5 ((am_cc_at ho).trans (by rw [am_cell_r (Or.inr rfl)])) rfl rfl hd (hk _ _ _ _ _ _ _ hs1 hI hl)
  case invokevirtual k =>
    obtain ⟨hd, rfl, hx⟩ := am_ok3 hok
    refine am_Wsz (fun hle => ?_)
    have hw := am_sizeq hG hsz hI hle
    have hx : (decide (am_ml[c']? = some (own, k, a)) && (bif Nat.beq d 20 then decide ((a, b') ∈ am_svl) else decide ((a, b', d) ∈ am_vls))) = true := hx
    rw [Bool.and_eq_true, decide_eq_true_eq] at hx
    obtain ⟨h1, h2⟩ := hx
    cases hd20 : Nat.beq d 20 with
    | true =>
      rw [hd20] at h2
      have h2 := of_decide_eq_true h2
      obtain ⟨v1, v2, v3, v4, v6, v7, v8, v9, v10⟩ := am_svl_at h2
      unfold am_stp at hs
      dsimp only at hs
      split at hs
      · rename_i As o r hpop
        obtain ⟨B, rfl, hB, rfl⟩ := am_pop_inv hpop
        rw [List.append_nil] at hs hpop
        obtain ⟨hrc, hcat, hlm, hcp⟩ := hs
        rcases hrc with ⟨hne, -⟩ | ⟨-, q, hq, rfl⟩
        · exact absurd (Nat.eq_of_beq_eq_true hd20) hne
        obtain ⟨dd, hM, hfr, hlo⟩ := hC _ _ _ _ hcp
        have hG2 : GoodIn am_gw (wsV own k "java/lang/String" (am_y a) (am_ws a)) := am_good_in (fun w hw => by
          unfold wsV at hw
          rcases List.mem_append.mp hw with q | q
          · simp only [List.mem_cons, List.not_mem_nil, or_false] at q
            rcases q with rfl | rfl | rfl | rfl
            · exact am_gw_ml h1 v10
            · exact am_gw_in v1
            · rw [← v4]; exact am_gw_se v2
            · rw [← v4]; exact am_gw_ii v6
          · exact am_ws_in v7 w q)
        have hrun := va_runV (p := p) (e := e) (below := below) (meth := meth) (locs := locs) (cells := am_ce c0 h) (slots := am_sc c0 h) (g := F0 m pc ls ((B.reverse ++ .ref (4000000 + q) :: r).map (am_cv ad))) (As := B.map (am_cv ad)) (rest := r.map (am_cv ad)) (b := ad (4000000 + q)) ⟨hexec, hb, hml, hown, hts⟩ hM (cwV (R := R) b' hts hG2 rfl rfl rfl ⟨v4, v9.1, v9.2, v3⟩ ⟨hfr, by show 8 + (am_nL a + 11) + 40 * dd ≤ R.locals; omega⟩) ⟨am_Pc.blind, vk_recv (adK := fun _ => ad (4000000 + q)) (i := 0) (hE.2.2.2.2.2.1 q hq) (by decide) hI.2.1, fun U hU hW => ⟨rfl, hE.warm hW (fun x9 g9 g8 => by rw [hU]; exact hI.2.1.2.1 x9 g9 g8) (Nat.lt_of_lt_of_le hG.2.2.1 hbase) (fun q => absurd hG.2.2.1 (Nat.not_lt.mpr q)), by rw [hU]; exact Nat.le_trans hbase hI.2.1.1, by rw [hU]; exact hI.1, hI.2.2.1, by rw [hU]; exact hw⟩⟩ rfl (by rw [List.length_map, hB]) hl.1 (by show (B.reverse ++ .ref (4000000 + q) :: r).map (am_cv ad) = _; rw [List.map_append, List.map_reverse]; rfl) (lv_room (by rw [List.map_map]; exact Nat.le_trans (Nat.le_of_eq (congrArg List.sum (List.map_congr_left (fun v _ => am_cv_cat ad v)))) hcat)) hd (am_fit hcs hI.2.2.2.2 hlm)
        refine am_call_go hrun hI.2.1 hI.2.2.2.2 (fun v h' H1 locs1 hk1 hI1 => ?_)
        have := hk _ _ _ _ _ _ _ hk1 hI1 hl
        rw [List.map_append] at this
        cases v <;> exact this
      · exact hs.elim
    | false =>
    rw [hd20] at h2
    have h2 := of_decide_eq_true h2
    obtain ⟨v1, v2, v3, v4, v5, v6, v7, v8, v9, v10⟩ := am_vls_at h2
    unfold am_stp at hs
    dsimp only at hs
    split at hs
    · rename_i As o r hpop
      obtain ⟨B, rfl, hB, rfl⟩ := am_pop_inv hpop
      rw [List.append_nil] at hs hpop
      obtain ⟨hrc, hcat, hlm, hcp⟩ := hs
      have hsh : am_sh h o = some (d, 0) := hrc.elim (fun z => z.2) (fun z => absurd z.1 (by omega))
      have ho := am_obj hsh v5
      obtain ⟨dd, hM, hfr, hlo⟩ := hC _ _ _ _ hcp
      obtain ⟨C, T, N, e1, e2, e3, e4, e5, ty, e6, e7, e8⟩ := am_ci_ok d v5
      have hG2 : GoodIn am_gw (wsV own k (am_cn d) (am_y a) (am_ws a)) := am_good_in (fun w hw => by
        unfold wsV at hw
        rcases List.mem_append.mp hw with q | q
        · simp only [List.mem_cons, List.not_mem_nil, or_false] at q
          rcases q with rfl | rfl | rfl | rfl
          · exact am_gw_ml h1 v10
          · exact am_gw_in v1
          · rw [v4]; exact am_gw_se v2
          · rw [v4]; exact am_gw_ii v6
        · exact am_ws_in v7 w q)
      have hrun := va_runV (p := p) (e := e) (below := below) (meth := meth) (locs := locs) (cells := am_ce c0 h) (slots := am_sc c0 h) (g := F0 m pc ls ((B.reverse ++ .ref o :: r).map (am_cv ad))) (As := B.map (am_cv ad)) (rest := r.map (am_cv ad)) (b := ad o) ⟨hexec, hb, hml, hown, hts⟩ hM (cwV (R := R) b' hts hG2 rfl rfl rfl ⟨v4.symm, v9.1, v9.2, v3⟩ ⟨hfr, by show 8 + (am_nL a + 11) + 40 * dd ≤ R.locals; omega⟩) ⟨am_Pc.blind, by rw [e3]; exact va_recv hE.1 hI.1 e1 ((am_cc_at ho).trans (by rw [am_cell_obj v5])), fun U hU hW => ⟨rfl, hE.warm hW (fun x9 g9 g8 => by rw [hU]; exact hI.2.1.2.1 x9 g9 g8) (Nat.lt_of_lt_of_le hG.2.2.1 hbase) (fun q => absurd hG.2.2.1 (Nat.not_lt.mpr q)), by rw [hU]; exact Nat.le_trans hbase hI.2.1.1, by rw [hU]; exact hI.1, hI.2.2.1, by rw [hU]; exact hw⟩⟩ rfl (by rw [List.length_map, hB]) hl.1 (by show (B.reverse ++ .ref o :: r).map (am_cv ad) = _; rw [List.map_append, List.map_reverse]; rfl) (lv_room (by rw [List.map_map]; exact Nat.le_trans (Nat.le_of_eq (congrArg List.sum (List.map_congr_left (fun v _ => am_cv_cat ad v)))) hcat)) hd (am_fit hcs hI.2.2.2.2 hlm)
      refine am_call_go hrun hI.2.1 hI.2.2.2.2 (fun v h' H1 locs1 hk1 hI1 => ?_)
      have := hk _ _ _ _ _ _ _ hk1 hI1 hl
      rw [List.map_append] at this
      cases v <;> exact this
    · exact hs.elim
  case invokestatic k =>
    obtain ⟨hd, rfl, hx⟩ := am_ok3 hok
    refine am_Wsz (fun hle => ?_)
    have hw := am_sizeq hG hsz hI hle
    have hx : ((bif Nat.beq d 1 then decide (am_nl[c']? = some (own, k, a)) else decide (am_ml[c']? = some (own, k, a))) && decide ((a, b') ∈ am_sls)) = true := hx
    rw [Bool.and_eq_true] at hx
    obtain ⟨h1, h2⟩ := hx
    have h2 := of_decide_eq_true h2
    obtain ⟨v1, v3, v6, v7, v8, v9, v10⟩ := am_sls_at h2
    unfold am_stp at hs
    dsimp only at hs
    split at hs
    · rename_i As r hpop
      obtain ⟨B, rfl, hB, rfl⟩ := am_pop_inv hpop
      rw [List.append_nil] at hs hpop
      obtain ⟨hcat, hlm, hcp⟩ := hs
      obtain ⟨dd, hM, hfr, hlo⟩ := hC _ _ _ _ hcp
      have hpc : PreS s H (am_Pc D cA ad base b L xs B h) (B.map (am_cv ad)) := ⟨am_Pc.blind, fun U hU hW => ⟨rfl, hE.warm hW (fun x9 g9 g8 => by rw [hU]; exact hI.2.1.2.1 x9 g9 g8) (Nat.lt_of_lt_of_le hG.2.2.1 hbase) (fun q => absurd hG.2.2.1 (Nat.not_lt.mpr q)), by rw [hU]; exact Nat.le_trans hbase hI.2.1.1, by rw [hU]; exact hI.1, hI.2.2.1, by rw [hU]; exact hw⟩⟩
      have hstk : (F0 m pc ls ((B.reverse ++ r).map (am_cv ad))).stack = (B.map (am_cv ad)).reverse ++ r.map (am_cv ad) := by show (B.reverse ++ r).map (am_cv ad) = _; rw [List.map_append, List.map_reverse]
      have hroom : 2 * (F0 m pc ls ((B.reverse ++ r).map (am_cv ad))).monitorRoom + ((r.map (am_cv ad)).map fun v => v.category).sum ≤ 8 := lv_room (by rw [List.map_map]; exact Nat.le_trans (Nat.le_of_eq (congrArg List.sum (List.map_congr_left (fun v _ => am_cv_cat ad v)))) hcat)
      have hrun : va_Run p l e R s m args below meth c H locs (am_ce c0 h) (am_sc c0 h) (am_al a) (am_ms a h) (F0 m pc ls ((B.reverse ++ r).map (am_cv ad))) (r.map (am_cv ad)) (am_Qc D cA ad base L xs (fun v h' => h'.2.2.2.2 = h.2.2.2.2 + am_al a ∧ K (pc + am_len (.invokestatic k)) lv (v.toList ++ r) h') (B.map (am_cv ad)).toArray) (am_A base) := by
        cases hq : Nat.beq d 1 with
        | true =>
          rw [hq] at h1
          have h1 : am_nl[c']? = some (own, k, a) := of_decide_eq_true h1
          exact va_runSN ⟨hexec, hb, hml, hown, hts⟩ hM ⟨va_cnB (R := R) b' hts (am_good_in (am_ws_in v7)) rfl rfl rfl (hE.2.1 c' k a own h1) (hts _ (am_gw_ii v6)) ⟨v9.1, v9.2, v3⟩ ⟨hfr, by show 8 + (am_nL a + 11) + 40 * dd ≤ R.locals; omega⟩, hts _ (am_gw_st v1), trivial⟩ hpc rfl (by rw [List.length_map, hB]) hl.1 hstk hroom hd (am_fit hcs hI.2.2.2.2 hlm)
        | false =>
          rw [hq] at h1
          have h1 : am_ml[c']? = some (own, k, a) := of_decide_eq_true h1
          have hG2 : GoodIn am_gw (va_wsS own k (am_y a) (am_ws a)) := am_good_in (fun w hw => by
            unfold va_wsS at hw
            rcases List.mem_append.mp hw with q | q
            · simp only [List.mem_cons, List.not_mem_nil, or_false] at q
              rcases q with rfl | rfl | rfl
              · exact am_gw_ml h1 v10
              · exact am_gw_st v1
              · exact am_gw_ii v6
            · exact am_ws_in v7 w q)
          exact va_runS ⟨hexec, hb, hml, hown, hts⟩ hM (va_cwS (R := R) b' hts hG2 rfl rfl rfl ⟨v9.1, v9.2, v3⟩ ⟨hfr, by show 8 + (am_nL a + 11) + 40 * dd ≤ R.locals; omega⟩) hpc rfl (by rw [List.length_map, hB]) hl.1 hstk hroom hd (am_fit hcs hI.2.2.2.2 hlm)
      refine am_call_go hrun hI.2.1 hI.2.2.2.2 (fun v h' H1 locs1 hk1 hI1 => ?_)
      have := hk _ _ _ _ _ _ _ hk1 hI1 hl
      rw [List.map_append] at this
      cases v <;> exact this
    · exact hs.elim
  case aastore =>
    obtain ⟨hd, rfl, hx⟩ := am_ok3 hok
    obtain ⟨x, r1, rfl, hs0⟩ := am_pR.inv hs
    obtain ⟨i, r2, rfl, hs1⟩ := am_pI.inv hs0
    obtain ⟨o, r, rfl, j, n, hoo, hj, rfl, hs2⟩ := am_pR.inv hs1
    rcases hoo with ⟨ho, hox⟩ | ⟨ho, hox⟩
    · have hn := am_lenlt ho
      have h2 : 5 < 12 := by decide
      refine va_astq (r := (RX5, TX5, 4)) hexec hb hE.1 hI.1 (am_cc_D hI.2.2.2.1 hG.1) hI.2.1 o 4 x 5 ((am_cc_at ho).trans (by rw [am_cell_r (Or.inl rfl)])) rfl ((am_cc_at hox).trans (by rw [am_cell_obj h2])) rfl (vp_in_nI hj hn) hd (fun H1 locs1 hP1 hD1 hS1 => ?_)
      rw [nI_clamp (Nat.lt_trans hj hn)] at hP1
      have hz := fun hI' => hk _ _ _ _ H1 locs1 _ hs2 hI' hl
      refine hz ⟨am_set_P ho rfl am_cell_oR ?_ hP1, hS1, hI.2.2.1.wR, hI.2.2.2.1, hI.2.2.2.2⟩
      rw [am_cell_r (Or.inl rfl), am_wR_upd]
    · have hn := am_lenlt ho
      have h2 : 6 < 12 := by decide
      refine va_astq (r := (RX6, TX6, 6)) hexec hb hE.1 hI.1 (am_cc_D hI.2.2.2.1 hG.1) hI.2.1 o 5 x 6 ((am_cc_at ho).trans (by rw [am_cell_r (Or.inr rfl)])) rfl ((am_cc_at hox).trans (by rw [am_cell_obj h2])) rfl (vp_in_nI hj hn) hd (fun H1 locs1 hP1 hD1 hS1 => ?_)
      rw [nI_clamp (Nat.lt_trans hj hn)] at hP1
      have hz := fun hI' => hk _ _ _ _ H1 locs1 _ hs2 hI' hl
      refine hz ⟨am_set_P ho rfl am_cell_oR ?_ hP1, hS1, hI.2.2.1.wR, hI.2.2.2.1, hI.2.2.2.2⟩
      rw [am_cell_r (Or.inr rfl), am_wR_upd]
  case new k =>
    obtain ⟨hd, rfl, hx⟩ := am_ok3 hok
    refine am_Wsz (fun hle => ?_)
    have hw := am_sizeq hG hsz hI hle
    have hx : (decide (am_ck[c']? = some (own, k, am_cn b')) && (decide (b' < 12) && decide (am_cn b' ∈ am_iiw))) = true := hx
    obtain ⟨h1, h2, h3⟩ := am_ok3 hx
    have h3 := of_decide_eq_true h3
    obtain ⟨he, hlm, hs1⟩ := hs
    obtain ⟨C, T, N, e1, e2, e3, e4, e5, ty, e6, e7, e8⟩ := am_ci_ok b' h2
    obtain ⟨⟨f1, f2⟩, f3, f4⟩ := am_fit1 hcs hI.2.2.2.2 he hlm
    have hsi : am_siz (b', 0) = N := by
      unfold am_siz
      have : Nat.blt b' 12 = true := Nat.ble_eq_true_of_le h2
      dsimp only
      rw [this]
      exact e2
    have hKn := hE.1.1 b' _ e1
    rw [hsi] at f2 f4
    rw [e3] at h1 h3
    have hia : (Cond.instantiable C N).before args s = true := by
      have q := List.all_eq_true.mp am_iaw_ok b' (List.mem_range.mpr h2)
      rw [e2, e3] at q
      exact hts _ (am_gw_ia (of_decide_eq_true q))
    have hlt := (List.getElem?_eq_some_iff.mp he).1
    have hads : H.size = ad h.2.2.2.2 := (hw.2 hlt).trans (hG.1 _ hlt).symm
    refine W.newcK hexec hb hown (hts _ (am_gw_ck h1)) hia (hts _ (am_gw_ii h3)) rfl hd f1 f2 hKn.2.1 rfl fun H1 kC hkC g1 z1 o1 => ?_
    rw [f3, f4]
    show W p l e R s m args below meth c H1 locs (am_ce c0 (am_nx h)) (am_sc c0 (am_nx h)) Qw (F0 m (pc + 3) ls (.ref H.size :: st.map (am_cv ad)))
    rw [hads]
    rw [hads] at g1
    refine hk _ _ _ _ _ _ _ hs1 (am_new_I hG hI he ?_ z1 o1) hl
    rw [am_cell_obj h2]
    refine ⟨_, e1, (u_born ty hts e5 hKn hkC g1 e6).to (fun j hj => ?_)⟩
    have hj2 : j < am_nf b' := by rw [e2]; exact hj
    have q := List.all_eq_true.mp (List.all_eq_true.mp am_dv_ok b' (List.mem_range.mpr h2)) j (List.mem_range.mpr hj2)
    have q := of_decide_eq_true q
    rw [(e8 j hj).2, ← am_gv_nx (ad := ad) (h := h)] at q
    rw [q]
    show _ = List.getD _ _ _
    rw [List.getD_eq_getElem?_getD, am_fs_at hj2]
    rfl
  case newarray t =>
    obtain ⟨hd, rfl, hx⟩ := am_ok3 hok
    refine am_Wsz (fun hle => ?_)
    have hw := am_sizeq hG hsz hI hle
    have hx : (Nat.beq b' (am_atc t) && Nat.ble b' 15) = true := hx
    rw [Bool.and_eq_true] at hx
    obtain ⟨i, r, rfl, n, he, rfl, hlm, hs2⟩ := am_pI.inv hs
    obtain ⟨⟨f1, f2⟩, f3, f4⟩ := am_fit1 hcs hI.2.2.2.2 he hlm
    have hbig := am_big_sh _ (List.mem_of_getElem? he)
    dsimp only at hbig
    have hn := am_len_sh _ (List.mem_of_getElem? he)
    dsimp only at hn
    have hn0 : ¬ nI n < 0 := nI_pos hn
    have hnc := nI_clamp hn
    have hlt := (List.getElem?_eq_some_iff.mp he).1
    have hads : H.size = ad h.2.2.2.2 := (hw.2 hlt).trans (hG.1 _ hlt).symm
    have hsi : 12 ≤ b' → am_siz (b', n) = n := by
      intro q
      unfold am_siz
      have : Nat.blt b' 12 = false := by
        cases hz : Nat.blt b' 12 with
        | false => rfl
        | true => exact absurd (Nat.le_of_ble_eq_true hz) (by omega)
      dsimp only
      rw [this]
      rfl
    have h12 : 12 ≤ b' := by
      have q := Nat.eq_of_beq_eq_true hx.1
      rw [q]
      cases t <;> decide
    rw [hsi h12] at f2 f4
    cases t
    case char =>
      have hbb : b' = 12 := Nat.eq_of_beq_eq_true hx.1
      subst hbb
      have hcA := (hE.1.2 0 _ rfl).2
      refine va_newaK (atype := .char) hexec hb (hts _ (by exact List.mem_filter.mpr ⟨am_ac_char, rfl⟩)) rfl hd rfl hn0 hnc (by show n * _ ≤ _; exact Nat.le_trans (Nat.mul_le_mul hbig (show componentBytes _ ≤ 8 by decide)) (by decide)) f1 f2 rfl fun H1 cA' g1 z1 o1 hAr hNm => ?_
      have hcc : cA' = cA 12 := Option.some.inj (hNm.symm.trans hcA)
      subst hcc
      rw [f3, f4]
      show W p l e R s m args below meth c H1 locs (am_ce c0 (am_nx h)) (am_sc c0 (am_nx h)) Qw (F0 m (pc + 2) ls (.ref H.size :: r.map (am_cv ad)))
      rw [hads]
      rw [hads] at g1
      refine hk _ _ _ _ _ _ _ hs2 (am_new_I hG hI he ?_ z1 o1) hl
      rw [am_cell_i (Or.inl rfl)]
      show H1[ad h.2.2.2.2]? = some (vp_cell _ _)
      rw [g1]
      simp [vp_cell, am_nx, defaultValue, newarray.typeOf]
    case int =>
      have hbb : b' = 13 := Nat.eq_of_beq_eq_true hx.1
      subst hbb
      have hcA := (hE.1.2 1 _ rfl).2
      refine va_newaK (atype := .int) hexec hb (hts _ (by exact List.mem_filter.mpr ⟨am_ac_int, rfl⟩)) rfl hd rfl hn0 hnc (by show n * _ ≤ _; exact Nat.le_trans (Nat.mul_le_mul hbig (show componentBytes _ ≤ 8 by decide)) (by decide)) f1 f2 rfl fun H1 cA' g1 z1 o1 hAr hNm => ?_
      have hcc : cA' = cA 13 := Option.some.inj (hNm.symm.trans hcA)
      subst hcc
      rw [f3, f4]
      show W p l e R s m args below meth c H1 locs (am_ce c0 (am_nx h)) (am_sc c0 (am_nx h)) Qw (F0 m (pc + 2) ls (.ref H.size :: r.map (am_cv ad)))
      rw [hads]
      rw [hads] at g1
      refine hk _ _ _ _ _ _ _ hs2 (am_new_I hG hI he ?_ z1 o1) hl
      rw [am_cell_i (Or.inr (Or.inl rfl))]
      show H1[ad h.2.2.2.2]? = some (vp_cell _ _)
      rw [g1]
      simp [vp_cell, am_nx, defaultValue, newarray.typeOf]
    case long =>
      have hbb : b' = 14 := Nat.eq_of_beq_eq_true hx.1
      subst hbb
      have hcA := (hE.1.2 2 _ rfl).2
      refine va_newaK (atype := .long) hexec hb (hts _ (by exact List.mem_filter.mpr ⟨am_ac_long, rfl⟩)) rfl hd rfl hn0 hnc (by show n * _ ≤ _; exact Nat.le_trans (Nat.mul_le_mul hbig (show componentBytes _ ≤ 8 by decide)) (by decide)) f1 f2 rfl fun H1 cA' g1 z1 o1 hAr hNm => ?_
      have hcc : cA' = cA 14 := Option.some.inj (hNm.symm.trans hcA)
      subst hcc
      rw [f3, f4]
      show W p l e R s m args below meth c H1 locs (am_ce c0 (am_nx h)) (am_sc c0 (am_nx h)) Qw (F0 m (pc + 2) ls (.ref H.size :: r.map (am_cv ad)))
      rw [hads]
      rw [hads] at g1
      refine hk _ _ _ _ _ _ _ hs2 (am_new_I hG hI he ?_ z1 o1) hl
      rw [am_cell_l]
      show H1[ad h.2.2.2.2]? = some (vp_cell _ _)
      rw [g1]
      simp [vp_cell, am_nx, defaultValue, newarray.typeOf]
    case boolean =>
      have hbb : b' = 15 := Nat.eq_of_beq_eq_true hx.1
      subst hbb
      have hcA := (hE.1.2 3 _ rfl).2
      refine va_newaK (atype := .boolean) hexec hb (hts _ (by exact List.mem_filter.mpr ⟨am_ac_boolean, rfl⟩)) rfl hd rfl hn0 hnc (by show n * _ ≤ _; exact Nat.le_trans (Nat.mul_le_mul hbig (show componentBytes _ ≤ 8 by decide)) (by decide)) f1 f2 rfl fun H1 cA' g1 z1 o1 hAr hNm => ?_
      have hcc : cA' = cA 15 := Option.some.inj (hNm.symm.trans hcA)
      subst hcc
      rw [f3, f4]
      show W p l e R s m args below meth c H1 locs (am_ce c0 (am_nx h)) (am_sc c0 (am_nx h)) Qw (F0 m (pc + 2) ls (.ref H.size :: r.map (am_cv ad)))
      rw [hads]
      rw [hads] at g1
      refine hk _ _ _ _ _ _ _ hs2 (am_new_I hG hI he ?_ z1 o1) hl
      rw [am_cell_i (Or.inr (Or.inr rfl))]
      show H1[ad h.2.2.2.2]? = some (vp_cell _ _)
      rw [g1]
      simp [vp_cell, am_nx, defaultValue, newarray.typeOf]
    all_goals exact absurd (Nat.le_of_ble_eq_true hx.2) (by rw [Nat.eq_of_beq_eq_true hx.1]; decide)
  case anewarray k =>
    obtain ⟨hd, rfl, hx⟩ := am_ok3 hok
    refine am_Wsz (fun hle => ?_)
    have hw := am_sizeq hG hsz hI hle
    have hx : ((Nat.beq b' 16 && decide (am_ck[c']? = some (own, k, "MistCanton$Mark"))) || (Nat.beq b' 17 && decide (am_ck[c']? = some (own, k, "MistCanton$State")))) = true := hx
    rw [Bool.or_eq_true, Bool.and_eq_true, Bool.and_eq_true] at hx
    obtain ⟨i, r, rfl, n, he, rfl, hlm, hs2⟩ := am_pI.inv hs
    obtain ⟨⟨f1, f2⟩, f3, f4⟩ := am_fit1 hcs hI.2.2.2.2 he hlm
    have hbig := am_big_sh _ (List.mem_of_getElem? he)
    dsimp only at hbig
    have hn := am_len_sh _ (List.mem_of_getElem? he)
    dsimp only at hn
    have hn0 : ¬ nI n < 0 := nI_pos hn
    have hnc := nI_clamp hn
    have hlt := (List.getElem?_eq_some_iff.mp he).1
    have hads : H.size = ad h.2.2.2.2 := (hw.2 hlt).trans (hG.1 _ hlt).symm
    rcases hx with hx | hx
    · have hbb : b' = 16 := Nat.eq_of_beq_eq_true hx.1
      subst hbb
      have h1 := of_decide_eq_true hx.2
      obtain ⟨kA0, comp0, -, -, -, hcA⟩ := (hE.1.2 4 _ rfl).2
      rw [show am_siz (16, n) = n from rfl] at f2 f4
      refine W.anew (C := "MistCanton$Mark") hexec hb hown (hts _ (am_gw_ck h1)) (va_AO.use hE.2.2.2.1) rfl hd rfl hn0 (by rw [hnc]; exact Nat.le_trans (Nat.mul_le_mul_right 4 hbig) (by decide)) f1 (by rw [hnc]; exact f2) fun cA' kA comp k1 k2 k3 k4 => ?_
      have hcc : cA' = cA 16 := Option.some.inj (k1.symm.trans hcA)
      subst hcc
      rw [hnc, f3, f4]
      generalize hH1 : H.push ({ cls := cA 16, slots := Array.replicate n .null, vm := .none } : Cell) = H1
      have z1 : H1.size = H.size + 1 := by rw [← hH1, Array.size_push]
      have g1 : H1[H.size]? = some (arrV (cA 16) n (fun _ => .null)) := by rw [← hH1, Array.getElem?_push_size, ← arrV_new]
      have o1 : ∀ q : Nat, q < H.size → H1[q]? = H[q]? := fun q hq => by rw [← hH1, Array.getElem?_push, if_neg (Nat.ne_of_lt hq)]
      show W p l e R s m args below meth c H1 locs (am_ce c0 (am_nx h)) (am_sc c0 (am_nx h)) Qw (F0 m (pc + 3) ls (.ref H.size :: r.map (am_cv ad)))
      rw [hads]
      rw [hads] at g1
      refine hk _ _ _ _ _ _ _ hs2 (am_new_I hG hI he ?_ z1 o1) hl
      rw [am_cell_r (Or.inl rfl)]
      show H1[ad h.2.2.2.2]? = some (vp_cell _ _)
      rw [g1]
      simp [vp_cell, am_nx, va_rf]
    · have hbb : b' = 17 := Nat.eq_of_beq_eq_true hx.1
      subst hbb
      have h1 := of_decide_eq_true hx.2
      obtain ⟨kA0, comp0, -, -, -, hcA⟩ := (hE.1.2 5 _ rfl).2
      rw [show am_siz (17, n) = n from rfl] at f2 f4
      refine W.anew (C := "MistCanton$State") hexec hb hown (hts _ (am_gw_ck h1)) (va_AO.use hE.2.2.2.2.1) rfl hd rfl hn0 (by rw [hnc]; exact Nat.le_trans (Nat.mul_le_mul_right 4 hbig) (by decide)) f1 (by rw [hnc]; exact f2) fun cA' kA comp k1 k2 k3 k4 => ?_
      have hcc : cA' = cA 17 := Option.some.inj (k1.symm.trans hcA)
      subst hcc
      rw [hnc, f3, f4]
      generalize hH1 : H.push ({ cls := cA 17, slots := Array.replicate n .null, vm := .none } : Cell) = H1
      have z1 : H1.size = H.size + 1 := by rw [← hH1, Array.size_push]
      have g1 : H1[H.size]? = some (arrV (cA 17) n (fun _ => .null)) := by rw [← hH1, Array.getElem?_push_size, ← arrV_new]
      have o1 : ∀ q : Nat, q < H.size → H1[q]? = H[q]? := fun q hq => by rw [← hH1, Array.getElem?_push, if_neg (Nat.ne_of_lt hq)]
      show W p l e R s m args below meth c H1 locs (am_ce c0 (am_nx h)) (am_sc c0 (am_nx h)) Qw (F0 m (pc + 3) ls (.ref H.size :: r.map (am_cv ad)))
      rw [hads]
      rw [hads] at g1
      refine hk _ _ _ _ _ _ _ hs2 (am_new_I hG hI he ?_ z1 o1) hl
      rw [am_cell_r (Or.inr rfl)]
      show H1[ad h.2.2.2.2]? = some (vp_cell _ _)
      rw [g1]
      simp [vp_cell, am_nx, va_rf]
  case invokespecial k =>
    obtain ⟨hd, rfl, hx⟩ := am_ok3 hok
    refine am_Wsz (fun hle => ?_)
    have hw := am_sizeq hG hsz hI hle
    have hx : (decide (am_ml[c']? = some (own, k, a)) && ((Nat.beq a 1 && Nat.beq b' 0) || decide ((a, b') ∈ am_ils))) = true := hx
    rw [Bool.and_eq_true] at hx
    obtain ⟨h1, h2⟩ := hx
    have h1 := of_decide_eq_true h1
    unfold am_stp at hs
    dsimp only at hs
    split at hs
    · rename_i As o r hpop
      obtain ⟨B, rfl, hB, rfl⟩ := am_pop_inv hpop
      rw [List.append_nil] at hs hpop
      obtain ⟨hcat, hs⟩ := hs
      have hroom : 2 * (F0 m pc ls ((B.reverse ++ .ref o :: r).map (am_cv ad))).monitorRoom + ((r.map (am_cv ad)).map fun v => v.category).sum ≤ 8 := lv_room (by rw [List.map_map]; exact Nat.le_trans (Nat.le_of_eq (congrArg List.sum (List.map_congr_left (fun v _ => am_cv_cat ad v)))) hcat)
      cases hq1 : Nat.beq a 1 with
      | true =>
        rw [hq1] at hs
        obtain ⟨rfl, hs⟩ := hs
        have ha : a = 1 := Nat.eq_of_beq_eq_true hq1
        subst ha
        exact W.objInit hexec hb hown (hts _ (am_gw_ml h1 (by decide))) (hts _ (am_gw_in (by decide +kernel))) (hts _ (am_gw_code (n := 1) rfl)) rfl (hl.1.trans hml.symm) rfl hd hR1.1 (Nat.le_trans (Nat.add_le_add_right hroom 12) hR1.2) (hk _ _ _ _ _ _ _ hs hI hl)
      | false =>
        rw [hq1] at hs h2
        obtain ⟨hlm, hcp⟩ := hs
        have h2 : (a, b') ∈ am_ils := of_decide_eq_true h2
        obtain ⟨v1, v3, v4, v5, v6, v7, v8, v9, v10⟩ := am_ils_at h2
        obtain ⟨dd, hM, hfr, hlo⟩ := hC _ _ _ _ hcp
        have hpc : PreS s H (am_Pc D cA ad base b L xs (.ref o :: B) h) (.ref (ad o) :: B.map (am_cv ad)) := ⟨am_Pc.blind, fun U hU hW => ⟨rfl, hE.warm hW (fun x9 g9 g8 => by rw [hU]; exact hI.2.1.2.1 x9 g9 g8) (Nat.lt_of_lt_of_le hG.2.2.1 hbase) (fun q => absurd hG.2.2.1 (Nat.not_lt.mpr q)), by rw [hU]; exact Nat.le_trans hbase hI.2.1.1, by rw [hU]; exact hI.1, hI.2.2.1, by rw [hU]; exact hw⟩⟩
        have hstk : (F0 m pc ls ((B.reverse ++ .ref o :: r).map (am_cv ad))).stack = (B.map (am_cv ad)).reverse ++ .ref (ad o) :: r.map (am_cv ad) := by show (B.reverse ++ .ref o :: r).map (am_cv ad) = _; rw [List.map_append, List.map_reverse]; rfl
        have hrun := va_runI (p := p) (e := e) (below := below) (meth := meth) (locs := locs) (cells := am_ce c0 h) (slots := am_sc c0 h) (g := F0 m pc ls ((B.reverse ++ .ref o :: r).map (am_cv ad))) (As := B.map (am_cv ad)) (rest := r.map (am_cv ad)) (b := ad o) (R := R) ⟨hexec, hb, hml, hown, hts⟩ hM (cwI (R := R) b' hts (am_good_in (am_ws_in v7)) (by unfold am_ws; rw [v5]) rfl rfl (hts _ (am_gw_ii v6)) (hts _ (am_gw_ml h1 v10)) (hts _ (am_gw_in v1)) v4 ⟨v9.1, v9.2, v3⟩ ⟨hfr, by show 8 + (am_nL a + 11) + 40 * dd ≤ R.locals; omega⟩) hpc rfl (by rw [List.length_map, hB]) hl.1 hstk hroom hd (am_fit hcs hI.2.2.2.2 hlm)
        refine am_call_go hrun hI.2.1 hI.2.2.2.2 (fun v h' H1 locs1 hk1 hI1 => ?_)
        have := hk _ _ _ _ _ _ _ hk1 hI1 hl
        rw [List.map_append] at this
        cases v <;> exact this
    · exact hs.elim
  case ireturn =>
    obtain ⟨hd, rfl, hx⟩ := am_ok3 hok
    unfold am_stp at hs
    dsimp only at hs
    split at hs
    · rename_i x
      exact hq _ _ _ _ _ _ _ hs.2 hI (Or.inl ⟨x, rfl, rfl, hd, hs.1⟩)
    · exact hs.elim
  case lreturn =>
    obtain ⟨hd, rfl, hx⟩ := am_ok3 hok
    unfold am_stp at hs
    dsimp only at hs
    split at hs
    · rename_i x
      exact hq _ _ _ _ _ _ _ hs.2 hI (Or.inr (Or.inl ⟨x, rfl, rfl, hd, hs.1⟩))
    · exact hs.elim
  case return_ =>
    obtain ⟨hd, rfl, hx⟩ := am_ok3 hok
    unfold am_stp at hs
    dsimp only at hs
    split at hs
    · exact hq _ _ _ _ _ _ _ hs.2 hI (Or.inr (Or.inr ⟨rfl, rfl, hd, hs.1⟩))
    · exact hs.elim
  all_goals exact hs.elim
end
section
/-! THE ABSTRACT MACHINE'S CALLS ARE CONTRACTS -/
variable {p : Program} {l : Launch} {e : Env} {R : Room} {s : State} {m : MethodId} {args : Array Value} {below : List Frame} {meth : Method} {c : Code} {Qw : State → Prop} {D : va_G} {cA : Nat → ClassId} {ad : Nat → Nat} {base b L nL : Nat} {xs : Nat → Int32} {own : String} {cc : ByteArray} {cp : am_P} {rt : Option FieldType} {c0 lim : Nat} {ini : Bool}
theorem am_X_sound {cod : Nat → Option am_R} {E : Nat → am_V → List Value → am_H → Prop} {Q : am_Q} (F : am_Fx p s m args c D cA ad base b L xs own cc nL c0) (hC : am_Cs l R D cA ad base b L xs cp) (hcs : lim - c0 % 1000 + c0 / 1000 ≤ R.cells ∧ am_ss lim - am_ss (c0 % 1000) + 6 * (c0 / 1000) ≤ R.slots) (hR1 : 1 ≤ R.frames ∧ 20 ≤ R.locals) (hini : ini = true → meth.name = "<init>") (hcod : ∀ pc r, cod pc = some r → am_okB ini own cc pc r = true)
    (hE : am_Kw p l e R s m args below meth c c0 Qw D cA ad base L nL xs E) (hq : am_Qr p l e R s m args below meth c c0 Qw D cA ad base L xs cc rt Q) : am_Kw p l e R s m args below meth c c0 Qw D cA ad base L nL xs (am_X cp nL lim rt cod E Q) := by
  intro pc lv st h H locs ls hX hI hl
  refine hX (fun pc lv st h => ∀ H locs ls, am_Inv D cA ad base L xs s c0 h H locs → lv_has ls nL (am_cl2 ad lv) → W p l e R s m args below meth c H locs (am_ce c0 h) (am_sc c0 h) Qw (F0 m pc ls (st.map (am_cv ad)))) (fun pc lv st h he H locs ls hI hl => hE pc lv st h H locs ls he hI hl) ?_ H locs ls hI hl
  intro pc lv st h r K0 Q0 hc hs hK hQ H locs ls hI hl
  obtain ⟨i, nx, a, b', c', d⟩ := r
  exact am_sound1 F hC hcs hR1 hini hI hl (fun pc lv st h H locs ls k hI hl => hK pc lv st h k H locs ls hI hl) (fun v h H locs pc ls st q hI hr => hq v h H locs pc ls st (hQ v h q) hI hr) (hcod _ _ hc) hs
theorem am_sl_len (ad : Nat → Nat) (vs : List Value) : (lg_sl (vs.map (am_cv ad))).length = (lg_sl vs).length := by
  induction vs with
  | nil => rfl
  | cons v r ih =>
    simp only [lg_sl, List.map_cons, List.flatMap_cons, List.length_append, am_cv_cat] at ih ⊢
    rw [ih]
    by_cases hc : v.category = 2 <;> simp [hc]
theorem am_args_cl (ad : Nat → Nat) (vs : List Value) : ∀ i, lv_args i (vs.map (am_cv ad)) = am_cl2 ad (lv_args i vs) := by
  induction vs with
  | nil => intro i; rfl
  | cons v r ih =>
    intro i
    simp only [lv_args, List.map_cons, am_cv_cat, am_cl2]
    rw [ih]
    rfl
/-- String.checkIndex: its row of place 2 stands for a static whose value is told to a method that doesn't look at it -/
def am_47 : MethodName := ⟨"java/lang/String", "checkIndex", "(II)V"⟩
/-- rows of methods that are right -/
def am_Rok (cods : Nat → Nat → Option am_R) : Prop := ∀ n pc r, cods n pc = some r → plainFor (am_y n) = true ∧ ((am_y n = am_47 ∧ pc = 2) ∨ am_okB (decide ((am_y n).name = "<init>")) (am_y n).cls (am_by n) pc r = true)
theorem am_W_cod {cod : Nat → Option am_R} {Q : am_Q} {pc : Nat} {lv : am_V} {st : List Value} {h : am_H} (k : am_W cp nL lim rt cod Q pc lv st h) : ∃ r, cod pc = some r :=
  k (fun pc _ _ _ => ∃ r, cod pc = some r) (fun _ _ _ _ q => q.elim) (fun _ _ _ _ r _ _ hc _ _ _ => ⟨r, hc⟩)
def am_Mt (l : Launch) (D : va_G) (cA : Nat → ClassId) (ad : Nat → Nat) (base b L : Nat) (xs : Nat → Int32) (cods : Nat → Nat → Option am_R) (d : Nat) : Prop := ∀ n As h Q, am_call cods d n As h Q → ∃ d' : Nat, d' ≤ d ∧ Met l (am_y n) (am_ws n) (am_rm d' (am_al n) (am_ms n h)) (am_Pc D cA ad base b L xs As h) (am_Qc D cA ad base L xs (fun v h' => h'.2.2.2.2 = h.2.2.2.2 + am_al n ∧ Q v h')) (am_al n) (am_ms n h) (am_A base)
theorem am_Met7 {cods : Nat → Nat → Option am_R} (hrk : am_Rok cods) (hG : am_G ad base b L) (h47 : ∀ n, am_y n = am_47 → ∀ d, am_Mt l D cA ad base b L xs cods d → ∀ (As : List Value) (h : am_H) (Q : am_Q), (lg_sl As).length ≤ am_nL n → am_W (am_call cods d) (am_nL n) (h.2.2.2.2 + am_al n) (am_rt n) (cods n) (fun v h' => h'.2.2.2.2 = h.2.2.2.2 + am_al n ∧ Q v h') 0 (lv_args 0 As) [] h → Met l (am_y n) (am_ws n) (am_rm (d + 1) (am_al n) (am_ms n h)) (am_Pc D cA ad base b L xs As h) (am_Qc D cA ad base L xs (fun v h' => h'.2.2.2.2 = h.2.2.2.2 + am_al n ∧ Q v h')) (am_al n) (am_ms n h) (am_A base)) : ∀ d, am_Mt l D cA ad base b L xs cods d := by
  intro d
  induction d with
  | zero => intro n As h Q k; exact k.elim
  | succ d ih =>
    intro n As h Q k
    rcases k with k | ⟨hlen, hW⟩
    · obtain ⟨d', h1, h2⟩ := ih n As h Q k
      exact ⟨d', by omega, h2⟩
    · refine ⟨d + 1, Nat.le_refl _, ?_⟩
      by_cases hn47 : am_y n = am_47
      · exact h47 n hn47 d ih As h Q hlen hW
      obtain ⟨r0, hr0⟩ := am_W_cod hW
      have hy := (hrk n 0 r0 hr0).1
      refine va_MetF (cc := am_by n) (maxL := am_nL n) (ret := am_rt n) hy rfl ?_
      intro p e s m args below meth c s₁ B hml hv
      obtain ⟨rfl, hE, hbase, hP, hro, hwf⟩ := hv
      have hts := atoms_spec (ws := am_ws n) B.pre
      have hlen9 : h.2.2.2.2 ≤ 175 := by have := hwf.1; rw [am_shl_len] at this; exact this
      have hmod : h.2.2.2.2 % 1000 = h.2.2.2.2 := Nat.mod_eq_of_lt (by omega)
      have hdiv : h.2.2.2.2 / 1000 = 0 := Nat.div_eq_of_lt (by omega)
      have hnm : meth.name = (am_y n).name := (name_of_methodNamed B.named B.method).1
      have F : am_Fx p s m (As.map (am_cv ad)).toArray c D cA ad base b L xs (am_y n).cls (am_by n) (am_nL n) h.2.2.2.2 := ⟨B.exec, B.bytes, hml, findClass_of_methodNamed B.named, fun w hw => hts w (List.mem_cons_of_mem _ hw), hE, hbase, hG, by rw [hmod]; exact hwf.2⟩
      have hC : am_Cs l (am_rm (d + 1) (am_al n) (am_ms n h)) D cA ad base b L xs (am_call cods d) := by
        intro n' As' h' Q' k'
        obtain ⟨d', h1, h2⟩ := ih n' As' h' Q' k'
        exact ⟨d', h2, by show d' + 1 ≤ d + 1; omega, by show 40 + 40 * d' ≤ 40 * (d + 1); omega⟩
      have hl := lv_entry (As.map (am_cv ad)) (n := am_nL n) (by rw [am_sl_len]; exact hlen)
      rw [am_args_cl] at hl
      rw [lg_entry_eq]
      have key := am_X_sound (p := p) (e := e) (below := below) (meth := meth) (Qw := MQ below (am_Qc D cA ad base L xs (fun v h' => h'.2.2.2.2 = h.2.2.2.2 + am_al n ∧ Q v h')) (As.map (am_cv ad)).toArray s (am_al n) (am_ms n h) (am_A base)) (R := am_rm (d + 1) (am_al n) (am_ms n h)) (lim := h.2.2.2.2 + am_al n) (rt := am_rt n) (ini := decide ((am_y n).name = "<init>")) (E := fun _ _ _ _ => False) (Q := fun v h' => h'.2.2.2.2 = h.2.2.2.2 + am_al n ∧ Q v h') F hC ⟨by rw [hmod, hdiv]; show h.2.2.2.2 + am_al n - h.2.2.2.2 + 0 ≤ am_al n; omega, by rw [hmod, hdiv]; exact Nat.le_refl _⟩ ⟨by show 1 ≤ d + 1; omega, by show 20 ≤ 40 * (d + 1); omega⟩ (fun q => hnm.trans (of_decide_eq_true q)) (fun pc r hc => (hrk n pc r hc).2.resolve_left (fun z => hn47 z.1)) (fun _ _ _ _ _ _ _ q => q.elim) ?_ 0 (lv_args 0 As) [] h s.heap [] _ hW ⟨hP, va_S.rf, hro, hwf.1, by rw [hmod]; exact Nat.le_refl _, fun z => by omega⟩ hl
      · have z1 : am_ce h.2.2.2.2 h = 0 := by unfold am_ce; omega
        have z2 : am_sc h.2.2.2.2 h = 0 := by unfold am_sc; rw [hmod, hdiv]; omega
        rw [z1, z2] at key
        exact key
      · intro v h' H locs pc ls st hQ hI hrk'
        have z1 : am_ce h.2.2.2.2 h' = am_al n := by unfold am_ce; rw [hQ.1, hmod, hdiv]; omega
        have z2 : am_sc h.2.2.2.2 h' = am_ms n h := by unfold am_sc am_ms; rw [hQ.1, hmod, hdiv]; rfl
        rw [z1, z2]
        have hpost : ∀ t : State, t.heap = H → am_Qc D cA ad base L xs (fun v h' => h'.2.2.2.2 = h.2.2.2.2 + am_al n ∧ Q v h') (As.map (am_cv ad)).toArray s (.returned (v.map (am_cv ad))) t := fun t ht => ⟨⟨v, h', rfl, hQ, by rw [ht]; exact hI.1, hI.2.2.1, hI.2.2.2.1⟩, hI.2.1.F ht⟩
        rcases hrk' with ⟨x, rfl, rfl, hd, ty, h1, h2⟩ | ⟨x, rfl, rfl, hd, h1⟩ | ⟨rfl, rfl, hd, h1⟩
        · exact W.zret B.exec B.bytes (B.returns.trans h1) h2 (fun t ht _ => hpost t ht) hI.2.1.2.2 hd (hlocks := B.notSynchronized)
        · exact W.lret B.exec B.bytes (B.returns.trans h1) (fun t ht _ => hpost t ht) hI.2.1.2.2 hd (hlocks := B.notSynchronized)
        · exact W.vret B.exec B.bytes (B.returns.trans h1) (fun t ht _ => hpost t ht) hI.2.1.2.2 hd (hlocks := B.notSynchronized)
end
section
/-! bytes read from where they stand: a window of the code tells what the whole tells -/
def dz_W (A A' : ByteArray) (k : Nat) : Prop := k + A'.size ≤ A.size ∧ ∀ j (h : j < A'.size) (h' : k + j < A.size), A[k + j] = A'[j]
def dz_L {α : Type} (r : Jvm.ClassFile.Decoder α) : Prop := ∀ (A A' : ByteArray) (k : Nat), k % 4 = 0 → dz_W A A' k → ∀ (q : Nat) (a : α) (q' : Nat), r A' q = Except.ok (a, q') → r A (k + q) = Except.ok (a, k + q')
theorem dz_pure {α : Type} (a : α) : dz_L (pure a : Jvm.ClassFile.Decoder α) := by
  intro A A' k _ _ q b q' h
  have h2 : (Except.ok (a, q) : Except Jvm.ClassFile.DecodeError (α × Nat)) = Except.ok (b, q') := h
  cases h2
  rfl
theorem dz_throw {α : Type} (e : Jvm.ClassFile.DecodeError) : dz_L (throw e : Jvm.ClassFile.Decoder α) := by
  intro A A' k _ _ q b q' h
  have h2 : (Except.error e : Except Jvm.ClassFile.DecodeError (α × Nat)) = Except.ok (b, q') := h
  cases h2
theorem dz_bind {α β : Type} {x : Jvm.ClassFile.Decoder α} {f : α → Jvm.ClassFile.Decoder β} (hx : dz_L x) (hf : ∀ a, dz_L (f a)) : dz_L (x >>= f) := by
  intro A A' k h4 hW q b q' h
  have e : ∀ (B : ByteArray) (s : Nat), (x >>= f) B s = Except.bind (x B s) (fun p => f p.1 B p.2) := fun _ _ => rfl
  rw [e] at h ⊢
  cases hq : x A' q with
  | error e1 =>
    rw [hq] at h
    have h2 : (Except.error e1 : Except Jvm.ClassFile.DecodeError (β × Nat)) = Except.ok (b, q') := h
    cases h2
  | ok p =>
    obtain ⟨a, q1⟩ := p
    rw [hq] at h
    rw [hx A A' k h4 hW q a q1 hq]
    exact hf a A A' k h4 hW q1 b q' h
theorem dz_map {α β : Type} {x : Jvm.ClassFile.Decoder α} {f : α → β} (hx : dz_L x) : dz_L (f <$> x) := by
  intro A A' k h4 hW q b q' h
  have e : ∀ (B : ByteArray) (s : Nat), (f <$> x) B s = Except.bind (x B s) (fun p => Except.ok (f p.1, p.2)) := fun _ _ => rfl
  rw [e] at h ⊢
  cases hq : x A' q with
  | error e1 =>
    rw [hq] at h
    have h2 : (Except.error e1 : Except Jvm.ClassFile.DecodeError (β × Nat)) = Except.ok (b, q') := h
    cases h2
  | ok p =>
    obtain ⟨a, q1⟩ := p
    rw [hq] at h
    rw [hx A A' k h4 hW q a q1 hq]
    have h2 : (Except.ok (f a, q1) : Except Jvm.ClassFile.DecodeError (β × Nat)) = Except.ok (b, q') := h
    cases h2
    rfl
theorem dz_u1e (B : ByteArray) (s : Nat) : (Jvm.ClassFile.Reader.u1 : Jvm.ClassFile.Decoder Nat) B s = dite (s < B.size) (fun h => Except.ok (B[s].toNat, s + 1)) (fun _ => Except.error (Jvm.ClassFile.DecodeError.truncated s)) := by
  by_cases hs : s < B.size
  · rw [dif_pos hs]
    show (dite (s < B.size) (fun h => (do set (s + 1); pure B[s].toNat : Jvm.ClassFile.Decoder Nat)) (fun _ => (throw (Jvm.ClassFile.DecodeError.truncated s) : Jvm.ClassFile.Decoder Nat))) B s = _
    rw [dif_pos hs]
    rfl
  · rw [dif_neg hs]
    show (dite (s < B.size) (fun h => (do set (s + 1); pure B[s].toNat : Jvm.ClassFile.Decoder Nat)) (fun _ => (throw (Jvm.ClassFile.DecodeError.truncated s) : Jvm.ClassFile.Decoder Nat))) B s = _
    rw [dif_neg hs]
    rfl
theorem dz_u1 : dz_L (Jvm.ClassFile.Reader.u1 : Jvm.ClassFile.Decoder Nat) := by
  intro A A' k h4 hW q a q' h
  rw [dz_u1e] at h ⊢
  by_cases hs : q < A'.size
  · rw [dif_pos hs] at h
    have hk : k + q < A.size := by have := hW.1; omega
    rw [dif_pos hk]
    have h2 := hW.2 q hs hk
    cases h
    rw [h2]
    rfl
  · rw [dif_neg hs] at h
    cases h
theorem dz_u2 : dz_L (Jvm.ClassFile.Reader.u2 : Jvm.ClassFile.Decoder Nat) := by
  unfold Jvm.ClassFile.Reader.u2
  exact dz_bind dz_u1 (fun _ => dz_bind dz_u1 (fun _ => dz_pure _))
theorem dz_u4 : dz_L (Jvm.ClassFile.Reader.u4 : Jvm.ClassFile.Decoder Nat) := by
  unfold Jvm.ClassFile.Reader.u4
  exact dz_bind dz_u2 (fun _ => dz_bind dz_u2 (fun _ => dz_pure _))
theorem dz_s1 : dz_L (Jvm.ClassFile.Reader.s1 : Jvm.ClassFile.Decoder Int) := dz_map dz_u1
theorem dz_s2 : dz_L (Jvm.ClassFile.Reader.s2 : Jvm.ClassFile.Decoder Int) := dz_map dz_u2
theorem dz_s4 : dz_L (Jvm.ClassFile.Reader.s4 : Jvm.ClassFile.Decoder Int) := dz_map dz_u4
theorem dz_pade (B : ByteArray) (s : Nat) : Jvm.ClassFile.Decoder.padding B s = ite (s + (4 - s % 4) % 4 ≤ B.size) (Except.ok ((), s + (4 - s % 4) % 4)) (Except.error (Jvm.ClassFile.DecodeError.truncated B.size)) := by
  by_cases hs : s + (4 - s % 4) % 4 ≤ B.size
  · rw [if_pos hs]
    show Except.bind ((ite (s + (4 - s % 4) % 4 ≤ B.size) (do set (s + (4 - s % 4) % 4); pure (B.extract s (s + (4 - s % 4) % 4)) : Jvm.ClassFile.Decoder ByteArray) (throw (Jvm.ClassFile.DecodeError.truncated B.size) : Jvm.ClassFile.Decoder ByteArray)) B s) (fun p => Except.ok ((), p.2)) = _
    rw [if_pos hs]
    rfl
  · rw [if_neg hs]
    show Except.bind ((ite (s + (4 - s % 4) % 4 ≤ B.size) (do set (s + (4 - s % 4) % 4); pure (B.extract s (s + (4 - s % 4) % 4)) : Jvm.ClassFile.Decoder ByteArray) (throw (Jvm.ClassFile.DecodeError.truncated B.size) : Jvm.ClassFile.Decoder ByteArray)) B s) (fun p => Except.ok ((), p.2)) = _
    rw [if_neg hs]
    rfl
theorem dz_pad : dz_L Jvm.ClassFile.Decoder.padding := by
  intro A A' k h4 hW q a q' h
  rw [dz_pade] at h ⊢
  by_cases hs : q + (4 - q % 4) % 4 ≤ A'.size
  · rw [if_pos hs] at h
    have e : (k + q) % 4 = q % 4 := by omega
    have hk : k + q + (4 - (k + q) % 4) % 4 ≤ A.size := by have := hW.1; rw [e]; omega
    rw [if_pos hk]
    cases h
    rw [e, Nat.add_assoc]
  · rw [if_neg hs] at h
    cases h
theorem dz_timesgo {α : Type} {r : Jvm.ClassFile.Decoder α} (hr : dz_L r) : ∀ (n : Nat) (acc : Array α), dz_L (Jvm.ClassFile.Reader.times.go r n acc)
  | 0, _ => dz_pure _
  | n + 1, acc => dz_bind hr (fun a => dz_timesgo hr n (acc.push a))
theorem dz_times {α : Type} {r : Jvm.ClassFile.Decoder α} (hr : dz_L r) (n : Nat) : dz_L (Jvm.ClassFile.Reader.times n r) := dz_timesgo hr n #[]
theorem dz_tsw (pc : Nat) : dz_L (Jvm.ClassFile.Decoder.tableswitch pc) := by
  unfold Jvm.ClassFile.Decoder.tableswitch
  repeat (first | exact dz_pure _ | exact dz_throw _ | exact dz_pad | exact dz_s4 | exact dz_times dz_s4 _ | refine dz_bind ?_ (fun _ => ?_) | split)
theorem dz_lsw (pc : Nat) : dz_L (Jvm.ClassFile.Decoder.lookupswitch pc) := by
  unfold Jvm.ClassFile.Decoder.lookupswitch
  repeat (first | exact dz_pure _ | exact dz_throw _ | exact dz_pad | exact dz_s4 | exact dz_times (dz_bind dz_s4 (fun _ => dz_bind dz_s4 (fun _ => dz_pure _))) _ | refine dz_bind ?_ (fun _ => ?_) | split)
theorem dz_ii (pc : Nat) : dz_L (Jvm.ClassFile.Decoder.invokeinterface pc) := by
  unfold Jvm.ClassFile.Decoder.invokeinterface
  repeat (first | exact dz_pure _ | exact dz_throw _ | exact dz_u1 | exact dz_u2 | refine dz_bind ?_ (fun _ => ?_) | split)
theorem dz_id (pc : Nat) : dz_L (Jvm.ClassFile.Decoder.invokedynamic pc) := by
  unfold Jvm.ClassFile.Decoder.invokedynamic
  repeat (first | exact dz_pure _ | exact dz_throw _ | exact dz_u1 | exact dz_u2 | refine dz_bind ?_ (fun _ => ?_) | split)
theorem dz_na (pc : Nat) : dz_L (Jvm.ClassFile.Decoder.newarray pc) := by
  unfold Jvm.ClassFile.Decoder.newarray
  repeat (first | exact dz_pure _ | exact dz_throw _ | exact dz_u1 | exact dz_u2 | refine dz_bind ?_ (fun _ => ?_) | split)
theorem dz_ma (pc : Nat) : dz_L (Jvm.ClassFile.Decoder.multianewarray pc) := by
  unfold Jvm.ClassFile.Decoder.multianewarray
  repeat (first | exact dz_pure _ | exact dz_throw _ | exact dz_u1 | exact dz_u2 | refine dz_bind ?_ (fun _ => ?_) | split)
theorem dz_wd (pc : Nat) : dz_L (Jvm.ClassFile.Decoder.wide pc) := by
  unfold Jvm.ClassFile.Decoder.wide
  repeat (first | exact dz_pure _ | exact dz_throw _ | exact dz_u1 | exact dz_u2 | exact dz_s2 | refine dz_bind ?_ (fun _ => ?_) | split)
set_option maxRecDepth 40000 in
set_option maxHeartbeats 8000000 in
theorem dz_instr (pc : Nat) : dz_L (Jvm.ClassFile.Decoder.instr pc) := by
  unfold Jvm.ClassFile.Decoder.instr
  refine dz_bind dz_u1 (fun op => ?_)
  split
  all_goals (first | exact dz_pure _ | exact dz_throw _ | exact dz_bind dz_u1 (fun _ => dz_pure _) | exact dz_bind dz_u2 (fun _ => dz_pure _) | exact dz_bind dz_s1 (fun _ => dz_pure _) | exact dz_bind dz_s2 (fun _ => dz_pure _) | exact dz_bind dz_s4 (fun _ => dz_pure _) | exact dz_bind dz_u1 (fun _ => dz_bind dz_s1 (fun _ => dz_pure _)) | exact dz_tsw _ | exact dz_lsw _ | exact dz_ii _ | exact dz_id _ | exact dz_na _ | exact dz_ma _ | exact dz_wd _)
def dz_dec (A' : ByteArray) (k pc : Nat) : Except Jvm.ClassFile.DecodeError (Instr × Nat) := match Jvm.ClassFile.Decoder.instr pc A' (pc - k) with
  | Except.ok p => Except.ok (p.1, k + p.2 - pc)
  | Except.error e => Except.error e
theorem dz_dec_ok {A A' : ByteArray} {k pc : Nat} {x : Instr × Nat} (h4 : k % 4 = 0) (hW : dz_W A A' k) (hk : k ≤ pc) (h : dz_dec A' k pc = Except.ok x) : decode A pc = Except.ok x := by
  unfold dz_dec at h
  cases hq : Jvm.ClassFile.Decoder.instr pc A' (pc - k) with
  | error e =>
    rw [hq] at h
    cases h
  | ok p =>
    obtain ⟨i, nx⟩ := p
    rw [hq] at h
    have h1 := dz_instr pc A A' k h4 hW (pc - k) i nx hq
    rw [show k + (pc - k) = pc from by omega] at h1
    cases h
    show Except.bind (Jvm.ClassFile.Decoder.instr pc A pc) (fun p => Except.ok (p.1, p.2 - pc)) = _
    rw [h1]
    rfl
def dz_win (l : List UInt8) : ByteArray := ⟨⟨l.take 8⟩⟩
theorem dz_win_W {cc : ByteArray} {k : Nat} (hk : k ≤ cc.data.toList.length) : dz_W cc (dz_win (cc.data.toList.drop k)) k := by
  constructor
  · show k + ((cc.data.toList.drop k).take 8).length ≤ cc.data.toList.length
    rw [List.length_take, List.length_drop]
    omega
  · intro j h h'
    have h1 : j < ((cc.data.toList.drop k).take 8).length := h
    have h2 : k + j < cc.data.toList.length := h'
    show cc.data.toList[k + j]'h2 = ((cc.data.toList.drop k).take 8)[j]'h1
    rw [List.getElem_take, List.getElem_drop]
def am_okG (dec : Except Jvm.ClassFile.DecodeError (Instr × Nat)) (ini : Bool) (own : String) (pc : Nat) (r : am_R) : Bool := match r with
  | (i, nx, a, b, c, d) => decide (dec = .ok (i, am_len i)) && (decide (nx = pc + am_len i) && am_ex ini own pc i a b c d)
def dz_sw (i : Instr) : Bool := match i with
  | .tableswitch _ _ _ _ => true
  | .lookupswitch _ _ => true
  | _ => false
theorem am_okG_imp {dec : Except Jvm.ClassFile.DecodeError (Instr × Nat)} {ini : Bool} {own : String} {cc : ByteArray} {pc : Nat} {r : am_R} (hs : dz_sw r.1 = false) (hd : ∀ x, dec = .ok x → decode cc pc = .ok x) (h : am_okG dec ini own pc r = true) : am_okB ini own cc pc r = true := by
  obtain ⟨i, nx, a, b, c, d⟩ := r
  have h1 : (decide (dec = .ok (i, am_len i)) && (decide (nx = pc + am_len i) && am_ex ini own pc i a b c d)) = true := h
  rw [Bool.and_eq_true, decide_eq_true_eq] at h1
  have h2 := hd _ h1.1
  have h3 : (decide (decode cc pc = .ok (i, am_len i)) && (decide (nx = pc + am_len i) && am_ex ini own pc i a b c d)) = true := by
    rw [Bool.and_eq_true, decide_eq_true_eq]
    exact ⟨h2, h1.2⟩
  unfold am_okB
  cases i
  all_goals first | exact h3 | cases hs
def am_wk (ini : Bool) (own : String) (cc : ByteArray) : List (Nat × am_R) → Nat → List UInt8 → Bool
  | [], _, _ => true
  | x :: r, k, L => bif dz_sw x.2.1 || !(Nat.ble k (x.1 / 4 * 4)) then am_okB ini own cc x.1 x.2 && am_wk ini own cc r k L else (!((L.drop (x.1 / 4 * 4 - k)).isEmpty) && am_okG (dz_dec (dz_win (L.drop (x.1 / 4 * 4 - k))) (x.1 / 4 * 4) x.1) ini own x.1 x.2) && am_wk ini own cc r (x.1 / 4 * 4) (L.drop (x.1 / 4 * 4 - k))
theorem am_wk_ok {ini : Bool} {own : String} {cc : ByteArray} : ∀ (rows : List (Nat × am_R)) (k : Nat) (L : List UInt8), L = cc.data.toList.drop k → am_wk ini own cc rows k L = true → rows.all (fun q => am_okB ini own cc q.1 q.2) = true
  | [], _, _, _, _ => rfl
  | x :: r, k, L, hL, h => by
    unfold am_wk at h
    rw [List.all_cons, Bool.and_eq_true]
    cases hb : dz_sw x.2.1 || !(Nat.ble k (x.1 / 4 * 4)) with
    | true =>
      rw [hb, cond_true, Bool.and_eq_true] at h
      exact ⟨h.1, am_wk_ok r k L hL h.2⟩
    | false =>
      rw [hb, cond_false, Bool.and_eq_true, Bool.and_eq_true] at h
      rw [Bool.or_eq_false_iff] at hb
      have hle : k ≤ x.1 / 4 * 4 := Nat.le_of_ble_eq_true (by cases hz : Nat.ble k (x.1 / 4 * 4) with
        | true => rfl
        | false => rw [hz] at hb; cases hb.2)
      have e : L.drop (x.1 / 4 * 4 - k) = cc.data.toList.drop (x.1 / 4 * 4) := by
        rw [hL, List.drop_drop]
        congr 1
        omega
      rw [e] at h
      have hk : x.1 / 4 * 4 ≤ cc.data.toList.length := by
        rcases Nat.lt_or_ge cc.data.toList.length (x.1 / 4 * 4) with z | z
        · have e2 : cc.data.toList.drop (x.1 / 4 * 4) = [] := List.drop_eq_nil_of_le (by omega)
          rw [e2] at h
          cases h.1.1
        · exact z
      exact ⟨am_okG_imp hb.1 (fun y hy => dz_dec_ok (by omega) (dz_win_W hk) (by omega) hy) h.1.2, am_wk_ok r _ _ rfl h.2⟩
theorem am_wk_all {ini : Bool} {own : String} {cc : ByteArray} {rows : List (Nat × am_R)} (k : Nat) (h : am_wk ini own cc rows k (cc.data.toList.drop k) = true) : rows.all (fun q => am_okB ini own cc q.1 q.2) = true := am_wk_ok rows k _ rfl h
end
