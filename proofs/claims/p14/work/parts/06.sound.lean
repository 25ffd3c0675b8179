section
/-! ONE STEP, SOUND -/
variable {p : Program} {l : Launch} {e : Env} {R : Room} {s : State} {m : MethodId} {args : Array Value} {below : List Frame} {meth : Method} {c : Code} {H : Heap} {locs : List Loc} {cells slots : Nat} {Qw : State → Prop} {D : va_G} {cA : Nat → ClassId} {ad : Nat → Nat} {base b L nL : Nat} {xs : Nat → Int32} {own : String} {cc : ByteArray} {cp : am_P} {rt : Option FieldType} {c0 lim : Nat} {ini : Bool}
/-- behind a continuation the machine goes on -/
def am_ce (c0 : Nat) (h : am_H) : Nat := h.2.2.2.2 - c0 % 1000 + c0 / 1000
def am_sc (c0 : Nat) (h : am_H) : Nat := am_ss h.2.2.2.2 - am_ss (c0 % 1000) + 6 * (c0 / 1000)
def am_Kw (p : Program) (l : Launch) (e : Env) (R : Room) (s : State) (m : MethodId) (args : Array Value) (below : List Frame) (meth : Method) (c : Code) (c0 : Nat) (Qw : State → Prop) (D : va_G) (cA : Nat → ClassId) (ad : Nat → Nat) (base L nL : Nat) (xs : Nat → Int32) (K : Nat → am_V → List Value → am_H → Prop) : Prop :=
  ∀ pc lv st h H locs ls, K pc lv st h → am_Inv D cA ad base L xs s c0 h H locs → lv_has ls nL (am_cl2 ad lv) → W p l e R s m args below meth c H locs (am_ce c0 h) (am_sc c0 h) Qw (F0 m pc ls (st.map (am_cv ad)))
/-- a return's place: the instruction, its stack, its type -/
def am_rk (cc : ByteArray) (rt : Option FieldType) (pc : Nat) (v : Option Value) (st : List Value) : Prop :=
  (∃ x, v = some (.int x) ∧ st = [.int x] ∧ decode cc pc = .ok (.ireturn, 1) ∧ ∃ ty, rt = some ty ∧ narrow ty (.int x) = .int x) ∨ (∃ x, v = some (.long x) ∧ st = [.long x] ∧ decode cc pc = .ok (.lreturn, 1) ∧ rt = some .long) ∨ (v = none ∧ st = [] ∧ decode cc pc = .ok (.return_, 1) ∧ rt = none)
def am_Qr (p : Program) (l : Launch) (e : Env) (R : Room) (s : State) (m : MethodId) (args : Array Value) (below : List Frame) (meth : Method) (c : Code) (c0 : Nat) (Qw : State → Prop) (D : va_G) (cA : Nat → ClassId) (ad : Nat → Nat) (base L : Nat) (xs : Nat → Int32) (cc : ByteArray) (rt : Option FieldType) (Q0 : am_Q) : Prop :=
  ∀ v h H locs pc ls st, Q0 v h → am_Inv D cA ad base L xs s c0 h H locs → am_rk cc rt pc v st → W p l e R s m args below meth c H locs (am_ce c0 h) (am_sc c0 h) Qw (F0 m pc ls st)
theorem am_call_go {Q : am_Q} {h : am_H} {n : Nat} {a : Array Value} {pc : Nat} {ls : Array Slot} {st0 rest : List Value} (hr : va_Run p l e R s m args below meth c H locs (am_ce c0 h) (am_sc c0 h) (am_al n) (am_ms n h) (F0 m pc ls st0) rest (am_Qc D cA ad base L xs (fun v h' => h'.2.2.2.2 = h.2.2.2.2 + am_al n ∧ Q v h') a) (am_A base)) (hS : va_S (am_A base) s.heap H locs) (hc0 : am_c0 c0 h.2.2.2.2)
    (kk : ∀ v h' H1 locs1, Q v h' → am_Inv D cA ad base L xs s c0 h' H1 locs1 → W p l e R s m args below meth c H1 locs1 (am_ce c0 h') (am_sc c0 h') Qw (F0 m (pc + 3) ls ((v.map (am_cv ad)).toList ++ rest))) : W p l e R s m args below meth c H locs (am_ce c0 h) (am_sc c0 h) Qw (F0 m pc ls st0) := by
  intro T hT X
  obtain ⟨v, st₀, t, T', Lc, h0, X', hL, e1, e2, ⟨⟨v', h', hv, ⟨hcn, hp⟩, hP, hro, hwf⟩, hz, hk⟩, st⟩ := hr T hT X
  cases hv
  rw [h0] at hz hk
  have hc1 := hc0.1
  have hc2 := hc0.2
  have g1 : am_ce c0 h + am_al n = am_ce c0 h' := by unfold am_ce; omega
  have g2 : am_sc c0 h + am_ms n h = am_sc c0 h' := by
    have q1 := am_ss_mono hc0.1
    have q2 := am_ss_mono (Nat.le_add_right h.2.2.2.2 (am_al n))
    unfold am_sc am_ms
    rw [hcn]
    omega
  rw [g1, g2] at X'
  obtain ⟨t2, a1, b1⟩ := kk v' h' T'.heap (locs ++ Lc) hp ⟨by rw [e1]; exact hP, ⟨Nat.le_trans hS.1 (by rw [e1]; exact hz), fun q h1 h2 => by rw [e1, hk q (Nat.lt_of_lt_of_le h1 hS.1) h2]; exact hS.2.1 q h1 h2, fun q hq => by
      rcases List.mem_append.mp hq with h | h
      · exact hS.2.2 q h
      · exact hL q h⟩, hro, hwf, by omega, fun z => by have := hc2 z; omega⟩ T' rfl X'
  exact ⟨t2, st t2 a1, b1⟩
theorem am_obj {h : am_H} {o ci : Nat} (hsh : am_sh h o = some (ci, 0)) (hc : ci < 12) : am_so h o = some (ci, 0) := by
  rcases am_sh_cases hsh with ⟨-, h2⟩ | h2
  · have := congrArg Prod.fst h2
    dsimp only at this
    omega
  · exact h2
theorem am_cell_i {h : am_H} {o t n : Nat} (ht : t = 12 ∨ t = 13 ∨ t = 15) : am_cell cA ad h o (t, n) = .inl (cA t, n, .inl (h.1 o)) := by
  rcases ht with rfl | rfl | rfl <;> simp [am_cell]
theorem am_cell_l {h : am_H} {o n : Nat} : am_cell cA ad h o (14, n) = .inl (cA 14, n, .inr (.inl (h.2.1 o))) := by simp [am_cell]
theorem am_cell_r {h : am_H} {o t n : Nat} (ht : t = 16 ∨ t = 17) : am_cell cA ad h o (t, n) = .inl (cA t, n, .inr (.inr (.inr (.inr (fun j => (h.2.2.1 o j).map ad))))) := by
  rcases ht with rfl | rfl <;> simp [am_cell]
theorem am_wI_upd {h : am_H} {o j : Nat} {x : Int32} : (am_wI h o j x).1 o = upd (h.1 o) j x := by
  funext k
  simp [am_wI, upd]
theorem am_wL_upd {h : am_H} {o j : Nat} {x : Int64} : (am_wL h o j x).2.1 o = vp_updL (h.2.1 o) j x := by
  funext k
  simp [am_wL, vp_updL]
theorem am_wR_upd {h : am_H} {o j x : Nat} : (fun k => ((am_wR h o j (some x)).2.2.1 o k).map ad) = va_up (fun k => (h.2.2.1 o k).map ad) j (some (ad x)) := by
  funext k
  by_cases hk : k = j <;> simp [am_wR, va_up, hk]
theorem am_ac_int : Cond.arrayClass .int ∈ lw_tbl := by decide +kernel
theorem am_ac_char : Cond.arrayClass .char ∈ lw_tbl := by decide +kernel
theorem am_ac_long : Cond.arrayClass .long ∈ lw_tbl := by decide +kernel
theorem am_ac_boolean : Cond.arrayClass .boolean ∈ lw_tbl := by decide +kernel
theorem am_sln_le (q : Nat) : am_sln.getD q 0 ≤ 1000 := by
  rcases Nat.lt_or_ge q 26 with h | h
  · have h9 : ∀ q, q < 26 → am_sln.getD q 0 ≤ 1000 := by decide
    exact h9 q h
  · rw [List.getD_eq_getElem?_getD, List.getElem?_eq_none (by exact h)]
    exact Nat.zero_le _
theorem am_lenlt {h : am_H} {o t n : Nat} (hs : am_so h o = some (t, n)) : n < 2 ^ 31 := am_len_sh (t, n) (List.mem_of_getElem? (am_so_lt hs).2)
theorem am_sw_lt {h : am_H} {o : Nat} {e : Nat × Nat} (hs : am_so h o = some e) : o < 175 := am_sh_lt (am_so_lt hs).2
theorem am_good_in {ws : List Cond} (h : ∀ w ∈ ws, w ∈ am_gw) : GoodIn am_gw ws := fun w hw => ⟨h w hw, good_of_word (List.mem_filter.mp (h w hw)).2⟩
theorem am_ws_in {n : Nat} (hn : n < am_mi.length) : ∀ w ∈ am_ws n, w ∈ am_gw := by
  intro w hw
  rcases List.mem_cons.mp hw with rfl | h
  · have h1 : am_mi[n]? = some am_mi[n] := List.getElem?_eq_getElem hn
    have h2 := am_gw_code h1
    unfold am_y am_by am_nL am_rt
    rw [h1]
    exact h2
  · exact h
theorem am_put_gv {h : am_H} {o a ci : Nat} {x : Int32} (hk : am_kd ci a = 0) : am_gv (am_wI h o a x) ci a o = .int x := by simp [am_gv, hk, am_wI]
theorem am_put_gvL {h : am_H} {o a ci : Nat} {x : Int64} (hk : am_kd ci a = 1) : am_gv (am_wL h o a x) ci a o = .long x := by simp [am_gv, hk, am_wL]
theorem am_put_gvR {h : am_H} {o a ci x : Nat} (hk : ¬ am_kd ci a = 0) (hk1 : ¬ am_kd ci a = 1) : am_gv (am_wR h o a (some x)) ci a o = .ref x := by
  unfold am_gv
  split
  · exact absurd ‹_› hk
  · exact absurd ‹_› hk1
  · simp [am_wR, am_rf]
theorem am_put_oI {h : am_H} {o a ci : Nat} {x : Int32} (j : Nat) (hj : j ≠ a) : am_gv (am_wI h o a x) ci j o = am_gv h ci j o := by
  unfold am_gv
  split <;> simp [am_wI, hj]
theorem am_put_oL {h : am_H} {o a ci : Nat} {x : Int64} (j : Nat) (hj : j ≠ a) : am_gv (am_wL h o a x) ci j o = am_gv h ci j o := by
  unfold am_gv
  split <;> simp [am_wL, hj]
theorem am_put_oR {h : am_H} {o a ci : Nat} {x : Option Nat} (j : Nat) (hj : j ≠ a) : am_gv (am_wR h o a x) ci j o = am_gv h ci j o := by
  unfold am_gv
  split <;> simp [am_wR, hj]
theorem am_Wsz {g : JFrame} {cells slots : Nat} (k : H.size ≤ s.heap.size + cells → W p l e R s m args below meth c H locs cells slots Qw g) : W p l e R s m args below meth c H locs cells slots Qw g :=
  fun T hT X => k (by rw [← hT]; exact X.heapSize) T hT X
theorem am_sizeq {h : am_H} (hG : am_G ad base b L) (hsz : c0 % 1000 < am_shl.length → s.heap.size = base + c0 % 1000) (hI : am_Inv D cA ad base L xs s c0 h H locs) (hle : H.size ≤ s.heap.size + am_ce c0 h) : am_wf base h H := by
  refine ⟨hI.2.2.2.1, fun hlt => ?_⟩
  have h0 := hI.2.2.2.2.1
  have h9 : c0 < 1000 := by
    rcases Nat.lt_or_ge c0 1000 with z | z
    · exact z
    · have := hI.2.2.2.2.2 z
      omega
  have h1 := hsz (by omega)
  have h2 := hI.2.1.1
  unfold am_ce at hle
  by_cases hc : h.2.2.2.2 = c0 % 1000
  · omega
  · have h3 : h.2.2.2.2 - 1 < am_shl.length := by omega
    have h4 : am_so h (h.2.2.2.2 - 1) = some am_shl[h.2.2.2.2 - 1] := by
      unfold am_so
      have : Nat.blt (h.2.2.2.2 - 1) h.2.2.2.2 = true := Nat.ble_eq_true_of_le (by omega)
      rw [this]
      exact List.getElem?_eq_getElem h3
    have h5 := (hI.1 _ _ (am_cc_at h4)).lt
    dsimp only at h5
    rw [hG.1 _ h3] at h5
    omega
theorem am_fit {h : am_H} {n : Nat} (hcs : lim - c0 % 1000 + c0 / 1000 ≤ R.cells ∧ am_ss lim - am_ss (c0 % 1000) + 6 * (c0 / 1000) ≤ R.slots) (hc0 : am_c0 c0 h.2.2.2.2) (hl : h.2.2.2.2 + am_al n ≤ lim) : am_ce c0 h + am_al n ≤ R.cells ∧ am_sc c0 h + am_ms n h ≤ R.slots := by
  have q1 := am_ss_mono hc0.1
  have q2 := am_ss_mono (Nat.le_add_right h.2.2.2.2 (am_al n))
  have q3 := am_ss_mono hl
  have q0 := hc0.1
  unfold am_ce am_sc am_ms
  omega
theorem am_fit1 {h : am_H} {e : Nat × Nat} (hcs : lim - c0 % 1000 + c0 / 1000 ≤ R.cells ∧ am_ss lim - am_ss (c0 % 1000) + 6 * (c0 / 1000) ≤ R.slots) (hc0 : am_c0 c0 h.2.2.2.2) (he : am_shl[h.2.2.2.2]? = some e) (hl : h.2.2.2.2 + 1 ≤ lim) : (am_ce c0 h + 1 ≤ R.cells ∧ am_sc c0 h + am_siz e ≤ R.slots) ∧ (am_ce c0 h + 1 = am_ce c0 (am_nx h) ∧ am_sc c0 h + am_siz e = am_sc c0 (am_nx h)) := by
  have q1 := am_ss_mono hc0.1
  have q2 := am_ss_succ he
  have q3 := am_ss_mono hl
  have q0 := hc0.1
  have q4 : (am_nx h).2.2.2.2 = h.2.2.2.2 + 1 := rfl
  unfold am_ce am_sc
  rw [q4]
  omega
/-- a new cell behind the others -/
theorem am_new_I {h : am_H} {ea : Nat × Nat} {H1 : Heap} (hG : am_G ad base b L) (hI : am_Inv D cA ad base L xs s c0 h H locs) (he : am_shl[h.2.2.2.2]? = some ea) (hat : va_at D vwCl (ad h.2.2.2.2, am_cell cA ad (am_nx h) h.2.2.2.2 ea) H1) (z1 : H1.size = H.size + 1) (o1 : ∀ q, q < H.size → H1[q]? = H[q]?) : am_Inv D cA ad base L xs s c0 (am_nx h) H1 locs := by
  obtain ⟨hP, hS, hro, hwf, hc0⟩ := hI
  have hlt := (List.getElem?_eq_some_iff.mp he).1
  refine ⟨?_, ⟨Nat.le_trans hS.1 (by omega), fun x h1 h2 => (o1 x (Nat.lt_of_lt_of_le h1 hS.1)).trans (hS.2.1 x h1 h2), hS.2.2⟩, ⟨hro.1, fun j hj => ?_⟩, by show h.2.2.2.2 + 1 ≤ _; omega, by have := hc0.1; show c0 % 1000 ≤ h.2.2.2.2 + 1; omega, fun z => by have := hc0.2 z; omega⟩
  · rw [am_cc_new he]
    refine (hP.kept (fun k x hx => o1 x.1 ((hP k x hx).lt))).app (fun k x hx => ?_)
    have hz : k < 1 := (List.getElem?_eq_some_iff.mp hx).1
    rw [show k = 0 by omega] at hx
    cases hx
    exact hat
  · show (if 3000000 = h.2.2.2.2 then 0 else h.1 3000000 j) = xs j
    rw [if_neg (by rw [am_shl_len] at hlt; omega)]
    exact hro.2 j hj
theorem am_dv_ok : (List.range 12).all (fun ci => (List.range (am_nf ci)).all (fun k => decide (defaultValue (am_fty ci k) = (match am_kd ci k with
    | 0 => .int 0
    | 1 => .long 0
    | _ => .null)))) = true := by decide +kernel
theorem am_gv_nx {h : am_H} {ci k : Nat} : am_cv ad (am_gv (am_nx h) ci k h.2.2.2.2) = (match am_kd ci k with
    | 0 => .int 0
    | 1 => .long 0
    | _ => .null) := by
  unfold am_gv
  split <;> rename_i hq <;> simp [am_nx, am_cv, am_rf, hq]
theorem am_big_sh : ∀ e ∈ am_shl, e.2 ≤ 10000 := by decide +kernel
theorem am_ro.wL {h : am_H} {o k : Nat} {v : Int64} (hr : am_ro L xs h) : am_ro L xs (am_wL h o k v) := hr
theorem am_ro.wR {h : am_H} {o k : Nat} {v : Option Nat} (hr : am_ro L xs h) : am_ro L xs (am_wR h o k v) := hr
theorem am_set_P {h h' : am_H} {o : Nat} {e : Nat × Nat} {E : va_E} {H1 : Heap} (ho : am_so h o = some e) (hn : h'.2.2.2.2 = h.2.2.2.2) (hs : ∀ o' e', o' ≠ o → am_cell cA ad h' o' e' = am_cell cA ad h o' e') (hE : am_cell cA ad h' o e = E) (hP : va_P D vwCl ((am_cc cA ad h).set o (ad o, E)) H1) : va_P D vwCl (am_cc cA ad h') H1 := by
  rw [am_cc_set ho hn hs, hE]
  exact hP
theorem am_ar (g : am_H) (o t n : Nat) (h : am_so g o = some (t, n)) (ht : 12 ≤ t) : t = 12 ∨ t = 13 ∨ t = 14 ∨ t = 15 ∨ t = 16 ∨ t = 17 := by
  have h1 : ∀ e ∈ am_shl, e.1 < 18 := by decide +kernel
  have := h1 (t, n) (List.mem_of_getElem? (am_so_lt h).2)
  dsimp only at this
  omega
theorem am_mok_at {n : Nat} (h : am_mok n = true) : (am_y n).cls ∈ am_iiw ∧ n < am_mi.length ∧ am_nL n ≤ 21 ∧ ((am_y n).cls ≠ "java/lang/invoke/MethodHandle" ∧ (am_y n).cls ≠ "java/lang/invoke/VarHandle") ∧ ¬ n = 999 := by
  simp only [am_mok, am_hd, Bool.and_eq_true, decide_eq_true_eq, Bool.not_eq_true'] at h
  obtain ⟨h1, h2, h3, h4, h5⟩ := h
  exact ⟨h1, h2, h3, h4, fun q => by subst q; cases h5⟩
theorem am_vls_at {a b d : Nat} (h : (a, b, d) ∈ am_vls) : am_y a ∈ am_inw ∧ am_y a ∈ am_sew ∧ am_prm (am_y a) = some b ∧ am_cn d = (am_y a).cls ∧ d < 12 ∧ (am_y a).cls ∈ am_iiw ∧ a < am_mi.length ∧ am_nL a ≤ 21 ∧ ((am_y a).cls ≠ "java/lang/invoke/MethodHandle" ∧ (am_y a).cls ≠ "java/lang/invoke/VarHandle") ∧ ¬ a = 999 := by
  have h1 := List.all_eq_true.mp am_vls_ok _ h
  simp only [Bool.and_eq_true, decide_eq_true_eq] at h1
  obtain ⟨h1, h2, h3, h4, h5, h6⟩ := h1
  exact ⟨h1, h2, h3, h4, h5, am_mok_at h6⟩
theorem am_svl_at {a b : Nat} (h : (a, b) ∈ am_svl) : am_y a ∈ am_inw ∧ am_y a ∈ am_sew ∧ am_prm (am_y a) = some b ∧ (am_y a).cls = "java/lang/String" ∧ (am_y a).cls ∈ am_iiw ∧ a < am_mi.length ∧ am_nL a ≤ 21 ∧ ((am_y a).cls ≠ "java/lang/invoke/MethodHandle" ∧ (am_y a).cls ≠ "java/lang/invoke/VarHandle") ∧ ¬ a = 999 := by
  have h1 := List.all_eq_true.mp am_svl_ok _ h
  simp only [Bool.and_eq_true, decide_eq_true_eq] at h1
  obtain ⟨h1, h2, h3, h4, h6⟩ := h1
  exact ⟨h1, h2, h3, h4, am_mok_at h6⟩
theorem am_ils_at {a b : Nat} (h : (a, b) ∈ am_ils) : am_y a ∈ am_inw ∧ am_prm (am_y a) = some b ∧ (am_y a).name = "<init>" ∧ am_rt a = none ∧ (am_y a).cls ∈ am_iiw ∧ a < am_mi.length ∧ am_nL a ≤ 21 ∧ ((am_y a).cls ≠ "java/lang/invoke/MethodHandle" ∧ (am_y a).cls ≠ "java/lang/invoke/VarHandle") ∧ ¬ a = 999 := by
  have h1 := List.all_eq_true.mp am_ils_ok _ h
  simp only [Bool.and_eq_true, decide_eq_true_eq] at h1
  obtain ⟨h1, h2, h3, h4, h6⟩ := h1
  exact ⟨h1, h2, h3, h4, am_mok_at h6⟩
theorem am_sls_at {a b : Nat} (h : (a, b) ∈ am_sls) : am_y a ∈ am_stw ∧ am_prm (am_y a) = some b ∧ (am_y a).cls ∈ am_iiw ∧ a < am_mi.length ∧ am_nL a ≤ 21 ∧ ((am_y a).cls ≠ "java/lang/invoke/MethodHandle" ∧ (am_y a).cls ≠ "java/lang/invoke/VarHandle") ∧ ¬ a = 999 := by
  have h1 := List.all_eq_true.mp am_sls_ok _ h
  simp only [Bool.and_eq_true, decide_eq_true_eq] at h1
  obtain ⟨h1, h2, h6⟩ := h1
  exact ⟨h1, h2, am_mok_at h6⟩
set_option maxHeartbeats 4000000 in
set_option maxRecDepth 20000 in
theorem am_sound1 (F : am_Fx p s m args c D cA ad base b L xs own cc nL c0) (hC : am_Cs l R D cA ad base b L xs cp) (hcs : lim - c0 % 1000 + c0 / 1000 ≤ R.cells ∧ am_ss lim - am_ss (c0 % 1000) + 6 * (c0 / 1000) ≤ R.slots) (hR1 : 1 ≤ R.frames ∧ 20 ≤ R.locals) (hini : ini = true → meth.name = "<init>") {pc nx a b' c' d : Nat} {lv : am_V} {st : List Value} {h : am_H} {K : Nat → am_V → List Value → am_H → Prop} {Q0 : am_Q} {ls : Array Slot} (hI : am_Inv D cA ad base L xs s c0 h H locs) (hl : lv_has ls nL (am_cl2 ad lv)) (hk : am_Kw p l e R s m args below meth c c0 Qw D cA ad base L nL xs K) (hq : am_Qr p l e R s m args below meth c c0 Qw D cA ad base L xs cc rt Q0) {i : Instr} (hok : am_okB ini own cc pc (i, nx, a, b', c', d) = true) (hs : am_stp cp nL lim rt pc (i, nx, a, b', c', d) lv st h K Q0) : W p l e R s m args below meth c H locs (am_ce c0 h) (am_sc c0 h) Qw (F0 m pc ls (st.map (am_cv ad))) := by
  obtain ⟨hexec, hb, hml, hown, hts, hE, hbase, hG, hsz⟩ := id F
  cases i
  case iconst n =>
    obtain ⟨hd, rfl, hx⟩ := am_ok3 hok
    exact lv_iconst hexec hb hd rfl (hk _ _ _ _ _ _ _ hs hI hl)
  case bipush n =>
    obtain ⟨hd, rfl, hx⟩ := am_ok3 hok
    exact lv_bipush hexec hb hd rfl (hk _ _ _ _ _ _ _ hs hI hl)
  case sipush n =>
    obtain ⟨hd, rfl, hx⟩ := am_ok3 hok
    exact lv_sipush hexec hb hd rfl (hk _ _ _ _ _ _ _ hs hI hl)
  case lconst n =>
    obtain ⟨hd, rfl, hx⟩ := am_ok3 hok
    exact lv_lconst hexec hb hd rfl (hk _ _ _ _ _ _ _ hs hI hl)
  case iload_n k =>
    obtain ⟨hd, rfl, hx⟩ := am_ok3 hok
    obtain ⟨x, ex, hs⟩ := am_li.inv hs
    exact lv_iload_n hexec hb hd rfl (am_lk_at hl ex) (hk _ _ _ _ _ _ _ hs hI hl)
  case iload k =>
    obtain ⟨hd, rfl, hx⟩ := am_ok3 hok
    obtain ⟨x, ex, hs⟩ := am_li.inv hs
    exact lv_iload hexec hb hd (am_lk_at hl ex) (hk _ _ _ _ _ _ _ hs hI hl)
  case lload_n k =>
    obtain ⟨hd, rfl, hx⟩ := am_ok3 hok
    obtain ⟨x, ex, hs⟩ := am_ll.inv hs
    exact lv_lload_n hexec hb hd rfl (am_lk_at hl ex) (hk _ _ _ _ _ _ _ hs hI hl)
  case lload k =>
    obtain ⟨hd, rfl, hx⟩ := am_ok3 hok
    obtain ⟨x, ex, hs⟩ := am_ll.inv hs
    exact lv_lload hexec hb hd (am_lk_at hl ex) (hk _ _ _ _ _ _ _ hs hI hl)
  case aload_n k =>
    obtain ⟨hd, rfl, hx⟩ := am_ok3 hok
    obtain ⟨x, ex, hs⟩ := am_la.inv hs
    exact lv_aload_n hexec hb hd rfl (am_lk_at hl ex) (hk _ _ _ _ _ _ _ hs hI hl)
  case aload k =>
    obtain ⟨hd, rfl, hx⟩ := am_ok3 hok
    obtain ⟨x, ex, hs⟩ := am_la.inv hs
    exact lv_aload hexec hb hd (am_lk_at hl ex) (hk _ _ _ _ _ _ _ hs hI hl)
  case istore_n k =>
    obtain ⟨hd, rfl, hx⟩ := am_ok3 hok
    obtain ⟨x, r, rfl, hn, hs⟩ := am_pI.inv hs
    exact lv_istore_n hexec hb hd rfl hl hn (am_s1_cl ad lv _ (.int x)) (fun ls hl => hk _ _ _ _ _ _ _ hs hI hl)
  case istore k =>
    obtain ⟨hd, rfl, hx⟩ := am_ok3 hok
    obtain ⟨x, r, rfl, hn, hs⟩ := am_pI.inv hs
    exact lv_istore hexec hb hd hl hn (am_s1_cl ad lv _ (.int x)) (fun ls hl => hk _ _ _ _ _ _ _ hs hI hl)
  case lstore_n k =>
    obtain ⟨hd, rfl, hx⟩ := am_ok3 hok
    obtain ⟨x, r, rfl, hn, hs⟩ := am_pL.inv hs
    exact lv_lstore_n hexec hb hd rfl hl hn (am_s2_cl ad lv _ (.long x)) (fun ls hl => hk _ _ _ _ _ _ _ hs hI hl)
  case lstore k =>
    obtain ⟨hd, rfl, hx⟩ := am_ok3 hok
    obtain ⟨x, r, rfl, hn, hs⟩ := am_pL.inv hs
    exact lv_lstore hexec hb hd hl hn (am_s2_cl ad lv _ (.long x)) (fun ls hl => hk _ _ _ _ _ _ _ hs hI hl)
  case astore_n k =>
    obtain ⟨hd, rfl, hx⟩ := am_ok3 hok
    obtain ⟨x, r, rfl, hn, hs⟩ := am_pR.inv hs
    exact lv_astore_n hexec hb hd rfl hl hn (am_s1_cl ad lv _ (.ref x)) (fun ls hl => hk _ _ _ _ _ _ _ hs hI hl)
  case astore k =>
    obtain ⟨hd, rfl, hx⟩ := am_ok3 hok
    obtain ⟨x, r, rfl, hn, hs⟩ := am_pR.inv hs
    exact lv_astore hexec hb hd hl hn (am_s1_cl ad lv _ (.ref x)) (fun ls hl => hk _ _ _ _ _ _ _ hs hI hl)
  case iinc k n =>
    obtain ⟨hd, rfl, hx⟩ := am_ok3 hok
    obtain ⟨x, ex, hn, hs⟩ := am_li.inv hs
    obtain ⟨q, hq⟩ := am_lk_pl (ad := ad) ex
    exact lv_iinc hexec hb hd hl hq rfl hn (am_s1_cl ad lv _ (.int (x + Int32.ofInt n))) (fun ls hl => hk _ _ _ _ _ _ _ hs hI hl)
  case iadd =>
    obtain ⟨hd, rfl, hx⟩ := am_ok3 hok
    obtain ⟨y, r, rfl, hs⟩ := am_pI.inv hs
    obtain ⟨x, r, rfl, hs⟩ := am_pI.inv hs
    exact lv_iadd hexec hb hd (hk _ _ _ _ _ _ _ hs hI hl)
  case isub =>
    obtain ⟨hd, rfl, hx⟩ := am_ok3 hok
    obtain ⟨y, r, rfl, hs⟩ := am_pI.inv hs
    obtain ⟨x, r, rfl, hs⟩ := am_pI.inv hs
    exact lv_isub hexec hb hd (hk _ _ _ _ _ _ _ hs hI hl)
  case imul =>
    obtain ⟨hd, rfl, hx⟩ := am_ok3 hok
    obtain ⟨y, r, rfl, hs⟩ := am_pI.inv hs
    obtain ⟨x, r, rfl, hs⟩ := am_pI.inv hs
    exact lv_imul hexec hb hd (hk _ _ _ _ _ _ _ hs hI hl)
  case iand =>
    obtain ⟨hd, rfl, hx⟩ := am_ok3 hok
    obtain ⟨y, r, rfl, hs⟩ := am_pI.inv hs
    obtain ⟨x, r, rfl, hs⟩ := am_pI.inv hs
    exact lv_iand hexec hb hd (hk _ _ _ _ _ _ _ hs hI hl)
  case ior =>
    obtain ⟨hd, rfl, hx⟩ := am_ok3 hok
    obtain ⟨y, r, rfl, hs⟩ := am_pI.inv hs
    obtain ⟨x, r, rfl, hs⟩ := am_pI.inv hs
    exact lv_ior hexec hb hd (hk _ _ _ _ _ _ _ hs hI hl)
  case ixor =>
    obtain ⟨hd, rfl, hx⟩ := am_ok3 hok
    obtain ⟨y, r, rfl, hs⟩ := am_pI.inv hs
    obtain ⟨x, r, rfl, hs⟩ := am_pI.inv hs
    exact lv_ixor hexec hb hd (hk _ _ _ _ _ _ _ hs hI hl)
  case ishl =>
    obtain ⟨hd, rfl, hx⟩ := am_ok3 hok
    obtain ⟨y, r, rfl, hs⟩ := am_pI.inv hs
    obtain ⟨x, r, rfl, hs⟩ := am_pI.inv hs
    exact lv_ishl hexec hb hd (hk _ _ _ _ _ _ _ hs hI hl)
  case ishr =>
    obtain ⟨hd, rfl, hx⟩ := am_ok3 hok
    obtain ⟨y, r, rfl, hs⟩ := am_pI.inv hs
    obtain ⟨x, r, rfl, hs⟩ := am_pI.inv hs
    exact lv_ishr hexec hb hd (hk _ _ _ _ _ _ _ hs hI hl)
  case idiv =>
    obtain ⟨hd, rfl, hx⟩ := am_ok3 hok
    obtain ⟨y, r, rfl, hs⟩ := am_pI.inv hs
    obtain ⟨x, r, rfl, hne, hs⟩ := am_pI.inv hs
    exact lv_idiv hexec hb hd hne (hk _ _ _ _ _ _ _ hs hI hl)
  case irem =>
    obtain ⟨hd, rfl, hx⟩ := am_ok3 hok
    obtain ⟨y, r, rfl, hs⟩ := am_pI.inv hs
    obtain ⟨x, r, rfl, hne, hs⟩ := am_pI.inv hs
    exact lv_irem hexec hb hd hne (hk _ _ _ _ _ _ _ hs hI hl)
  case ineg =>
    obtain ⟨hd, rfl, hx⟩ := am_ok3 hok
    obtain ⟨x, r, rfl, hs⟩ := am_pI.inv hs
    exact lv_ineg hexec hb hd (hk _ _ _ _ _ _ _ hs hI hl)
  case iushr =>
    obtain ⟨hd, rfl, hx⟩ := am_ok3 hok
    obtain ⟨y, r, rfl, hs⟩ := am_pI.inv hs
    obtain ⟨x, r, rfl, hs⟩ := am_pI.inv hs
    exact lv_iushr hexec hb hd rfl (hk _ _ _ _ _ _ _ hs hI hl)
  case ladd =>
    obtain ⟨hd, rfl, hx⟩ := am_ok3 hok
    obtain ⟨y, r, rfl, hs⟩ := am_pL.inv hs
    obtain ⟨x, r, rfl, hs⟩ := am_pL.inv hs
    exact lv_ladd hexec hb hd (hk _ _ _ _ _ _ _ hs hI hl)
  case lsub =>
    obtain ⟨hd, rfl, hx⟩ := am_ok3 hok
    obtain ⟨y, r, rfl, hs⟩ := am_pL.inv hs
    obtain ⟨x, r, rfl, hs⟩ := am_pL.inv hs
    exact lv_lsub hexec hb hd (hk _ _ _ _ _ _ _ hs hI hl)
  case lmul =>
    obtain ⟨hd, rfl, hx⟩ := am_ok3 hok
    obtain ⟨y, r, rfl, hs⟩ := am_pL.inv hs
    obtain ⟨x, r, rfl, hs⟩ := am_pL.inv hs
    exact lv_lmul hexec hb hd (hk _ _ _ _ _ _ _ hs hI hl)
  case land =>
    obtain ⟨hd, rfl, hx⟩ := am_ok3 hok
    obtain ⟨y, r, rfl, hs⟩ := am_pL.inv hs
    obtain ⟨x, r, rfl, hs⟩ := am_pL.inv hs
    exact lv_land hexec hb hd (hk _ _ _ _ _ _ _ hs hI hl)
  case lor =>
    obtain ⟨hd, rfl, hx⟩ := am_ok3 hok
    obtain ⟨y, r, rfl, hs⟩ := am_pL.inv hs
    obtain ⟨x, r, rfl, hs⟩ := am_pL.inv hs
    exact lv_lor hexec hb hd (hk _ _ _ _ _ _ _ hs hI hl)
  case ldiv =>
    obtain ⟨hd, rfl, hx⟩ := am_ok3 hok
    obtain ⟨y, r, rfl, hs⟩ := am_pL.inv hs
    obtain ⟨x, r, rfl, hne, hs⟩ := am_pL.inv hs
    exact lv_ldiv hexec hb hd hne (hk _ _ _ _ _ _ _ hs hI hl)
  case lrem =>
    obtain ⟨hd, rfl, hx⟩ := am_ok3 hok
    obtain ⟨y, r, rfl, hs⟩ := am_pL.inv hs
    obtain ⟨x, r, rfl, hne, hs⟩ := am_pL.inv hs
    exact lv_lrem hexec hb hd hne (hk _ _ _ _ _ _ _ hs hI hl)
  case lshl =>
    obtain ⟨hd, rfl, hx⟩ := am_ok3 hok
    obtain ⟨y, r, rfl, hs⟩ := am_pI.inv hs
    obtain ⟨x, r, rfl, hs⟩ := am_pL.inv hs
    exact lv_lshl hexec hb hd rfl (hk _ _ _ _ _ _ _ hs hI hl)
  case lshr =>
    obtain ⟨hd, rfl, hx⟩ := am_ok3 hok
    obtain ⟨y, r, rfl, hs⟩ := am_pI.inv hs
    obtain ⟨x, r, rfl, hs⟩ := am_pL.inv hs
    exact lv_lshr hexec hb hd rfl (hk _ _ _ _ _ _ _ hs hI hl)
  case lushr =>
    obtain ⟨hd, rfl, hx⟩ := am_ok3 hok
    obtain ⟨y, r, rfl, hs⟩ := am_pI.inv hs
    obtain ⟨x, r, rfl, hs⟩ := am_pL.inv hs
    exact lv_lushr hexec hb hd rfl (hk _ _ _ _ _ _ _ hs hI hl)
  case lcmp =>
    obtain ⟨hd, rfl, hx⟩ := am_ok3 hok
    obtain ⟨y, r, rfl, hs⟩ := am_pL.inv hs
    obtain ⟨x, r, rfl, hs⟩ := am_pL.inv hs
    exact W.lcmp hexec hb hd (hk _ _ _ _ _ _ _ hs hI hl)
  case i2l =>
    obtain ⟨hd, rfl, hx⟩ := am_ok3 hok
    obtain ⟨x, r, rfl, hs⟩ := am_pI.inv hs
    exact lv_i2l hexec hb hd rfl (hk _ _ _ _ _ _ _ hs hI hl)
  case l2i =>
    obtain ⟨hd, rfl, hx⟩ := am_ok3 hok
    obtain ⟨x, r, rfl, hs⟩ := am_pL.inv hs
    exact lv_l2i hexec hb hd rfl (hk _ _ _ _ _ _ _ hs hI hl)
  case i2c =>
    obtain ⟨hd, rfl, hx⟩ := am_ok3 hok
    obtain ⟨x, r, rfl, hs⟩ := am_pI.inv hs
    exact lv_i2c hexec hb hd rfl (hk _ _ _ _ _ _ _ hs hI hl)
  case dup =>
    obtain ⟨hd, rfl, hx⟩ := am_ok3 hok
    obtain ⟨v, r, rfl, h1, hs⟩ := am_pV.inv hs
    exact lv_dup hexec hb hd ((am_cv_cat ad v).trans h1) (hk _ _ _ _ _ _ _ hs hI hl)
  case pop =>
    obtain ⟨hd, rfl, hx⟩ := am_ok3 hok
    obtain ⟨v, r, rfl, h1, hs⟩ := am_pV.inv hs
    exact lv_pop hexec hb hd ((am_cv_cat ad v).trans h1) (hk _ _ _ _ _ _ _ hs hI hl)
  case dup2 =>
    obtain ⟨hd, rfl, hx⟩ := am_ok3 hok
    obtain ⟨v, r, rfl, hs⟩ := am_pV.inv hs
    obtain ⟨w, r, rfl, h1, h2, hs⟩ := am_pV.inv hs
    exact lv_dup2_11 hexec hb hd ((am_cv_cat ad v).trans h1) ((am_cv_cat ad w).trans h2) (hk _ _ _ _ _ _ _ hs hI hl)
  case goto o =>
    obtain ⟨hd, rfl, hx⟩ := am_ok3 hok
    exact lv_goto hexec hb hd (of_decide_eq_true hx) (hk _ _ _ _ _ _ _ hs hI hl)
  case if_icmp q o =>
    obtain ⟨hd, rfl, hx⟩ := am_ok3 hok
    obtain ⟨y, r, rfl, hs⟩ := am_pI.inv hs
    obtain ⟨x, r, rfl, hs⟩ := am_pI.inv hs
    have ht := of_decide_eq_true hx
    cases q
    case eq => exact lv_icmp_eq hexec hb hd ht (fun q => hk _ _ _ _ _ _ _ (hs.1 q) hI hl) (fun q => hk _ _ _ _ _ _ _ (hs.2 q) hI hl)
    case ne => exact lv_icmp_ne hexec hb hd ht (fun q => hk _ _ _ _ _ _ _ (hs.1 q) hI hl) (fun q => hk _ _ _ _ _ _ _ (hs.2 (fun z => z q)) hI hl)
    case lt => exact lv_icmp_lt hexec hb hd ht (fun q => hk _ _ _ _ _ _ _ (hs.1 q) hI hl) (fun q => hk _ _ _ _ _ _ _ (hs.2 q) hI hl)
    case ge => exact lv_icmp_ge hexec hb hd ht (fun q => hk _ _ _ _ _ _ _ (hs.1 q) hI hl) (fun q => hk _ _ _ _ _ _ _ (hs.2 q) hI hl)
    case gt => exact lv_icmp_gt hexec hb hd ht (fun q => hk _ _ _ _ _ _ _ (hs.1 q) hI hl) (fun q => hk _ _ _ _ _ _ _ (hs.2 q) hI hl)
    case le => exact lv_icmp_le hexec hb hd ht (fun q => hk _ _ _ _ _ _ _ (hs.1 q) hI hl) (fun q => hk _ _ _ _ _ _ _ (hs.2 q) hI hl)
  case ifCond q o =>
    obtain ⟨hd, rfl, hx⟩ := am_ok3 hok
    obtain ⟨x, r, rfl, hs⟩ := am_pI.inv hs
    have ht := of_decide_eq_true hx
    cases q
    case eq => exact lv_if_eq hexec hb hd ht (fun q => hk _ _ _ _ _ _ _ (hs.1 q) hI hl) (fun q => hk _ _ _ _ _ _ _ (hs.2 q) hI hl)
    case ne => exact lv_if_ne hexec hb hd ht (fun q => hk _ _ _ _ _ _ _ (hs.1 q) hI hl) (fun q => hk _ _ _ _ _ _ _ (hs.2 (fun z => z q)) hI hl)
    case lt => exact lv_if_lt hexec hb hd ht (fun q => hk _ _ _ _ _ _ _ (hs.1 q) hI hl) (fun q => hk _ _ _ _ _ _ _ (hs.2 q) hI hl)
    case ge => exact lv_if_ge hexec hb hd ht (fun q => hk _ _ _ _ _ _ _ (hs.1 q) hI hl) (fun q => hk _ _ _ _ _ _ _ (hs.2 q) hI hl)
    case gt => exact lv_if_gt hexec hb hd ht (fun q => hk _ _ _ _ _ _ _ (hs.1 q) hI hl) (fun q => hk _ _ _ _ _ _ _ (hs.2 q) hI hl)
    case le => exact lv_if_le hexec hb hd ht (fun q => hk _ _ _ _ _ _ _ (hs.1 q) hI hl) (fun q => hk _ _ _ _ _ _ _ (hs.2 q) hI hl)
  case ldc2_w k =>
    obtain ⟨hd, rfl, hx⟩ := am_ok3 hok
    have h1 : (am_cl[c']?).map (fun q => (q.1, q.2.1)) = some (own, k) := of_decide_eq_true hx
    cases hq : am_cl[c']? with
    | none => rw [hq] at h1; cases h1
    | some q =>
      rw [hq] at h1
      obtain ⟨q1, q2, q3⟩ := q
      have h1 := Option.some.inj h1
      have e1 : q1 = own := congrArg Prod.fst h1
      have e2 : q2 = k := congrArg Prod.snd h1
      subst e1
      subst e2
      have hv : am_kl c' = q3 := by simp [am_kl, hq]
      refine lv_ldc2 hexec hb hown (hts _ (am_gw_cl hq)) hd ?_
      rw [← hv]
      exact hk _ _ _ _ _ _ _ hs hI hl
  case ldc_w k =>
    obtain ⟨hd, rfl, hx⟩ := am_ok3 hok
    have hx : (!(Nat.beq b' 1) && decide ((am_ci[c']?).map (fun q => (q.1, q.2.1)) = some (own, k))) = true := hx
    have hs2 : (bif Nat.beq b' 1 then K (pc + 3) lv (.ref (4000000 + c') :: st) h else K (pc + 3) lv (.int (am_ki c') :: st) h) := hs
    rw [Bool.and_eq_true] at hx
    obtain ⟨hx0, hx⟩ := hx
    cases hb1 : Nat.beq b' 1 with
    | true => rw [hb1] at hx0; cases hx0
    | false =>
      rw [hb1] at hs2
      have h1 : (am_ci[c']?).map (fun q => (q.1, q.2.1)) = some (own, k) := of_decide_eq_true hx
      cases hq : am_ci[c']? with
      | none => rw [hq] at h1; cases h1
      | some q =>
        rw [hq] at h1
        obtain ⟨q1, q2, q3⟩ := q
        have h1 := Option.some.inj h1
        have e1 : q1 = own := congrArg Prod.fst h1
        have e2 : q2 = k := congrArg Prod.snd h1
        subst e1
        subst e2
        have hv : am_ki c' = q3 := by simp [am_ki, hq]
        refine lv_ldcw hexec hb hown (hts _ (am_gw_ci hq)) hd ?_
        rw [← hv]
        exact hk _ _ _ _ _ _ _ hs2 hI hl
  case ldc k =>
    obtain ⟨hd, rfl, hx⟩ := am_ok3 hok
    have hx : (bif Nat.beq b' 1 then decide ((am_stt[c']?).map (fun q => (q.1, q.2.1)) = some (own, k)) else decide ((am_ci[c']?).map (fun q => (q.1, q.2.1)) = some (own, k))) = true := hx
    have hs2 : (bif Nat.beq b' 1 then K (pc + 2) lv (.ref (4000000 + c') :: st) h else K (pc + 2) lv (.int (am_ki c') :: st) h) := hs
    cases hb1 : Nat.beq b' 1 with
    | true =>
      rw [hb1] at hs2 hx
      have h1 : (am_stt[c']?).map (fun q => (q.1, q.2.1)) = some (own, k) := of_decide_eq_true hx
      cases hq : am_stt[c']? with
      | none => rw [hq] at h1; cases h1
      | some q =>
        rw [hq] at h1
        obtain ⟨q1, q2, q3⟩ := q
        have h1 := Option.some.inj h1
        have e1 : q1 = own := congrArg Prod.fst h1
        have e2 : q2 = k := congrArg Prod.snd h1
        subst e1
        subst e2
        exact va_ldcS hexec hb hown (hE.2.2.2.2.2.2.1 c' _ _ _ hq) hd (hk _ _ _ _ _ _ _ hs2 hI hl)
    | false =>
      rw [hb1] at hs2 hx
      have h1 : (am_ci[c']?).map (fun q => (q.1, q.2.1)) = some (own, k) := of_decide_eq_true hx
      cases hq : am_ci[c']? with
      | none => rw [hq] at h1; cases h1
      | some q =>
        rw [hq] at h1
        obtain ⟨q1, q2, q3⟩ := q
        have h1 := Option.some.inj h1
        have e1 : q1 = own := congrArg Prod.fst h1
        have e2 : q2 = k := congrArg Prod.snd h1
        subst e1
        subst e2
        have hv : am_ki c' = q3 := by simp [am_ki, hq]
        refine lv_ldc hexec hb hown (hts _ (am_gw_ci hq)) hd ?_
        rw [← hv]
        exact hk _ _ _ _ _ _ _ hs2 hI hl
  case getstatic k =>
    obtain ⟨hd, rfl, hx⟩ := am_ok3 hok
    have hx : (Nat.beq b' 0 && decide (am_fl[c']? = some (own, k, "java/lang/String", "COMPACT_STRINGS", "Z"))) = true := hx
    have hs : (bif Nat.beq b' 1 then K (pc + 3) lv (.ref 6000000 :: st) h else K (pc + 3) lv (.int 1 :: st) h) := hs
    rw [Bool.and_eq_true, decide_eq_true_eq] at hx
    have e0 := Nat.eq_of_beq_eq_true hx.1
    rw [e0] at hs
    exact va_gets hexec hb hE.2.2.2.2.2.2.2.1 hI.2.1 hown (hts _ (am_gw_fl hx.2)) (fun x q => q) hd (hk _ _ _ _ _ _ _ hs hI hl)
  case i2b =>
    obtain ⟨hd, rfl, hx⟩ := am_ok3 hok
    obtain ⟨x, r, rfl, hs⟩ := am_pI.inv hs
    exact lv_i2b hexec hb hd rfl (hk _ _ _ _ _ _ _ hs hI hl)
  case tableswitch df lo hi os =>
    obtain ⟨x, r, rfl, hs⟩ := am_pI.inv hs
    have hok : ((match decode cc pc with
      | .ok (i', _) => decide (i' = .tableswitch df lo hi os)
      | _ => false) && (decide (0 ≤ (pc : Int) + df) && (os.toList.all (fun o => decide (0 ≤ (pc : Int) + o)) && decide ((os.size : Int) = hi - lo + 1)))) = true := hok
    simp only [Bool.and_eq_true, decide_eq_true_eq] at hok
    obtain ⟨h0, h1, h2, h3⟩ := hok
    have hd : ∃ len, decode cc pc = .ok (.tableswitch df lo hi os, len) := by
      split at h0
      · rename_i i' len hdd
        exact ⟨len, by rw [hdd, of_decide_eq_true h0]⟩
      · cases h0
    obtain ⟨len, hd⟩ := hd
    by_cases hx1 : x.toInt < lo ∨ hi < x.toInt
    · exact lv_tableOut hexec hb hd hx1 (Int.toNat_of_nonneg h1).symm (hk _ _ _ _ _ _ _ (hs.1 hx1) hI hl)
    · have hlo : ¬ x.toInt < lo := fun q => hx1 (Or.inl q)
      have hhi : ¬ hi < x.toInt := fun q => hx1 (Or.inr q)
      have hj : (x.toInt - lo).toNat < os.size := by omega
      have ho : os[(x.toInt - lo).toNat]? = some os[(x.toInt - lo).toNat] := Array.getElem?_eq_getElem hj
      have h5 : (0 : Int) ≤ (pc : Int) + os[(x.toInt - lo).toNat] := of_decide_eq_true (List.all_eq_true.mp h2 _ (by rw [Array.mem_toList_iff]; exact Array.getElem_mem hj))
      have h6 := hs.2 (x.toInt - lo).toNat (by omega) (by omega)
      rw [ho] at h6
      exact lv_tableIn hexec hb hd hlo hhi ho (Int.toNat_of_nonneg h5).symm (hk _ _ _ _ _ _ _ h6 hI hl)
  case lookupswitch df ps =>
    obtain ⟨x, r, rfl, hs⟩ := am_pI.inv hs
    have hok : ((match decode cc pc with
      | .ok (i', _) => decide (i' = .lookupswitch df ps)
      | _ => false) && (decide (0 ≤ (pc : Int) + df) && (ps.toList.all (fun o => decide (0 ≤ (pc : Int) + o.2)) && (ps.toList.zip (ps.toList.drop 1)).all (fun (a, next) => a.1 < next.1)))) = true := hok
    rw [Bool.and_eq_true, Bool.and_eq_true, Bool.and_eq_true] at hok
    obtain ⟨h0, h1, h2, h3⟩ := hok
    have h1 := of_decide_eq_true h1
    have hd : ∃ len, decode cc pc = .ok (.lookupswitch df ps, len) := by
      split at h0
      · rename_i i' len hdd
        exact ⟨len, by rw [hdd, of_decide_eq_true h0]⟩
      · cases h0
    obtain ⟨len, hd⟩ := hd
    have h6 : ∀ (z : Int) (l : List (Int × Int)), l.all (fun o => decide (0 ≤ (pc : Int) + o.2)) = true → (0 : Int) ≤ (pc : Int) + Op.lookupswitch.offset l df z := by
      intro z l
      induction l with
      | nil => intro _; exact h1
      | cons q r ih =>
        intro hq
        rw [List.all_cons, Bool.and_eq_true] at hq
        obtain ⟨q1, q2⟩ := q
        rw [Op.lookupswitch.offset_cons]
        split
        · exact of_decide_eq_true hq.1
        · exact ih hq.2
    exact lv_lookup hexec hb hd h3 rfl (Int.toNat_of_nonneg (h6 _ _ h2)).symm (hk _ _ _ _ _ _ _ hs hI hl)
  case getfield k =>
    obtain ⟨hd, rfl, hx⟩ := am_ok3 hok
    cases hb20 : Nat.beq b' 20 with
    | true =>
      have hx : (bif Nat.beq b' 20 then (Nat.beq a 0 && decide (am_fl[c']? = some (own, k, "java/lang/String", "value", "[B"))) || (Nat.beq a 1 && decide (am_fl[c']? = some (own, k, "java/lang/String", "coder", "B"))) else _) = true := hx
      have hs2 : (bif Nat.beq b' 20 then am_pR st fun o r => ∃ q : Nat, q < 26 ∧ o = 4000000 + q ∧ K (pc + 3) lv ((bif Nat.beq a 0 then .ref (5000000 + q) else .int 0) :: r) h else _) := hs
      rw [hb20] at hx hs2
      obtain ⟨o, r, e7, q, hq, e8, hs3⟩ := am_pR.inv hs2
      subst e8
      subst e7
      have hS9 : va_O "java/lang/String" (ad (4000000 + q)) (fun q => base ≤ q) s s.heap ∧ va_OF "java/lang/String" "coder" "B" (.int 0) (ad (4000000 + q)) (fun q => base ≤ q) s s.heap ∧ va_OF "java/lang/String" "value" "[B" (.ref (ad (5000000 + q))) (ad (4000000 + q)) (fun q => base ≤ q) s s.heap ∧ va_T .byte (ad (5000000 + q)) (am_sln.getD q 0) (fun j => .int ((am_sby.getD q []).getD j 0)) (fun q => base ≤ q) s s.heap := (hE.2.2.2.2.2.1 q hq).1 0 (by decide)
      rcases Bool.or_eq_true_iff.mp hx with hx | hx
      · rw [Bool.and_eq_true, decide_eq_true_eq] at hx
        rw [hx.1] at hs3
        exact vk_getf hexec hb hS9.2.2.1 hI.2.1 hown (hts _ (am_gw_fl hx.2)) (fun x q => q) hd (hk _ _ _ _ _ _ _ hs3 hI hl)
      · rw [Bool.and_eq_true, decide_eq_true_eq] at hx
        have e0 := Nat.eq_of_beq_eq_true hx.1
        rw [e0] at hs3
        exact vk_getf hexec hb hS9.2.1 hI.2.1 hown (hts _ (am_gw_fl hx.2)) (fun x q => q) hd (hk _ _ _ _ _ _ _ hs3 hI hl)
    | false =>
    have hx : (bif Nat.beq b' 20 then _ else decide (am_fl[c']? = some (own, k, (am_fd b' a).1, (am_fd b' a).2.1, (am_fd b' a).2.2.1)) && (decide (b' < 12) && decide (a < am_nf b'))) = true := hx
    have hs : (bif Nat.beq b' 20 then _ else am_pR st fun o r => am_sh h o = some (b', 0) ∧ K (pc + 3) lv (am_gv h b' a o :: r) h) := hs
    rw [hb20] at hx hs
    obtain ⟨h1, h2, h3⟩ := am_ok3 hx
    have h3 := of_decide_eq_true h3
    obtain ⟨o, r, rfl, hsh, hs⟩ := am_pR.inv hs
    have ho := am_obj hsh h2
    obtain ⟨C, T, N, e1, e2, e3, e4, e5, ty, e6, e7, e8⟩ := am_ci_ok b' h2
    have hlk : (Cond.fieldLink own k (T a).1 (T a).2.1 (T a).2.2.1).before args s = true := hts _ (am_gw_fl (by rw [← e4]; exact h1))
    exact va_get (ref := (T a).1) hexec hb hts e5 hown hE.1 hI.1 o ((am_cc_at ho).trans (by rw [am_cell_obj h2])) e1 a (by rw [← e2]; exact h3) hlk (fun x q => q) (am_fs_at h3) hd (hk _ _ _ _ _ _ _ hs hI hl)
  case putfield k =>
    obtain ⟨hd, rfl, hx⟩ := am_ok3 hok
    have hx : (decide (am_fl[c']? = some (own, k, (am_fd b' a).1, (am_fd b' a).2.1, (am_fd b' a).2.2.1)) && (decide (b' < 12) && (decide (a < am_nf b') && (!(am_fd b' a).2.2.2 || (ini && decide ((am_fd b' a).1 = own)))))) = true := hx
    simp only [Bool.and_eq_true, Bool.or_eq_true, decide_eq_true_eq, Bool.not_eq_true'] at hx
    obtain ⟨h1, h2, h3, h4⟩ := hx
    obtain ⟨C, T, N, e1, e2, e3, e4, e5, ty, e6, e7, e8⟩ := am_ci_ok b' h2
    have hlk : (Cond.fieldLink own k (T a).1 (T a).2.1 (T a).2.2.1).before args s = true := hts _ (am_gw_fl (by rw [← e4]; exact h1))
    have e9 := e8 a (by rw [← e2]; exact h3)
    have h4 : (am_fd b' a).2.2.2 = false ∨ ((am_fd b' a).2.2.2 = true ∧ ini = true ∧ (am_fd b' a).1 = own) := by
      cases hf : (am_fd b' a).2.2.2 with
      | false => exact Or.inl rfl
      | true =>
        rcases h4 with h4 | h4
        · rw [hf] at h4
          cases h4
        · exact Or.inr ⟨rfl, h4⟩
    unfold am_stp at hs
    dsimp only at hs
    split at hs
    · rename_i hkd
      obtain ⟨x, r1, rfl, hs1⟩ := am_pI.inv hs
      obtain ⟨o, r, rfl, hsh, hn, hf, hs2⟩ := am_pR.inv hs1
      have ho := am_obj hsh h2
      rcases h4 with h4 | h4
      · refine va_put (ref := (T a).1) hexec hb hts e5 ty e6 e7 hown hE.1 hI.1 (am_cc_D hI.2.2.2.1 hG.1) hI.2.1 o ((am_cc_at ho).trans (by rw [am_cell_obj h2])) e1 a (by rw [← e2]; exact h3) hlk (fun x q => q) (by rw [← e4]; exact h4) (e6 a (by rw [← e2]; exact h3)) (v := .int x) (by rw [← e9.2]; exact hn) (by rw [← e9.2]; exact hf) (by simp [h3]) hd (fun H1 locs1 hP1 hD1 hS1 => ?_)
        have hz := fun hI' => hk _ _ _ _ H1 locs1 _ hs2 hI' hl
        refine hz ⟨am_set_P ho rfl am_cell_oI ?_ hP1, hS1, hI.2.2.1.wI (am_sw_lt ho), hI.2.2.2.1, hI.2.2.2.2⟩
        rw [am_cell_obj h2, ← am_fs_set h3 (am_put_oI (x := x)), am_put_gv hkd]
        rfl
      · refine va_putF (ref := (T a).1) hexec hb hts e5 ty e6 e7 hown hE.1 hI.1 (am_cc_D hI.2.2.2.1 hG.1) hI.2.1 o ((am_cc_at ho).trans (by rw [am_cell_obj h2])) e1 a (by rw [← e2]; exact h3) hlk (fun x q => q) (by rw [← e4]; exact h4.1) (hini h4.2.1) (by rw [← e4]; exact h4.2.2) (e6 a (by rw [← e2]; exact h3)) (v := .int x) (by rw [← e9.2]; exact hn) (by rw [← e9.2]; exact hf) (by simp [h3]) hd (fun H1 locs1 hP1 hD1 hS1 => ?_)
        have hz := fun hI' => hk _ _ _ _ H1 locs1 _ hs2 hI' hl
        refine hz ⟨am_set_P ho rfl am_cell_oI ?_ hP1, hS1, hI.2.2.1.wI (am_sw_lt ho), hI.2.2.2.1, hI.2.2.2.2⟩
        rw [am_cell_obj h2, ← am_fs_set h3 (am_put_oI (x := x)), am_put_gv hkd]
        rfl
    · rename_i hkd
      obtain ⟨x, r1, rfl, hs1⟩ := am_pL.inv hs
      obtain ⟨o, r, rfl, hsh, hs2⟩ := am_pR.inv hs1
      have ho := am_obj hsh h2
      have hty : ty a = .long := by
        rw [hkd] at e9
        revert e9
        cases ty a <;> intro e9 <;> first | rfl | (exact absurd e9.1 (fun q => by cases q))
      rcases h4 with h4 | h4
      · refine va_put (ref := (T a).1) hexec hb hts e5 ty e6 e7 hown hE.1 hI.1 (am_cc_D hI.2.2.2.1 hG.1) hI.2.1 o ((am_cc_at ho).trans (by rw [am_cell_obj h2])) e1 a (by rw [← e2]; exact h3) hlk (fun x q => q) (by rw [← e4]; exact h4) (e6 a (by rw [← e2]; exact h3)) (v := .long x) (by rw [hty]; rfl) (by rw [hty]; rfl) (by simp [h3]) hd (fun H1 locs1 hP1 hD1 hS1 => ?_)
        have hz := fun hI' => hk _ _ _ _ H1 locs1 _ hs2 hI' hl
        refine hz ⟨am_set_P ho rfl am_cell_oL ?_ hP1, hS1, hI.2.2.1.wL, hI.2.2.2.1, hI.2.2.2.2⟩
        rw [am_cell_obj h2, ← am_fs_set h3 (am_put_oL (x := x)), am_put_gvL hkd]
        rfl
      · refine va_putF (ref := (T a).1) hexec hb hts e5 ty e6 e7 hown hE.1 hI.1 (am_cc_D hI.2.2.2.1 hG.1) hI.2.1 o ((am_cc_at ho).trans (by rw [am_cell_obj h2])) e1 a (by rw [← e2]; exact h3) hlk (fun x q => q) (by rw [← e4]; exact h4.1) (hini h4.2.1) (by rw [← e4]; exact h4.2.2) (e6 a (by rw [← e2]; exact h3)) (v := .long x) (by rw [hty]; rfl) (by rw [hty]; rfl) (by simp [h3]) hd (fun H1 locs1 hP1 hD1 hS1 => ?_)
        have hz := fun hI' => hk _ _ _ _ H1 locs1 _ hs2 hI' hl
        refine hz ⟨am_set_P ho rfl am_cell_oL ?_ hP1, hS1, hI.2.2.1.wL, hI.2.2.2.1, hI.2.2.2.2⟩
        rw [am_cell_obj h2, ← am_fs_set h3 (am_put_oL (x := x)), am_put_gvL hkd]
        rfl
    · rename_i hkd hkd1
      obtain ⟨x, r1, rfl, hs1⟩ := am_pR.inv hs
      obtain ⟨o, r, rfl, hsh, hs2⟩ := am_pR.inv hs1
      have ho := am_obj hsh h2
      have hty : (∃ n, ty a = .object n) ∨ ∃ t, ty a = .array t := by
        revert e9
        cases ty a <;> intro e9 <;> first | exact Or.inl ⟨_, rfl⟩ | exact Or.inr ⟨_, rfl⟩ | exact absurd e9.1 hkd | exact absurd e9.1 hkd1
      rcases h4 with h4 | h4
      · refine va_put (ref := (T a).1) hexec hb hts e5 ty e6 e7 hown hE.1 hI.1 (am_cc_D hI.2.2.2.1 hG.1) hI.2.1 o ((am_cc_at ho).trans (by rw [am_cell_obj h2])) e1 a (by rw [← e2]; exact h3) hlk (fun x q => q) (by rw [← e4]; exact h4) (e6 a (by rw [← e2]; exact h3)) (v := .ref (ad x)) (by rcases hty with ⟨n, q⟩ | ⟨n, q⟩ <;> rw [q] <;> rfl) (by rcases hty with ⟨n, q⟩ | ⟨n, q⟩ <;> rw [q] <;> rfl) (by simp [h3]) hd (fun H1 locs1 hP1 hD1 hS1 => ?_)
        have hz := fun hI' => hk _ _ _ _ H1 locs1 _ hs2 hI' hl
        refine hz ⟨am_set_P ho rfl am_cell_oR ?_ hP1, hS1, hI.2.2.1.wR, hI.2.2.2.1, hI.2.2.2.2⟩
        rw [am_cell_obj h2, ← am_fs_set h3 (am_put_oR (x := some x)), am_put_gvR hkd hkd1]
        rfl
      · refine va_putF (ref := (T a).1) hexec hb hts e5 ty e6 e7 hown hE.1 hI.1 (am_cc_D hI.2.2.2.1 hG.1) hI.2.1 o ((am_cc_at ho).trans (by rw [am_cell_obj h2])) e1 a (by rw [← e2]; exact h3) hlk (fun x q => q) (by rw [← e4]; exact h4.1) (hini h4.2.1) (by rw [← e4]; exact h4.2.2) (e6 a (by rw [← e2]; exact h3)) (v := .ref (ad x)) (by rcases hty with ⟨n, q⟩ | ⟨n, q⟩ <;> rw [q] <;> rfl) (by rcases hty with ⟨n, q⟩ | ⟨n, q⟩ <;> rw [q] <;> rfl) (by simp [h3]) hd (fun H1 locs1 hP1 hD1 hS1 => ?_)
        have hz := fun hI' => hk _ _ _ _ H1 locs1 _ hs2 hI' hl
        refine hz ⟨am_set_P ho rfl am_cell_oR ?_ hP1, hS1, hI.2.2.1.wR, hI.2.2.2.1, hI.2.2.2.2⟩
        rw [am_cell_obj h2, ← am_fs_set h3 (am_put_oR (x := some x)), am_put_gvR hkd hkd1]
        rfl
  case iaload =>
    obtain ⟨hd, rfl, hx⟩ := am_ok3 hok
    obtain ⟨i, r1, rfl, hs1⟩ := am_pI.inv hs
    obtain ⟨o, r, rfl, j, n, hsh, hj, rfl, hs2⟩ := am_pR.inv hs1
    rcases am_sh_cases hsh with ⟨rfl, hn⟩ | ho
    · have hnL : n = L := (congrArg Prod.snd hn).trans hI.2.2.1.1
      subst hnL
      have hA : ¬ am_A base b := fun q => absurd hG.2.2.1 (Nat.not_lt.mpr q)
      have e1 := hI.2.2.1.2 j hj
      rw [e1] at hs2
      have hs3 := hk _ _ _ _ _ _ _ hs2 hI hl
      show W p l e R s m args below meth c H locs (am_ce c0 h) (am_sc c0 h) Qw (F0 m pc ls (.int (nI j) :: .ref (ad 3000000) :: r.map (am_cv ad)))
      rw [hG.2.1]
      refine va_sld hexec hb hE.2.2.1 (Nat.lt_of_lt_of_le hG.2.2.1 hbase) hA hI.2.1 (vp_in_nI hj hG.2.2.2) hd ?_
      rw [nI_clamp (Nat.lt_trans hj hG.2.2.2)]
      exact hs3
    · have hn := am_lenlt ho
      refine va_iald hexec hb hE.1 hI.1 o 1 ((am_cc_at ho).trans (by rw [am_cell_i (Or.inr (Or.inl rfl))])) rfl (vp_in_nI hj hn) hd ?_
      rw [nI_clamp (Nat.lt_trans hj hn)]
      exact hk _ _ _ _ _ _ _ hs2 hI hl
  case caload =>
    obtain ⟨hd, rfl, hx⟩ := am_ok3 hok
    obtain ⟨i, r1, rfl, hs1⟩ := am_pI.inv hs
    obtain ⟨o, r, rfl, j, n, hsh, hj, rfl, hs2⟩ := am_pR.inv hs1
    rcases am_sh_cases hsh with ⟨rfl, hn⟩ | ho
    · exact absurd (show (12 : Nat) = 13 from congrArg Prod.fst hn) (by decide)
    · have hn := am_lenlt ho
      refine va_cald hexec hb hE.1 hI.1 o 0 ((am_cc_at ho).trans (by rw [am_cell_i (Or.inl rfl)])) rfl (vp_in_nI hj hn) hd ?_
      rw [nI_clamp (Nat.lt_trans hj hn)]
      exact hk _ _ _ _ _ _ _ hs2 hI hl
  case baload =>
    obtain ⟨hd, rfl, hx⟩ := am_ok3 hok
    obtain ⟨i, r1, rfl, hs1⟩ := am_pI.inv hs
    obtain ⟨o, r, rfl, ⟨j, n, hsh, hj, rfl, hs2⟩ | ⟨q, j, hq, rfl, hj, rfl, hs2⟩⟩ := am_pR.inv hs1
    rotate_left
    · have hS9 : va_O "java/lang/String" (ad (4000000 + q)) (fun q => base ≤ q) s s.heap ∧ va_OF "java/lang/String" "coder" "B" (.int 0) (ad (4000000 + q)) (fun q => base ≤ q) s s.heap ∧ va_OF "java/lang/String" "value" "[B" (.ref (ad (5000000 + q))) (ad (4000000 + q)) (fun q => base ≤ q) s s.heap ∧ va_T .byte (ad (5000000 + q)) (am_sln.getD q 0) (fun j => .int ((am_sby.getD q []).getD j 0)) (fun q => base ≤ q) s s.heap := (hE.2.2.2.2.2.1 q hq).1 0 (by decide)
      have hln : am_sln.getD q 0 < 2 ^ 31 := Nat.lt_of_le_of_lt (am_sln_le q) (by decide)
      refine va_tb hexec hb hS9.2.2.2 hI.2.1 (vp_in_nI hj hln) (v := .int ((am_sby.getD q []).getD j 0)) (by rw [nI_clamp (Nat.lt_trans hj hln)]) hd ?_
      exact hk _ _ _ _ _ _ _ hs2 hI hl
    rcases am_sh_cases hsh with ⟨rfl, hn⟩ | ho
    · exact absurd (show (15 : Nat) = 13 from congrArg Prod.fst hn) (by decide)
    · have hn := am_lenlt ho
      refine va_zald hexec hb hE.1 hI.1 o 3 ((am_cc_at ho).trans (by rw [am_cell_i (Or.inr (Or.inr rfl))])) rfl (vp_in_nI hj hn) hd ?_
      rw [nI_clamp (Nat.lt_trans hj hn)]
      exact hk _ _ _ _ _ _ _ hs2 hI hl
  case laload =>
    obtain ⟨hd, rfl, hx⟩ := am_ok3 hok
    obtain ⟨i, r1, rfl, hs1⟩ := am_pI.inv hs
    obtain ⟨o, r, rfl, j, n, hsh, hj, rfl, hs2⟩ := am_pR.inv hs1
    rcases am_sh_cases hsh with ⟨rfl, hn⟩ | ho
    · exact absurd (show (14 : Nat) = 13 from congrArg Prod.fst hn) (by decide)
    · have hn := am_lenlt ho
      refine va_lald hexec hb hE.1 hI.1 o 2 ((am_cc_at ho).trans (by rw [am_cell_l])) rfl (vp_in_nI hj hn) hd ?_
      rw [nI_clamp (Nat.lt_trans hj hn)]
      exact hk _ _ _ _ _ _ _ hs2 hI hl
  case aaload =>
    obtain ⟨hd, rfl, hx⟩ := am_ok3 hok
    obtain ⟨i, r1, rfl, hs1⟩ := am_pI.inv hs
    obtain ⟨o, r, rfl, j, n, hsh, hj, rfl, hs2⟩ := am_pR.inv hs1
    rcases hsh with hsh | hsh
    · rcases am_sh_cases hsh with ⟨rfl, hn⟩ | ho
      · exact absurd (show (16 : Nat) = 13 from congrArg Prod.fst hn) (by decide)
      · have hn := am_lenlt ho
        refine va_aldq hexec hb hE.1 hI.1 o 4 ((am_cc_at ho).trans (by rw [am_cell_r (Or.inl rfl)])) rfl (vp_in_nI hj hn) hd ?_
        rw [nI_clamp (Nat.lt_trans hj hn), ← am_rf_cv]
        exact hk _ _ _ _ _ _ _ hs2 hI hl
    · rcases am_sh_cases hsh with ⟨rfl, hn⟩ | ho
      · exact absurd (show (17 : Nat) = 13 from congrArg Prod.fst hn) (by decide)
      · have hn := am_lenlt ho
        refine va_aldq hexec hb hE.1 hI.1 o 5 ((am_cc_at ho).trans (by rw [am_cell_r (Or.inr rfl)])) rfl (vp_in_nI hj hn) hd ?_
        rw [nI_clamp (Nat.lt_trans hj hn), ← am_rf_cv]
        exact hk _ _ _ _ _ _ _ hs2 hI hl
  case iastore =>
    obtain ⟨hd, rfl, hx⟩ := am_ok3 hok
    obtain ⟨x, r1, rfl, hs0⟩ := am_pI.inv hs
    obtain ⟨i, r2, rfl, hs1⟩ := am_pI.inv hs0
    obtain ⟨o, r, rfl, j, n, ho, hj, rfl, hs2⟩ := am_pR.inv hs1
    have hn := am_lenlt ho
    refine va_iast hexec hb hE.1 hI.1 (am_cc_D hI.2.2.2.1 hG.1) hI.2.1 o 1 ((am_cc_at ho).trans (by rw [am_cell_i (Or.inr (Or.inl rfl))])) rfl (vp_in_nI hj hn) hd (fun H1 locs1 hP1 hD1 hS1 => ?_)
    rw [nI_clamp (Nat.lt_trans hj hn)] at hP1
    have hz := fun hI' => hk _ _ _ _ H1 locs1 _ hs2 hI' hl
    refine hz ⟨am_set_P ho rfl am_cell_oI ?_ hP1, hS1, hI.2.2.1.wI (am_sw_lt ho), hI.2.2.2.1, hI.2.2.2.2⟩
    rw [am_cell_i (Or.inr (Or.inl rfl)), am_wI_upd]
  case castore =>
    obtain ⟨hd, rfl, hx⟩ := am_ok3 hok
    obtain ⟨x, r1, rfl, hs0⟩ := am_pI.inv hs
    obtain ⟨i, r2, rfl, hs1⟩ := am_pI.inv hs0
    obtain ⟨o, r, rfl, j, n, ho, hj, rfl, hs2⟩ := am_pR.inv hs1
    have hn := am_lenlt ho
    refine va_cast hexec hb hE.1 hI.1 (am_cc_D hI.2.2.2.1 hG.1) hI.2.1 o 0 ((am_cc_at ho).trans (by rw [am_cell_i (Or.inl rfl)])) rfl (vp_in_nI hj hn) hd (fun H1 locs1 hP1 hD1 hS1 => ?_)
    rw [nI_clamp (Nat.lt_trans hj hn)] at hP1
    have hz := fun hI' => hk _ _ _ _ H1 locs1 _ hs2 hI' hl
    refine hz ⟨am_set_P ho rfl am_cell_oI ?_ hP1, hS1, hI.2.2.1.wI (am_sw_lt ho), hI.2.2.2.1, hI.2.2.2.2⟩
    rw [am_cell_i (Or.inl rfl), am_wI_upd]
  case bastore =>
    obtain ⟨hd, rfl, hx⟩ := am_ok3 hok
    obtain ⟨x, r1, rfl, hs0⟩ := am_pI.inv hs
    obtain ⟨i, r2, rfl, hs1⟩ := am_pI.inv hs0
    obtain ⟨o, r, rfl, j, n, ho, hj, rfl, hs2⟩ := am_pR.inv hs1
    have hn := am_lenlt ho
    refine va_zast hexec hb hE.1 hI.1 (am_cc_D hI.2.2.2.1 hG.1) hI.2.1 o 3 ((am_cc_at ho).trans (by rw [am_cell_i (Or.inr (Or.inr rfl))])) rfl (vp_in_nI hj hn) hd (fun H1 locs1 hP1 hD1 hS1 => ?_)
    rw [nI_clamp (Nat.lt_trans hj hn)] at hP1
    have hz := fun hI' => hk _ _ _ _ H1 locs1 _ hs2 hI' hl
    refine hz ⟨am_set_P ho rfl am_cell_oI ?_ hP1, hS1, hI.2.2.1.wI (am_sw_lt ho), hI.2.2.2.1, hI.2.2.2.2⟩
    rw [am_cell_i (Or.inr (Or.inr rfl)), am_wI_upd]
  case lastore =>
    obtain ⟨hd, rfl, hx⟩ := am_ok3 hok
    obtain ⟨x, r1, rfl, hs0⟩ := am_pL.inv hs
    obtain ⟨i, r2, rfl, hs1⟩ := am_pI.inv hs0
    obtain ⟨o, r, rfl, j, n, ho, hj, rfl, hs2⟩ := am_pR.inv hs1
    have hn := am_lenlt ho
    refine va_last hexec hb hE.1 hI.1 (am_cc_D hI.2.2.2.1 hG.1) hI.2.1 o 2 ((am_cc_at ho).trans (by rw [am_cell_l])) rfl (vp_in_nI hj hn) hd (fun H1 locs1 hP1 hD1 hS1 => ?_)
    rw [nI_clamp (Nat.lt_trans hj hn)] at hP1
    have hz := fun hI' => hk _ _ _ _ H1 locs1 _ hs2 hI' hl
    refine hz ⟨am_set_P ho rfl am_cell_oL ?_ hP1, hS1, hI.2.2.1.wL, hI.2.2.2.1, hI.2.2.2.2⟩
    rw [am_cell_l, am_wL_upd]
  case arraylength =>
    obtain ⟨hd, rfl, hx⟩ := am_ok3 hok
    obtain ⟨o, r, rfl, ⟨t, n, hsh, ht, hs1⟩ | ⟨q, hq, rfl, hs1⟩⟩ := am_pR.inv hs
    rotate_left
    · have hS9 : va_O "java/lang/String" (ad (4000000 + q)) (fun q => base ≤ q) s s.heap ∧ va_OF "java/lang/String" "coder" "B" (.int 0) (ad (4000000 + q)) (fun q => base ≤ q) s s.heap ∧ va_OF "java/lang/String" "value" "[B" (.ref (ad (5000000 + q))) (ad (4000000 + q)) (fun q => base ≤ q) s s.heap ∧ va_T .byte (ad (5000000 + q)) (am_sln.getD q 0) (fun j => .int ((am_sby.getD q []).getD j 0)) (fun q => base ≤ q) s s.heap := (hE.2.2.2.2.2.1 q hq).1 0 (by decide)
      exact va_tlen hexec hb hS9.2.2.2 hI.2.1 rfl hd (hk _ _ _ _ _ _ _ hs1 hI hl)
    rcases am_sh_cases hsh with ⟨rfl, hn⟩ | ho
    · have hnL : n = L := (congrArg Prod.snd hn).trans hI.2.2.1.1
      subst hnL
      have hA : ¬ am_A base b := fun q => absurd hG.2.2.1 (Nat.not_lt.mpr q)
      have hs2 := hk _ _ _ _ _ _ _ hs1 hI hl
      show W p l e R s m args below meth c H locs (am_ce c0 h) (am_sc c0 h) Qw (F0 m pc ls (.ref (ad 3000000) :: r.map (am_cv ad)))
      rw [hG.2.1]
      exact va_slen hexec hb hE.2.2.1 (Nat.lt_of_lt_of_le hG.2.2.1 hbase) hA hI.2.1 hd hs2
    · have ht2 : t = 12 ∨ t = 13 ∨ t = 14 ∨ t = 15 ∨ t = 16 ∨ t = 17 := am_ar h o t n ho ht
      rcases ht2 with rfl | rfl | rfl | rfl | rfl | rfl
      · exact va_alen (x := (n, .inl (h.1 o))) hexec hb hE.1 hI.1 o 0 ((am_cc_at ho).trans (by rw [am_cell_i (Or.inl rfl)])) rfl rfl hd (hk _ _ _ _ _ _ _ hs1 hI hl)
      · exact va_alen (x := (n, .inl (h.1 o))) hexec hb hE.1 hI.1 o 1 ((am_cc_at ho).trans (by rw [am_cell_i (Or.inr (Or.inl rfl))])) rfl rfl hd (hk _ _ _ _ _ _ _ hs1 hI hl)
      · exact va_alen (x := (n, .inr (.inl (h.2.1 o)))) hexec hb hE.1 hI.1 o 2 ((am_cc_at ho).trans (by rw [am_cell_l])) rfl rfl hd (hk _ _ _ _ _ _ _ hs1 hI hl)
      · exact va_alen (x := (n, .inl (h.1 o))) hexec hb hE.1 hI.1 o 3 ((am_cc_at ho).trans (by rw [am_cell_i (Or.inr (Or.inr rfl))])) rfl rfl hd (hk _ _ _ _ _ _ _ hs1 hI hl)
      · exact va_alen (x := (n, .inr (.inr (.inr (.inr (fun j => (h.2.2.1 o j).map ad)))))) hexec hb hE.1 hI.1 o 4 ((am_cc_at ho).trans (by rw [am_cell_r (Or.inl rfl)])) rfl rfl hd (hk _ _ _ _ _ _ _ hs1 hI hl)
      · exact va_alen (x := (n, .inr (.inr (.inr (.inr (fun j => (h.2.2.1 o j).map ad)))))) hexec hb hE.1 hI.1 o 5 ((am_cc_at ho).trans (by rw [am_cell_r (Or.inr rfl)])) rfl rfl hd (hk _ _ _ _ _ _ _ hs1 hI hl)
  case invokevirtual k =>
    obtain ⟨hd, rfl, hx⟩ := am_ok3 hok
    refine am_Wsz (fun hle => ?_)
    have hw := am_sizeq hG hsz hI hle
    have hx : (decide (am_ml[c']? = some (own, k, a)) && (bif Nat.beq d 20 then decide ((a, b') ∈ am_svl) else decide ((a, b', d) ∈ am_vls))) = true := hx
    rw [Bool.and_eq_true, decide_eq_true_eq] at hx
    obtain ⟨h1, h2⟩ := hx
    cases hd20 : Nat.beq d 20 with
    | true =>
      rw [hd20] at h2
      have h2 := of_decide_eq_true h2
      obtain ⟨v1, v2, v3, v4, v6, v7, v8, v9, v10⟩ := am_svl_at h2
      unfold am_stp at hs
      dsimp only at hs
      split at hs
      · rename_i As o r hpop
        obtain ⟨B, rfl, hB, rfl⟩ := am_pop_inv hpop
        rw [List.append_nil] at hs hpop
        obtain ⟨hrc, hcat, hlm, hcp⟩ := hs
        rcases hrc with ⟨hne, -⟩ | ⟨-, q, hq, rfl⟩
        · exact absurd (Nat.eq_of_beq_eq_true hd20) hne
        obtain ⟨dd, hM, hfr, hlo⟩ := hC _ _ _ _ hcp
        have hG2 : GoodIn am_gw (wsV own k "java/lang/String" (am_y a) (am_ws a)) := am_good_in (fun w hw => by
          unfold wsV at hw
          rcases List.mem_append.mp hw with q | q
          · simp only [List.mem_cons, List.not_mem_nil, or_false] at q
            rcases q with rfl | rfl | rfl | rfl
            · exact am_gw_ml h1 v10
            · exact am_gw_in v1
            · rw [← v4]; exact am_gw_se v2
            · rw [← v4]; exact am_gw_ii v6
          · exact am_ws_in v7 w q)
        have hrun := va_runV (p := p) (e := e) (below := below) (meth := meth) (locs := locs) (cells := am_ce c0 h) (slots := am_sc c0 h) (g := F0 m pc ls ((B.reverse ++ .ref (4000000 + q) :: r).map (am_cv ad))) (As := B.map (am_cv ad)) (rest := r.map (am_cv ad)) (b := ad (4000000 + q)) ⟨hexec, hb, hml, hown, hts⟩ hM (cwV (R := R) b' hts hG2 rfl rfl rfl ⟨v4, v9.1, v9.2, v3⟩ ⟨hfr, by show 8 + (am_nL a + 11) + 40 * dd ≤ R.locals; omega⟩) ⟨am_Pc.blind, vk_recv (adK := fun _ => ad (4000000 + q)) (i := 0) (hE.2.2.2.2.2.1 q hq) (by decide) hI.2.1, fun U hU hW => ⟨rfl, hE.warm hW (fun x9 g9 g8 => by rw [hU]; exact hI.2.1.2.1 x9 g9 g8) (Nat.lt_of_lt_of_le hG.2.2.1 hbase) (fun q => absurd hG.2.2.1 (Nat.not_lt.mpr q)), by rw [hU]; exact Nat.le_trans hbase hI.2.1.1, by rw [hU]; exact hI.1, hI.2.2.1, by rw [hU]; exact hw⟩⟩ rfl (by rw [List.length_map, hB]) hl.1 (by show (B.reverse ++ .ref (4000000 + q) :: r).map (am_cv ad) = _; rw [List.map_append, List.map_reverse]; rfl) (lv_room (by rw [List.map_map]; exact Nat.le_trans (Nat.le_of_eq (congrArg List.sum (List.map_congr_left (fun v _ => am_cv_cat ad v)))) hcat)) hd (am_fit hcs hI.2.2.2.2 hlm)
        refine am_call_go hrun hI.2.1 hI.2.2.2.2 (fun v h' H1 locs1 hk1 hI1 => ?_)
        have := hk _ _ _ _ _ _ _ hk1 hI1 hl
        rw [List.map_append] at this
        cases v <;> exact this
      · exact hs.elim
    | false =>
    rw [hd20] at h2
    have h2 := of_decide_eq_true h2
    obtain ⟨v1, v2, v3, v4, v5, v6, v7, v8, v9, v10⟩ := am_vls_at h2
    unfold am_stp at hs
    dsimp only at hs
    split at hs
    · rename_i As o r hpop
      obtain ⟨B, rfl, hB, rfl⟩ := am_pop_inv hpop
      rw [List.append_nil] at hs hpop
      obtain ⟨hrc, hcat, hlm, hcp⟩ := hs
      have hsh : am_sh h o = some (d, 0) := hrc.elim (fun z => z.2) (fun z => absurd z.1 (by omega))
      have ho := am_obj hsh v5
      obtain ⟨dd, hM, hfr, hlo⟩ := hC _ _ _ _ hcp
      obtain ⟨C, T, N, e1, e2, e3, e4, e5, ty, e6, e7, e8⟩ := am_ci_ok d v5
      have hG2 : GoodIn am_gw (wsV own k (am_cn d) (am_y a) (am_ws a)) := am_good_in (fun w hw => by
        unfold wsV at hw
        rcases List.mem_append.mp hw with q | q
        · simp only [List.mem_cons, List.not_mem_nil, or_false] at q
          rcases q with rfl | rfl | rfl | rfl
          · exact am_gw_ml h1 v10
          · exact am_gw_in v1
          · rw [v4]; exact am_gw_se v2
          · rw [v4]; exact am_gw_ii v6
        · exact am_ws_in v7 w q)
      have hrun := va_runV (p := p) (e := e) (below := below) (meth := meth) (locs := locs) (cells := am_ce c0 h) (slots := am_sc c0 h) (g := F0 m pc ls ((B.reverse ++ .ref o :: r).map (am_cv ad))) (As := B.map (am_cv ad)) (rest := r.map (am_cv ad)) (b := ad o) ⟨hexec, hb, hml, hown, hts⟩ hM (cwV (R := R) b' hts hG2 rfl rfl rfl ⟨v4.symm, v9.1, v9.2, v3⟩ ⟨hfr, by show 8 + (am_nL a + 11) + 40 * dd ≤ R.locals; omega⟩) ⟨am_Pc.blind, by rw [e3]; exact va_recv hE.1 hI.1 e1 ((am_cc_at ho).trans (by rw [am_cell_obj v5])), fun U hU hW => ⟨rfl, hE.warm hW (fun x9 g9 g8 => by rw [hU]; exact hI.2.1.2.1 x9 g9 g8) (Nat.lt_of_lt_of_le hG.2.2.1 hbase) (fun q => absurd hG.2.2.1 (Nat.not_lt.mpr q)), by rw [hU]; exact Nat.le_trans hbase hI.2.1.1, by rw [hU]; exact hI.1, hI.2.2.1, by rw [hU]; exact hw⟩⟩ rfl (by rw [List.length_map, hB]) hl.1 (by show (B.reverse ++ .ref o :: r).map (am_cv ad) = _; rw [List.map_append, List.map_reverse]; rfl) (lv_room (by rw [List.map_map]; exact Nat.le_trans (Nat.le_of_eq (congrArg List.sum (List.map_congr_left (fun v _ => am_cv_cat ad v)))) hcat)) hd (am_fit hcs hI.2.2.2.2 hlm)
      refine am_call_go hrun hI.2.1 hI.2.2.2.2 (fun v h' H1 locs1 hk1 hI1 => ?_)
      have := hk _ _ _ _ _ _ _ hk1 hI1 hl
      rw [List.map_append] at this
      cases v <;> exact this
    · exact hs.elim
  case invokestatic k =>
    obtain ⟨hd, rfl, hx⟩ := am_ok3 hok
    refine am_Wsz (fun hle => ?_)
    have hw := am_sizeq hG hsz hI hle
    have hx : ((bif Nat.beq d 1 then decide (am_nl[c']? = some (own, k, a)) else decide (am_ml[c']? = some (own, k, a))) && decide ((a, b') ∈ am_sls)) = true := hx
    rw [Bool.and_eq_true] at hx
    obtain ⟨h1, h2⟩ := hx
    have h2 := of_decide_eq_true h2
    obtain ⟨v1, v3, v6, v7, v8, v9, v10⟩ := am_sls_at h2
    unfold am_stp at hs
    dsimp only at hs
    split at hs
    · rename_i As r hpop
      obtain ⟨B, rfl, hB, rfl⟩ := am_pop_inv hpop
      rw [List.append_nil] at hs hpop
      obtain ⟨hcat, hlm, hcp⟩ := hs
      obtain ⟨dd, hM, hfr, hlo⟩ := hC _ _ _ _ hcp
      have hpc : PreS s H (am_Pc D cA ad base b L xs B h) (B.map (am_cv ad)) := ⟨am_Pc.blind, fun U hU hW => ⟨rfl, hE.warm hW (fun x9 g9 g8 => by rw [hU]; exact hI.2.1.2.1 x9 g9 g8) (Nat.lt_of_lt_of_le hG.2.2.1 hbase) (fun q => absurd hG.2.2.1 (Nat.not_lt.mpr q)), by rw [hU]; exact Nat.le_trans hbase hI.2.1.1, by rw [hU]; exact hI.1, hI.2.2.1, by rw [hU]; exact hw⟩⟩
      have hstk : (F0 m pc ls ((B.reverse ++ r).map (am_cv ad))).stack = (B.map (am_cv ad)).reverse ++ r.map (am_cv ad) := by show (B.reverse ++ r).map (am_cv ad) = _; rw [List.map_append, List.map_reverse]
      have hroom : 2 * (F0 m pc ls ((B.reverse ++ r).map (am_cv ad))).monitorRoom + ((r.map (am_cv ad)).map fun v => v.category).sum ≤ 8 := lv_room (by rw [List.map_map]; exact Nat.le_trans (Nat.le_of_eq (congrArg List.sum (List.map_congr_left (fun v _ => am_cv_cat ad v)))) hcat)
      have hrun : va_Run p l e R s m args below meth c H locs (am_ce c0 h) (am_sc c0 h) (am_al a) (am_ms a h) (F0 m pc ls ((B.reverse ++ r).map (am_cv ad))) (r.map (am_cv ad)) (am_Qc D cA ad base L xs (fun v h' => h'.2.2.2.2 = h.2.2.2.2 + am_al a ∧ K (pc + am_len (.invokestatic k)) lv (v.toList ++ r) h') (B.map (am_cv ad)).toArray) (am_A base) := by
        cases hq : Nat.beq d 1 with
        | true =>
          rw [hq] at h1
          have h1 : am_nl[c']? = some (own, k, a) := of_decide_eq_true h1
          exact va_runSN ⟨hexec, hb, hml, hown, hts⟩ hM ⟨va_cnB (R := R) b' hts (am_good_in (am_ws_in v7)) rfl rfl rfl (hE.2.1 c' k a own h1) (hts _ (am_gw_ii v6)) ⟨v9.1, v9.2, v3⟩ ⟨hfr, by show 8 + (am_nL a + 11) + 40 * dd ≤ R.locals; omega⟩, hts _ (am_gw_st v1), trivial⟩ hpc rfl (by rw [List.length_map, hB]) hl.1 hstk hroom hd (am_fit hcs hI.2.2.2.2 hlm)
        | false =>
          rw [hq] at h1
          have h1 : am_ml[c']? = some (own, k, a) := of_decide_eq_true h1
          have hG2 : GoodIn am_gw (va_wsS own k (am_y a) (am_ws a)) := am_good_in (fun w hw => by
            unfold va_wsS at hw
            rcases List.mem_append.mp hw with q | q
            · simp only [List.mem_cons, List.not_mem_nil, or_false] at q
              rcases q with rfl | rfl | rfl
              · exact am_gw_ml h1 v10
              · exact am_gw_st v1
              · exact am_gw_ii v6
            · exact am_ws_in v7 w q)
          exact va_runS ⟨hexec, hb, hml, hown, hts⟩ hM (va_cwS (R := R) b' hts hG2 rfl rfl rfl ⟨v9.1, v9.2, v3⟩ ⟨hfr, by show 8 + (am_nL a + 11) + 40 * dd ≤ R.locals; omega⟩) hpc rfl (by rw [List.length_map, hB]) hl.1 hstk hroom hd (am_fit hcs hI.2.2.2.2 hlm)
      refine am_call_go hrun hI.2.1 hI.2.2.2.2 (fun v h' H1 locs1 hk1 hI1 => ?_)
      have := hk _ _ _ _ _ _ _ hk1 hI1 hl
      rw [List.map_append] at this
      cases v <;> exact this
    · exact hs.elim
  case aastore =>
    obtain ⟨hd, rfl, hx⟩ := am_ok3 hok
    obtain ⟨x, r1, rfl, hs0⟩ := am_pR.inv hs
    obtain ⟨i, r2, rfl, hs1⟩ := am_pI.inv hs0
    obtain ⟨o, r, rfl, j, n, hoo, hj, rfl, hs2⟩ := am_pR.inv hs1
    rcases hoo with ⟨ho, hox⟩ | ⟨ho, hox⟩
    · have hn := am_lenlt ho
      have h2 : 5 < 12 := by decide
      refine va_astq (r := (RX5, TX5, 4)) hexec hb hE.1 hI.1 (am_cc_D hI.2.2.2.1 hG.1) hI.2.1 o 4 x 5 ((am_cc_at ho).trans (by rw [am_cell_r (Or.inl rfl)])) rfl ((am_cc_at hox).trans (by rw [am_cell_obj h2])) rfl (vp_in_nI hj hn) hd (fun H1 locs1 hP1 hD1 hS1 => ?_)
      rw [nI_clamp (Nat.lt_trans hj hn)] at hP1
      have hz := fun hI' => hk _ _ _ _ H1 locs1 _ hs2 hI' hl
      refine hz ⟨am_set_P ho rfl am_cell_oR ?_ hP1, hS1, hI.2.2.1.wR, hI.2.2.2.1, hI.2.2.2.2⟩
      rw [am_cell_r (Or.inl rfl), am_wR_upd]
    · have hn := am_lenlt ho
      have h2 : 6 < 12 := by decide
      refine va_astq (r := (RX6, TX6, 6)) hexec hb hE.1 hI.1 (am_cc_D hI.2.2.2.1 hG.1) hI.2.1 o 5 x 6 ((am_cc_at ho).trans (by rw [am_cell_r (Or.inr rfl)])) rfl ((am_cc_at hox).trans (by rw [am_cell_obj h2])) rfl (vp_in_nI hj hn) hd (fun H1 locs1 hP1 hD1 hS1 => ?_)
      rw [nI_clamp (Nat.lt_trans hj hn)] at hP1
      have hz := fun hI' => hk _ _ _ _ H1 locs1 _ hs2 hI' hl
      refine hz ⟨am_set_P ho rfl am_cell_oR ?_ hP1, hS1, hI.2.2.1.wR, hI.2.2.2.1, hI.2.2.2.2⟩
      rw [am_cell_r (Or.inr rfl), am_wR_upd]
  case new k =>
    obtain ⟨hd, rfl, hx⟩ := am_ok3 hok
    refine am_Wsz (fun hle => ?_)
    have hw := am_sizeq hG hsz hI hle
    have hx : (decide (am_ck[c']? = some (own, k, am_cn b')) && (decide (b' < 12) && decide (am_cn b' ∈ am_iiw))) = true := hx
    obtain ⟨h1, h2, h3⟩ := am_ok3 hx
    have h3 := of_decide_eq_true h3
    obtain ⟨he, hlm, hs1⟩ := hs
    obtain ⟨C, T, N, e1, e2, e3, e4, e5, ty, e6, e7, e8⟩ := am_ci_ok b' h2
    obtain ⟨⟨f1, f2⟩, f3, f4⟩ := am_fit1 hcs hI.2.2.2.2 he hlm
    have hsi : am_siz (b', 0) = N := by
      unfold am_siz
      have : Nat.blt b' 12 = true := Nat.ble_eq_true_of_le h2
      dsimp only
      rw [this]
      exact e2
    have hKn := hE.1.1 b' _ e1
    rw [hsi] at f2 f4
    rw [e3] at h1 h3
    have hia : (Cond.instantiable C N).before args s = true := by
      have q := List.all_eq_true.mp am_iaw_ok b' (List.mem_range.mpr h2)
      rw [e2, e3] at q
      exact hts _ (am_gw_ia (of_decide_eq_true q))
    have hlt := (List.getElem?_eq_some_iff.mp he).1
    have hads : H.size = ad h.2.2.2.2 := (hw.2 hlt).trans (hG.1 _ hlt).symm
    refine W.newcK hexec hb hown (hts _ (am_gw_ck h1)) hia (hts _ (am_gw_ii h3)) rfl hd f1 f2 hKn.2.1 rfl fun H1 kC hkC g1 z1 o1 => ?_
    rw [f3, f4]
    show W p l e R s m args below meth c H1 locs (am_ce c0 (am_nx h)) (am_sc c0 (am_nx h)) Qw (F0 m (pc + 3) ls (.ref H.size :: st.map (am_cv ad)))
    rw [hads]
    rw [hads] at g1
    refine hk _ _ _ _ _ _ _ hs1 (am_new_I hG hI he ?_ z1 o1) hl
    rw [am_cell_obj h2]
    refine ⟨_, e1, (u_born ty hts e5 hKn hkC g1 e6).to (fun j hj => ?_)⟩
    have hj2 : j < am_nf b' := by rw [e2]; exact hj
    have q := List.all_eq_true.mp (List.all_eq_true.mp am_dv_ok b' (List.mem_range.mpr h2)) j (List.mem_range.mpr hj2)
    have q := of_decide_eq_true q
    rw [(e8 j hj).2, ← am_gv_nx (ad := ad) (h := h)] at q
    rw [q]
    show _ = List.getD _ _ _
    rw [List.getD_eq_getElem?_getD, am_fs_at hj2]
    rfl
  case newarray t =>
    obtain ⟨hd, rfl, hx⟩ := am_ok3 hok
    refine am_Wsz (fun hle => ?_)
    have hw := am_sizeq hG hsz hI hle
    have hx : (Nat.beq b' (am_atc t) && Nat.ble b' 15) = true := hx
    rw [Bool.and_eq_true] at hx
    obtain ⟨i, r, rfl, n, he, rfl, hlm, hs2⟩ := am_pI.inv hs
    obtain ⟨⟨f1, f2⟩, f3, f4⟩ := am_fit1 hcs hI.2.2.2.2 he hlm
    have hbig := am_big_sh _ (List.mem_of_getElem? he)
    dsimp only at hbig
    have hn := am_len_sh _ (List.mem_of_getElem? he)
    dsimp only at hn
    have hn0 : ¬ nI n < 0 := nI_pos hn
    have hnc := nI_clamp hn
    have hlt := (List.getElem?_eq_some_iff.mp he).1
    have hads : H.size = ad h.2.2.2.2 := (hw.2 hlt).trans (hG.1 _ hlt).symm
    have hsi : 12 ≤ b' → am_siz (b', n) = n := by
      intro q
      unfold am_siz
      have : Nat.blt b' 12 = false := by
        cases hz : Nat.blt b' 12 with
        | false => rfl
        | true => exact absurd (Nat.le_of_ble_eq_true hz) (by omega)
      dsimp only
      rw [this]
      rfl
    have h12 : 12 ≤ b' := by
      have q := Nat.eq_of_beq_eq_true hx.1
      rw [q]
      cases t <;> decide
    rw [hsi h12] at f2 f4
    cases t
    case char =>
      have hbb : b' = 12 := Nat.eq_of_beq_eq_true hx.1
      subst hbb
      have hcA := (hE.1.2 0 _ rfl).2
      refine va_newaK (atype := .char) hexec hb (hts _ (by exact List.mem_filter.mpr ⟨am_ac_char, rfl⟩)) rfl hd rfl hn0 hnc (by show n * _ ≤ _; exact Nat.le_trans (Nat.mul_le_mul hbig (show componentBytes _ ≤ 8 by decide)) (by decide)) f1 f2 rfl fun H1 cA' g1 z1 o1 hAr hNm => ?_
      have hcc : cA' = cA 12 := Option.some.inj (hNm.symm.trans hcA)
      subst hcc
      rw [f3, f4]
      show W p l e R s m args below meth c H1 locs (am_ce c0 (am_nx h)) (am_sc c0 (am_nx h)) Qw (F0 m (pc + 2) ls (.ref H.size :: r.map (am_cv ad)))
      rw [hads]
      rw [hads] at g1
      refine hk _ _ _ _ _ _ _ hs2 (am_new_I hG hI he ?_ z1 o1) hl
      rw [am_cell_i (Or.inl rfl)]
      show H1[ad h.2.2.2.2]? = some (vp_cell _ _)
      rw [g1]
      simp [vp_cell, am_nx, defaultValue, newarray.typeOf]
    case int =>
      have hbb : b' = 13 := Nat.eq_of_beq_eq_true hx.1
      subst hbb
      have hcA := (hE.1.2 1 _ rfl).2
      refine va_newaK (atype := .int) hexec hb (hts _ (by exact List.mem_filter.mpr ⟨am_ac_int, rfl⟩)) rfl hd rfl hn0 hnc (by show n * _ ≤ _; exact Nat.le_trans (Nat.mul_le_mul hbig (show componentBytes _ ≤ 8 by decide)) (by decide)) f1 f2 rfl fun H1 cA' g1 z1 o1 hAr hNm => ?_
      have hcc : cA' = cA 13 := Option.some.inj (hNm.symm.trans hcA)
      subst hcc
      rw [f3, f4]
      show W p l e R s m args below meth c H1 locs (am_ce c0 (am_nx h)) (am_sc c0 (am_nx h)) Qw (F0 m (pc + 2) ls (.ref H.size :: r.map (am_cv ad)))
      rw [hads]
      rw [hads] at g1
      refine hk _ _ _ _ _ _ _ hs2 (am_new_I hG hI he ?_ z1 o1) hl
      rw [am_cell_i (Or.inr (Or.inl rfl))]
      show H1[ad h.2.2.2.2]? = some (vp_cell _ _)
      rw [g1]
      simp [vp_cell, am_nx, defaultValue, newarray.typeOf]
    case long =>
      have hbb : b' = 14 := Nat.eq_of_beq_eq_true hx.1
      subst hbb
      have hcA := (hE.1.2 2 _ rfl).2
      refine va_newaK (atype := .long) hexec hb (hts _ (by exact List.mem_filter.mpr ⟨am_ac_long, rfl⟩)) rfl hd rfl hn0 hnc (by show n * _ ≤ _; exact Nat.le_trans (Nat.mul_le_mul hbig (show componentBytes _ ≤ 8 by decide)) (by decide)) f1 f2 rfl fun H1 cA' g1 z1 o1 hAr hNm => ?_
      have hcc : cA' = cA 14 := Option.some.inj (hNm.symm.trans hcA)
      subst hcc
      rw [f3, f4]
      show W p l e R s m args below meth c H1 locs (am_ce c0 (am_nx h)) (am_sc c0 (am_nx h)) Qw (F0 m (pc + 2) ls (.ref H.size :: r.map (am_cv ad)))
      rw [hads]
      rw [hads] at g1
      refine hk _ _ _ _ _ _ _ hs2 (am_new_I hG hI he ?_ z1 o1) hl
      rw [am_cell_l]
      show H1[ad h.2.2.2.2]? = some (vp_cell _ _)
      rw [g1]
      simp [vp_cell, am_nx, defaultValue, newarray.typeOf]
    case boolean =>
      have hbb : b' = 15 := Nat.eq_of_beq_eq_true hx.1
      subst hbb
      have hcA := (hE.1.2 3 _ rfl).2
      refine va_newaK (atype := .boolean) hexec hb (hts _ (by exact List.mem_filter.mpr ⟨am_ac_boolean, rfl⟩)) rfl hd rfl hn0 hnc (by show n * _ ≤ _; exact Nat.le_trans (Nat.mul_le_mul hbig (show componentBytes _ ≤ 8 by decide)) (by decide)) f1 f2 rfl fun H1 cA' g1 z1 o1 hAr hNm => ?_
      have hcc : cA' = cA 15 := Option.some.inj (hNm.symm.trans hcA)
      subst hcc
      rw [f3, f4]
      show W p l e R s m args below meth c H1 locs (am_ce c0 (am_nx h)) (am_sc c0 (am_nx h)) Qw (F0 m (pc + 2) ls (.ref H.size :: r.map (am_cv ad)))
      rw [hads]
      rw [hads] at g1
      refine hk _ _ _ _ _ _ _ hs2 (am_new_I hG hI he ?_ z1 o1) hl
      rw [am_cell_i (Or.inr (Or.inr rfl))]
      show H1[ad h.2.2.2.2]? = some (vp_cell _ _)
      rw [g1]
      simp [vp_cell, am_nx, defaultValue, newarray.typeOf]
    all_goals exact absurd (Nat.le_of_ble_eq_true hx.2) (by rw [Nat.eq_of_beq_eq_true hx.1]; decide)
  case anewarray k =>
    obtain ⟨hd, rfl, hx⟩ := am_ok3 hok
    refine am_Wsz (fun hle => ?_)
    have hw := am_sizeq hG hsz hI hle
    have hx : ((Nat.beq b' 16 && decide (am_ck[c']? = some (own, k, "MistCanton$Mark"))) || (Nat.beq b' 17 && decide (am_ck[c']? = some (own, k, "MistCanton$State")))) = true := hx
    rw [Bool.or_eq_true, Bool.and_eq_true, Bool.and_eq_true] at hx
    obtain ⟨i, r, rfl, n, he, rfl, hlm, hs2⟩ := am_pI.inv hs
    obtain ⟨⟨f1, f2⟩, f3, f4⟩ := am_fit1 hcs hI.2.2.2.2 he hlm
    have hbig := am_big_sh _ (List.mem_of_getElem? he)
    dsimp only at hbig
    have hn := am_len_sh _ (List.mem_of_getElem? he)
    dsimp only at hn
    have hn0 : ¬ nI n < 0 := nI_pos hn
    have hnc := nI_clamp hn
    have hlt := (List.getElem?_eq_some_iff.mp he).1
    have hads : H.size = ad h.2.2.2.2 := (hw.2 hlt).trans (hG.1 _ hlt).symm
    rcases hx with hx | hx
    · have hbb : b' = 16 := Nat.eq_of_beq_eq_true hx.1
      subst hbb
      have h1 := of_decide_eq_true hx.2
      obtain ⟨kA0, comp0, -, -, -, hcA⟩ := (hE.1.2 4 _ rfl).2
      rw [show am_siz (16, n) = n from rfl] at f2 f4
      refine W.anew (C := "MistCanton$Mark") hexec hb hown (hts _ (am_gw_ck h1)) (va_AO.use hE.2.2.2.1) rfl hd rfl hn0 (by rw [hnc]; exact Nat.le_trans (Nat.mul_le_mul_right 4 hbig) (by decide)) f1 (by rw [hnc]; exact f2) fun cA' kA comp k1 k2 k3 k4 => ?_
      have hcc : cA' = cA 16 := Option.some.inj (k1.symm.trans hcA)
      subst hcc
      rw [hnc, f3, f4]
      generalize hH1 : H.push ({ cls := cA 16, slots := Array.replicate n .null, vm := .none } : Cell) = H1
      have z1 : H1.size = H.size + 1 := by rw [← hH1, Array.size_push]
      have g1 : H1[H.size]? = some (arrV (cA 16) n (fun _ => .null)) := by rw [← hH1, Array.getElem?_push_size, ← arrV_new]
      have o1 : ∀ q : Nat, q < H.size → H1[q]? = H[q]? := fun q hq => by rw [← hH1, Array.getElem?_push, if_neg (Nat.ne_of_lt hq)]
      show W p l e R s m args below meth c H1 locs (am_ce c0 (am_nx h)) (am_sc c0 (am_nx h)) Qw (F0 m (pc + 3) ls (.ref H.size :: r.map (am_cv ad)))
      rw [hads]
      rw [hads] at g1
      refine hk _ _ _ _ _ _ _ hs2 (am_new_I hG hI he ?_ z1 o1) hl
      rw [am_cell_r (Or.inl rfl)]
      show H1[ad h.2.2.2.2]? = some (vp_cell _ _)
      rw [g1]
      simp [vp_cell, am_nx, va_rf]
    · have hbb : b' = 17 := Nat.eq_of_beq_eq_true hx.1
      subst hbb
      have h1 := of_decide_eq_true hx.2
      obtain ⟨kA0, comp0, -, -, -, hcA⟩ := (hE.1.2 5 _ rfl).2
      rw [show am_siz (17, n) = n from rfl] at f2 f4
      refine W.anew (C := "MistCanton$State") hexec hb hown (hts _ (am_gw_ck h1)) (va_AO.use hE.2.2.2.2.1) rfl hd rfl hn0 (by rw [hnc]; exact Nat.le_trans (Nat.mul_le_mul_right 4 hbig) (by decide)) f1 (by rw [hnc]; exact f2) fun cA' kA comp k1 k2 k3 k4 => ?_
      have hcc : cA' = cA 17 := Option.some.inj (k1.symm.trans hcA)
      subst hcc
      rw [hnc, f3, f4]
      generalize hH1 : H.push ({ cls := cA 17, slots := Array.replicate n .null, vm := .none } : Cell) = H1
      have z1 : H1.size = H.size + 1 := by rw [← hH1, Array.size_push]
      have g1 : H1[H.size]? = some (arrV (cA 17) n (fun _ => .null)) := by rw [← hH1, Array.getElem?_push_size, ← arrV_new]
      have o1 : ∀ q : Nat, q < H.size → H1[q]? = H[q]? := fun q hq => by rw [← hH1, Array.getElem?_push, if_neg (Nat.ne_of_lt hq)]
      show W p l e R s m args below meth c H1 locs (am_ce c0 (am_nx h)) (am_sc c0 (am_nx h)) Qw (F0 m (pc + 3) ls (.ref H.size :: r.map (am_cv ad)))
      rw [hads]
      rw [hads] at g1
      refine hk _ _ _ _ _ _ _ hs2 (am_new_I hG hI he ?_ z1 o1) hl
      rw [am_cell_r (Or.inr rfl)]
      show H1[ad h.2.2.2.2]? = some (vp_cell _ _)
      rw [g1]
      simp [vp_cell, am_nx, va_rf]
  case invokespecial k =>
    obtain ⟨hd, rfl, hx⟩ := am_ok3 hok
    refine am_Wsz (fun hle => ?_)
    have hw := am_sizeq hG hsz hI hle
    have hx : (decide (am_ml[c']? = some (own, k, a)) && ((Nat.beq a 1 && Nat.beq b' 0) || decide ((a, b') ∈ am_ils))) = true := hx
    rw [Bool.and_eq_true] at hx
    obtain ⟨h1, h2⟩ := hx
    have h1 := of_decide_eq_true h1
    unfold am_stp at hs
    dsimp only at hs
    split at hs
    · rename_i As o r hpop
      obtain ⟨B, rfl, hB, rfl⟩ := am_pop_inv hpop
      rw [List.append_nil] at hs hpop
      obtain ⟨hcat, hs⟩ := hs
      have hroom : 2 * (F0 m pc ls ((B.reverse ++ .ref o :: r).map (am_cv ad))).monitorRoom + ((r.map (am_cv ad)).map fun v => v.category).sum ≤ 8 := lv_room (by rw [List.map_map]; exact Nat.le_trans (Nat.le_of_eq (congrArg List.sum (List.map_congr_left (fun v _ => am_cv_cat ad v)))) hcat)
      cases hq1 : Nat.beq a 1 with
      | true =>
        rw [hq1] at hs
        obtain ⟨rfl, hs⟩ := hs
        have ha : a = 1 := Nat.eq_of_beq_eq_true hq1
        subst ha
        exact W.objInit hexec hb hown (hts _ (am_gw_ml h1 (by decide))) (hts _ (am_gw_in (by decide +kernel))) (hts _ (am_gw_code (n := 1) rfl)) rfl (hl.1.trans hml.symm) rfl hd hR1.1 (Nat.le_trans (Nat.add_le_add_right hroom 12) hR1.2) (hk _ _ _ _ _ _ _ hs hI hl)
      | false =>
        rw [hq1] at hs h2
        obtain ⟨hlm, hcp⟩ := hs
        have h2 : (a, b') ∈ am_ils := of_decide_eq_true h2
        obtain ⟨v1, v3, v4, v5, v6, v7, v8, v9, v10⟩ := am_ils_at h2
        obtain ⟨dd, hM, hfr, hlo⟩ := hC _ _ _ _ hcp
        have hpc : PreS s H (am_Pc D cA ad base b L xs (.ref o :: B) h) (.ref (ad o) :: B.map (am_cv ad)) := ⟨am_Pc.blind, fun U hU hW => ⟨rfl, hE.warm hW (fun x9 g9 g8 => by rw [hU]; exact hI.2.1.2.1 x9 g9 g8) (Nat.lt_of_lt_of_le hG.2.2.1 hbase) (fun q => absurd hG.2.2.1 (Nat.not_lt.mpr q)), by rw [hU]; exact Nat.le_trans hbase hI.2.1.1, by rw [hU]; exact hI.1, hI.2.2.1, by rw [hU]; exact hw⟩⟩
        have hstk : (F0 m pc ls ((B.reverse ++ .ref o :: r).map (am_cv ad))).stack = (B.map (am_cv ad)).reverse ++ .ref (ad o) :: r.map (am_cv ad) := by show (B.reverse ++ .ref o :: r).map (am_cv ad) = _; rw [List.map_append, List.map_reverse]; rfl
        have hrun := va_runI (p := p) (e := e) (below := below) (meth := meth) (locs := locs) (cells := am_ce c0 h) (slots := am_sc c0 h) (g := F0 m pc ls ((B.reverse ++ .ref o :: r).map (am_cv ad))) (As := B.map (am_cv ad)) (rest := r.map (am_cv ad)) (b := ad o) (R := R) ⟨hexec, hb, hml, hown, hts⟩ hM (cwI (R := R) b' hts (am_good_in (am_ws_in v7)) (by unfold am_ws; rw [v5]) rfl rfl (hts _ (am_gw_ii v6)) (hts _ (am_gw_ml h1 v10)) (hts _ (am_gw_in v1)) v4 ⟨v9.1, v9.2, v3⟩ ⟨hfr, by show 8 + (am_nL a + 11) + 40 * dd ≤ R.locals; omega⟩) hpc rfl (by rw [List.length_map, hB]) hl.1 hstk hroom hd (am_fit hcs hI.2.2.2.2 hlm)
        refine am_call_go hrun hI.2.1 hI.2.2.2.2 (fun v h' H1 locs1 hk1 hI1 => ?_)
        have := hk _ _ _ _ _ _ _ hk1 hI1 hl
        rw [List.map_append] at this
        cases v <;> exact this
    · exact hs.elim
  case ireturn =>
    obtain ⟨hd, rfl, hx⟩ := am_ok3 hok
    unfold am_stp at hs
    dsimp only at hs
    split at hs
    · rename_i x
      exact hq _ _ _ _ _ _ _ hs.2 hI (Or.inl ⟨x, rfl, rfl, hd, hs.1⟩)
    · exact hs.elim
  case lreturn =>
    obtain ⟨hd, rfl, hx⟩ := am_ok3 hok
    unfold am_stp at hs
    dsimp only at hs
    split at hs
    · rename_i x
      exact hq _ _ _ _ _ _ _ hs.2 hI (Or.inr (Or.inl ⟨x, rfl, rfl, hd, hs.1⟩))
    · exact hs.elim
  case return_ =>
    obtain ⟨hd, rfl, hx⟩ := am_ok3 hok
    unfold am_stp at hs
    dsimp only at hs
    split at hs
    · exact hq _ _ _ _ _ _ _ hs.2 hI (Or.inr (Or.inr ⟨rfl, rfl, hd, hs.1⟩))
    · exact hs.elim
  all_goals exact hs.elim
end
section
/-! THE ABSTRACT MACHINE'S CALLS ARE CONTRACTS -/
variable {p : Program} {l : Launch} {e : Env} {R : Room} {s : State} {m : MethodId} {args : Array Value} {below : List Frame} {meth : Method} {c : Code} {Qw : State → Prop} {D : va_G} {cA : Nat → ClassId} {ad : Nat → Nat} {base b L nL : Nat} {xs : Nat → Int32} {own : String} {cc : ByteArray} {cp : am_P} {rt : Option FieldType} {c0 lim : Nat} {ini : Bool}
theorem am_X_sound {cod : Nat → Option am_R} {E : Nat → am_V → List Value → am_H → Prop} {Q : am_Q} (F : am_Fx p s m args c D cA ad base b L xs own cc nL c0) (hC : am_Cs l R D cA ad base b L xs cp) (hcs : lim - c0 % 1000 + c0 / 1000 ≤ R.cells ∧ am_ss lim - am_ss (c0 % 1000) + 6 * (c0 / 1000) ≤ R.slots) (hR1 : 1 ≤ R.frames ∧ 20 ≤ R.locals) (hini : ini = true → meth.name = "<init>") (hcod : ∀ pc r, cod pc = some r → am_okB ini own cc pc r = true)
    (hE : am_Kw p l e R s m args below meth c c0 Qw D cA ad base L nL xs E) (hq : am_Qr p l e R s m args below meth c c0 Qw D cA ad base L xs cc rt Q) : am_Kw p l e R s m args below meth c c0 Qw D cA ad base L nL xs (am_X cp nL lim rt cod E Q) := by
  intro pc lv st h H locs ls hX hI hl
  refine hX (fun pc lv st h => ∀ H locs ls, am_Inv D cA ad base L xs s c0 h H locs → lv_has ls nL (am_cl2 ad lv) → W p l e R s m args below meth c H locs (am_ce c0 h) (am_sc c0 h) Qw (F0 m pc ls (st.map (am_cv ad)))) (fun pc lv st h he H locs ls hI hl => hE pc lv st h H locs ls he hI hl) ?_ H locs ls hI hl
  intro pc lv st h r K0 Q0 hc hs hK hQ H locs ls hI hl
  obtain ⟨i, nx, a, b', c', d⟩ := r
  exact am_sound1 F hC hcs hR1 hini hI hl (fun pc lv st h H locs ls k hI hl => hK pc lv st h k H locs ls hI hl) (fun v h H locs pc ls st q hI hr => hq v h H locs pc ls st (hQ v h q) hI hr) (hcod _ _ hc) hs
theorem am_sl_len (ad : Nat → Nat) (vs : List Value) : (lg_sl (vs.map (am_cv ad))).length = (lg_sl vs).length := by
  induction vs with
  | nil => rfl
  | cons v r ih =>
    simp only [lg_sl, List.map_cons, List.flatMap_cons, List.length_append, am_cv_cat] at ih ⊢
    rw [ih]
    by_cases hc : v.category = 2 <;> simp [hc]
theorem am_args_cl (ad : Nat → Nat) (vs : List Value) : ∀ i, lv_args i (vs.map (am_cv ad)) = am_cl2 ad (lv_args i vs) := by
  induction vs with
  | nil => intro i; rfl
  | cons v r ih =>
    intro i
    simp only [lv_args, List.map_cons, am_cv_cat, am_cl2]
    rw [ih]
    rfl
/-- String.checkIndex: its row of place 2 stands for a static whose value is told to a method that doesn't look at it -/
def am_47 : MethodName := ⟨"java/lang/String", "checkIndex", "(II)V"⟩
/-- rows of methods that are right -/
def am_Rok (cods : Nat → Nat → Option am_R) : Prop := ∀ n pc r, cods n pc = some r → plainFor (am_y n) = true ∧ ((am_y n = am_47 ∧ pc = 2) ∨ am_okB (decide ((am_y n).name = "<init>")) (am_y n).cls (am_by n) pc r = true)
theorem am_W_cod {cod : Nat → Option am_R} {Q : am_Q} {pc : Nat} {lv : am_V} {st : List Value} {h : am_H} (k : am_W cp nL lim rt cod Q pc lv st h) : ∃ r, cod pc = some r :=
  k (fun pc _ _ _ => ∃ r, cod pc = some r) (fun _ _ _ _ q => q.elim) (fun _ _ _ _ r _ _ hc _ _ _ => ⟨r, hc⟩)
def am_Mt (l : Launch) (D : va_G) (cA : Nat → ClassId) (ad : Nat → Nat) (base b L : Nat) (xs : Nat → Int32) (cods : Nat → Nat → Option am_R) (d : Nat) : Prop := ∀ n As h Q, am_call cods d n As h Q → ∃ d' : Nat, d' ≤ d ∧ Met l (am_y n) (am_ws n) (am_rm d' (am_al n) (am_ms n h)) (am_Pc D cA ad base b L xs As h) (am_Qc D cA ad base L xs (fun v h' => h'.2.2.2.2 = h.2.2.2.2 + am_al n ∧ Q v h')) (am_al n) (am_ms n h) (am_A base)
theorem am_Met7 {cods : Nat → Nat → Option am_R} (hrk : am_Rok cods) (hG : am_G ad base b L) (h47 : ∀ n, am_y n = am_47 → ∀ d, am_Mt l D cA ad base b L xs cods d → ∀ (As : List Value) (h : am_H) (Q : am_Q), (lg_sl As).length ≤ am_nL n → am_W (am_call cods d) (am_nL n) (h.2.2.2.2 + am_al n) (am_rt n) (cods n) (fun v h' => h'.2.2.2.2 = h.2.2.2.2 + am_al n ∧ Q v h') 0 (lv_args 0 As) [] h → Met l (am_y n) (am_ws n) (am_rm (d + 1) (am_al n) (am_ms n h)) (am_Pc D cA ad base b L xs As h) (am_Qc D cA ad base L xs (fun v h' => h'.2.2.2.2 = h.2.2.2.2 + am_al n ∧ Q v h')) (am_al n) (am_ms n h) (am_A base)) : ∀ d, am_Mt l D cA ad base b L xs cods d := by
  intro d
  induction d with
  | zero => intro n As h Q k; exact k.elim
  | succ d ih =>
    intro n As h Q k
    rcases k with k | ⟨hlen, hW⟩
    · obtain ⟨d', h1, h2⟩ := ih n As h Q k
      exact ⟨d', by omega, h2⟩
    · refine ⟨d + 1, Nat.le_refl _, ?_⟩
      by_cases hn47 : am_y n = am_47
      · exact h47 n hn47 d ih As h Q hlen hW
      obtain ⟨r0, hr0⟩ := am_W_cod hW
      have hy := (hrk n 0 r0 hr0).1
      refine va_MetF (cc := am_by n) (maxL := am_nL n) (ret := am_rt n) hy rfl ?_
      intro p e s m args below meth c s₁ B hml hv
      obtain ⟨rfl, hE, hbase, hP, hro, hwf⟩ := hv
      have hts := atoms_spec (ws := am_ws n) B.pre
      have hlen9 : h.2.2.2.2 ≤ 175 := by have := hwf.1; rw [am_shl_len] at this; exact this
      have hmod : h.2.2.2.2 % 1000 = h.2.2.2.2 := Nat.mod_eq_of_lt (by omega)
      have hdiv : h.2.2.2.2 / 1000 = 0 := Nat.div_eq_of_lt (by omega)
      have hnm : meth.name = (am_y n).name := (name_of_methodNamed B.named B.method).1
      have F : am_Fx p s m (As.map (am_cv ad)).toArray c D cA ad base b L xs (am_y n).cls (am_by n) (am_nL n) h.2.2.2.2 := ⟨B.exec, B.bytes, hml, findClass_of_methodNamed B.named, fun w hw => hts w (List.mem_cons_of_mem _ hw), hE, hbase, hG, by rw [hmod]; exact hwf.2⟩
      have hC : am_Cs l (am_rm (d + 1) (am_al n) (am_ms n h)) D cA ad base b L xs (am_call cods d) := by
        intro n' As' h' Q' k'
        obtain ⟨d', h1, h2⟩ := ih n' As' h' Q' k'
        exact ⟨d', h2, by show d' + 1 ≤ d + 1; omega, by show 40 + 40 * d' ≤ 40 * (d + 1); omega⟩
      have hl := lv_entry (As.map (am_cv ad)) (n := am_nL n) (by rw [am_sl_len]; exact hlen)
      rw [am_args_cl] at hl
      rw [lg_entry_eq]
      have key := am_X_sound (p := p) (e := e) (below := below) (meth := meth) (Qw := MQ below (am_Qc D cA ad base L xs (fun v h' => h'.2.2.2.2 = h.2.2.2.2 + am_al n ∧ Q v h')) (As.map (am_cv ad)).toArray s (am_al n) (am_ms n h) (am_A base)) (R := am_rm (d + 1) (am_al n) (am_ms n h)) (lim := h.2.2.2.2 + am_al n) (rt := am_rt n) (ini := decide ((am_y n).name = "<init>")) (E := fun _ _ _ _ => False) (Q := fun v h' => h'.2.2.2.2 = h.2.2.2.2 + am_al n ∧ Q v h') F hC ⟨by rw [hmod, hdiv]; show h.2.2.2.2 + am_al n - h.2.2.2.2 + 0 ≤ am_al n; omega, by rw [hmod, hdiv]; exact Nat.le_refl _⟩ ⟨by show 1 ≤ d + 1; omega, by show 20 ≤ 40 * (d + 1); omega⟩ (fun q => hnm.trans (of_decide_eq_true q)) (fun pc r hc => (hrk n pc r hc).2.resolve_left (fun z => hn47 z.1)) (fun _ _ _ _ _ _ _ q => q.elim) ?_ 0 (lv_args 0 As) [] h s.heap [] _ hW ⟨hP, va_S.rf, hro, hwf.1, by rw [hmod]; exact Nat.le_refl _, fun z => by omega⟩ hl
      · have z1 : am_ce h.2.2.2.2 h = 0 := by unfold am_ce; omega
        have z2 : am_sc h.2.2.2.2 h = 0 := by unfold am_sc; rw [hmod, hdiv]; omega
        rw [z1, z2] at key
        exact key
      · intro v h' H locs pc ls st hQ hI hrk'
        have z1 : am_ce h.2.2.2.2 h' = am_al n := by unfold am_ce; rw [hQ.1, hmod, hdiv]; omega
        have z2 : am_sc h.2.2.2.2 h' = am_ms n h := by unfold am_sc am_ms; rw [hQ.1, hmod, hdiv]; rfl
        rw [z1, z2]
        have hpost : ∀ t : State, t.heap = H → am_Qc D cA ad base L xs (fun v h' => h'.2.2.2.2 = h.2.2.2.2 + am_al n ∧ Q v h') (As.map (am_cv ad)).toArray s (.returned (v.map (am_cv ad))) t := fun t ht => ⟨⟨v, h', rfl, hQ, by rw [ht]; exact hI.1, hI.2.2.1, hI.2.2.2.1⟩, hI.2.1.F ht⟩
        rcases hrk' with ⟨x, rfl, rfl, hd, ty, h1, h2⟩ | ⟨x, rfl, rfl, hd, h1⟩ | ⟨rfl, rfl, hd, h1⟩
        · exact W.zret B.exec B.bytes (B.returns.trans h1) h2 (fun t ht _ => hpost t ht) hI.2.1.2.2 hd (hlocks := B.notSynchronized)
        · exact W.lret B.exec B.bytes (B.returns.trans h1) (fun t ht _ => hpost t ht) hI.2.1.2.2 hd (hlocks := B.notSynchronized)
        · exact W.vret B.exec B.bytes (B.returns.trans h1) (fun t ht _ => hpost t ht) hI.2.1.2.2 hd (hlocks := B.notSynchronized)
end
section
/-! the bytes of a row's instruction, compared with what it is written as -/
theorem dz_u1e (B : ByteArray) (s : Nat) : (Jvm.ClassFile.Reader.u1 : Jvm.ClassFile.Decoder Nat) B s = dite (s < B.size) (fun h => Except.ok (B[s].toNat, s + 1)) (fun _ => Except.error (Jvm.ClassFile.DecodeError.truncated s)) := by
  by_cases hs : s < B.size
  · rw [dif_pos hs]
    show (dite (s < B.size) (fun h => (do set (s + 1); pure B[s].toNat : Jvm.ClassFile.Decoder Nat)) (fun _ => (throw (Jvm.ClassFile.DecodeError.truncated s) : Jvm.ClassFile.Decoder Nat))) B s = _
    rw [dif_pos hs]
    rfl
  · rw [dif_neg hs]
    show (dite (s < B.size) (fun h => (do set (s + 1); pure B[s].toNat : Jvm.ClassFile.Decoder Nat)) (fun _ => (throw (Jvm.ClassFile.DecodeError.truncated s) : Jvm.ClassFile.Decoder Nat))) B s = _
    rw [dif_neg hs]
    rfl
def dz_R (cc : ByteArray) : Nat → List Nat → Prop
  | _, [] => True
  | p, n :: r => (Jvm.ClassFile.Reader.u1 : Jvm.ClassFile.Decoder Nat) cc p = Except.ok (n, p + 1) ∧ dz_R cc (p + 1) r
def dz_rd : List UInt8 → List Nat → Bool
  | _, [] => true
  | [], _ :: _ => false
  | b :: l, n :: r => Nat.beq b.toNat n && dz_rd l r
theorem dz_rd_ok {cc : ByteArray} : ∀ (bs : List Nat) (p : Nat), dz_rd (cc.data.toList.drop p) bs = true → dz_R cc p bs
  | [], _, _ => trivial
  | n :: r, p, h => by
    rcases Nat.lt_or_ge p cc.data.toList.length with z | z
    · rw [List.drop_eq_getElem_cons z] at h
      have h1 : (Nat.beq (cc.data.toList[p]).toNat n && dz_rd (cc.data.toList.drop (p + 1)) r) = true := h
      rw [Bool.and_eq_true] at h1
      refine ⟨?_, dz_rd_ok r (p + 1) h1.2⟩
      have hs : p < cc.size := z
      rw [dz_u1e, dif_pos hs]
      have e : cc[p].toNat = n := Nat.eq_of_beq_eq_true h1.1
      rw [e]
    · rw [List.drop_eq_nil_of_le z] at h
      have h1 : false = true := h
      cases h1
theorem dz_step {α β : Type} {x : Jvm.ClassFile.Decoder α} {f : α → Jvm.ClassFile.Decoder β} {A : ByteArray} {s : Nat} {a : α} {s' : Nat} (h : x A s = Except.ok (a, s')) : (x >>= f) A s = f a A s' := by
  have e : (x >>= f) A s = Except.bind (x A s) (fun p => f p.1 A p.2) := rfl
  rw [e, h]
  rfl
theorem dz_mapR {α β : Type} {x : Jvm.ClassFile.Decoder α} {f : α → β} {A : ByteArray} {s : Nat} {a : α} {s' : Nat} (h : x A s = Except.ok (a, s')) : (f <$> x) A s = Except.ok (f a, s') := by
  have e : (f <$> x) A s = Except.bind (x A s) (fun p => Except.ok (f p.1, p.2)) := rfl
  rw [e, h]
  rfl
theorem dz_u2R {A : ByteArray} {s k : Nat} {r : List Nat} (h : dz_R A s (k / 256 :: k % 256 :: r)) : (Jvm.ClassFile.Reader.u2 : Jvm.ClassFile.Decoder Nat) A s = Except.ok (k, s + 2) := by
  unfold Jvm.ClassFile.Reader.u2
  rw [dz_step h.1, dz_step h.2.1]
  have e : k / 256 * 256 + k % 256 = k := by omega
  rw [e]
  rfl
theorem dz_s1R {A : ByteArray} {s : Nat} {o : Int} {r : List Nat} (h1 : -128 ≤ o) (h2 : o < 128) (h : dz_R A s ((o % 256).toNat :: r)) : (Jvm.ClassFile.Reader.s1 : Jvm.ClassFile.Decoder Int) A s = Except.ok (o, s + 1) := by
  have e : Jvm.ClassFile.Reader.signed 8 (o % 256).toNat = o := by
    show (if (o % 256).toNat < 128 then (((o % 256).toNat : Nat) : Int) else (((o % 256).toNat : Nat) : Int) - 256) = o
    split <;> omega
  have q := dz_mapR (f := Jvm.ClassFile.Reader.signed 8) h.1
  rw [e] at q
  exact q
theorem dz_s2R {A : ByteArray} {s : Nat} {o : Int} {r : List Nat} (h1 : -32768 ≤ o) (h2 : o < 32768) (h : dz_R A s ((o % 65536).toNat / 256 :: (o % 65536).toNat % 256 :: r)) : (Jvm.ClassFile.Reader.s2 : Jvm.ClassFile.Decoder Int) A s = Except.ok (o, s + 2) := by
  have e : Jvm.ClassFile.Reader.signed 16 (o % 65536).toNat = o := by
    show (if (o % 65536).toNat < 32768 then (((o % 65536).toNat : Nat) : Int) else (((o % 65536).toNat : Nat) : Int) - 65536) = o
    split <;> omega
  have q := dz_mapR (f := Jvm.ClassFile.Reader.signed 16) (dz_u2R h)
  rw [e] at q
  exact q
def dz_cc (c : Jvm.ClassFile.Cond) : Nat := match c with
  | .eq => 0
  | .ne => 1
  | .lt => 2
  | .ge => 3
  | .gt => 4
  | .le => 5
def dz_2 (n : Nat) (o : Int) : Option (List Nat) := bif decide (-32768 ≤ o) && decide (o < 32768) then some [n, (o % 65536).toNat / 256, (o % 65536).toNat % 256] else none
theorem dz_2_ok {n : Nat} {o : Int} {bs : List Nat} (h : dz_2 n o = some bs) : -32768 ≤ o ∧ o < 32768 ∧ bs = [n, (o % 65536).toNat / 256, (o % 65536).toNat % 256] := by
  unfold dz_2 at h
  cases hb : decide (-32768 ≤ o) && decide (o < 32768) with
  | true =>
    rw [hb] at h
    rw [Bool.and_eq_true, decide_eq_true_eq, decide_eq_true_eq] at hb
    cases h
    exact ⟨hb.1, hb.2, rfl⟩
  | false =>
    rw [hb] at h
    cases h
def dz_enc (i : Instr) : Option (List Nat) := match i with
  | .iadd => some [96]
  | .isub => some [100]
  | .imul => some [104]
  | .idiv => some [108]
  | .irem => some [112]
  | .ineg => some [116]
  | .ishl => some [120]
  | .ishr => some [122]
  | .iushr => some [124]
  | .iand => some [126]
  | .ior => some [128]
  | .ixor => some [130]
  | .ladd => some [97]
  | .lsub => some [101]
  | .lmul => some [105]
  | .ldiv => some [109]
  | .lrem => some [113]
  | .lshl => some [121]
  | .lshr => some [123]
  | .lushr => some [125]
  | .land => some [127]
  | .lor => some [129]
  | .i2l => some [133]
  | .l2i => some [136]
  | .i2b => some [145]
  | .i2c => some [146]
  | .lcmp => some [148]
  | .iaload => some [46]
  | .laload => some [47]
  | .aaload => some [50]
  | .baload => some [51]
  | .caload => some [52]
  | .iastore => some [79]
  | .lastore => some [80]
  | .aastore => some [83]
  | .bastore => some [84]
  | .castore => some [85]
  | .pop => some [87]
  | .dup => some [89]
  | .dup2 => some [92]
  | .ireturn => some [172]
  | .lreturn => some [173]
  | .areturn => some [176]
  | .return_ => some [177]
  | .arraylength => some [190]
  | .iload n => some [21, n]
  | .lload n => some [22, n]
  | .aload n => some [25, n]
  | .istore n => some [54, n]
  | .lstore n => some [55, n]
  | .astore n => some [58, n]
  | .ldc n => some [18, n]
  | .getfield n => some [180, n / 256, n % 256]
  | .putfield n => some [181, n / 256, n % 256]
  | .invokevirtual n => some [182, n / 256, n % 256]
  | .invokespecial n => some [183, n / 256, n % 256]
  | .invokestatic n => some [184, n / 256, n % 256]
  | .new n => some [187, n / 256, n % 256]
  | .ldc_w n => some [19, n / 256, n % 256]
  | .ldc2_w n => some [20, n / 256, n % 256]
  | .getstatic n => some [178, n / 256, n % 256]
  | .anewarray n => some [189, n / 256, n % 256]
  | .iload_n n => some [26 + n.val]
  | .lload_n n => some [30 + n.val]
  | .aload_n n => some [42 + n.val]
  | .istore_n n => some [59 + n.val]
  | .lstore_n n => some [63 + n.val]
  | .astore_n n => some [75 + n.val]
  | .lconst n => some [9 + n.val]
  | .iconst n => bif decide (-1 ≤ n) && decide (n ≤ 5) then some [(n + 3).toNat] else none
  | .bipush n => bif decide (-128 ≤ n) && decide (n < 128) then some [16, (n % 256).toNat] else none
  | .iinc k n => bif decide (-128 ≤ n) && decide (n < 128) then some [132, k, (n % 256).toNat] else none
  | .sipush n => dz_2 17 n
  | .goto n => dz_2 167 n
  | .ifCond c n => dz_2 (153 + dz_cc c) n
  | .if_icmp c n => dz_2 (159 + dz_cc c) n
  | _ => none
theorem dz_e_iadd {cc : ByteArray} {pc : Nat} (h : dz_R cc pc [96]) : Jvm.ClassFile.Decoder.instr pc cc pc = Except.ok (.iadd, pc + 1) := by
  unfold Jvm.ClassFile.Decoder.instr
  exact (dz_step h.1).trans rfl
theorem dz_e_isub {cc : ByteArray} {pc : Nat} (h : dz_R cc pc [100]) : Jvm.ClassFile.Decoder.instr pc cc pc = Except.ok (.isub, pc + 1) := by
  unfold Jvm.ClassFile.Decoder.instr
  exact (dz_step h.1).trans rfl
theorem dz_e_imul {cc : ByteArray} {pc : Nat} (h : dz_R cc pc [104]) : Jvm.ClassFile.Decoder.instr pc cc pc = Except.ok (.imul, pc + 1) := by
  unfold Jvm.ClassFile.Decoder.instr
  exact (dz_step h.1).trans rfl
theorem dz_e_idiv {cc : ByteArray} {pc : Nat} (h : dz_R cc pc [108]) : Jvm.ClassFile.Decoder.instr pc cc pc = Except.ok (.idiv, pc + 1) := by
  unfold Jvm.ClassFile.Decoder.instr
  exact (dz_step h.1).trans rfl
theorem dz_e_irem {cc : ByteArray} {pc : Nat} (h : dz_R cc pc [112]) : Jvm.ClassFile.Decoder.instr pc cc pc = Except.ok (.irem, pc + 1) := by
  unfold Jvm.ClassFile.Decoder.instr
  exact (dz_step h.1).trans rfl
theorem dz_e_ineg {cc : ByteArray} {pc : Nat} (h : dz_R cc pc [116]) : Jvm.ClassFile.Decoder.instr pc cc pc = Except.ok (.ineg, pc + 1) := by
  unfold Jvm.ClassFile.Decoder.instr
  exact (dz_step h.1).trans rfl
theorem dz_e_ishl {cc : ByteArray} {pc : Nat} (h : dz_R cc pc [120]) : Jvm.ClassFile.Decoder.instr pc cc pc = Except.ok (.ishl, pc + 1) := by
  unfold Jvm.ClassFile.Decoder.instr
  exact (dz_step h.1).trans rfl
theorem dz_e_ishr {cc : ByteArray} {pc : Nat} (h : dz_R cc pc [122]) : Jvm.ClassFile.Decoder.instr pc cc pc = Except.ok (.ishr, pc + 1) := by
  unfold Jvm.ClassFile.Decoder.instr
  exact (dz_step h.1).trans rfl
theorem dz_e_iushr {cc : ByteArray} {pc : Nat} (h : dz_R cc pc [124]) : Jvm.ClassFile.Decoder.instr pc cc pc = Except.ok (.iushr, pc + 1) := by
  unfold Jvm.ClassFile.Decoder.instr
  exact (dz_step h.1).trans rfl
theorem dz_e_iand {cc : ByteArray} {pc : Nat} (h : dz_R cc pc [126]) : Jvm.ClassFile.Decoder.instr pc cc pc = Except.ok (.iand, pc + 1) := by
  unfold Jvm.ClassFile.Decoder.instr
  exact (dz_step h.1).trans rfl
theorem dz_e_ior {cc : ByteArray} {pc : Nat} (h : dz_R cc pc [128]) : Jvm.ClassFile.Decoder.instr pc cc pc = Except.ok (.ior, pc + 1) := by
  unfold Jvm.ClassFile.Decoder.instr
  exact (dz_step h.1).trans rfl
theorem dz_e_ixor {cc : ByteArray} {pc : Nat} (h : dz_R cc pc [130]) : Jvm.ClassFile.Decoder.instr pc cc pc = Except.ok (.ixor, pc + 1) := by
  unfold Jvm.ClassFile.Decoder.instr
  exact (dz_step h.1).trans rfl
theorem dz_e_ladd {cc : ByteArray} {pc : Nat} (h : dz_R cc pc [97]) : Jvm.ClassFile.Decoder.instr pc cc pc = Except.ok (.ladd, pc + 1) := by
  unfold Jvm.ClassFile.Decoder.instr
  exact (dz_step h.1).trans rfl
theorem dz_e_lsub {cc : ByteArray} {pc : Nat} (h : dz_R cc pc [101]) : Jvm.ClassFile.Decoder.instr pc cc pc = Except.ok (.lsub, pc + 1) := by
  unfold Jvm.ClassFile.Decoder.instr
  exact (dz_step h.1).trans rfl
theorem dz_e_lmul {cc : ByteArray} {pc : Nat} (h : dz_R cc pc [105]) : Jvm.ClassFile.Decoder.instr pc cc pc = Except.ok (.lmul, pc + 1) := by
  unfold Jvm.ClassFile.Decoder.instr
  exact (dz_step h.1).trans rfl
theorem dz_e_ldiv {cc : ByteArray} {pc : Nat} (h : dz_R cc pc [109]) : Jvm.ClassFile.Decoder.instr pc cc pc = Except.ok (.ldiv, pc + 1) := by
  unfold Jvm.ClassFile.Decoder.instr
  exact (dz_step h.1).trans rfl
theorem dz_e_lrem {cc : ByteArray} {pc : Nat} (h : dz_R cc pc [113]) : Jvm.ClassFile.Decoder.instr pc cc pc = Except.ok (.lrem, pc + 1) := by
  unfold Jvm.ClassFile.Decoder.instr
  exact (dz_step h.1).trans rfl
theorem dz_e_lshl {cc : ByteArray} {pc : Nat} (h : dz_R cc pc [121]) : Jvm.ClassFile.Decoder.instr pc cc pc = Except.ok (.lshl, pc + 1) := by
  unfold Jvm.ClassFile.Decoder.instr
  exact (dz_step h.1).trans rfl
theorem dz_e_lshr {cc : ByteArray} {pc : Nat} (h : dz_R cc pc [123]) : Jvm.ClassFile.Decoder.instr pc cc pc = Except.ok (.lshr, pc + 1) := by
  unfold Jvm.ClassFile.Decoder.instr
  exact (dz_step h.1).trans rfl
theorem dz_e_lushr {cc : ByteArray} {pc : Nat} (h : dz_R cc pc [125]) : Jvm.ClassFile.Decoder.instr pc cc pc = Except.ok (.lushr, pc + 1) := by
  unfold Jvm.ClassFile.Decoder.instr
  exact (dz_step h.1).trans rfl
theorem dz_e_land {cc : ByteArray} {pc : Nat} (h : dz_R cc pc [127]) : Jvm.ClassFile.Decoder.instr pc cc pc = Except.ok (.land, pc + 1) := by
  unfold Jvm.ClassFile.Decoder.instr
  exact (dz_step h.1).trans rfl
theorem dz_e_lor {cc : ByteArray} {pc : Nat} (h : dz_R cc pc [129]) : Jvm.ClassFile.Decoder.instr pc cc pc = Except.ok (.lor, pc + 1) := by
  unfold Jvm.ClassFile.Decoder.instr
  exact (dz_step h.1).trans rfl
theorem dz_e_i2l {cc : ByteArray} {pc : Nat} (h : dz_R cc pc [133]) : Jvm.ClassFile.Decoder.instr pc cc pc = Except.ok (.i2l, pc + 1) := by
  unfold Jvm.ClassFile.Decoder.instr
  exact (dz_step h.1).trans rfl
theorem dz_e_l2i {cc : ByteArray} {pc : Nat} (h : dz_R cc pc [136]) : Jvm.ClassFile.Decoder.instr pc cc pc = Except.ok (.l2i, pc + 1) := by
  unfold Jvm.ClassFile.Decoder.instr
  exact (dz_step h.1).trans rfl
theorem dz_e_i2b {cc : ByteArray} {pc : Nat} (h : dz_R cc pc [145]) : Jvm.ClassFile.Decoder.instr pc cc pc = Except.ok (.i2b, pc + 1) := by
  unfold Jvm.ClassFile.Decoder.instr
  exact (dz_step h.1).trans rfl
theorem dz_e_i2c {cc : ByteArray} {pc : Nat} (h : dz_R cc pc [146]) : Jvm.ClassFile.Decoder.instr pc cc pc = Except.ok (.i2c, pc + 1) := by
  unfold Jvm.ClassFile.Decoder.instr
  exact (dz_step h.1).trans rfl
theorem dz_e_lcmp {cc : ByteArray} {pc : Nat} (h : dz_R cc pc [148]) : Jvm.ClassFile.Decoder.instr pc cc pc = Except.ok (.lcmp, pc + 1) := by
  unfold Jvm.ClassFile.Decoder.instr
  exact (dz_step h.1).trans rfl
theorem dz_e_iaload {cc : ByteArray} {pc : Nat} (h : dz_R cc pc [46]) : Jvm.ClassFile.Decoder.instr pc cc pc = Except.ok (.iaload, pc + 1) := by
  unfold Jvm.ClassFile.Decoder.instr
  exact (dz_step h.1).trans rfl
theorem dz_e_laload {cc : ByteArray} {pc : Nat} (h : dz_R cc pc [47]) : Jvm.ClassFile.Decoder.instr pc cc pc = Except.ok (.laload, pc + 1) := by
  unfold Jvm.ClassFile.Decoder.instr
  exact (dz_step h.1).trans rfl
theorem dz_e_aaload {cc : ByteArray} {pc : Nat} (h : dz_R cc pc [50]) : Jvm.ClassFile.Decoder.instr pc cc pc = Except.ok (.aaload, pc + 1) := by
  unfold Jvm.ClassFile.Decoder.instr
  exact (dz_step h.1).trans rfl
theorem dz_e_baload {cc : ByteArray} {pc : Nat} (h : dz_R cc pc [51]) : Jvm.ClassFile.Decoder.instr pc cc pc = Except.ok (.baload, pc + 1) := by
  unfold Jvm.ClassFile.Decoder.instr
  exact (dz_step h.1).trans rfl
theorem dz_e_caload {cc : ByteArray} {pc : Nat} (h : dz_R cc pc [52]) : Jvm.ClassFile.Decoder.instr pc cc pc = Except.ok (.caload, pc + 1) := by
  unfold Jvm.ClassFile.Decoder.instr
  exact (dz_step h.1).trans rfl
theorem dz_e_iastore {cc : ByteArray} {pc : Nat} (h : dz_R cc pc [79]) : Jvm.ClassFile.Decoder.instr pc cc pc = Except.ok (.iastore, pc + 1) := by
  unfold Jvm.ClassFile.Decoder.instr
  exact (dz_step h.1).trans rfl
theorem dz_e_lastore {cc : ByteArray} {pc : Nat} (h : dz_R cc pc [80]) : Jvm.ClassFile.Decoder.instr pc cc pc = Except.ok (.lastore, pc + 1) := by
  unfold Jvm.ClassFile.Decoder.instr
  exact (dz_step h.1).trans rfl
theorem dz_e_aastore {cc : ByteArray} {pc : Nat} (h : dz_R cc pc [83]) : Jvm.ClassFile.Decoder.instr pc cc pc = Except.ok (.aastore, pc + 1) := by
  unfold Jvm.ClassFile.Decoder.instr
  exact (dz_step h.1).trans rfl
theorem dz_e_bastore {cc : ByteArray} {pc : Nat} (h : dz_R cc pc [84]) : Jvm.ClassFile.Decoder.instr pc cc pc = Except.ok (.bastore, pc + 1) := by
  unfold Jvm.ClassFile.Decoder.instr
  exact (dz_step h.1).trans rfl
theorem dz_e_castore {cc : ByteArray} {pc : Nat} (h : dz_R cc pc [85]) : Jvm.ClassFile.Decoder.instr pc cc pc = Except.ok (.castore, pc + 1) := by
  unfold Jvm.ClassFile.Decoder.instr
  exact (dz_step h.1).trans rfl
theorem dz_e_pop {cc : ByteArray} {pc : Nat} (h : dz_R cc pc [87]) : Jvm.ClassFile.Decoder.instr pc cc pc = Except.ok (.pop, pc + 1) := by
  unfold Jvm.ClassFile.Decoder.instr
  exact (dz_step h.1).trans rfl
theorem dz_e_dup {cc : ByteArray} {pc : Nat} (h : dz_R cc pc [89]) : Jvm.ClassFile.Decoder.instr pc cc pc = Except.ok (.dup, pc + 1) := by
  unfold Jvm.ClassFile.Decoder.instr
  exact (dz_step h.1).trans rfl
theorem dz_e_dup2 {cc : ByteArray} {pc : Nat} (h : dz_R cc pc [92]) : Jvm.ClassFile.Decoder.instr pc cc pc = Except.ok (.dup2, pc + 1) := by
  unfold Jvm.ClassFile.Decoder.instr
  exact (dz_step h.1).trans rfl
theorem dz_e_ireturn {cc : ByteArray} {pc : Nat} (h : dz_R cc pc [172]) : Jvm.ClassFile.Decoder.instr pc cc pc = Except.ok (.ireturn, pc + 1) := by
  unfold Jvm.ClassFile.Decoder.instr
  exact (dz_step h.1).trans rfl
theorem dz_e_lreturn {cc : ByteArray} {pc : Nat} (h : dz_R cc pc [173]) : Jvm.ClassFile.Decoder.instr pc cc pc = Except.ok (.lreturn, pc + 1) := by
  unfold Jvm.ClassFile.Decoder.instr
  exact (dz_step h.1).trans rfl
theorem dz_e_areturn {cc : ByteArray} {pc : Nat} (h : dz_R cc pc [176]) : Jvm.ClassFile.Decoder.instr pc cc pc = Except.ok (.areturn, pc + 1) := by
  unfold Jvm.ClassFile.Decoder.instr
  exact (dz_step h.1).trans rfl
theorem dz_e_return_ {cc : ByteArray} {pc : Nat} (h : dz_R cc pc [177]) : Jvm.ClassFile.Decoder.instr pc cc pc = Except.ok (.return_, pc + 1) := by
  unfold Jvm.ClassFile.Decoder.instr
  exact (dz_step h.1).trans rfl
theorem dz_e_arraylength {cc : ByteArray} {pc : Nat} (h : dz_R cc pc [190]) : Jvm.ClassFile.Decoder.instr pc cc pc = Except.ok (.arraylength, pc + 1) := by
  unfold Jvm.ClassFile.Decoder.instr
  exact (dz_step h.1).trans rfl
theorem dz_e_iload {cc : ByteArray} {pc : Nat} {n : Nat} (h : dz_R cc pc [21, n]) : Jvm.ClassFile.Decoder.instr pc cc pc = Except.ok (.iload n, pc + 2) := by
  unfold Jvm.ClassFile.Decoder.instr
  exact (dz_step h.1).trans ((dz_step h.2.1).trans rfl)
theorem dz_e_lload {cc : ByteArray} {pc : Nat} {n : Nat} (h : dz_R cc pc [22, n]) : Jvm.ClassFile.Decoder.instr pc cc pc = Except.ok (.lload n, pc + 2) := by
  unfold Jvm.ClassFile.Decoder.instr
  exact (dz_step h.1).trans ((dz_step h.2.1).trans rfl)
theorem dz_e_aload {cc : ByteArray} {pc : Nat} {n : Nat} (h : dz_R cc pc [25, n]) : Jvm.ClassFile.Decoder.instr pc cc pc = Except.ok (.aload n, pc + 2) := by
  unfold Jvm.ClassFile.Decoder.instr
  exact (dz_step h.1).trans ((dz_step h.2.1).trans rfl)
theorem dz_e_istore {cc : ByteArray} {pc : Nat} {n : Nat} (h : dz_R cc pc [54, n]) : Jvm.ClassFile.Decoder.instr pc cc pc = Except.ok (.istore n, pc + 2) := by
  unfold Jvm.ClassFile.Decoder.instr
  exact (dz_step h.1).trans ((dz_step h.2.1).trans rfl)
theorem dz_e_lstore {cc : ByteArray} {pc : Nat} {n : Nat} (h : dz_R cc pc [55, n]) : Jvm.ClassFile.Decoder.instr pc cc pc = Except.ok (.lstore n, pc + 2) := by
  unfold Jvm.ClassFile.Decoder.instr
  exact (dz_step h.1).trans ((dz_step h.2.1).trans rfl)
theorem dz_e_astore {cc : ByteArray} {pc : Nat} {n : Nat} (h : dz_R cc pc [58, n]) : Jvm.ClassFile.Decoder.instr pc cc pc = Except.ok (.astore n, pc + 2) := by
  unfold Jvm.ClassFile.Decoder.instr
  exact (dz_step h.1).trans ((dz_step h.2.1).trans rfl)
theorem dz_e_ldc {cc : ByteArray} {pc : Nat} {n : Nat} (h : dz_R cc pc [18, n]) : Jvm.ClassFile.Decoder.instr pc cc pc = Except.ok (.ldc n, pc + 2) := by
  unfold Jvm.ClassFile.Decoder.instr
  exact (dz_step h.1).trans ((dz_step h.2.1).trans rfl)
theorem dz_e_getfield {cc : ByteArray} {pc : Nat} {n : Nat} (h : dz_R cc pc [180, n / 256, n % 256]) : Jvm.ClassFile.Decoder.instr pc cc pc = Except.ok (.getfield n, pc + 3) := by
  unfold Jvm.ClassFile.Decoder.instr
  exact (dz_step h.1).trans ((dz_step (dz_u2R h.2)).trans rfl)
theorem dz_e_putfield {cc : ByteArray} {pc : Nat} {n : Nat} (h : dz_R cc pc [181, n / 256, n % 256]) : Jvm.ClassFile.Decoder.instr pc cc pc = Except.ok (.putfield n, pc + 3) := by
  unfold Jvm.ClassFile.Decoder.instr
  exact (dz_step h.1).trans ((dz_step (dz_u2R h.2)).trans rfl)
theorem dz_e_invokevirtual {cc : ByteArray} {pc : Nat} {n : Nat} (h : dz_R cc pc [182, n / 256, n % 256]) : Jvm.ClassFile.Decoder.instr pc cc pc = Except.ok (.invokevirtual n, pc + 3) := by
  unfold Jvm.ClassFile.Decoder.instr
  exact (dz_step h.1).trans ((dz_step (dz_u2R h.2)).trans rfl)
theorem dz_e_invokespecial {cc : ByteArray} {pc : Nat} {n : Nat} (h : dz_R cc pc [183, n / 256, n % 256]) : Jvm.ClassFile.Decoder.instr pc cc pc = Except.ok (.invokespecial n, pc + 3) := by
  unfold Jvm.ClassFile.Decoder.instr
  exact (dz_step h.1).trans ((dz_step (dz_u2R h.2)).trans rfl)
theorem dz_e_invokestatic {cc : ByteArray} {pc : Nat} {n : Nat} (h : dz_R cc pc [184, n / 256, n % 256]) : Jvm.ClassFile.Decoder.instr pc cc pc = Except.ok (.invokestatic n, pc + 3) := by
  unfold Jvm.ClassFile.Decoder.instr
  exact (dz_step h.1).trans ((dz_step (dz_u2R h.2)).trans rfl)
theorem dz_e_new {cc : ByteArray} {pc : Nat} {n : Nat} (h : dz_R cc pc [187, n / 256, n % 256]) : Jvm.ClassFile.Decoder.instr pc cc pc = Except.ok (.new n, pc + 3) := by
  unfold Jvm.ClassFile.Decoder.instr
  exact (dz_step h.1).trans ((dz_step (dz_u2R h.2)).trans rfl)
theorem dz_e_ldc_w {cc : ByteArray} {pc : Nat} {n : Nat} (h : dz_R cc pc [19, n / 256, n % 256]) : Jvm.ClassFile.Decoder.instr pc cc pc = Except.ok (.ldc_w n, pc + 3) := by
  unfold Jvm.ClassFile.Decoder.instr
  exact (dz_step h.1).trans ((dz_step (dz_u2R h.2)).trans rfl)
theorem dz_e_ldc2_w {cc : ByteArray} {pc : Nat} {n : Nat} (h : dz_R cc pc [20, n / 256, n % 256]) : Jvm.ClassFile.Decoder.instr pc cc pc = Except.ok (.ldc2_w n, pc + 3) := by
  unfold Jvm.ClassFile.Decoder.instr
  exact (dz_step h.1).trans ((dz_step (dz_u2R h.2)).trans rfl)
theorem dz_e_getstatic {cc : ByteArray} {pc : Nat} {n : Nat} (h : dz_R cc pc [178, n / 256, n % 256]) : Jvm.ClassFile.Decoder.instr pc cc pc = Except.ok (.getstatic n, pc + 3) := by
  unfold Jvm.ClassFile.Decoder.instr
  exact (dz_step h.1).trans ((dz_step (dz_u2R h.2)).trans rfl)
theorem dz_e_anewarray {cc : ByteArray} {pc : Nat} {n : Nat} (h : dz_R cc pc [189, n / 256, n % 256]) : Jvm.ClassFile.Decoder.instr pc cc pc = Except.ok (.anewarray n, pc + 3) := by
  unfold Jvm.ClassFile.Decoder.instr
  exact (dz_step h.1).trans ((dz_step (dz_u2R h.2)).trans rfl)
theorem dz_e_iload_n0 {cc : ByteArray} {pc : Nat} (h : dz_R cc pc [26]) : Jvm.ClassFile.Decoder.instr pc cc pc = Except.ok (.iload_n 0, pc + 1) := by
  unfold Jvm.ClassFile.Decoder.instr
  exact (dz_step h.1).trans rfl
theorem dz_e_iload_n1 {cc : ByteArray} {pc : Nat} (h : dz_R cc pc [27]) : Jvm.ClassFile.Decoder.instr pc cc pc = Except.ok (.iload_n 1, pc + 1) := by
  unfold Jvm.ClassFile.Decoder.instr
  exact (dz_step h.1).trans rfl
theorem dz_e_iload_n2 {cc : ByteArray} {pc : Nat} (h : dz_R cc pc [28]) : Jvm.ClassFile.Decoder.instr pc cc pc = Except.ok (.iload_n 2, pc + 1) := by
  unfold Jvm.ClassFile.Decoder.instr
  exact (dz_step h.1).trans rfl
theorem dz_e_iload_n3 {cc : ByteArray} {pc : Nat} (h : dz_R cc pc [29]) : Jvm.ClassFile.Decoder.instr pc cc pc = Except.ok (.iload_n 3, pc + 1) := by
  unfold Jvm.ClassFile.Decoder.instr
  exact (dz_step h.1).trans rfl
theorem dz_e_lload_n0 {cc : ByteArray} {pc : Nat} (h : dz_R cc pc [30]) : Jvm.ClassFile.Decoder.instr pc cc pc = Except.ok (.lload_n 0, pc + 1) := by
  unfold Jvm.ClassFile.Decoder.instr
  exact (dz_step h.1).trans rfl
theorem dz_e_lload_n1 {cc : ByteArray} {pc : Nat} (h : dz_R cc pc [31]) : Jvm.ClassFile.Decoder.instr pc cc pc = Except.ok (.lload_n 1, pc + 1) := by
  unfold Jvm.ClassFile.Decoder.instr
  exact (dz_step h.1).trans rfl
theorem dz_e_lload_n2 {cc : ByteArray} {pc : Nat} (h : dz_R cc pc [32]) : Jvm.ClassFile.Decoder.instr pc cc pc = Except.ok (.lload_n 2, pc + 1) := by
  unfold Jvm.ClassFile.Decoder.instr
  exact (dz_step h.1).trans rfl
theorem dz_e_lload_n3 {cc : ByteArray} {pc : Nat} (h : dz_R cc pc [33]) : Jvm.ClassFile.Decoder.instr pc cc pc = Except.ok (.lload_n 3, pc + 1) := by
  unfold Jvm.ClassFile.Decoder.instr
  exact (dz_step h.1).trans rfl
theorem dz_e_aload_n0 {cc : ByteArray} {pc : Nat} (h : dz_R cc pc [42]) : Jvm.ClassFile.Decoder.instr pc cc pc = Except.ok (.aload_n 0, pc + 1) := by
  unfold Jvm.ClassFile.Decoder.instr
  exact (dz_step h.1).trans rfl
theorem dz_e_aload_n1 {cc : ByteArray} {pc : Nat} (h : dz_R cc pc [43]) : Jvm.ClassFile.Decoder.instr pc cc pc = Except.ok (.aload_n 1, pc + 1) := by
  unfold Jvm.ClassFile.Decoder.instr
  exact (dz_step h.1).trans rfl
theorem dz_e_aload_n2 {cc : ByteArray} {pc : Nat} (h : dz_R cc pc [44]) : Jvm.ClassFile.Decoder.instr pc cc pc = Except.ok (.aload_n 2, pc + 1) := by
  unfold Jvm.ClassFile.Decoder.instr
  exact (dz_step h.1).trans rfl
theorem dz_e_aload_n3 {cc : ByteArray} {pc : Nat} (h : dz_R cc pc [45]) : Jvm.ClassFile.Decoder.instr pc cc pc = Except.ok (.aload_n 3, pc + 1) := by
  unfold Jvm.ClassFile.Decoder.instr
  exact (dz_step h.1).trans rfl
theorem dz_e_istore_n0 {cc : ByteArray} {pc : Nat} (h : dz_R cc pc [59]) : Jvm.ClassFile.Decoder.instr pc cc pc = Except.ok (.istore_n 0, pc + 1) := by
  unfold Jvm.ClassFile.Decoder.instr
  exact (dz_step h.1).trans rfl
theorem dz_e_istore_n1 {cc : ByteArray} {pc : Nat} (h : dz_R cc pc [60]) : Jvm.ClassFile.Decoder.instr pc cc pc = Except.ok (.istore_n 1, pc + 1) := by
  unfold Jvm.ClassFile.Decoder.instr
  exact (dz_step h.1).trans rfl
theorem dz_e_istore_n2 {cc : ByteArray} {pc : Nat} (h : dz_R cc pc [61]) : Jvm.ClassFile.Decoder.instr pc cc pc = Except.ok (.istore_n 2, pc + 1) := by
  unfold Jvm.ClassFile.Decoder.instr
  exact (dz_step h.1).trans rfl
theorem dz_e_istore_n3 {cc : ByteArray} {pc : Nat} (h : dz_R cc pc [62]) : Jvm.ClassFile.Decoder.instr pc cc pc = Except.ok (.istore_n 3, pc + 1) := by
  unfold Jvm.ClassFile.Decoder.instr
  exact (dz_step h.1).trans rfl
theorem dz_e_lstore_n0 {cc : ByteArray} {pc : Nat} (h : dz_R cc pc [63]) : Jvm.ClassFile.Decoder.instr pc cc pc = Except.ok (.lstore_n 0, pc + 1) := by
  unfold Jvm.ClassFile.Decoder.instr
  exact (dz_step h.1).trans rfl
theorem dz_e_lstore_n1 {cc : ByteArray} {pc : Nat} (h : dz_R cc pc [64]) : Jvm.ClassFile.Decoder.instr pc cc pc = Except.ok (.lstore_n 1, pc + 1) := by
  unfold Jvm.ClassFile.Decoder.instr
  exact (dz_step h.1).trans rfl
theorem dz_e_lstore_n2 {cc : ByteArray} {pc : Nat} (h : dz_R cc pc [65]) : Jvm.ClassFile.Decoder.instr pc cc pc = Except.ok (.lstore_n 2, pc + 1) := by
  unfold Jvm.ClassFile.Decoder.instr
  exact (dz_step h.1).trans rfl
theorem dz_e_lstore_n3 {cc : ByteArray} {pc : Nat} (h : dz_R cc pc [66]) : Jvm.ClassFile.Decoder.instr pc cc pc = Except.ok (.lstore_n 3, pc + 1) := by
  unfold Jvm.ClassFile.Decoder.instr
  exact (dz_step h.1).trans rfl
theorem dz_e_astore_n0 {cc : ByteArray} {pc : Nat} (h : dz_R cc pc [75]) : Jvm.ClassFile.Decoder.instr pc cc pc = Except.ok (.astore_n 0, pc + 1) := by
  unfold Jvm.ClassFile.Decoder.instr
  exact (dz_step h.1).trans rfl
theorem dz_e_astore_n1 {cc : ByteArray} {pc : Nat} (h : dz_R cc pc [76]) : Jvm.ClassFile.Decoder.instr pc cc pc = Except.ok (.astore_n 1, pc + 1) := by
  unfold Jvm.ClassFile.Decoder.instr
  exact (dz_step h.1).trans rfl
theorem dz_e_astore_n2 {cc : ByteArray} {pc : Nat} (h : dz_R cc pc [77]) : Jvm.ClassFile.Decoder.instr pc cc pc = Except.ok (.astore_n 2, pc + 1) := by
  unfold Jvm.ClassFile.Decoder.instr
  exact (dz_step h.1).trans rfl
theorem dz_e_astore_n3 {cc : ByteArray} {pc : Nat} (h : dz_R cc pc [78]) : Jvm.ClassFile.Decoder.instr pc cc pc = Except.ok (.astore_n 3, pc + 1) := by
  unfold Jvm.ClassFile.Decoder.instr
  exact (dz_step h.1).trans rfl
theorem dz_e_lconst0 {cc : ByteArray} {pc : Nat} (h : dz_R cc pc [9]) : Jvm.ClassFile.Decoder.instr pc cc pc = Except.ok (.lconst 0, pc + 1) := by
  unfold Jvm.ClassFile.Decoder.instr
  exact (dz_step h.1).trans rfl
theorem dz_e_lconst1 {cc : ByteArray} {pc : Nat} (h : dz_R cc pc [10]) : Jvm.ClassFile.Decoder.instr pc cc pc = Except.ok (.lconst 1, pc + 1) := by
  unfold Jvm.ClassFile.Decoder.instr
  exact (dz_step h.1).trans rfl
theorem dz_e_iconstm1 {cc : ByteArray} {pc : Nat} (h : dz_R cc pc [2]) : Jvm.ClassFile.Decoder.instr pc cc pc = Except.ok (.iconst (-1), pc + 1) := by
  unfold Jvm.ClassFile.Decoder.instr
  exact (dz_step h.1).trans rfl
theorem dz_e_iconst0 {cc : ByteArray} {pc : Nat} (h : dz_R cc pc [3]) : Jvm.ClassFile.Decoder.instr pc cc pc = Except.ok (.iconst (0), pc + 1) := by
  unfold Jvm.ClassFile.Decoder.instr
  exact (dz_step h.1).trans rfl
theorem dz_e_iconst1 {cc : ByteArray} {pc : Nat} (h : dz_R cc pc [4]) : Jvm.ClassFile.Decoder.instr pc cc pc = Except.ok (.iconst (1), pc + 1) := by
  unfold Jvm.ClassFile.Decoder.instr
  exact (dz_step h.1).trans rfl
theorem dz_e_iconst2 {cc : ByteArray} {pc : Nat} (h : dz_R cc pc [5]) : Jvm.ClassFile.Decoder.instr pc cc pc = Except.ok (.iconst (2), pc + 1) := by
  unfold Jvm.ClassFile.Decoder.instr
  exact (dz_step h.1).trans rfl
theorem dz_e_iconst3 {cc : ByteArray} {pc : Nat} (h : dz_R cc pc [6]) : Jvm.ClassFile.Decoder.instr pc cc pc = Except.ok (.iconst (3), pc + 1) := by
  unfold Jvm.ClassFile.Decoder.instr
  exact (dz_step h.1).trans rfl
theorem dz_e_iconst4 {cc : ByteArray} {pc : Nat} (h : dz_R cc pc [7]) : Jvm.ClassFile.Decoder.instr pc cc pc = Except.ok (.iconst (4), pc + 1) := by
  unfold Jvm.ClassFile.Decoder.instr
  exact (dz_step h.1).trans rfl
theorem dz_e_iconst5 {cc : ByteArray} {pc : Nat} (h : dz_R cc pc [8]) : Jvm.ClassFile.Decoder.instr pc cc pc = Except.ok (.iconst (5), pc + 1) := by
  unfold Jvm.ClassFile.Decoder.instr
  exact (dz_step h.1).trans rfl
theorem dz_e_bipush {cc : ByteArray} {pc : Nat} {n : Int} (h1 : -128 ≤ n) (h2 : n < 128) (h : dz_R cc pc [16, (n % 256).toNat]) : Jvm.ClassFile.Decoder.instr pc cc pc = Except.ok (.bipush n, pc + 2) := by
  unfold Jvm.ClassFile.Decoder.instr
  exact (dz_step h.1).trans ((dz_step (dz_s1R h1 h2 h.2)).trans rfl)
theorem dz_e_iinc {cc : ByteArray} {pc : Nat} {k : Nat} {n : Int} (h1 : -128 ≤ n) (h2 : n < 128) (h : dz_R cc pc [132, k, (n % 256).toNat]) : Jvm.ClassFile.Decoder.instr pc cc pc = Except.ok (.iinc k n, pc + 3) := by
  unfold Jvm.ClassFile.Decoder.instr
  exact (dz_step h.1).trans ((dz_step h.2.1).trans ((dz_step (dz_s1R h1 h2 h.2.2)).trans rfl))
theorem dz_e_sipush {cc : ByteArray} {pc : Nat} {n : Int} (h1 : -32768 ≤ n) (h2 : n < 32768) (h : dz_R cc pc [17, (n % 65536).toNat / 256, (n % 65536).toNat % 256]) : Jvm.ClassFile.Decoder.instr pc cc pc = Except.ok (.sipush n, pc + 3) := by
  unfold Jvm.ClassFile.Decoder.instr
  exact (dz_step h.1).trans ((dz_step (dz_s2R h1 h2 h.2)).trans rfl)
theorem dz_e_goto {cc : ByteArray} {pc : Nat} {n : Int} (h1 : -32768 ≤ n) (h2 : n < 32768) (h : dz_R cc pc [167, (n % 65536).toNat / 256, (n % 65536).toNat % 256]) : Jvm.ClassFile.Decoder.instr pc cc pc = Except.ok (.goto n, pc + 3) := by
  unfold Jvm.ClassFile.Decoder.instr
  exact (dz_step h.1).trans ((dz_step (dz_s2R h1 h2 h.2)).trans rfl)
theorem dz_e_ifCond_eq {cc : ByteArray} {pc : Nat} {n : Int} (h1 : -32768 ≤ n) (h2 : n < 32768) (h : dz_R cc pc [153, (n % 65536).toNat / 256, (n % 65536).toNat % 256]) : Jvm.ClassFile.Decoder.instr pc cc pc = Except.ok (.ifCond .eq n, pc + 3) := by
  unfold Jvm.ClassFile.Decoder.instr
  exact (dz_step h.1).trans ((dz_step (dz_s2R h1 h2 h.2)).trans rfl)
theorem dz_e_if_icmp_eq {cc : ByteArray} {pc : Nat} {n : Int} (h1 : -32768 ≤ n) (h2 : n < 32768) (h : dz_R cc pc [159, (n % 65536).toNat / 256, (n % 65536).toNat % 256]) : Jvm.ClassFile.Decoder.instr pc cc pc = Except.ok (.if_icmp .eq n, pc + 3) := by
  unfold Jvm.ClassFile.Decoder.instr
  exact (dz_step h.1).trans ((dz_step (dz_s2R h1 h2 h.2)).trans rfl)
theorem dz_e_ifCond_ne {cc : ByteArray} {pc : Nat} {n : Int} (h1 : -32768 ≤ n) (h2 : n < 32768) (h : dz_R cc pc [154, (n % 65536).toNat / 256, (n % 65536).toNat % 256]) : Jvm.ClassFile.Decoder.instr pc cc pc = Except.ok (.ifCond .ne n, pc + 3) := by
  unfold Jvm.ClassFile.Decoder.instr
  exact (dz_step h.1).trans ((dz_step (dz_s2R h1 h2 h.2)).trans rfl)
theorem dz_e_if_icmp_ne {cc : ByteArray} {pc : Nat} {n : Int} (h1 : -32768 ≤ n) (h2 : n < 32768) (h : dz_R cc pc [160, (n % 65536).toNat / 256, (n % 65536).toNat % 256]) : Jvm.ClassFile.Decoder.instr pc cc pc = Except.ok (.if_icmp .ne n, pc + 3) := by
  unfold Jvm.ClassFile.Decoder.instr
  exact (dz_step h.1).trans ((dz_step (dz_s2R h1 h2 h.2)).trans rfl)
theorem dz_e_ifCond_lt {cc : ByteArray} {pc : Nat} {n : Int} (h1 : -32768 ≤ n) (h2 : n < 32768) (h : dz_R cc pc [155, (n % 65536).toNat / 256, (n % 65536).toNat % 256]) : Jvm.ClassFile.Decoder.instr pc cc pc = Except.ok (.ifCond .lt n, pc + 3) := by
  unfold Jvm.ClassFile.Decoder.instr
  exact (dz_step h.1).trans ((dz_step (dz_s2R h1 h2 h.2)).trans rfl)
theorem dz_e_if_icmp_lt {cc : ByteArray} {pc : Nat} {n : Int} (h1 : -32768 ≤ n) (h2 : n < 32768) (h : dz_R cc pc [161, (n % 65536).toNat / 256, (n % 65536).toNat % 256]) : Jvm.ClassFile.Decoder.instr pc cc pc = Except.ok (.if_icmp .lt n, pc + 3) := by
  unfold Jvm.ClassFile.Decoder.instr
  exact (dz_step h.1).trans ((dz_step (dz_s2R h1 h2 h.2)).trans rfl)
theorem dz_e_ifCond_ge {cc : ByteArray} {pc : Nat} {n : Int} (h1 : -32768 ≤ n) (h2 : n < 32768) (h : dz_R cc pc [156, (n % 65536).toNat / 256, (n % 65536).toNat % 256]) : Jvm.ClassFile.Decoder.instr pc cc pc = Except.ok (.ifCond .ge n, pc + 3) := by
  unfold Jvm.ClassFile.Decoder.instr
  exact (dz_step h.1).trans ((dz_step (dz_s2R h1 h2 h.2)).trans rfl)
theorem dz_e_if_icmp_ge {cc : ByteArray} {pc : Nat} {n : Int} (h1 : -32768 ≤ n) (h2 : n < 32768) (h : dz_R cc pc [162, (n % 65536).toNat / 256, (n % 65536).toNat % 256]) : Jvm.ClassFile.Decoder.instr pc cc pc = Except.ok (.if_icmp .ge n, pc + 3) := by
  unfold Jvm.ClassFile.Decoder.instr
  exact (dz_step h.1).trans ((dz_step (dz_s2R h1 h2 h.2)).trans rfl)
theorem dz_e_ifCond_gt {cc : ByteArray} {pc : Nat} {n : Int} (h1 : -32768 ≤ n) (h2 : n < 32768) (h : dz_R cc pc [157, (n % 65536).toNat / 256, (n % 65536).toNat % 256]) : Jvm.ClassFile.Decoder.instr pc cc pc = Except.ok (.ifCond .gt n, pc + 3) := by
  unfold Jvm.ClassFile.Decoder.instr
  exact (dz_step h.1).trans ((dz_step (dz_s2R h1 h2 h.2)).trans rfl)
theorem dz_e_if_icmp_gt {cc : ByteArray} {pc : Nat} {n : Int} (h1 : -32768 ≤ n) (h2 : n < 32768) (h : dz_R cc pc [163, (n % 65536).toNat / 256, (n % 65536).toNat % 256]) : Jvm.ClassFile.Decoder.instr pc cc pc = Except.ok (.if_icmp .gt n, pc + 3) := by
  unfold Jvm.ClassFile.Decoder.instr
  exact (dz_step h.1).trans ((dz_step (dz_s2R h1 h2 h.2)).trans rfl)
theorem dz_e_ifCond_le {cc : ByteArray} {pc : Nat} {n : Int} (h1 : -32768 ≤ n) (h2 : n < 32768) (h : dz_R cc pc [158, (n % 65536).toNat / 256, (n % 65536).toNat % 256]) : Jvm.ClassFile.Decoder.instr pc cc pc = Except.ok (.ifCond .le n, pc + 3) := by
  unfold Jvm.ClassFile.Decoder.instr
  exact (dz_step h.1).trans ((dz_step (dz_s2R h1 h2 h.2)).trans rfl)
theorem dz_e_if_icmp_le {cc : ByteArray} {pc : Nat} {n : Int} (h1 : -32768 ≤ n) (h2 : n < 32768) (h : dz_R cc pc [164, (n % 65536).toNat / 256, (n % 65536).toNat % 256]) : Jvm.ClassFile.Decoder.instr pc cc pc = Except.ok (.if_icmp .le n, pc + 3) := by
  unfold Jvm.ClassFile.Decoder.instr
  exact (dz_step h.1).trans ((dz_step (dz_s2R h1 h2 h.2)).trans rfl)
set_option maxHeartbeats 4000000 in
theorem dz_enc_ok {cc : ByteArray} {pc : Nat} {i : Instr} {bs : List Nat} (he : dz_enc i = some bs) (h : dz_R cc pc bs) : Jvm.ClassFile.Decoder.instr pc cc pc = Except.ok (i, pc + am_len i) := by
  cases i with
  | iadd =>
    have he : some [96] = some bs := he
    cases he
    exact dz_e_iadd h
  | isub =>
    have he : some [100] = some bs := he
    cases he
    exact dz_e_isub h
  | imul =>
    have he : some [104] = some bs := he
    cases he
    exact dz_e_imul h
  | idiv =>
    have he : some [108] = some bs := he
    cases he
    exact dz_e_idiv h
  | irem =>
    have he : some [112] = some bs := he
    cases he
    exact dz_e_irem h
  | ineg =>
    have he : some [116] = some bs := he
    cases he
    exact dz_e_ineg h
  | ishl =>
    have he : some [120] = some bs := he
    cases he
    exact dz_e_ishl h
  | ishr =>
    have he : some [122] = some bs := he
    cases he
    exact dz_e_ishr h
  | iushr =>
    have he : some [124] = some bs := he
    cases he
    exact dz_e_iushr h
  | iand =>
    have he : some [126] = some bs := he
    cases he
    exact dz_e_iand h
  | ior =>
    have he : some [128] = some bs := he
    cases he
    exact dz_e_ior h
  | ixor =>
    have he : some [130] = some bs := he
    cases he
    exact dz_e_ixor h
  | ladd =>
    have he : some [97] = some bs := he
    cases he
    exact dz_e_ladd h
  | lsub =>
    have he : some [101] = some bs := he
    cases he
    exact dz_e_lsub h
  | lmul =>
    have he : some [105] = some bs := he
    cases he
    exact dz_e_lmul h
  | ldiv =>
    have he : some [109] = some bs := he
    cases he
    exact dz_e_ldiv h
  | lrem =>
    have he : some [113] = some bs := he
    cases he
    exact dz_e_lrem h
  | lshl =>
    have he : some [121] = some bs := he
    cases he
    exact dz_e_lshl h
  | lshr =>
    have he : some [123] = some bs := he
    cases he
    exact dz_e_lshr h
  | lushr =>
    have he : some [125] = some bs := he
    cases he
    exact dz_e_lushr h
  | land =>
    have he : some [127] = some bs := he
    cases he
    exact dz_e_land h
  | lor =>
    have he : some [129] = some bs := he
    cases he
    exact dz_e_lor h
  | i2l =>
    have he : some [133] = some bs := he
    cases he
    exact dz_e_i2l h
  | l2i =>
    have he : some [136] = some bs := he
    cases he
    exact dz_e_l2i h
  | i2b =>
    have he : some [145] = some bs := he
    cases he
    exact dz_e_i2b h
  | i2c =>
    have he : some [146] = some bs := he
    cases he
    exact dz_e_i2c h
  | lcmp =>
    have he : some [148] = some bs := he
    cases he
    exact dz_e_lcmp h
  | iaload =>
    have he : some [46] = some bs := he
    cases he
    exact dz_e_iaload h
  | laload =>
    have he : some [47] = some bs := he
    cases he
    exact dz_e_laload h
  | aaload =>
    have he : some [50] = some bs := he
    cases he
    exact dz_e_aaload h
  | baload =>
    have he : some [51] = some bs := he
    cases he
    exact dz_e_baload h
  | caload =>
    have he : some [52] = some bs := he
    cases he
    exact dz_e_caload h
  | iastore =>
    have he : some [79] = some bs := he
    cases he
    exact dz_e_iastore h
  | lastore =>
    have he : some [80] = some bs := he
    cases he
    exact dz_e_lastore h
  | aastore =>
    have he : some [83] = some bs := he
    cases he
    exact dz_e_aastore h
  | bastore =>
    have he : some [84] = some bs := he
    cases he
    exact dz_e_bastore h
  | castore =>
    have he : some [85] = some bs := he
    cases he
    exact dz_e_castore h
  | pop =>
    have he : some [87] = some bs := he
    cases he
    exact dz_e_pop h
  | dup =>
    have he : some [89] = some bs := he
    cases he
    exact dz_e_dup h
  | dup2 =>
    have he : some [92] = some bs := he
    cases he
    exact dz_e_dup2 h
  | ireturn =>
    have he : some [172] = some bs := he
    cases he
    exact dz_e_ireturn h
  | lreturn =>
    have he : some [173] = some bs := he
    cases he
    exact dz_e_lreturn h
  | areturn =>
    have he : some [176] = some bs := he
    cases he
    exact dz_e_areturn h
  | return_ =>
    have he : some [177] = some bs := he
    cases he
    exact dz_e_return_ h
  | arraylength =>
    have he : some [190] = some bs := he
    cases he
    exact dz_e_arraylength h
  | iload n =>
    have he : some [21, n] = some bs := he
    cases he
    exact dz_e_iload h
  | lload n =>
    have he : some [22, n] = some bs := he
    cases he
    exact dz_e_lload h
  | aload n =>
    have he : some [25, n] = some bs := he
    cases he
    exact dz_e_aload h
  | istore n =>
    have he : some [54, n] = some bs := he
    cases he
    exact dz_e_istore h
  | lstore n =>
    have he : some [55, n] = some bs := he
    cases he
    exact dz_e_lstore h
  | astore n =>
    have he : some [58, n] = some bs := he
    cases he
    exact dz_e_astore h
  | ldc n =>
    have he : some [18, n] = some bs := he
    cases he
    exact dz_e_ldc h
  | getfield n =>
    have he : some [180, n / 256, n % 256] = some bs := he
    cases he
    exact dz_e_getfield h
  | putfield n =>
    have he : some [181, n / 256, n % 256] = some bs := he
    cases he
    exact dz_e_putfield h
  | invokevirtual n =>
    have he : some [182, n / 256, n % 256] = some bs := he
    cases he
    exact dz_e_invokevirtual h
  | invokespecial n =>
    have he : some [183, n / 256, n % 256] = some bs := he
    cases he
    exact dz_e_invokespecial h
  | invokestatic n =>
    have he : some [184, n / 256, n % 256] = some bs := he
    cases he
    exact dz_e_invokestatic h
  | new n =>
    have he : some [187, n / 256, n % 256] = some bs := he
    cases he
    exact dz_e_new h
  | ldc_w n =>
    have he : some [19, n / 256, n % 256] = some bs := he
    cases he
    exact dz_e_ldc_w h
  | ldc2_w n =>
    have he : some [20, n / 256, n % 256] = some bs := he
    cases he
    exact dz_e_ldc2_w h
  | getstatic n =>
    have he : some [178, n / 256, n % 256] = some bs := he
    cases he
    exact dz_e_getstatic h
  | anewarray n =>
    have he : some [189, n / 256, n % 256] = some bs := he
    cases he
    exact dz_e_anewarray h
  | iload_n n =>
    obtain ⟨v, hv⟩ := n
    have he : some [26 + v] = some bs := he
    cases he
    have hz : v = 0 ∨ v = 1 ∨ v = 2 ∨ v = 3 := by omega
    rcases hz with rfl | rfl | rfl | rfl
    · exact dz_e_iload_n0 h
    · exact dz_e_iload_n1 h
    · exact dz_e_iload_n2 h
    · exact dz_e_iload_n3 h
  | lload_n n =>
    obtain ⟨v, hv⟩ := n
    have he : some [30 + v] = some bs := he
    cases he
    have hz : v = 0 ∨ v = 1 ∨ v = 2 ∨ v = 3 := by omega
    rcases hz with rfl | rfl | rfl | rfl
    · exact dz_e_lload_n0 h
    · exact dz_e_lload_n1 h
    · exact dz_e_lload_n2 h
    · exact dz_e_lload_n3 h
  | aload_n n =>
    obtain ⟨v, hv⟩ := n
    have he : some [42 + v] = some bs := he
    cases he
    have hz : v = 0 ∨ v = 1 ∨ v = 2 ∨ v = 3 := by omega
    rcases hz with rfl | rfl | rfl | rfl
    · exact dz_e_aload_n0 h
    · exact dz_e_aload_n1 h
    · exact dz_e_aload_n2 h
    · exact dz_e_aload_n3 h
  | istore_n n =>
    obtain ⟨v, hv⟩ := n
    have he : some [59 + v] = some bs := he
    cases he
    have hz : v = 0 ∨ v = 1 ∨ v = 2 ∨ v = 3 := by omega
    rcases hz with rfl | rfl | rfl | rfl
    · exact dz_e_istore_n0 h
    · exact dz_e_istore_n1 h
    · exact dz_e_istore_n2 h
    · exact dz_e_istore_n3 h
  | lstore_n n =>
    obtain ⟨v, hv⟩ := n
    have he : some [63 + v] = some bs := he
    cases he
    have hz : v = 0 ∨ v = 1 ∨ v = 2 ∨ v = 3 := by omega
    rcases hz with rfl | rfl | rfl | rfl
    · exact dz_e_lstore_n0 h
    · exact dz_e_lstore_n1 h
    · exact dz_e_lstore_n2 h
    · exact dz_e_lstore_n3 h
  | astore_n n =>
    obtain ⟨v, hv⟩ := n
    have he : some [75 + v] = some bs := he
    cases he
    have hz : v = 0 ∨ v = 1 ∨ v = 2 ∨ v = 3 := by omega
    rcases hz with rfl | rfl | rfl | rfl
    · exact dz_e_astore_n0 h
    · exact dz_e_astore_n1 h
    · exact dz_e_astore_n2 h
    · exact dz_e_astore_n3 h
  | lconst n =>
    obtain ⟨v, hv⟩ := n
    have he : some [9 + v] = some bs := he
    cases he
    have hz : v = 0 ∨ v = 1 := by omega
    rcases hz with rfl | rfl
    · exact dz_e_lconst0 h
    · exact dz_e_lconst1 h
  | iconst n =>
    have he : (bif decide (-1 ≤ n) && decide (n ≤ 5) then some [(n + 3).toNat] else none) = some bs := he
    cases hb : decide (-1 ≤ n) && decide (n ≤ 5) with
    | false =>
      rw [hb] at he
      cases he
    | true =>
      rw [hb] at he
      rw [Bool.and_eq_true, decide_eq_true_eq, decide_eq_true_eq] at hb
      cases he
      have hz : n = -1 ∨ n = 0 ∨ n = 1 ∨ n = 2 ∨ n = 3 ∨ n = 4 ∨ n = 5 := by omega
      rcases hz with rfl | rfl | rfl | rfl | rfl | rfl | rfl
      · exact dz_e_iconstm1 h
      · exact dz_e_iconst0 h
      · exact dz_e_iconst1 h
      · exact dz_e_iconst2 h
      · exact dz_e_iconst3 h
      · exact dz_e_iconst4 h
      · exact dz_e_iconst5 h
  | bipush n =>
    have he : (bif decide (-128 ≤ n) && decide (n < 128) then some [16, (n % 256).toNat] else none) = some bs := he
    cases hb : decide (-128 ≤ n) && decide (n < 128) with
    | false =>
      rw [hb] at he
      cases he
    | true =>
      rw [hb] at he
      rw [Bool.and_eq_true, decide_eq_true_eq, decide_eq_true_eq] at hb
      cases he
      exact dz_e_bipush hb.1 hb.2 h
  | iinc k n =>
    have he : (bif decide (-128 ≤ n) && decide (n < 128) then some [132, k, (n % 256).toNat] else none) = some bs := he
    cases hb : decide (-128 ≤ n) && decide (n < 128) with
    | false =>
      rw [hb] at he
      cases he
    | true =>
      rw [hb] at he
      rw [Bool.and_eq_true, decide_eq_true_eq, decide_eq_true_eq] at hb
      cases he
      exact dz_e_iinc hb.1 hb.2 h
  | sipush n =>
    obtain ⟨h1, h2, e⟩ := dz_2_ok he
    subst e
    exact dz_e_sipush h1 h2 h
  | goto n =>
    obtain ⟨h1, h2, e⟩ := dz_2_ok he
    subst e
    exact dz_e_goto h1 h2 h
  | ifCond c n =>
    obtain ⟨h1, h2, e⟩ := dz_2_ok he
    subst e
    cases c with
    | eq => exact dz_e_ifCond_eq h1 h2 h
    | ne => exact dz_e_ifCond_ne h1 h2 h
    | lt => exact dz_e_ifCond_lt h1 h2 h
    | ge => exact dz_e_ifCond_ge h1 h2 h
    | gt => exact dz_e_ifCond_gt h1 h2 h
    | le => exact dz_e_ifCond_le h1 h2 h
  | if_icmp c n =>
    obtain ⟨h1, h2, e⟩ := dz_2_ok he
    subst e
    cases c with
    | eq => exact dz_e_if_icmp_eq h1 h2 h
    | ne => exact dz_e_if_icmp_ne h1 h2 h
    | lt => exact dz_e_if_icmp_lt h1 h2 h
    | ge => exact dz_e_if_icmp_ge h1 h2 h
    | gt => exact dz_e_if_icmp_gt h1 h2 h
    | le => exact dz_e_if_icmp_le h1 h2 h
  | _ =>
    have he : (none : Option (List Nat)) = some bs := he
    cases he
def dz_okE (ini : Bool) (own : String) (cc : ByteArray) (l : List UInt8) (pc : Nat) (r : am_R) : Bool := match dz_enc r.1 with
  | some bs => dz_rd l bs && (Nat.beq r.2.1 (pc + am_len r.1) && am_ex ini own pc r.1 r.2.2.1 r.2.2.2.1 r.2.2.2.2.1 r.2.2.2.2.2)
  | none => am_okB ini own cc pc r
theorem dz_nosw {i : Instr} {bs : List Nat} (he : dz_enc i = some bs) : (∀ a b c d, i ≠ .tableswitch a b c d) ∧ (∀ a b, i ≠ .lookupswitch a b) := by
  constructor
  · intro a b c d e
    rw [e] at he
    have he : (none : Option (List Nat)) = some bs := he
    cases he
  · intro a b e
    rw [e] at he
    have he : (none : Option (List Nat)) = some bs := he
    cases he
theorem dz_okE_ok {ini : Bool} {own : String} {cc : ByteArray} {pc : Nat} {r : am_R} (h : dz_okE ini own cc (cc.data.toList.drop pc) pc r = true) : am_okB ini own cc pc r = true := by
  unfold dz_okE at h
  cases he : dz_enc r.1 with
  | none =>
    rw [he] at h
    exact h
  | some bs =>
    rw [he] at h
    have h : (dz_rd (cc.data.toList.drop pc) bs && (Nat.beq r.2.1 (pc + am_len r.1) && am_ex ini own pc r.1 r.2.2.1 r.2.2.2.1 r.2.2.2.2.1 r.2.2.2.2.2)) = true := h
    obtain ⟨i, nx, a, b, c, d⟩ := r
    rw [Bool.and_eq_true, Bool.and_eq_true] at h
    have h1 := dz_enc_ok he (dz_rd_ok bs pc h.1)
    have h2 : decode cc pc = .ok (i, am_len i) := by
      show Except.bind (Jvm.ClassFile.Decoder.instr pc cc pc) (fun p => Except.ok (p.1, p.2 - pc)) = _
      rw [h1]
      show Except.ok (i, pc + am_len i - pc) = _
      rw [Nat.add_sub_cancel_left]
    have h3 : nx = pc + am_len i := Nat.eq_of_beq_eq_true h.2.1
    obtain ⟨n1, n2⟩ := dz_nosw he
    have h4 : (decide (decode cc pc = .ok (i, am_len i)) && (decide (nx = pc + am_len i) && am_ex ini own pc i a b c d)) = true := by
      rw [Bool.and_eq_true, Bool.and_eq_true, decide_eq_true_eq, decide_eq_true_eq]
      exact ⟨h2, h3, h.2.2⟩
    unfold am_okB
    cases i
    all_goals first | exact h4 | exact absurd rfl (n1 _ _ _ _) | exact absurd rfl (n2 _ _)
def am_wk (ini : Bool) (own : String) (cc : ByteArray) : List (Nat × am_R) → Nat → List UInt8 → Bool
  | [], _, _ => true
  | x :: r, k, L => bif Nat.ble k x.1 then dz_okE ini own cc (L.drop (x.1 - k)) x.1 x.2 && am_wk ini own cc r x.1 (L.drop (x.1 - k)) else am_okB ini own cc x.1 x.2 && am_wk ini own cc r k L
theorem am_wk_ok {ini : Bool} {own : String} {cc : ByteArray} : ∀ (rows : List (Nat × am_R)) (k : Nat) (L : List UInt8), L = cc.data.toList.drop k → am_wk ini own cc rows k L = true → rows.all (fun q => am_okB ini own cc q.1 q.2) = true
  | [], _, _, _, _ => rfl
  | x :: r, k, L, hL, h => by
    unfold am_wk at h
    rw [List.all_cons, Bool.and_eq_true]
    cases hb : Nat.ble k x.1 with
    | true =>
      rw [hb, cond_true, Bool.and_eq_true] at h
      have hle : k ≤ x.1 := Nat.le_of_ble_eq_true hb
      have e : L.drop (x.1 - k) = cc.data.toList.drop x.1 := by
        rw [hL, List.drop_drop]
        congr 1
        omega
      rw [e] at h
      exact ⟨dz_okE_ok h.1, am_wk_ok r _ _ rfl h.2⟩
    | false =>
      rw [hb, cond_false, Bool.and_eq_true] at h
      exact ⟨h.1, am_wk_ok r k L hL h.2⟩
theorem am_wk_all {ini : Bool} {own : String} {cc : ByteArray} {rows : List (Nat × am_R)} (k : Nat) (h : am_wk ini own cc rows k (cc.data.toList.drop k) = true) : rows.all (fun q => am_okB ini own cc q.1 q.2) = true := am_wk_ok rows k _ rfl h
/-- lists cut in pieces of n: a place is found by two short ways -/
def ag_ix {α : Type} (n : Nat) (c : List (List α)) (o : Nat) : Option α := (c[o / n]?).bind (fun l => l[o % n]?)
def ag_cks {α : Type} (n : Nat) : List (List α) → Bool
  | [] => true
  | l :: r => (Nat.ble l.length n && (r.isEmpty || Nat.beq l.length n)) && ag_cks n r
theorem ag_ix_eq {α : Type} {n : Nat} (hn : 0 < n) : ∀ (c : List (List α)) (o : Nat), ag_cks n c = true → ag_ix n c o = c.flatten[o]?
  | [], o, _ => by
    unfold ag_ix
    rw [List.getElem?_nil, List.flatten_nil, List.getElem?_nil]
    rfl
  | l :: r, o, h => by
    unfold ag_cks at h
    rw [Bool.and_eq_true, Bool.and_eq_true, Bool.or_eq_true] at h
    obtain ⟨⟨h1, h2⟩, h3⟩ := h
    have h1 := Nat.le_of_ble_eq_true h1
    rw [List.flatten_cons]
    rcases Nat.lt_or_ge o n with z | z
    · have e1 : o / n = 0 := Nat.div_eq_of_lt z
      have e2 : o % n = o := Nat.mod_eq_of_lt z
      unfold ag_ix
      rw [e1, e2, List.getElem?_cons_zero]
      show l[o]? = _
      rcases Nat.lt_or_ge o l.length with y | y
      · rw [List.getElem?_append_left y]
      · rcases h2 with h2 | h2
        · have hr : r = [] := List.isEmpty_iff.mp h2
          subst hr
          rw [List.flatten_nil, List.append_nil]
        · have h2 := Nat.eq_of_beq_eq_true h2
          omega
    · have hd : o / n = (o - n) / n + 1 := Nat.div_eq_sub_div hn z
      have hm : o % n = (o - n) % n := Nat.mod_eq_sub_mod z
      have ih := ag_ix_eq hn r (o - n) h3
      unfold ag_ix at ih ⊢
      rw [hd, hm, List.getElem?_cons_succ, ih]
      rcases h2 with h2 | h2
      · have hr : r = [] := List.isEmpty_iff.mp h2
        subst hr
        rw [List.flatten_nil, List.append_nil, List.getElem?_nil, List.getElem?_eq_none (by omega)]
      · have h2 := Nat.eq_of_beq_eq_true h2
        rw [List.getElem?_append_right (by omega), h2]
end
section
/-! rows of methods, checked against their bytes -/
def am_find : List (Nat × am_R) → Nat → Option am_R
  | [], _ => none
  | q :: r, pc => bif Nat.beq q.1 pc then some q.2 else am_find r pc
def am_chk (q : (MethodName × ByteArray × Nat × Option FieldType) × (List (Nat × am_R) × Nat × Option FieldType)) : Bool := decide (q.1.2.2.1 = q.2.2.1) && (decide (q.1.2.2.2 = q.2.2.2) && ((q.2.1.isEmpty || plainFor q.1.1) && q.2.1.all (fun x => (decide (q.1.1 = am_47) && Nat.beq x.1 2) || am_okB (decide (q.1.1.name = "<init>")) q.1.1.cls q.1.2.1 x.1 x.2)))
def am_chkD (q : (MethodName × ByteArray × Nat × Option FieldType) × (List (Nat × am_R) × Nat × Option FieldType)) : Bool := bif decide (q.1.1 = am_47) then am_chk q else decide (q.1.2.2.1 = q.2.2.1) && (decide (q.1.2.2.2 = q.2.2.2) && ((q.2.1.isEmpty || plainFor q.1.1) && am_wk (decide (q.1.1.name = "<init>")) q.1.1.cls q.1.2.1 q.2.1 0 (q.1.2.1.data.toList.drop 0)))
theorem am_chkD_ok (q : (MethodName × ByteArray × Nat × Option FieldType) × (List (Nat × am_R) × Nat × Option FieldType)) (h : am_chkD q = true) : am_chk q = true := by
  unfold am_chkD at h
  cases hb : decide (q.1.1 = am_47) with
  | true =>
    rw [hb] at h
    exact h
  | false =>
    rw [hb, cond_false, Bool.and_eq_true, Bool.and_eq_true, Bool.and_eq_true] at h
    unfold am_chk
    rw [Bool.and_eq_true, Bool.and_eq_true, Bool.and_eq_true]
    refine ⟨h.1, h.2.1, h.2.2.1, ?_⟩
    rw [List.all_eq_true]
    intro x hx
    rw [Bool.or_eq_true]
    exact Or.inr (List.all_eq_true.mp (am_wk_all 0 h.2.2.2) x hx)
theorem am_chkD_all {l : List ((MethodName × ByteArray × Nat × Option FieldType) × (List (Nat × am_R) × Nat × Option FieldType))} (h : l.all am_chkD = true) : l.all am_chk = true := by
  rw [List.all_eq_true] at h ⊢
  exact fun q hq => am_chkD_ok q (h q hq)
theorem am_all_cut {α : Type} (p : α → Bool) (n : Nat) (l : List α) (h1 : (l.take n).all p = true) (h2 : (l.drop n).all p = true) : l.all p = true := by
  rw [← List.take_append_drop n l, List.all_append, h1, h2]
  rfl
def am_r0 : List (Nat × am_R) := [(0, (.aload_n 0, 1, 0, 0, 0, 0)),
  (1, (.invokespecial 1, 4, 1, 0, 1, 0)),
  (4, (.aload_n 0, 5, 0, 0, 0, 0)),
  (5, (.new 7, 8, 0, 7, 1, 0)),
  (8, (.dup, 9, 0, 0, 0, 0)),
  (9, (.invokespecial 9, 12, 2, 0, 2, 0)),
  (12, (.putfield 10, 15, 0, 10, 100, 0)),
  (15, (.aload_n 0, 16, 0, 0, 0, 0)),
  (16, (.new 16, 19, 0, 1, 2, 0)),
  (19, (.dup, 20, 0, 0, 0, 0)),
  (20, (.aload_n 0, 21, 0, 0, 0, 0)),
  (21, (.getfield 10, 24, 0, 10, 100, 0)),
  (24, (.invokespecial 18, 27, 3, 1, 4, 0)),
  (27, (.putfield 21, 30, 1, 10, 101, 0)),
  (30, (.aload_n 0, 31, 0, 0, 0, 0)),
  (31, (.new 25, 34, 0, 9, 4, 0)),
  (34, (.dup, 35, 0, 0, 0, 0)),
  (35, (.aload_n 0, 36, 0, 0, 0, 0)),
  (36, (.getfield 10, 39, 0, 10, 100, 0)),
  (39, (.invokespecial 27, 42, 5, 1, 8, 0)),
  (42, (.putfield 28, 45, 2, 10, 102, 0)),
  (45, (.aload_n 0, 46, 0, 0, 0, 0)),
  (46, (.new 32, 49, 0, 0, 5, 0)),
  (49, (.dup, 50, 0, 0, 0, 0)),
  (50, (.invokespecial 34, 53, 6, 0, 10, 0)),
  (53, (.putfield 35, 56, 3, 10, 103, 0)),
  (56, (.aload_n 0, 57, 0, 0, 0, 0)),
  (57, (.new 32, 60, 0, 0, 5, 0)),
  (60, (.dup, 61, 0, 0, 0, 0)),
  (61, (.invokespecial 34, 64, 6, 0, 10, 0)),
  (64, (.putfield 39, 67, 4, 10, 104, 0)),
  (67, (.aload_n 0, 68, 0, 0, 0, 0)),
  (68, (.new 42, 71, 0, 8, 7, 0)),
  (71, (.dup, 72, 0, 0, 0, 0)),
  (72, (.invokespecial 44, 75, 8, 0, 14, 0)),
  (75, (.putfield 45, 78, 5, 10, 105, 0)),
  (78, (.aload_n 0, 79, 0, 0, 0, 0)),
  (79, (.new 42, 82, 0, 8, 7, 0)),
  (82, (.dup, 83, 0, 0, 0, 0)),
  (83, (.invokespecial 44, 86, 8, 0, 14, 0)),
  (86, (.putfield 49, 89, 6, 10, 106, 0)),
  (89, (.aload_n 0, 90, 0, 0, 0, 0)),
  (90, (.new 52, 93, 0, 6, 8, 0)),
  (93, (.dup, 94, 0, 0, 0, 0)),
  (94, (.invokespecial 54, 97, 9, 0, 16, 0)),
  (97, (.putfield 55, 100, 7, 10, 107, 0)),
  (100, (.aload_n 0, 101, 0, 0, 0, 0)),
  (101, (.new 52, 104, 0, 6, 8, 0)),
  (104, (.dup, 105, 0, 0, 0, 0)),
  (105, (.invokespecial 54, 108, 9, 0, 16, 0)),
  (108, (.putfield 59, 111, 8, 10, 108, 0)),
  (111, (.aload_n 0, 112, 0, 0, 0, 0)),
  (112, (.bipush 6, 114, 0, 0, 0, 0)),
  (114, (.newarray .int, 116, 0, 13, 0, 0)),
  (116, (.putfield 62, 119, 9, 10, 109, 0)),
  (119, (.aload_n 0, 120, 0, 0, 0, 0)),
  (120, (.new 66, 123, 0, 2, 9, 0)),
  (123, (.dup, 124, 0, 0, 0, 0)),
  (124, (.invokespecial 68, 127, 10, 0, 18, 0)),
  (127, (.putfield 69, 130, 10, 10, 110, 0)),
  (130, (.aload_n 0, 131, 0, 0, 0, 0)),
  (131, (.iconst 4, 132, 0, 0, 0, 0)),
  (132, (.anewarray 73, 135, 0, 16, 11, 0)),
  (135, (.putfield 75, 138, 11, 10, 111, 0)),
  (138, (.iconst 0, 139, 0, 0, 0, 0)),
  (139, (.istore_n 1, 140, 0, 0, 0, 0)),
  (140, (.iload_n 1, 141, 0, 0, 0, 0)),
  (141, (.iconst 4, 142, 0, 0, 0, 0)),
  (142, (.if_icmp .ge 22, 145, 164, 0, 0, 0)),
  (145, (.aload_n 0, 146, 0, 0, 0, 0)),
  (146, (.getfield 75, 149, 11, 10, 111, 0)),
  (149, (.iload_n 1, 150, 0, 0, 0, 0)),
  (150, (.new 73, 153, 0, 5, 11, 0)),
  (153, (.dup, 154, 0, 0, 0, 0)),
  (154, (.invokespecial 79, 157, 11, 0, 21, 0)),
  (157, (.aastore, 158, 0, 0, 0, 0)),
  (158, (.iinc 1 1, 161, 0, 0, 0, 0)),
  (161, (.goto (-21), 164, 140, 0, 0, 0)),
  (164, (.aload_n 0, 165, 0, 0, 0, 0)),
  (165, (.iconst 0, 166, 0, 0, 0, 0)),
  (166, (.putfield 80, 169, 12, 10, 112, 0)),
  (169, (.aload_n 0, 170, 0, 0, 0, 0)),
  (170, (.bipush 31, 172, 0, 0, 0, 0)),
  (172, (.putfield 84, 175, 13, 10, 113, 0)),
  (175, (.return_, 176, 0, 0, 0, 0))]
def am_r2 : List (Nat × am_R) := [(0, (.aload_n 0, 1, 0, 0, 0, 0)),
  (1, (.invokespecial 3, 4, 1, 0, 3, 0)),
  (4, (.aload_n 0, 5, 0, 0, 0, 0)),
  (5, (.sipush 1000, 8, 0, 0, 0, 0)),
  (8, (.newarray .char, 10, 0, 12, 0, 0)),
  (10, (.putfield 9, 13, 0, 7, 0, 0)),
  (13, (.return_, 14, 0, 0, 0, 0))]
def am_r3 : List (Nat × am_R) := [(0, (.aload_n 0, 1, 0, 0, 0, 0)),
  (1, (.invokespecial 3, 4, 1, 0, 5, 0)),
  (4, (.aload_n 0, 5, 0, 0, 0, 0)),
  (5, (.aload_n 1, 6, 0, 0, 0, 0)),
  (6, (.putfield 9, 9, 0, 1, 20, 0)),
  (9, (.aload_n 0, 10, 0, 0, 0, 0)),
  (10, (.new 15, 13, 0, 4, 3, 0)),
  (13, (.dup, 14, 0, 0, 0, 0)),
  (14, (.aload_n 1, 15, 0, 0, 0, 0)),
  (15, (.invokespecial 17, 18, 4, 1, 6, 0)),
  (18, (.putfield 20, 21, 1, 1, 21, 0)),
  (21, (.return_, 22, 0, 0, 0, 0))]
def am_r4 : List (Nat × am_R) := [(0, (.aload_n 0, 1, 0, 0, 0, 0)),
  (1, (.invokespecial 3, 4, 1, 0, 7, 0)),
  (4, (.aload_n 0, 5, 0, 0, 0, 0)),
  (5, (.aload_n 1, 6, 0, 0, 0, 0)),
  (6, (.putfield 9, 9, 0, 4, 19, 0)),
  (9, (.return_, 10, 0, 0, 0, 0))]
def am_r5 : List (Nat × am_R) := [(0, (.aload_n 0, 1, 0, 0, 0, 0)),
  (1, (.invokespecial 3, 4, 1, 0, 9, 0)),
  (4, (.aload_n 0, 5, 0, 0, 0, 0)),
  (5, (.aload_n 1, 6, 0, 0, 0, 0)),
  (6, (.putfield 9, 9, 0, 9, 22, 0)),
  (9, (.return_, 10, 0, 0, 0, 0))]
def am_r6 : List (Nat × am_R) := [(0, (.aload_n 0, 1, 0, 0, 0, 0)),
  (1, (.invokespecial 3, 4, 1, 0, 11, 0)),
  (4, (.aload_n 0, 5, 0, 0, 0, 0)),
  (5, (.bipush 6, 7, 0, 0, 0, 0)),
  (7, (.newarray .long, 9, 0, 14, 0, 0)),
  (9, (.putfield 9, 12, 1, 0, 30, 0)),
  (12, (.aload_n 0, 13, 0, 0, 0, 0)),
  (13, (.bipush 6, 15, 0, 0, 0, 0)),
  (15, (.newarray .int, 17, 0, 13, 0, 0)),
  (17, (.putfield 15, 20, 2, 0, 32, 0)),
  (20, (.aload_n 0, 21, 0, 0, 0, 0)),
  (21, (.bipush 6, 23, 0, 0, 0, 0)),
  (23, (.newarray .int, 25, 0, 13, 0, 0)),
  (25, (.putfield 19, 28, 3, 0, 35, 0)),
  (28, (.aload_n 0, 29, 0, 0, 0, 0)),
  (29, (.iconst 5, 30, 0, 0, 0, 0)),
  (30, (.newarray .long, 32, 0, 14, 0, 0)),
  (32, (.putfield 22, 35, 5, 0, 41, 0)),
  (35, (.aload_n 0, 36, 0, 0, 0, 0)),
  (36, (.iconst 5, 37, 0, 0, 0, 0)),
  (37, (.newarray .int, 39, 0, 13, 0, 0)),
  (39, (.putfield 25, 42, 6, 0, 43, 0)),
  (42, (.aload_n 0, 43, 0, 0, 0, 0)),
  (43, (.iconst 5, 44, 0, 0, 0, 0)),
  (44, (.newarray .int, 46, 0, 13, 0, 0)),
  (46, (.putfield 28, 49, 7, 0, 46, 0)),
  (49, (.aload_n 0, 50, 0, 0, 0, 0)),
  (50, (.iconst 5, 51, 0, 0, 0, 0)),
  (51, (.newarray .int, 53, 0, 13, 0, 0)),
  (53, (.putfield 31, 56, 8, 0, 49, 0)),
  (56, (.aload_n 0, 57, 0, 0, 0, 0)),
  (57, (.new 34, 60, 0, 3, 6, 0)),
  (60, (.dup, 61, 0, 0, 0, 0)),
  (61, (.invokespecial 36, 64, 7, 0, 12, 0)),
  (64, (.putfield 37, 67, 12, 0, 58, 0)),
  (67, (.return_, 68, 0, 0, 0, 0))]
def am_r7 : List (Nat × am_R) := [(0, (.aload_n 0, 1, 0, 0, 0, 0)),
  (1, (.invokespecial 3, 4, 1, 0, 13, 0)),
  (4, (.aload_n 0, 5, 0, 0, 0, 0)),
  (5, (.sipush 1000, 8, 0, 0, 0, 0)),
  (8, (.newarray .int, 10, 0, 13, 0, 0)),
  (10, (.putfield 9, 13, 0, 3, 23, 0)),
  (13, (.aload_n 0, 14, 0, 0, 0, 0)),
  (14, (.bipush 32, 16, 0, 0, 0, 0)),
  (16, (.newarray .int, 18, 0, 13, 0, 0)),
  (18, (.putfield 15, 21, 1, 3, 24, 0)),
  (21, (.return_, 22, 0, 0, 0, 0))]
def am_r8 : List (Nat × am_R) := [(0, (.aload_n 0, 1, 0, 0, 0, 0)),
  (1, (.invokespecial 3, 4, 1, 0, 15, 0)),
  (4, (.aload_n 0, 5, 0, 0, 0, 0)),
  (5, (.bipush 40, 7, 0, 0, 0, 0)),
  (7, (.newarray .int, 9, 0, 13, 0, 0)),
  (9, (.putfield 9, 12, 0, 8, 60, 0)),
  (12, (.aload_n 0, 13, 0, 0, 0, 0)),
  (13, (.bipush 40, 15, 0, 0, 0, 0)),
  (15, (.newarray .int, 17, 0, 13, 0, 0)),
  (17, (.putfield 15, 20, 1, 8, 63, 0)),
  (20, (.aload_n 0, 21, 0, 0, 0, 0)),
  (21, (.bipush 40, 23, 0, 0, 0, 0)),
  (23, (.newarray .int, 25, 0, 13, 0, 0)),
  (25, (.putfield 18, 28, 2, 8, 66, 0)),
  (28, (.return_, 29, 0, 0, 0, 0))]
def am_r9 : List (Nat × am_R) := [(0, (.aload_n 0, 1, 0, 0, 0, 0)),
  (1, (.invokespecial 3, 4, 1, 0, 17, 0)),
  (4, (.aload_n 0, 5, 0, 0, 0, 0)),
  (5, (.bipush 6, 7, 0, 0, 0, 0)),
  (7, (.newarray .int, 9, 0, 13, 0, 0)),
  (9, (.putfield 9, 12, 2, 6, 76, 0)),
  (12, (.aload_n 0, 13, 0, 0, 0, 0)),
  (13, (.bipush 6, 15, 0, 0, 0, 0)),
  (15, (.newarray .int, 17, 0, 13, 0, 0)),
  (17, (.putfield 15, 20, 3, 6, 79, 0)),
  (20, (.aload_n 0, 21, 0, 0, 0, 0)),
  (21, (.iconst 5, 22, 0, 0, 0, 0)),
  (22, (.newarray .int, 24, 0, 13, 0, 0)),
  (24, (.putfield 18, 27, 4, 6, 82, 0)),
  (27, (.aload_n 0, 28, 0, 0, 0, 0)),
  (28, (.iconst 5, 29, 0, 0, 0, 0)),
  (29, (.newarray .int, 31, 0, 13, 0, 0)),
  (31, (.putfield 21, 34, 5, 6, 85, 0)),
  (34, (.return_, 35, 0, 0, 0, 0))]
def am_r10 : List (Nat × am_R) := [(0, (.aload_n 0, 1, 0, 0, 0, 0)),
  (1, (.invokespecial 3, 4, 1, 0, 19, 0)),
  (4, (.aload_n 0, 5, 0, 0, 0, 0)),
  (5, (.bipush 16, 7, 0, 0, 0, 0)),
  (7, (.anewarray 9, 10, 0, 17, 10, 0)),
  (10, (.putfield 11, 13, 0, 2, 88, 0)),
  (13, (.iconst 0, 14, 0, 0, 0, 0)),
  (14, (.istore_n 1, 15, 0, 0, 0, 0)),
  (15, (.iload_n 1, 16, 0, 0, 0, 0)),
  (16, (.bipush 16, 18, 0, 0, 0, 0)),
  (18, (.if_icmp .ge 22, 21, 40, 0, 0, 0)),
  (21, (.aload_n 0, 22, 0, 0, 0, 0)),
  (22, (.getfield 11, 25, 0, 2, 88, 0)),
  (25, (.iload_n 1, 26, 0, 0, 0, 0)),
  (26, (.new 9, 29, 0, 6, 10, 0)),
  (29, (.dup, 30, 0, 0, 0, 0)),
  (30, (.invokespecial 17, 33, 9, 0, 20, 0)),
  (33, (.aastore, 34, 0, 0, 0, 0)),
  (34, (.iinc 1 1, 37, 0, 0, 0, 0)),
  (37, (.goto (-22), 40, 15, 0, 0, 0)),
  (40, (.return_, 41, 0, 0, 0, 0))]
def am_r11 : List (Nat × am_R) := [(0, (.aload_n 0, 1, 0, 0, 0, 0)),
  (1, (.invokespecial 1, 4, 1, 0, 22, 0)),
  (4, (.aload_n 0, 5, 0, 0, 0, 0)),
  (5, (.new 7, 8, 0, 6, 12, 0)),
  (8, (.dup, 9, 0, 0, 0, 0)),
  (9, (.invokespecial 9, 12, 9, 0, 23, 0)),
  (12, (.putfield 10, 15, 1, 5, 94, 0)),
  (15, (.return_, 16, 0, 0, 0, 0))]
def am_r12 : List (Nat × am_R) := [(0, (.aload_n 0, 1, 0, 0, 0, 0)),
  (1, (.getfield 10, 4, 0, 10, 100, 0)),
  (4, (.lload_n 1, 5, 0, 0, 0, 0)),
  (5, (.invokevirtual 87, 8, 13, 1, 25, 7)),
  (8, (.aload_n 0, 9, 0, 0, 0, 0)),
  (9, (.getfield 10, 12, 0, 10, 100, 0)),
  (12, (.lload_n 3, 13, 0, 0, 0, 0)),
  (13, (.invokevirtual 87, 16, 13, 1, 25, 7)),
  (16, (.aload_n 0, 17, 0, 0, 0, 0)),
  (17, (.getfield 10, 20, 0, 10, 100, 0)),
  (20, (.lload 5, 22, 0, 0, 0, 0)),
  (22, (.invokevirtual 87, 25, 13, 1, 25, 7)),
  (25, (.aload_n 0, 26, 0, 0, 0, 0)),
  (26, (.getfield 10, 29, 0, 10, 100, 0)),
  (29, (.getfield 91, 32, 1, 7, 1, 0)),
  (32, (.ireturn, 33, 0, 0, 0, 0))]
def am_r13 : List (Nat × am_R) := [(0, (.bipush 56, 2, 0, 0, 0, 0)),
  (2, (.istore_n 3, 3, 0, 0, 0, 0)),
  (3, (.iload_n 3, 4, 0, 0, 0, 0)),
  (4, (.ifCond .lt 84, 7, 88, 0, 0, 0)),
  (7, (.lload_n 1, 8, 0, 0, 0, 0)),
  (8, (.iload_n 3, 9, 0, 0, 0, 0)),
  (9, (.lushr, 10, 0, 0, 0, 0)),
  (10, (.ldc2_w 15, 13, 0, 0, 0, 0)),
  (13, (.land, 14, 0, 0, 0, 0)),
  (14, (.l2i, 15, 0, 0, 0, 0)),
  (15, (.istore 4, 17, 0, 0, 0, 0)),
  (17, (.iload 4, 19, 0, 0, 0, 0)),
  (19, (.bipush 10, 21, 0, 0, 0, 0)),
  (21, (.if_icmp .eq 17, 24, 38, 0, 0, 0)),
  (24, (.iload 4, 26, 0, 0, 0, 0)),
  (26, (.bipush 32, 28, 0, 0, 0, 0)),
  (28, (.if_icmp .lt 14, 31, 42, 0, 0, 0)),
  (31, (.iload 4, 33, 0, 0, 0, 0)),
  (33, (.bipush 126, 35, 0, 0, 0, 0)),
  (35, (.if_icmp .gt 7, 38, 42, 0, 0, 0)),
  (38, (.iconst 1, 39, 0, 0, 0, 0)),
  (39, (.goto 4, 42, 43, 0, 0, 0)),
  (42, (.iconst 0, 43, 0, 0, 0, 0)),
  (43, (.istore 5, 45, 0, 0, 0, 0)),
  (45, (.iload 5, 47, 0, 0, 0, 0)),
  (47, (.ifCond .eq 35, 50, 82, 0, 0, 0)),
  (50, (.aload_n 0, 51, 0, 0, 0, 0)),
  (51, (.getfield 17, 54, 1, 7, 2, 0)),
  (54, (.sipush 1000, 57, 0, 0, 0, 0)),
  (57, (.if_icmp .ge 25, 60, 82, 0, 0, 0)),
  (60, (.aload_n 0, 61, 0, 0, 0, 0)),
  (61, (.getfield 9, 64, 0, 7, 0, 0)),
  (64, (.aload_n 0, 65, 0, 0, 0, 0)),
  (65, (.getfield 17, 68, 1, 7, 2, 0)),
  (68, (.iload 4, 70, 0, 0, 0, 0)),
  (70, (.i2c, 71, 0, 0, 0, 0)),
  (71, (.castore, 72, 0, 0, 0, 0)),
  (72, (.aload_n 0, 73, 0, 0, 0, 0)),
  (73, (.dup, 74, 0, 0, 0, 0)),
  (74, (.getfield 17, 77, 1, 7, 2, 0)),
  (77, (.iconst 1, 78, 0, 0, 0, 0)),
  (78, (.iadd, 79, 0, 0, 0, 0)),
  (79, (.putfield 17, 82, 1, 7, 2, 0)),
  (82, (.iinc 3 (-8), 85, 0, 0, 0, 0)),
  (85, (.goto (-82), 88, 3, 0, 0, 0)),
  (88, (.return_, 89, 0, 0, 0, 0))]
def am_r14 : List (Nat × am_R) := [(0, (.aload_n 0, 1, 0, 0, 0, 0)),
  (1, (.getfield 21, 4, 1, 10, 101, 0)),
  (4, (.aload_n 0, 5, 0, 0, 0, 0)),
  (5, (.getfield 39, 8, 4, 10, 104, 0)),
  (8, (.invokevirtual 94, 11, 15, 1, 27, 1)),
  (11, (.istore_n 1, 12, 0, 0, 0, 0)),
  (12, (.aload_n 0, 13, 0, 0, 0, 0)),
  (13, (.getfield 10, 16, 0, 10, 100, 0)),
  (16, (.iconst 0, 17, 0, 0, 0, 0)),
  (17, (.putfield 91, 20, 1, 7, 1, 0)),
  (20, (.iload_n 1, 21, 0, 0, 0, 0)),
  (21, (.ifCond .eq 5, 24, 26, 0, 0, 0)),
  (24, (.iload_n 1, 25, 0, 0, 0, 0)),
  (25, (.ireturn, 26, 0, 0, 0, 0)),
  (26, (.aload_n 0, 27, 0, 0, 0, 0)),
  (27, (.getfield 39, 30, 4, 10, 104, 0)),
  (30, (.astore_n 2, 31, 0, 0, 0, 0)),
  (31, (.aload_n 0, 32, 0, 0, 0, 0)),
  (32, (.aload_n 0, 33, 0, 0, 0, 0)),
  (33, (.getfield 35, 36, 3, 10, 103, 0)),
  (36, (.putfield 39, 39, 4, 10, 104, 0)),
  (39, (.aload_n 0, 40, 0, 0, 0, 0)),
  (40, (.aload_n 2, 41, 0, 0, 0, 0)),
  (41, (.putfield 35, 44, 3, 10, 103, 0)),
  (44, (.aload_n 0, 45, 0, 0, 0, 0)),
  (45, (.invokevirtual 98, 48, 78, 0, 100, 10)),
  (48, (.iconst 0, 49, 0, 0, 0, 0)),
  (49, (.ireturn, 50, 0, 0, 0, 0))]
def am_r15 : List (Nat × am_R) := [(0, (.aload_n 1, 1, 0, 0, 0, 0)),
  (1, (.invokevirtual 24, 4, 16, 0, 28, 0)),
  (4, (.aload_n 0, 5, 0, 0, 0, 0)),
  (5, (.getfield 9, 8, 0, 1, 20, 0)),
  (8, (.invokevirtual 29, 11, 17, 0, 29, 7)),
  (11, (.iconst 1, 12, 0, 0, 0, 0)),
  (12, (.istore_n 2, 13, 0, 0, 0, 0)),
  (13, (.iconst 0, 14, 0, 0, 0, 0)),
  (14, (.istore_n 3, 15, 0, 0, 0, 0)),
  (15, (.iload_n 2, 16, 0, 0, 0, 0)),
  (16, (.ifCond .eq 33, 19, 49, 0, 0, 0)),
  (19, (.aload_n 0, 20, 0, 0, 0, 0)),
  (20, (.getfield 9, 23, 0, 1, 20, 0)),
  (23, (.getfield 34, 26, 2, 7, 3, 0)),
  (26, (.iconst 4, 27, 0, 0, 0, 0)),
  (27, (.if_icmp .eq 22, 30, 49, 0, 0, 0)),
  (30, (.iload_n 3, 31, 0, 0, 0, 0)),
  (31, (.sipush 1000, 34, 0, 0, 0, 0)),
  (34, (.if_icmp .ge 15, 37, 49, 0, 0, 0)),
  (37, (.aload_n 0, 38, 0, 0, 0, 0)),
  (38, (.aload_n 1, 39, 0, 0, 0, 0)),
  (39, (.invokevirtual 38, 42, 43, 1, 57, 1)),
  (42, (.istore_n 2, 43, 0, 0, 0, 0)),
  (43, (.iinc 3 1, 46, 0, 0, 0, 0)),
  (46, (.goto (-31), 49, 15, 0, 0, 0)),
  (49, (.aload_n 0, 50, 0, 0, 0, 0)),
  (50, (.getfield 9, 53, 0, 1, 20, 0)),
  (53, (.getfield 42, 56, 7, 7, 16, 0)),
  (56, (.ireturn, 57, 0, 0, 0, 0))]
def am_r16 : List (Nat × am_R) := [(0, (.aload_n 0, 1, 0, 0, 0, 0)),
  (1, (.iconst 0, 2, 0, 0, 0, 0)),
  (2, (.putfield 41, 5, 0, 0, 27, 0)),
  (5, (.aload_n 0, 6, 0, 0, 0, 0)),
  (6, (.iconst 0, 7, 0, 0, 0, 0)),
  (7, (.putfield 45, 10, 4, 0, 38, 0)),
  (10, (.aload_n 0, 11, 0, 0, 0, 0)),
  (11, (.iconst 0, 12, 0, 0, 0, 0)),
  (12, (.putfield 48, 15, 9, 0, 52, 0)),
  (15, (.aload_n 0, 16, 0, 0, 0, 0)),
  (16, (.iconst 0, 17, 0, 0, 0, 0)),
  (17, (.putfield 52, 20, 10, 0, 54, 0)),
  (20, (.aload_n 0, 21, 0, 0, 0, 0)),
  (21, (.iconst 0, 22, 0, 0, 0, 0)),
  (22, (.putfield 55, 25, 11, 0, 57, 0)),
  (25, (.aload_n 0, 26, 0, 0, 0, 0)),
  (26, (.getfield 37, 29, 12, 0, 58, 0)),
  (29, (.iconst 0, 30, 0, 0, 0, 0)),
  (30, (.putfield 58, 33, 2, 3, 26, 0)),
  (33, (.return_, 34, 0, 0, 0, 0))]
def am_r17 : List (Nat × am_R) := [(0, (.aload_n 0, 1, 0, 0, 0, 0)),
  (1, (.iconst 0, 2, 0, 0, 0, 0)),
  (2, (.putfield 21, 5, 7, 7, 18, 0)),
  (5, (.aload_n 0, 6, 0, 0, 0, 0)),
  (6, (.iconst 0, 7, 0, 0, 0, 0)),
  (7, (.putfield 24, 10, 4, 7, 8, 0)),
  (10, (.aload_n 0, 11, 0, 0, 0, 0)),
  (11, (.invokevirtual 27, 14, 18, 0, 30, 7)),
  (14, (.return_, 15, 0, 0, 0, 0))]
def am_r18 : List (Nat × am_R) := [(0, (.aload_n 0, 1, 0, 0, 0, 0)),
  (1, (.getfield 24, 4, 4, 7, 8, 0)),
  (4, (.aload_n 0, 5, 0, 0, 0, 0)),
  (5, (.getfield 17, 8, 1, 7, 2, 0)),
  (8, (.if_icmp .ge 44, 11, 52, 0, 0, 0)),
  (11, (.aload_n 0, 12, 0, 0, 0, 0)),
  (12, (.getfield 9, 15, 0, 7, 0, 0)),
  (15, (.aload_n 0, 16, 0, 0, 0, 0)),
  (16, (.getfield 24, 19, 4, 7, 8, 0)),
  (19, (.caload, 20, 0, 0, 0, 0)),
  (20, (.bipush 10, 22, 0, 0, 0, 0)),
  (22, (.if_icmp .eq 17, 25, 39, 0, 0, 0)),
  (25, (.aload_n 0, 26, 0, 0, 0, 0)),
  (26, (.getfield 9, 29, 0, 7, 0, 0)),
  (29, (.aload_n 0, 30, 0, 0, 0, 0)),
  (30, (.getfield 24, 33, 4, 7, 8, 0)),
  (33, (.caload, 34, 0, 0, 0, 0)),
  (34, (.bipush 32, 36, 0, 0, 0, 0)),
  (36, (.if_icmp .ne 16, 39, 52, 0, 0, 0)),
  (39, (.aload_n 0, 40, 0, 0, 0, 0)),
  (40, (.dup, 41, 0, 0, 0, 0)),
  (41, (.getfield 24, 44, 4, 7, 8, 0)),
  (44, (.iconst 1, 45, 0, 0, 0, 0)),
  (45, (.iadd, 46, 0, 0, 0, 0)),
  (46, (.putfield 24, 49, 4, 7, 8, 0)),
  (49, (.goto (-49), 52, 0, 0, 0, 0)),
  (52, (.aload_n 0, 53, 0, 0, 0, 0)),
  (53, (.aload_n 0, 54, 0, 0, 0, 0)),
  (54, (.getfield 24, 57, 4, 7, 8, 0)),
  (57, (.putfield 30, 60, 3, 7, 7, 0)),
  (60, (.aload_n 0, 61, 0, 0, 0, 0)),
  (61, (.getfield 30, 64, 3, 7, 7, 0)),
  (64, (.aload_n 0, 65, 0, 0, 0, 0)),
  (65, (.getfield 17, 68, 1, 7, 2, 0)),
  (68, (.if_icmp .lt 11, 71, 79, 0, 0, 0)),
  (71, (.aload_n 0, 72, 0, 0, 0, 0)),
  (72, (.iconst 4, 73, 0, 0, 0, 0)),
  (73, (.putfield 33, 76, 2, 7, 5, 0)),
  (76, (.goto 109, 79, 185, 0, 0, 0)),
  (79, (.aload_n 0, 80, 0, 0, 0, 0)),
  (80, (.getfield 9, 83, 0, 7, 0, 0)),
  (83, (.aload_n 0, 84, 0, 0, 0, 0)),
  (84, (.getfield 30, 87, 3, 7, 7, 0)),
  (87, (.caload, 88, 0, 0, 0, 0)),
  (88, (.bipush 97, 90, 0, 0, 0, 0)),
  (90, (.if_icmp .lt 24, 93, 114, 0, 0, 0)),
  (93, (.aload_n 0, 94, 0, 0, 0, 0)),
  (94, (.getfield 9, 97, 0, 7, 0, 0)),
  (97, (.aload_n 0, 98, 0, 0, 0, 0)),
  (98, (.getfield 30, 101, 3, 7, 7, 0)),
  (101, (.caload, 102, 0, 0, 0, 0)),
  (102, (.bipush 122, 104, 0, 0, 0, 0)),
  (104, (.if_icmp .gt 10, 107, 114, 0, 0, 0)),
  (107, (.aload_n 0, 108, 0, 0, 0, 0)),
  (108, (.invokevirtual 36, 111, 19, 0, 31, 7)),
  (111, (.goto 74, 114, 185, 0, 0, 0)),
  (114, (.aload_n 0, 115, 0, 0, 0, 0)),
  (115, (.getfield 9, 118, 0, 7, 0, 0)),
  (118, (.aload_n 0, 119, 0, 0, 0, 0)),
  (119, (.getfield 30, 122, 3, 7, 7, 0)),
  (122, (.caload, 123, 0, 0, 0, 0)),
  (123, (.bipush 48, 125, 0, 0, 0, 0)),
  (125, (.if_icmp .lt 24, 128, 149, 0, 0, 0)),
  (128, (.aload_n 0, 129, 0, 0, 0, 0)),
  (129, (.getfield 9, 132, 0, 7, 0, 0)),
  (132, (.aload_n 0, 133, 0, 0, 0, 0)),
  (133, (.getfield 30, 136, 3, 7, 7, 0)),
  (136, (.caload, 137, 0, 0, 0, 0)),
  (137, (.bipush 57, 139, 0, 0, 0, 0)),
  (139, (.if_icmp .gt 10, 142, 149, 0, 0, 0)),
  (142, (.aload_n 0, 143, 0, 0, 0, 0)),
  (143, (.invokevirtual 39, 146, 20, 0, 32, 7)),
  (146, (.goto 39, 149, 185, 0, 0, 0)),
  (149, (.aload_n 0, 150, 0, 0, 0, 0)),
  (150, (.ldc 42, 152, 0, 1, 0, 0)),
  (152, (.aload_n 0, 153, 0, 0, 0, 0)),
  (153, (.getfield 9, 156, 0, 7, 0, 0)),
  (156, (.aload_n 0, 157, 0, 0, 0, 0)),
  (157, (.getfield 30, 160, 3, 7, 7, 0)),
  (160, (.caload, 161, 0, 0, 0, 0)),
  (161, (.invokevirtual 44, 164, 21, 1, 33, 20)),
  (164, (.ifCond .lt 7, 167, 171, 0, 0, 0)),
  (167, (.iconst 3, 168, 0, 0, 0, 0)),
  (168, (.goto 4, 171, 172, 0, 0, 0)),
  (171, (.iconst 0, 172, 0, 0, 0, 0)),
  (172, (.putfield 33, 175, 2, 7, 5, 0)),
  (175, (.aload_n 0, 176, 0, 0, 0, 0)),
  (176, (.dup, 177, 0, 0, 0, 0)),
  (177, (.getfield 24, 180, 4, 7, 8, 0)),
  (180, (.iconst 1, 181, 0, 0, 0, 0)),
  (181, (.iadd, 182, 0, 0, 0, 0)),
  (182, (.putfield 24, 185, 4, 7, 8, 0)),
  (185, (.return_, 186, 0, 0, 0, 0))]
def am_r19 : List (Nat × am_R) := [(0, (.aload_n 0, 1, 0, 0, 0, 0)),
  (1, (.lconst 0, 2, 0, 0, 0, 0)),
  (2, (.putfield 50, 5, 5, 7, 10, 0)),
  (5, (.aload_n 0, 6, 0, 0, 0, 0)),
  (6, (.getfield 24, 9, 4, 7, 8, 0)),
  (9, (.aload_n 0, 10, 0, 0, 0, 0)),
  (10, (.getfield 17, 13, 1, 7, 2, 0)),
  (13, (.if_icmp .ge 66, 16, 79, 0, 0, 0)),
  (16, (.aload_n 0, 17, 0, 0, 0, 0)),
  (17, (.getfield 9, 20, 0, 7, 0, 0)),
  (20, (.aload_n 0, 21, 0, 0, 0, 0)),
  (21, (.getfield 24, 24, 4, 7, 8, 0)),
  (24, (.caload, 25, 0, 0, 0, 0)),
  (25, (.bipush 97, 27, 0, 0, 0, 0)),
  (27, (.if_icmp .lt 52, 30, 79, 0, 0, 0)),
  (30, (.aload_n 0, 31, 0, 0, 0, 0)),
  (31, (.getfield 9, 34, 0, 7, 0, 0)),
  (34, (.aload_n 0, 35, 0, 0, 0, 0)),
  (35, (.getfield 24, 38, 4, 7, 8, 0)),
  (38, (.caload, 39, 0, 0, 0, 0)),
  (39, (.bipush 122, 41, 0, 0, 0, 0)),
  (41, (.if_icmp .gt 38, 44, 79, 0, 0, 0)),
  (44, (.aload_n 0, 45, 0, 0, 0, 0)),
  (45, (.aload_n 0, 46, 0, 0, 0, 0)),
  (46, (.getfield 50, 49, 5, 7, 10, 0)),
  (49, (.bipush 8, 51, 0, 0, 0, 0)),
  (51, (.lshl, 52, 0, 0, 0, 0)),
  (52, (.aload_n 0, 53, 0, 0, 0, 0)),
  (53, (.getfield 9, 56, 0, 7, 0, 0)),
  (56, (.aload_n 0, 57, 0, 0, 0, 0)),
  (57, (.getfield 24, 60, 4, 7, 8, 0)),
  (60, (.caload, 61, 0, 0, 0, 0)),
  (61, (.i2l, 62, 0, 0, 0, 0)),
  (62, (.lor, 63, 0, 0, 0, 0)),
  (63, (.putfield 50, 66, 5, 7, 10, 0)),
  (66, (.aload_n 0, 67, 0, 0, 0, 0)),
  (67, (.dup, 68, 0, 0, 0, 0)),
  (68, (.getfield 24, 71, 4, 7, 8, 0)),
  (71, (.iconst 1, 72, 0, 0, 0, 0)),
  (72, (.iadd, 73, 0, 0, 0, 0)),
  (73, (.putfield 24, 76, 4, 7, 8, 0)),
  (76, (.goto (-71), 79, 5, 0, 0, 0)),
  (79, (.aload_n 0, 80, 0, 0, 0, 0)),
  (80, (.aload_n 0, 81, 0, 0, 0, 0)),
  (81, (.getfield 24, 84, 4, 7, 8, 0)),
  (84, (.aload_n 0, 85, 0, 0, 0, 0)),
  (85, (.getfield 30, 88, 3, 7, 7, 0)),
  (88, (.isub, 89, 0, 0, 0, 0)),
  (89, (.bipush 8, 91, 0, 0, 0, 0)),
  (91, (.if_icmp .gt 7, 94, 98, 0, 0, 0)),
  (94, (.iconst 1, 95, 0, 0, 0, 0)),
  (95, (.goto 4, 98, 99, 0, 0, 0)),
  (98, (.iconst 0, 99, 0, 0, 0, 0)),
  (99, (.putfield 33, 102, 2, 7, 5, 0)),
  (102, (.return_, 103, 0, 0, 0, 0))]
def am_r20 : List (Nat × am_R) := [(0, (.aload_n 0, 1, 0, 0, 0, 0)),
  (1, (.iconst 0, 2, 0, 0, 0, 0)),
  (2, (.putfield 54, 5, 6, 7, 13, 0)),
  (5, (.aload_n 0, 6, 0, 0, 0, 0)),
  (6, (.getfield 24, 9, 4, 7, 8, 0)),
  (9, (.aload_n 0, 10, 0, 0, 0, 0)),
  (10, (.getfield 17, 13, 1, 7, 2, 0)),
  (13, (.if_icmp .ge 68, 16, 81, 0, 0, 0)),
  (16, (.aload_n 0, 17, 0, 0, 0, 0)),
  (17, (.getfield 9, 20, 0, 7, 0, 0)),
  (20, (.aload_n 0, 21, 0, 0, 0, 0)),
  (21, (.getfield 24, 24, 4, 7, 8, 0)),
  (24, (.caload, 25, 0, 0, 0, 0)),
  (25, (.bipush 48, 27, 0, 0, 0, 0)),
  (27, (.if_icmp .lt 54, 30, 81, 0, 0, 0)),
  (30, (.aload_n 0, 31, 0, 0, 0, 0)),
  (31, (.getfield 9, 34, 0, 7, 0, 0)),
  (34, (.aload_n 0, 35, 0, 0, 0, 0)),
  (35, (.getfield 24, 38, 4, 7, 8, 0)),
  (38, (.caload, 39, 0, 0, 0, 0)),
  (39, (.bipush 57, 41, 0, 0, 0, 0)),
  (41, (.if_icmp .gt 40, 44, 81, 0, 0, 0)),
  (44, (.aload_n 0, 45, 0, 0, 0, 0)),
  (45, (.aload_n 0, 46, 0, 0, 0, 0)),
  (46, (.getfield 54, 49, 6, 7, 13, 0)),
  (49, (.bipush 10, 51, 0, 0, 0, 0)),
  (51, (.imul, 52, 0, 0, 0, 0)),
  (52, (.aload_n 0, 53, 0, 0, 0, 0)),
  (53, (.getfield 9, 56, 0, 7, 0, 0)),
  (56, (.aload_n 0, 57, 0, 0, 0, 0)),
  (57, (.getfield 24, 60, 4, 7, 8, 0)),
  (60, (.caload, 61, 0, 0, 0, 0)),
  (61, (.bipush 48, 63, 0, 0, 0, 0)),
  (63, (.isub, 64, 0, 0, 0, 0)),
  (64, (.iadd, 65, 0, 0, 0, 0)),
  (65, (.putfield 54, 68, 6, 7, 13, 0)),
  (68, (.aload_n 0, 69, 0, 0, 0, 0)),
  (69, (.dup, 70, 0, 0, 0, 0)),
  (70, (.getfield 24, 73, 4, 7, 8, 0)),
  (73, (.iconst 1, 74, 0, 0, 0, 0)),
  (74, (.iadd, 75, 0, 0, 0, 0)),
  (75, (.putfield 24, 78, 4, 7, 8, 0)),
  (78, (.goto (-73), 81, 5, 0, 0, 0)),
  (81, (.aload_n 0, 82, 0, 0, 0, 0)),
  (82, (.aload_n 0, 83, 0, 0, 0, 0)),
  (83, (.getfield 24, 86, 4, 7, 8, 0)),
  (86, (.aload_n 0, 87, 0, 0, 0, 0)),
  (87, (.getfield 30, 90, 3, 7, 7, 0)),
  (90, (.isub, 91, 0, 0, 0, 0)),
  (91, (.iconst 4, 92, 0, 0, 0, 0)),
  (92, (.if_icmp .gt 7, 95, 99, 0, 0, 0)),
  (95, (.iconst 2, 96, 0, 0, 0, 0)),
  (96, (.goto 4, 99, 100, 0, 0, 0)),
  (99, (.iconst 0, 100, 0, 0, 0, 0)),
  (100, (.putfield 33, 103, 2, 7, 5, 0)),
  (103, (.return_, 104, 0, 0, 0, 0))]
def am_r21 : List (Nat × am_R) := [(0, (.aload_n 0, 1, 0, 0, 0, 0)),
  (1, (.iload_n 1, 2, 0, 0, 0, 0)),
  (2, (.iconst 0, 3, 0, 0, 0, 0)),
  (3, (.invokevirtual 633, 6, 22, 2, 34, 20)),
  (6, (.ireturn, 7, 0, 0, 0, 0))]
def am_r22 : List (Nat × am_R) := [(0, (.aload_n 0, 1, 0, 0, 0, 0)),
  (1, (.invokevirtual 492, 4, 23, 0, 35, 20)),
  (4, (.ifCond .eq 19, 7, 23, 0, 0, 0)),
  (7, (.aload_n 0, 8, 0, 0, 0, 0)),
  (8, (.getfield 9, 11, 0, 20, 159, 0)),
  (11, (.iload_n 1, 12, 0, 0, 0, 0)),
  (12, (.iload_n 2, 13, 0, 0, 0, 0)),
  (13, (.aload_n 0, 14, 0, 0, 0, 0)),
  (14, (.invokevirtual 505, 17, 24, 0, 36, 20)),
  (17, (.invokestatic 637, 20, 26, 4, 38, 0)),
  (20, (.goto 16, 23, 36, 0, 0, 0)),
  (23, (.aload_n 0, 24, 0, 0, 0, 0)),
  (24, (.getfield 9, 27, 0, 20, 159, 0)),
  (27, (.iload_n 1, 28, 0, 0, 0, 0)),
  (28, (.iload_n 2, 29, 0, 0, 0, 0)),
  (29, (.aload_n 0, 30, 0, 0, 0, 0)),
  (30, (.invokevirtual 505, 33, 24, 0, 36, 20)),
  (33, (.invokestatic 640, 36, 31, 4, 43, 0)),
  (36, (.ireturn, 37, 0, 0, 0, 0))]
def am_r23 : List (Nat × am_R) := [(0, (.getstatic 38, 3, 0, 0, 114, 0)),
  (3, (.ifCond .eq 14, 6, 17, 0, 0, 0)),
  (6, (.aload_n 0, 7, 0, 0, 0, 0)),
  (7, (.getfield 15, 10, 1, 20, 158, 0)),
  (10, (.ifCond .ne 7, 13, 17, 0, 0, 0)),
  (13, (.iconst 1, 14, 0, 0, 0, 0)),
  (14, (.goto 4, 17, 18, 0, 0, 0)),
  (17, (.iconst 0, 18, 0, 0, 0, 0)),
  (18, (.ireturn, 19, 0, 0, 0, 0))]
def am_r24 : List (Nat × am_R) := [(0, (.aload_n 0, 1, 0, 0, 0, 0)),
  (1, (.getfield 9, 4, 0, 20, 159, 0)),
  (4, (.arraylength, 5, 0, 0, 0, 0)),
  (5, (.aload_n 0, 6, 0, 0, 0, 0)),
  (6, (.invokevirtual 335, 9, 25, 0, 37, 20)),
  (9, (.ishr, 10, 0, 0, 0, 0)),
  (10, (.ireturn, 11, 0, 0, 0, 0))]
def am_r25 : List (Nat × am_R) := [(0, (.getstatic 38, 3, 0, 0, 114, 0)),
  (3, (.ifCond .eq 10, 6, 13, 0, 0, 0)),
  (6, (.aload_n 0, 7, 0, 0, 0, 0)),
  (7, (.getfield 15, 10, 1, 20, 158, 0)),
  (10, (.goto 4, 13, 14, 0, 0, 0)),
  (13, (.iconst 1, 14, 0, 0, 0, 0)),
  (14, (.ireturn, 15, 0, 0, 0, 0))]
def am_r26 : List (Nat × am_R) := [(0, (.iload_n 1, 1, 0, 0, 0, 0)),
  (1, (.invokestatic 88, 4, 27, 1, 39, 0)),
  (4, (.ifCond .ne 5, 7, 9, 0, 0, 0)),
  (7, (.iconst (-1), 8, 0, 0, 0, 0)),
  (8, (.ireturn, 9, 0, 0, 0, 0)),
  (9, (.iload_n 2, 10, 0, 0, 0, 0)),
  (10, (.iconst 0, 11, 0, 0, 0, 0)),
  (11, (.invokestatic 92, 14, 28, 2, 40, 0)),
  (14, (.istore_n 2, 15, 0, 0, 0, 0)),
  (15, (.iload_n 3, 16, 0, 0, 0, 0)),
  (16, (.aload_n 0, 17, 0, 0, 0, 0)),
  (17, (.arraylength, 18, 0, 0, 0, 0)),
  (18, (.invokestatic 38, 21, 29, 2, 41, 0)),
  (21, (.istore_n 3, 22, 0, 0, 0, 0)),
  (22, (.iload_n 2, 23, 0, 0, 0, 0)),
  (23, (.iload_n 3, 24, 0, 0, 0, 0)),
  (24, (.if_icmp .lt 5, 27, 29, 0, 0, 0)),
  (27, (.iconst (-1), 28, 0, 0, 0, 0)),
  (28, (.ireturn, 29, 0, 0, 0, 0)),
  (29, (.aload_n 0, 30, 0, 0, 0, 0)),
  (30, (.iload_n 1, 31, 0, 0, 0, 0)),
  (31, (.iload_n 2, 32, 0, 0, 0, 0)),
  (32, (.iload_n 3, 33, 0, 0, 0, 0)),
  (33, (.invokestatic 95, 36, 30, 4, 42, 0)),
  (36, (.ireturn, 37, 0, 0, 0, 0))]
def am_r27 : List (Nat × am_R) := [(0, (.iload_n 0, 1, 0, 0, 0, 0)),
  (1, (.ifCond .lt 14, 4, 15, 0, 0, 0)),
  (4, (.iload_n 0, 5, 0, 0, 0, 0)),
  (5, (.sipush 255, 8, 0, 0, 0, 0)),
  (8, (.if_icmp .gt 7, 11, 15, 0, 0, 0)),
  (11, (.iconst 1, 12, 0, 0, 0, 0)),
  (12, (.goto 4, 15, 16, 0, 0, 0)),
  (15, (.iconst 0, 16, 0, 0, 0, 0)),
  (16, (.ireturn, 17, 0, 0, 0, 0))]
def am_r28 : List (Nat × am_R) := [(0, (.iload_n 0, 1, 0, 0, 0, 0)),
  (1, (.iload_n 1, 2, 0, 0, 0, 0)),
  (2, (.if_icmp .lt 7, 5, 9, 0, 0, 0)),
  (5, (.iload_n 0, 6, 0, 0, 0, 0)),
  (6, (.goto 4, 9, 10, 0, 0, 0)),
  (9, (.iload_n 1, 10, 0, 0, 0, 0)),
  (10, (.ireturn, 11, 0, 0, 0, 0))]
def am_r29 : List (Nat × am_R) := [(0, (.iload_n 0, 1, 0, 0, 0, 0)),
  (1, (.iload_n 1, 2, 0, 0, 0, 0)),
  (2, (.if_icmp .gt 7, 5, 9, 0, 0, 0)),
  (5, (.iload_n 0, 6, 0, 0, 0, 0)),
  (6, (.goto 4, 9, 10, 0, 0, 0)),
  (9, (.iload_n 1, 10, 0, 0, 0, 0)),
  (10, (.ireturn, 11, 0, 0, 0, 0))]
def am_r30 : List (Nat × am_R) := [(0, (.iload_n 1, 1, 0, 0, 0, 0)),
  (1, (.i2b, 2, 0, 0, 0, 0)),
  (2, (.istore 4, 4, 0, 0, 0, 0)),
  (4, (.iload_n 2, 5, 0, 0, 0, 0)),
  (5, (.istore 5, 7, 0, 0, 0, 0)),
  (7, (.iload 5, 9, 0, 0, 0, 0)),
  (9, (.iload_n 3, 10, 0, 0, 0, 0)),
  (10, (.if_icmp .ge 21, 13, 31, 0, 0, 0)),
  (13, (.aload_n 0, 14, 0, 0, 0, 0)),
  (14, (.iload 5, 16, 0, 0, 0, 0)),
  (16, (.baload, 17, 0, 0, 0, 0)),
  (17, (.iload 4, 19, 0, 0, 0, 0)),
  (19, (.if_icmp .ne 6, 22, 25, 0, 0, 0)),
  (22, (.iload 5, 24, 0, 0, 0, 0)),
  (24, (.ireturn, 25, 0, 0, 0, 0)),
  (25, (.iinc 5 1, 28, 0, 0, 0, 0)),
  (28, (.goto (-21), 31, 7, 0, 0, 0)),
  (31, (.iconst (-1), 32, 0, 0, 0, 0)),
  (32, (.ireturn, 33, 0, 0, 0, 0))]
def am_r31 : List (Nat × am_R) := [(0, (.iload_n 2, 1, 0, 0, 0, 0)),
  (1, (.iconst 0, 2, 0, 0, 0, 0)),
  (2, (.invokestatic 224, 5, 28, 2, 44, 0)),
  (5, (.istore_n 2, 6, 0, 0, 0, 0)),
  (6, (.iload_n 3, 7, 0, 0, 0, 0)),
  (7, (.aload_n 0, 8, 0, 0, 0, 0)),
  (8, (.arraylength, 9, 0, 0, 0, 0)),
  (9, (.iconst 1, 10, 0, 0, 0, 0)),
  (10, (.ishr, 11, 0, 0, 0, 0)),
  (11, (.invokestatic 183, 14, 29, 2, 45, 0)),
  (14, (.istore_n 3, 15, 0, 0, 0, 0)),
  (15, (.iload_n 2, 16, 0, 0, 0, 0)),
  (16, (.iload_n 3, 17, 0, 0, 0, 0)),
  (17, (.if_icmp .lt 5, 20, 22, 0, 0, 0)),
  (20, (.iconst (-1), 21, 0, 0, 0, 0)),
  (21, (.ireturn, 22, 0, 0, 0, 0)),
  (22, (.iload_n 1, 23, 0, 0, 0, 0)),
  (23, (.ldc 227, 25, 0, 0, 0, 0)),
  (25, (.if_icmp .ge 11, 28, 36, 0, 0, 0)),
  (28, (.aload_n 0, 29, 0, 0, 0, 0)),
  (29, (.iload_n 1, 30, 0, 0, 0, 0)),
  (30, (.iload_n 2, 31, 0, 0, 0, 0)),
  (31, (.iload_n 3, 32, 0, 0, 0, 0)),
  (32, (.invokestatic 228, 35, 32, 4, 46, 0)),
  (35, (.ireturn, 36, 0, 0, 0, 0)),
  (36, (.aload_n 0, 37, 0, 0, 0, 0)),
  (37, (.iload_n 1, 38, 0, 0, 0, 0)),
  (38, (.iload_n 2, 39, 0, 0, 0, 0)),
  (39, (.iload_n 3, 40, 0, 0, 0, 0)),
  (40, (.invokestatic 232, 43, 39, 4, 53, 0)),
  (43, (.ireturn, 44, 0, 0, 0, 0))]
def am_r32 : List (Nat × am_R) := [(0, (.iload_n 2, 1, 0, 0, 0, 0)),
  (1, (.iload_n 3, 2, 0, 0, 0, 0)),
  (2, (.aload_n 0, 3, 0, 0, 0, 0)),
  (3, (.invokestatic 96, 6, 33, 3, 47, 0)),
  (6, (.aload_n 0, 7, 0, 0, 0, 0)),
  (7, (.iload_n 1, 8, 0, 0, 0, 0)),
  (8, (.iload_n 2, 9, 0, 0, 0, 0)),
  (9, (.iload_n 3, 10, 0, 0, 0, 0)),
  (10, (.invokestatic 244, 13, 37, 4, 51, 0)),
  (13, (.ireturn, 14, 0, 0, 0, 0))]
def am_r33 : List (Nat × am_R) := [(0, (.iload_n 0, 1, 0, 0, 0, 0)),
  (1, (.iload_n 1, 2, 0, 0, 0, 0)),
  (2, (.aload_n 2, 3, 0, 0, 0, 0)),
  (3, (.invokestatic 48, 6, 34, 1, 48, 0)),
  (6, (.invokestatic 241, 9, 35, 3, 49, 0)),
  (9, (.return_, 10, 0, 0, 0, 0))]
def am_r34 : List (Nat × am_R) := [(0, (.aload_n 0, 1, 0, 0, 0, 0)),
  (1, (.arraylength, 2, 0, 0, 0, 0)),
  (2, (.iconst 1, 3, 0, 0, 0, 0)),
  (3, (.ishr, 4, 0, 0, 0, 0)),
  (4, (.ireturn, 5, 0, 0, 0, 0))]
def am_r35 : List (Nat × am_R) := [(0, (.iload_n 0, 1, 0, 0, 0, 0)),
  (1, (.iload_n 1, 2, 0, 0, 0, 0)),
  (2, (.iload_n 2, 3, 0, 0, 0, 0)),
  (6, (.invokestatic 1062, 9, 36, 4, 50, 0)),
  (9, (.pop, 10, 0, 0, 0, 0)),
  (10, (.return_, 11, 0, 0, 0, 0))]
def am_r36 : List (Nat × am_R) := [(0, (.iload_n 0, 1, 0, 0, 0, 0)),
  (1, (.ifCond .lt 13, 4, 14, 0, 0, 0)),
  (4, (.iload_n 0, 5, 0, 0, 0, 0)),
  (5, (.iload_n 1, 6, 0, 0, 0, 0)),
  (6, (.if_icmp .gt 8, 9, 14, 0, 0, 0)),
  (9, (.iload_n 1, 10, 0, 0, 0, 0)),
  (10, (.iload_n 2, 11, 0, 0, 0, 0)),
  (11, (.if_icmp .le 11, 14, 22, 0, 0, 0)),
  (14, (.aload_n 3, 15, 0, 0, 0, 0)),
  (15, (.iload_n 0, 16, 0, 0, 0, 0)),
  (16, (.iload_n 1, 17, 0, 0, 0, 0)),
  (17, (.iload_n 2, 18, 0, 0, 0, 0)),
  (22, (.iload_n 0, 23, 0, 0, 0, 0)),
  (23, (.ireturn, 24, 0, 0, 0, 0))]
def am_r37 : List (Nat × am_R) := [(0, (.iload_n 2, 1, 0, 0, 0, 0)),
  (1, (.istore 4, 3, 0, 0, 0, 0)),
  (3, (.iload 4, 5, 0, 0, 0, 0)),
  (5, (.iload_n 3, 6, 0, 0, 0, 0)),
  (6, (.if_icmp .ge 22, 9, 28, 0, 0, 0)),
  (9, (.aload_n 0, 10, 0, 0, 0, 0)),
  (10, (.iload 4, 12, 0, 0, 0, 0)),
  (12, (.invokestatic 71, 15, 38, 2, 52, 0)),
  (15, (.iload_n 1, 16, 0, 0, 0, 0)),
  (16, (.if_icmp .ne 6, 19, 22, 0, 0, 0)),
  (19, (.iload 4, 21, 0, 0, 0, 0)),
  (21, (.ireturn, 22, 0, 0, 0, 0)),
  (22, (.iinc 4 1, 25, 0, 0, 0, 0)),
  (25, (.goto (-22), 28, 3, 0, 0, 0)),
  (28, (.iconst (-1), 29, 0, 0, 0, 0)),
  (29, (.ireturn, 30, 0, 0, 0, 0))]
def am_r38 : List (Nat × am_R) := [(3, (.ifCond .ne 25, 6, 28, 0, 0, 0)),
  (6, (.iload_n 1, 7, 0, 0, 0, 0)),
  (7, (.ifCond .lt 11, 10, 18, 0, 0, 0)),
  (10, (.iload_n 1, 11, 0, 0, 0, 0)),
  (11, (.aload_n 0, 12, 0, 0, 0, 0)),
  (12, (.invokestatic 48, 15, 34, 1, 48, 0)),
  (15, (.if_icmp .lt 13, 18, 28, 0, 0, 0)),
  (21, (.dup, 22, 0, 0, 0, 0)),
  (28, (.iload_n 1, 29, 0, 0, 0, 0)),
  (29, (.iconst 1, 30, 0, 0, 0, 0)),
  (30, (.ishl, 31, 0, 0, 0, 0)),
  (31, (.istore_n 1, 32, 0, 0, 0, 0)),
  (32, (.aload_n 0, 33, 0, 0, 0, 0)),
  (33, (.iload_n 1, 34, 0, 0, 0, 0)),
  (34, (.iinc 1 1, 37, 0, 0, 0, 0)),
  (37, (.baload, 38, 0, 0, 0, 0)),
  (38, (.sipush 255, 41, 0, 0, 0, 0)),
  (41, (.iand, 42, 0, 0, 0, 0)),
  (45, (.ishl, 46, 0, 0, 0, 0)),
  (46, (.aload_n 0, 47, 0, 0, 0, 0)),
  (47, (.iload_n 1, 48, 0, 0, 0, 0)),
  (48, (.baload, 49, 0, 0, 0, 0)),
  (49, (.sipush 255, 52, 0, 0, 0, 0)),
  (52, (.iand, 53, 0, 0, 0, 0)),
  (56, (.ishl, 57, 0, 0, 0, 0)),
  (57, (.ior, 58, 0, 0, 0, 0)),
  (58, (.i2c, 59, 0, 0, 0, 0)),
  (59, (.ireturn, 60, 0, 0, 0, 0))]
def am_r39 : List (Nat × am_R) := [(0, (.iload_n 1, 1, 0, 0, 0, 0)),
  (1, (.invokestatic 164, 4, 40, 1, 54, 0)),
  (4, (.ifCond .eq 65, 7, 69, 0, 0, 0)),
  (7, (.iload_n 1, 8, 0, 0, 0, 0)),
  (8, (.invokestatic 157, 11, 41, 1, 55, 0)),
  (11, (.istore 4, 13, 0, 0, 0, 0)),
  (13, (.iload_n 1, 14, 0, 0, 0, 0)),
  (14, (.invokestatic 161, 17, 42, 1, 56, 0)),
  (17, (.istore 5, 19, 0, 0, 0, 0)),
  (19, (.iload_n 2, 20, 0, 0, 0, 0)),
  (20, (.iload_n 3, 21, 0, 0, 0, 0)),
  (21, (.aload_n 0, 22, 0, 0, 0, 0)),
  (22, (.invokestatic 96, 25, 33, 3, 47, 0)),
  (25, (.iload_n 2, 26, 0, 0, 0, 0)),
  (26, (.istore 6, 28, 0, 0, 0, 0)),
  (28, (.iload 6, 30, 0, 0, 0, 0)),
  (30, (.iload_n 3, 31, 0, 0, 0, 0)),
  (31, (.iconst 1, 32, 0, 0, 0, 0)),
  (32, (.isub, 33, 0, 0, 0, 0)),
  (33, (.if_icmp .ge 36, 36, 69, 0, 0, 0)),
  (36, (.aload_n 0, 37, 0, 0, 0, 0)),
  (37, (.iload 6, 39, 0, 0, 0, 0)),
  (39, (.invokestatic 71, 42, 38, 2, 52, 0)),
  (42, (.iload 4, 44, 0, 0, 0, 0)),
  (44, (.if_icmp .ne 19, 47, 63, 0, 0, 0)),
  (47, (.aload_n 0, 48, 0, 0, 0, 0)),
  (48, (.iload 6, 50, 0, 0, 0, 0)),
  (50, (.iconst 1, 51, 0, 0, 0, 0)),
  (51, (.iadd, 52, 0, 0, 0, 0)),
  (52, (.invokestatic 71, 55, 38, 2, 52, 0)),
  (55, (.iload 5, 57, 0, 0, 0, 0)),
  (57, (.if_icmp .ne 6, 60, 63, 0, 0, 0)),
  (60, (.iload 6, 62, 0, 0, 0, 0)),
  (62, (.ireturn, 63, 0, 0, 0, 0)),
  (63, (.iinc 6 1, 66, 0, 0, 0, 0)),
  (66, (.goto (-38), 69, 28, 0, 0, 0)),
  (69, (.iconst (-1), 70, 0, 0, 0, 0)),
  (70, (.ireturn, 71, 0, 0, 0, 0))]
def am_inf_0 : List (List (Nat × am_R) × Nat × Option FieldType) := [(am_r0, 2, (Option.none : Option Jvm.ClassFile.FieldType)), ([], 1, (Option.none : Option Jvm.ClassFile.FieldType)), (am_r2, 1, (Option.none : Option Jvm.ClassFile.FieldType)), (am_r3, 2, (Option.none : Option Jvm.ClassFile.FieldType)), (am_r4, 2, (Option.none : Option Jvm.ClassFile.FieldType)), (am_r5, 2, (Option.none : Option Jvm.ClassFile.FieldType)), (am_r6, 1, (Option.none : Option Jvm.ClassFile.FieldType)), (am_r7, 1, (Option.none : Option Jvm.ClassFile.FieldType)), (am_r8, 1, (Option.none : Option Jvm.ClassFile.FieldType)), (am_r9, 1, (Option.none : Option Jvm.ClassFile.FieldType)), (am_r10, 2, (Option.none : Option Jvm.ClassFile.FieldType)), (am_r11, 1, (Option.none : Option Jvm.ClassFile.FieldType)), (am_r12, 7, (Option.some Jvm.ClassFile.FieldType.int)), (am_r13, 6, (Option.none : Option Jvm.ClassFile.FieldType)), (am_r14, 3, (Option.some Jvm.ClassFile.FieldType.int)), (am_r15, 4, (Option.some Jvm.ClassFile.FieldType.int)), (am_r16, 1, (Option.none : Option Jvm.ClassFile.FieldType)), (am_r17, 1, (Option.none : Option Jvm.ClassFile.FieldType)), (am_r18, 1, (Option.none : Option Jvm.ClassFile.FieldType)), (am_r19, 1, (Option.none : Option Jvm.ClassFile.FieldType)), (am_r20, 1, (Option.none : Option Jvm.ClassFile.FieldType)), (am_r21, 2, (Option.some Jvm.ClassFile.FieldType.int)), (am_r22, 3, (Option.some Jvm.ClassFile.FieldType.int)), (am_r23, 1, (Option.some Jvm.ClassFile.FieldType.boolean)), (am_r24, 1, (Option.some Jvm.ClassFile.FieldType.int)), (am_r25, 1, (Option.some Jvm.ClassFile.FieldType.byte)), (am_r26, 4, (Option.some Jvm.ClassFile.FieldType.int)), (am_r27, 1, (Option.some Jvm.ClassFile.FieldType.boolean)), (am_r28, 2, (Option.some Jvm.ClassFile.FieldType.int)), (am_r29, 2, (Option.some Jvm.ClassFile.FieldType.int)), (am_r30, 6, (Option.some Jvm.ClassFile.FieldType.int)), (am_r31, 4, (Option.some Jvm.ClassFile.FieldType.int)), (am_r32, 4, (Option.some Jvm.ClassFile.FieldType.int)), (am_r33, 3, (Option.none : Option Jvm.ClassFile.FieldType)), (am_r34, 1, (Option.some Jvm.ClassFile.FieldType.int)), (am_r35, 3, (Option.none : Option Jvm.ClassFile.FieldType)), (am_r36, 4, (Option.some Jvm.ClassFile.FieldType.int)), (am_r37, 5, (Option.some Jvm.ClassFile.FieldType.int)), (am_r38, 2, (Option.some Jvm.ClassFile.FieldType.char)), (am_r39, 7, (Option.some Jvm.ClassFile.FieldType.int))]
theorem am_ck_0_0 : ((am_mi_0.zip am_inf_0).take 10).all am_chk = true := am_chkD_all (by decide +kernel)
theorem am_ck_0_1 : (((am_mi_0.zip am_inf_0).drop 10).take 10).all am_chk = true := am_chkD_all (by decide +kernel)
theorem am_ck_0_2 : (((am_mi_0.zip am_inf_0).drop 20).take 10).all am_chk = true := am_chkD_all (by decide +kernel)
theorem am_ck_0_3 : (((am_mi_0.zip am_inf_0).drop 30)).all am_chk = true := am_chkD_all (by decide +kernel)
theorem am_ck_0 : (am_mi_0.zip am_inf_0).all am_chk = true := am_all_cut _ 10 _ am_ck_0_0 (am_all_cut _ 10 _ am_ck_0_1 (by
  rw [List.drop_drop]
  exact am_all_cut _ 10 _ am_ck_0_2 (by
    rw [List.drop_drop]
    exact am_ck_0_3)))
def am_r40 : List (Nat × am_R) := [(0, (.iload_n 0, 1, 0, 0, 0, 0)),
  (1, (.bipush 16, 3, 0, 0, 0, 0)),
  (3, (.iushr, 4, 0, 0, 0, 0)),
  (4, (.istore_n 1, 5, 0, 0, 0, 0)),
  (5, (.iload_n 1, 6, 0, 0, 0, 0)),
  (6, (.bipush 17, 8, 0, 0, 0, 0)),
  (8, (.if_icmp .ge 7, 11, 15, 0, 0, 0)),
  (11, (.iconst 1, 12, 0, 0, 0, 0)),
  (12, (.goto 4, 15, 16, 0, 0, 0)),
  (15, (.iconst 0, 16, 0, 0, 0, 0)),
  (16, (.ireturn, 17, 0, 0, 0, 0))]
def am_r41 : List (Nat × am_R) := [(0, (.iload_n 0, 1, 0, 0, 0, 0)),
  (1, (.bipush 10, 3, 0, 0, 0, 0)),
  (3, (.iushr, 4, 0, 0, 0, 0)),
  (4, (.ldc 110, 6, 0, 0, 1, 0)),
  (6, (.iadd, 7, 0, 0, 0, 0)),
  (7, (.i2c, 8, 0, 0, 0, 0)),
  (8, (.ireturn, 9, 0, 0, 0, 0))]
def am_r42 : List (Nat × am_R) := [(0, (.iload_n 0, 1, 0, 0, 0, 0)),
  (1, (.sipush 1023, 4, 0, 0, 0, 0)),
  (4, (.iand, 5, 0, 0, 0, 0)),
  (5, (.ldc 76, 7, 0, 0, 2, 0)),
  (7, (.iadd, 8, 0, 0, 0, 0)),
  (8, (.i2c, 9, 0, 0, 0, 0)),
  (9, (.ireturn, 10, 0, 0, 0, 0))]
def am_r43 : List (Nat × am_R) := [(0, (.aload_n 0, 1, 0, 0, 0, 0)),
  (1, (.getfield 9, 4, 0, 1, 20, 0)),
  (4, (.ldc 45, 6, 0, 1, 1, 0)),
  (6, (.invokevirtual 47, 9, 44, 1, 58, 7)),
  (9, (.ifCond .eq 9, 12, 18, 0, 0, 0)),
  (12, (.aload_n 0, 13, 0, 0, 0, 0)),
  (13, (.aload_n 1, 14, 0, 0, 0, 0)),
  (14, (.invokevirtual 51, 17, 51, 1, 67, 1)),
  (17, (.ireturn, 18, 0, 0, 0, 0)),
  (18, (.aload_n 0, 19, 0, 0, 0, 0)),
  (19, (.getfield 9, 22, 0, 1, 20, 0)),
  (22, (.ldc 54, 24, 0, 1, 8, 0)),
  (24, (.invokevirtual 47, 27, 44, 1, 58, 7)),
  (27, (.ifCond .eq 9, 30, 36, 0, 0, 0)),
  (30, (.aload_n 0, 31, 0, 0, 0, 0)),
  (31, (.aload_n 1, 32, 0, 0, 0, 0)),
  (32, (.invokevirtual 56, 35, 63, 1, 81, 1)),
  (35, (.ireturn, 36, 0, 0, 0, 0)),
  (36, (.aload_n 0, 37, 0, 0, 0, 0)),
  (37, (.getfield 9, 40, 0, 1, 20, 0)),
  (40, (.ldc 59, 42, 0, 1, 11, 0)),
  (42, (.invokevirtual 47, 45, 44, 1, 58, 7)),
  (45, (.ifCond .eq 9, 48, 54, 0, 0, 0)),
  (48, (.aload_n 0, 49, 0, 0, 0, 0)),
  (49, (.aload_n 1, 50, 0, 0, 0, 0)),
  (50, (.invokevirtual 61, 53, 64, 1, 82, 1)),
  (53, (.ireturn, 54, 0, 0, 0, 0)),
  (54, (.aload_n 0, 55, 0, 0, 0, 0)),
  (55, (.getfield 9, 58, 0, 1, 20, 0)),
  (58, (.ldc 64, 60, 0, 1, 12, 0)),
  (60, (.invokevirtual 47, 63, 44, 1, 58, 7)),
  (63, (.ifCond .eq 9, 66, 72, 0, 0, 0)),
  (66, (.aload_n 0, 67, 0, 0, 0, 0)),
  (67, (.aload_n 1, 68, 0, 0, 0, 0)),
  (68, (.invokevirtual 66, 71, 66, 1, 83, 1)),
  (71, (.ireturn, 72, 0, 0, 0, 0)),
  (72, (.aload_n 0, 73, 0, 0, 0, 0)),
  (73, (.getfield 9, 76, 0, 1, 20, 0)),
  (76, (.ldc 69, 78, 0, 1, 13, 0)),
  (78, (.invokevirtual 47, 81, 44, 1, 58, 7)),
  (81, (.ifCond .eq 12, 84, 93, 0, 0, 0)),
  (84, (.aload_n 0, 85, 0, 0, 0, 0)),
  (85, (.getfield 20, 88, 1, 1, 21, 0)),
  (88, (.aload_n 1, 89, 0, 0, 0, 0)),
  (89, (.invokevirtual 71, 92, 70, 1, 87, 4)),
  (92, (.ireturn, 93, 0, 0, 0, 0)),
  (93, (.aload_n 0, 94, 0, 0, 0, 0)),
  (94, (.getfield 9, 97, 0, 1, 20, 0)),
  (97, (.iconst 1, 98, 0, 0, 0, 0)),
  (98, (.invokevirtual 74, 101, 52, 1, 68, 7)),
  (101, (.ireturn, 102, 0, 0, 0, 0))]
def am_r44 : List (Nat × am_R) := [(0, (.aload_n 0, 1, 0, 0, 0, 0)),
  (1, (.getfield 33, 4, 2, 7, 5, 0)),
  (4, (.iconst 1, 5, 0, 0, 0, 0)),
  (5, (.if_icmp .eq 5, 8, 10, 0, 0, 0)),
  (8, (.iconst 0, 9, 0, 0, 0, 0)),
  (9, (.ireturn, 10, 0, 0, 0, 0)),
  (10, (.lconst 0, 11, 0, 0, 0, 0)),
  (11, (.lstore_n 2, 12, 0, 0, 0, 0)),
  (12, (.iconst 0, 13, 0, 0, 0, 0)),
  (13, (.istore 4, 15, 0, 0, 0, 0)),
  (15, (.iload 4, 17, 0, 0, 0, 0)),
  (17, (.aload_n 1, 18, 0, 0, 0, 0)),
  (18, (.invokevirtual 57, 21, 24, 0, 59, 20)),
  (21, (.if_icmp .ge 22, 24, 43, 0, 0, 0)),
  (24, (.lload_n 2, 25, 0, 0, 0, 0)),
  (25, (.bipush 8, 27, 0, 0, 0, 0)),
  (27, (.lshl, 28, 0, 0, 0, 0)),
  (28, (.aload_n 1, 29, 0, 0, 0, 0)),
  (29, (.iload 4, 31, 0, 0, 0, 0)),
  (31, (.invokevirtual 60, 34, 45, 1, 60, 20)),
  (34, (.i2l, 35, 0, 0, 0, 0)),
  (35, (.lor, 36, 0, 0, 0, 0)),
  (36, (.lstore_n 2, 37, 0, 0, 0, 0)),
  (37, (.iinc 4 1, 40, 0, 0, 0, 0)),
  (40, (.goto (-25), 43, 15, 0, 0, 0)),
  (43, (.aload_n 0, 44, 0, 0, 0, 0)),
  (44, (.getfield 50, 47, 5, 7, 10, 0)),
  (47, (.lload_n 2, 48, 0, 0, 0, 0)),
  (48, (.lcmp, 49, 0, 0, 0, 0)),
  (49, (.ifCond .ne 7, 52, 56, 0, 0, 0)),
  (52, (.iconst 1, 53, 0, 0, 0, 0)),
  (53, (.goto 4, 56, 57, 0, 0, 0)),
  (56, (.iconst 0, 57, 0, 0, 0, 0)),
  (57, (.ireturn, 58, 0, 0, 0, 0))]
def am_r45 : List (Nat × am_R) := [(0, (.aload_n 0, 1, 0, 0, 0, 0)),
  (1, (.invokevirtual 492, 4, 23, 0, 35, 20)),
  (4, (.ifCond .eq 12, 7, 16, 0, 0, 0)),
  (7, (.aload_n 0, 8, 0, 0, 0, 0)),
  (8, (.getfield 9, 11, 0, 20, 159, 0)),
  (11, (.iload_n 1, 12, 0, 0, 0, 0)),
  (12, (.invokestatic 495, 15, 46, 2, 61, 0)),
  (15, (.ireturn, 16, 0, 0, 0, 0)),
  (16, (.aload_n 0, 17, 0, 0, 0, 0)),
  (17, (.getfield 9, 20, 0, 20, 159, 0)),
  (20, (.iload_n 1, 21, 0, 0, 0, 0)),
  (21, (.invokestatic 498, 24, 49, 2, 64, 0)),
  (24, (.ireturn, 25, 0, 0, 0, 0))]
def am_r46 : List (Nat × am_R) := [(0, (.iload_n 1, 1, 0, 0, 0, 0)),
  (1, (.aload_n 0, 2, 0, 0, 0, 0)),
  (2, (.arraylength, 3, 0, 0, 0, 0)),
  (3, (.invokestatic 9, 6, 47, 2, 62, 0)),
  (6, (.aload_n 0, 7, 0, 0, 0, 0)),
  (7, (.iload_n 1, 8, 0, 0, 0, 0)),
  (8, (.baload, 9, 0, 0, 0, 0)),
  (9, (.sipush 255, 12, 0, 0, 0, 0)),
  (12, (.iand, 13, 0, 0, 0, 0)),
  (13, (.i2c, 14, 0, 0, 0, 0)),
  (14, (.ireturn, 15, 0, 0, 0, 0))]
def am_r47 : List (Nat × am_R) := [(0, (.iload_n 0, 1, 0, 0, 0, 0)),
  (1, (.iload_n 1, 2, 0, 0, 0, 0)),
  (2, (.iconst 0, 5, 0, 0, 0, 0)),
  (5, (.invokestatic 1059, 8, 48, 3, 63, 0)),
  (8, (.pop, 9, 0, 0, 0, 0)),
  (9, (.return_, 10, 0, 0, 0, 0))]
def am_r48 : List (Nat × am_R) := [(0, (.iload_n 0, 1, 0, 0, 0, 0)),
  (1, (.ifCond .lt 8, 4, 9, 0, 0, 0)),
  (4, (.iload_n 0, 5, 0, 0, 0, 0)),
  (5, (.iload_n 1, 6, 0, 0, 0, 0)),
  (6, (.if_icmp .lt 10, 9, 16, 0, 0, 0)),
  (9, (.aload_n 2, 10, 0, 0, 0, 0)),
  (10, (.iload_n 0, 11, 0, 0, 0, 0)),
  (11, (.iload_n 1, 12, 0, 0, 0, 0)),
  (16, (.iload_n 0, 17, 0, 0, 0, 0)),
  (17, (.ireturn, 18, 0, 0, 0, 0))]
def am_r49 : List (Nat × am_R) := [(0, (.iload_n 1, 1, 0, 0, 0, 0)),
  (1, (.aload_n 0, 2, 0, 0, 0, 0)),
  (2, (.invokestatic 67, 5, 50, 2, 65, 0)),
  (5, (.aload_n 0, 6, 0, 0, 0, 0)),
  (6, (.iload_n 1, 7, 0, 0, 0, 0)),
  (7, (.invokestatic 71, 10, 38, 2, 52, 0)),
  (10, (.ireturn, 11, 0, 0, 0, 0))]
def am_r50 : List (Nat × am_R) := [(0, (.iload_n 0, 1, 0, 0, 0, 0)),
  (1, (.aload_n 1, 2, 0, 0, 0, 0)),
  (2, (.invokestatic 48, 5, 34, 1, 48, 0)),
  (5, (.invokestatic 414, 8, 47, 2, 66, 0)),
  (8, (.return_, 9, 0, 0, 0, 0))]
def am_r51 : List (Nat × am_R) := [(0, (.aload_n 1, 1, 0, 0, 0, 0)),
  (1, (.getfield 93, 4, 0, 0, 28, 0)),
  (4, (.istore_n 2, 5, 0, 0, 0, 0)),
  (5, (.iload_n 2, 6, 0, 0, 0, 0)),
  (6, (.bipush 6, 8, 0, 0, 0, 0)),
  (8, (.if_icmp .lt 12, 11, 20, 0, 0, 0)),
  (11, (.aload_n 0, 12, 0, 0, 0, 0)),
  (12, (.getfield 9, 15, 0, 1, 20, 0)),
  (15, (.iconst 5, 16, 0, 0, 0, 0)),
  (16, (.invokevirtual 74, 19, 52, 1, 68, 7)),
  (19, (.ireturn, 20, 0, 0, 0, 0)),
  (20, (.aload_n 0, 21, 0, 0, 0, 0)),
  (21, (.getfield 9, 24, 0, 1, 20, 0)),
  (24, (.invokevirtual 96, 27, 18, 0, 69, 7)),
  (27, (.aload_n 0, 28, 0, 0, 0, 0)),
  (28, (.aload_n 1, 29, 0, 0, 0, 0)),
  (29, (.invokevirtual 99, 32, 53, 1, 70, 1)),
  (32, (.ifCond .ne 5, 35, 37, 0, 0, 0)),
  (35, (.iconst 0, 36, 0, 0, 0, 0)),
  (36, (.ireturn, 37, 0, 0, 0, 0)),
  (37, (.aload_n 1, 38, 0, 0, 0, 0)),
  (38, (.getfield 102, 41, 1, 0, 31, 0)),
  (41, (.iload_n 2, 42, 0, 0, 0, 0)),
  (42, (.aload_n 0, 43, 0, 0, 0, 0)),
  (43, (.getfield 9, 46, 0, 1, 20, 0)),
  (46, (.getfield 82, 49, 5, 7, 9, 0)),
  (49, (.lastore, 50, 0, 0, 0, 0)),
  (50, (.aload_n 0, 51, 0, 0, 0, 0)),
  (51, (.getfield 9, 54, 0, 1, 20, 0)),
  (54, (.invokevirtual 96, 57, 18, 0, 69, 7)),
  (57, (.aload_n 0, 58, 0, 0, 0, 0)),
  (58, (.invokevirtual 106, 61, 57, 0, 74, 1)),
  (61, (.istore_n 3, 62, 0, 0, 0, 0)),
  (62, (.iload_n 3, 63, 0, 0, 0, 0)),
  (63, (.iconst (-1), 64, 0, 0, 0, 0)),
  (64, (.if_icmp .ne 12, 67, 76, 0, 0, 0)),
  (67, (.aload_n 0, 68, 0, 0, 0, 0)),
  (68, (.getfield 9, 71, 0, 1, 20, 0)),
  (71, (.iconst 1, 72, 0, 0, 0, 0)),
  (72, (.invokevirtual 74, 75, 52, 1, 68, 7)),
  (75, (.ireturn, 76, 0, 0, 0, 0)),
  (76, (.aload_n 1, 77, 0, 0, 0, 0)),
  (77, (.getfield 110, 80, 2, 0, 33, 0)),
  (80, (.iload_n 2, 81, 0, 0, 0, 0)),
  (81, (.iload_n 3, 82, 0, 0, 0, 0)),
  (82, (.iastore, 83, 0, 0, 0, 0)),
  (83, (.aload_n 0, 84, 0, 0, 0, 0)),
  (84, (.getfield 9, 87, 0, 1, 20, 0)),
  (87, (.invokevirtual 96, 90, 18, 0, 69, 7)),
  (90, (.aload_n 0, 91, 0, 0, 0, 0)),
  (91, (.getfield 9, 94, 0, 1, 20, 0)),
  (94, (.ldc 114, 96, 0, 1, 7, 0)),
  (96, (.invokevirtual 116, 99, 58, 1, 75, 7)),
  (99, (.ifCond .eq 15, 102, 114, 0, 0, 0)),
  (102, (.aload_n 0, 103, 0, 0, 0, 0)),
  (103, (.getfield 9, 106, 0, 1, 20, 0)),
  (106, (.iconst 0, 107, 0, 0, 0, 0)),
  (107, (.iconst 4, 108, 0, 0, 0, 0)),
  (108, (.invokevirtual 119, 111, 59, 2, 78, 7)),
  (111, (.ifCond .ne 5, 114, 116, 0, 0, 0)),
  (114, (.iconst 0, 115, 0, 0, 0, 0)),
  (115, (.ireturn, 116, 0, 0, 0, 0)),
  (116, (.aload_n 1, 117, 0, 0, 0, 0)),
  (117, (.getfield 123, 120, 3, 0, 37, 0)),
  (120, (.iload_n 2, 121, 0, 0, 0, 0)),
  (121, (.aload_n 0, 122, 0, 0, 0, 0)),
  (122, (.getfield 9, 125, 0, 1, 20, 0)),
  (125, (.getfield 126, 128, 6, 7, 12, 0)),
  (128, (.iastore, 129, 0, 0, 0, 0)),
  (129, (.aload_n 0, 130, 0, 0, 0, 0)),
  (130, (.getfield 9, 133, 0, 1, 20, 0)),
  (133, (.invokevirtual 96, 136, 18, 0, 69, 7)),
  (136, (.aload_n 1, 137, 0, 0, 0, 0)),
  (137, (.dup, 138, 0, 0, 0, 0)),
  (138, (.getfield 93, 141, 0, 0, 28, 0)),
  (141, (.iconst 1, 142, 0, 0, 0, 0)),
  (142, (.iadd, 143, 0, 0, 0, 0)),
  (143, (.putfield 93, 146, 0, 0, 28, 0)),
  (146, (.aload_n 0, 147, 0, 0, 0, 0)),
  (147, (.getfield 9, 150, 0, 1, 20, 0)),
  (150, (.bipush 59, 152, 0, 0, 0, 0)),
  (152, (.invokevirtual 129, 155, 61, 1, 79, 7)),
  (155, (.ireturn, 156, 0, 0, 0, 0))]
def am_r52 : List (Nat × am_R) := [(0, (.aload_n 0, 1, 0, 0, 0, 0)),
  (1, (.iload_n 1, 2, 0, 0, 0, 0)),
  (2, (.bipush 16, 4, 0, 0, 0, 0)),
  (4, (.aload_n 0, 5, 0, 0, 0, 0)),
  (5, (.getfield 30, 8, 3, 7, 7, 0)),
  (8, (.imul, 9, 0, 0, 0, 0)),
  (9, (.iadd, 10, 0, 0, 0, 0)),
  (10, (.putfield 21, 13, 7, 7, 18, 0)),
  (13, (.iconst 0, 14, 0, 0, 0, 0)),
  (14, (.ireturn, 15, 0, 0, 0, 0))]
def am_r53 : List (Nat × am_R) := [(0, (.aload_n 0, 1, 0, 0, 0, 0)),
  (1, (.getfield 9, 4, 0, 1, 20, 0)),
  (4, (.invokevirtual 78, 7, 54, 0, 71, 7)),
  (7, (.ifCond .ne 12, 10, 19, 0, 0, 0)),
  (10, (.aload_n 0, 11, 0, 0, 0, 0)),
  (11, (.getfield 9, 14, 0, 1, 20, 0)),
  (14, (.iconst 1, 15, 0, 0, 0, 0)),
  (15, (.invokevirtual 74, 18, 52, 1, 68, 7)),
  (18, (.ireturn, 19, 0, 0, 0, 0)),
  (19, (.aload_n 1, 20, 0, 0, 0, 0)),
  (20, (.aload_n 0, 21, 0, 0, 0, 0)),
  (21, (.getfield 9, 24, 0, 1, 20, 0)),
  (24, (.getfield 82, 27, 5, 7, 9, 0)),
  (27, (.invokevirtual 86, 30, 55, 1, 72, 0)),
  (30, (.iconst (-1), 31, 0, 0, 0, 0)),
  (31, (.if_icmp .ne 18, 34, 49, 0, 0, 0)),
  (34, (.aload_n 1, 35, 0, 0, 0, 0)),
  (35, (.aload_n 0, 36, 0, 0, 0, 0)),
  (36, (.getfield 9, 39, 0, 1, 20, 0)),
  (39, (.getfield 82, 42, 5, 7, 9, 0)),
  (42, (.invokevirtual 90, 45, 56, 1, 73, 0)),
  (45, (.iconst (-1), 46, 0, 0, 0, 0)),
  (46, (.if_icmp .eq 7, 49, 53, 0, 0, 0)),
  (49, (.iconst 1, 50, 0, 0, 0, 0)),
  (50, (.goto 4, 53, 54, 0, 0, 0)),
  (53, (.iconst 0, 54, 0, 0, 0, 0)),
  (54, (.istore_n 2, 55, 0, 0, 0, 0)),
  (55, (.iload_n 2, 56, 0, 0, 0, 0)),
  (56, (.ifCond .eq 14, 59, 70, 0, 0, 0)),
  (59, (.aload_n 0, 60, 0, 0, 0, 0)),
  (60, (.getfield 9, 63, 0, 1, 20, 0)),
  (63, (.iconst 3, 64, 0, 0, 0, 0)),
  (64, (.invokevirtual 74, 67, 52, 1, 68, 7)),
  (67, (.ifCond .eq 7, 70, 74, 0, 0, 0)),
  (70, (.iconst 1, 71, 0, 0, 0, 0)),
  (71, (.goto 4, 74, 75, 0, 0, 0)),
  (74, (.iconst 0, 75, 0, 0, 0, 0)),
  (75, (.ireturn, 76, 0, 0, 0, 0))]
def am_r54 : List (Nat × am_R) := [(0, (.aload_n 0, 1, 0, 0, 0, 0)),
  (1, (.getfield 33, 4, 2, 7, 5, 0)),
  (4, (.iconst 1, 5, 0, 0, 0, 0)),
  (5, (.if_icmp .eq 5, 8, 10, 0, 0, 0)),
  (8, (.iconst 0, 9, 0, 0, 0, 0)),
  (9, (.ireturn, 10, 0, 0, 0, 0)),
  (10, (.lconst 0, 11, 0, 0, 0, 0)),
  (11, (.lstore_n 1, 12, 0, 0, 0, 0)),
  (12, (.iconst 0, 13, 0, 0, 0, 0)),
  (13, (.istore_n 3, 14, 0, 0, 0, 0)),
  (14, (.iload_n 3, 15, 0, 0, 0, 0)),
  (15, (.ldc 64, 17, 0, 1, 2, 0)),
  (17, (.invokevirtual 57, 20, 24, 0, 59, 20)),
  (20, (.if_icmp .ge 49, 23, 69, 0, 0, 0)),
  (23, (.ldc 64, 25, 0, 1, 2, 0)),
  (25, (.iload_n 3, 26, 0, 0, 0, 0)),
  (26, (.invokevirtual 60, 29, 45, 1, 60, 20)),
  (29, (.bipush 32, 31, 0, 0, 0, 0)),
  (31, (.if_icmp .eq 19, 34, 50, 0, 0, 0)),
  (34, (.lload_n 1, 35, 0, 0, 0, 0)),
  (35, (.bipush 8, 37, 0, 0, 0, 0)),
  (37, (.lshl, 38, 0, 0, 0, 0)),
  (38, (.ldc 64, 40, 0, 1, 2, 0)),
  (40, (.iload_n 3, 41, 0, 0, 0, 0)),
  (41, (.invokevirtual 60, 44, 45, 1, 60, 20)),
  (44, (.i2l, 45, 0, 0, 0, 0)),
  (45, (.lor, 46, 0, 0, 0, 0)),
  (46, (.lstore_n 1, 47, 0, 0, 0, 0)),
  (47, (.goto 16, 50, 63, 0, 0, 0)),
  (50, (.lload_n 1, 51, 0, 0, 0, 0)),
  (51, (.aload_n 0, 52, 0, 0, 0, 0)),
  (52, (.getfield 50, 55, 5, 7, 10, 0)),
  (55, (.lcmp, 56, 0, 0, 0, 0)),
  (56, (.ifCond .ne 5, 59, 61, 0, 0, 0)),
  (59, (.iconst 0, 60, 0, 0, 0, 0)),
  (60, (.ireturn, 61, 0, 0, 0, 0)),
  (61, (.lconst 0, 62, 0, 0, 0, 0)),
  (62, (.lstore_n 1, 63, 0, 0, 0, 0)),
  (63, (.iinc 3 1, 66, 0, 0, 0, 0)),
  (66, (.goto (-52), 69, 14, 0, 0, 0)),
  (69, (.iconst 1, 70, 0, 0, 0, 0)),
  (70, (.ireturn, 71, 0, 0, 0, 0))]
def am_r55 : List (Nat × am_R) := [(0, (.iconst 0, 1, 0, 0, 0, 0)),
  (1, (.istore_n 3, 2, 0, 0, 0, 0)),
  (2, (.iload_n 3, 3, 0, 0, 0, 0)),
  (3, (.aload_n 0, 4, 0, 0, 0, 0)),
  (4, (.getfield 41, 7, 0, 0, 27, 0)),
  (7, (.if_icmp .ge 22, 10, 29, 0, 0, 0)),
  (10, (.aload_n 0, 11, 0, 0, 0, 0)),
  (11, (.getfield 9, 14, 1, 0, 30, 0)),
  (14, (.iload_n 3, 15, 0, 0, 0, 0)),
  (15, (.laload, 16, 0, 0, 0, 0)),
  (16, (.lload_n 1, 17, 0, 0, 0, 0)),
  (17, (.lcmp, 18, 0, 0, 0, 0)),
  (18, (.ifCond .ne 5, 21, 23, 0, 0, 0)),
  (21, (.iload_n 3, 22, 0, 0, 0, 0)),
  (22, (.ireturn, 23, 0, 0, 0, 0)),
  (23, (.iinc 3 1, 26, 0, 0, 0, 0)),
  (26, (.goto (-24), 29, 2, 0, 0, 0)),
  (29, (.iconst (-1), 30, 0, 0, 0, 0)),
  (30, (.ireturn, 31, 0, 0, 0, 0))]
def am_r56 : List (Nat × am_R) := [(0, (.iconst 0, 1, 0, 0, 0, 0)),
  (1, (.istore_n 3, 2, 0, 0, 0, 0)),
  (2, (.iload_n 3, 3, 0, 0, 0, 0)),
  (3, (.aload_n 0, 4, 0, 0, 0, 0)),
  (4, (.getfield 45, 7, 4, 0, 38, 0)),
  (7, (.if_icmp .ge 22, 10, 29, 0, 0, 0)),
  (10, (.aload_n 0, 11, 0, 0, 0, 0)),
  (11, (.getfield 22, 14, 5, 0, 41, 0)),
  (14, (.iload_n 3, 15, 0, 0, 0, 0)),
  (15, (.laload, 16, 0, 0, 0, 0)),
  (16, (.lload_n 1, 17, 0, 0, 0, 0)),
  (17, (.lcmp, 18, 0, 0, 0, 0)),
  (18, (.ifCond .ne 5, 21, 23, 0, 0, 0)),
  (21, (.iload_n 3, 22, 0, 0, 0, 0)),
  (22, (.ireturn, 23, 0, 0, 0, 0)),
  (23, (.iinc 3 1, 26, 0, 0, 0, 0)),
  (26, (.goto (-24), 29, 2, 0, 0, 0)),
  (29, (.iconst (-1), 30, 0, 0, 0, 0)),
  (30, (.ireturn, 31, 0, 0, 0, 0))]
def am_r57 : List (Nat × am_R) := [(0, (.aload_n 0, 1, 0, 0, 0, 0)),
  (1, (.getfield 9, 4, 0, 1, 20, 0)),
  (4, (.ldc 133, 6, 0, 1, 3, 0)),
  (6, (.invokevirtual 47, 9, 44, 1, 58, 7)),
  (9, (.ifCond .eq 5, 12, 14, 0, 0, 0)),
  (12, (.iconst 0, 13, 0, 0, 0, 0)),
  (13, (.ireturn, 14, 0, 0, 0, 0)),
  (14, (.aload_n 0, 15, 0, 0, 0, 0)),
  (15, (.getfield 9, 18, 0, 1, 20, 0)),
  (18, (.ldc 135, 20, 0, 1, 4, 0)),
  (20, (.invokevirtual 47, 23, 44, 1, 58, 7)),
  (23, (.ifCond .eq 5, 26, 28, 0, 0, 0)),
  (26, (.iconst 1, 27, 0, 0, 0, 0)),
  (27, (.ireturn, 28, 0, 0, 0, 0)),
  (28, (.aload_n 0, 29, 0, 0, 0, 0)),
  (29, (.getfield 9, 32, 0, 1, 20, 0)),
  (32, (.ldc 137, 34, 0, 1, 5, 0)),
  (34, (.invokevirtual 47, 37, 44, 1, 58, 7)),
  (37, (.ifCond .eq 5, 40, 42, 0, 0, 0)),
  (40, (.iconst 2, 41, 0, 0, 0, 0)),
  (41, (.ireturn, 42, 0, 0, 0, 0)),
  (42, (.aload_n 0, 43, 0, 0, 0, 0)),
  (43, (.getfield 9, 46, 0, 1, 20, 0)),
  (46, (.ldc 139, 48, 0, 1, 6, 0)),
  (48, (.invokevirtual 47, 51, 44, 1, 58, 7)),
  (51, (.ifCond .eq 7, 54, 58, 0, 0, 0)),
  (54, (.iconst 3, 55, 0, 0, 0, 0)),
  (55, (.goto 4, 58, 59, 0, 0, 0)),
  (58, (.iconst (-1), 59, 0, 0, 0, 0)),
  (59, (.ireturn, 60, 0, 0, 0, 0))]
def am_r58 : List (Nat × am_R) := [(0, (.aload_n 0, 1, 0, 0, 0, 0)),
  (1, (.aload_n 1, 2, 0, 0, 0, 0)),
  (2, (.invokevirtual 66, 5, 44, 1, 76, 7)),
  (5, (.ifCond .ne 9, 8, 14, 0, 0, 0)),
  (8, (.aload_n 0, 9, 0, 0, 0, 0)),
  (9, (.iconst 1, 10, 0, 0, 0, 0)),
  (10, (.invokevirtual 70, 13, 52, 1, 77, 7)),
  (13, (.ireturn, 14, 0, 0, 0, 0)),
  (14, (.aload_n 0, 15, 0, 0, 0, 0)),
  (15, (.invokevirtual 27, 18, 18, 0, 30, 7)),
  (18, (.iconst 1, 19, 0, 0, 0, 0)),
  (19, (.ireturn, 20, 0, 0, 0, 0))]
def am_r59 : List (Nat × am_R) := [(0, (.aload_n 0, 1, 0, 0, 0, 0)),
  (1, (.getfield 33, 4, 2, 7, 5, 0)),
  (4, (.iconst 2, 5, 0, 0, 0, 0)),
  (5, (.if_icmp .eq 9, 8, 14, 0, 0, 0)),
  (8, (.aload_n 0, 9, 0, 0, 0, 0)),
  (9, (.iconst 1, 10, 0, 0, 0, 0)),
  (10, (.invokevirtual 70, 13, 52, 1, 77, 7)),
  (13, (.ireturn, 14, 0, 0, 0, 0)),
  (14, (.aload_n 0, 15, 0, 0, 0, 0)),
  (15, (.getfield 54, 18, 6, 7, 13, 0)),
  (18, (.iload_n 1, 19, 0, 0, 0, 0)),
  (19, (.iload_n 2, 20, 0, 0, 0, 0)),
  (20, (.invokestatic 78, 23, 60, 3, 0, 1)),
  (23, (.ifCond .ne 11, 26, 34, 0, 0, 0)),
  (26, (.aload_n 0, 27, 0, 0, 0, 0)),
  (27, (.iconst 4, 28, 0, 0, 0, 0)),
  (28, (.invokevirtual 70, 31, 52, 1, 77, 7)),
  (31, (.ifCond .eq 7, 34, 38, 0, 0, 0)),
  (34, (.iconst 1, 35, 0, 0, 0, 0)),
  (35, (.goto 4, 38, 39, 0, 0, 0)),
  (38, (.iconst 0, 39, 0, 0, 0, 0)),
  (39, (.ireturn, 40, 0, 0, 0, 0))]
def am_r60 : List (Nat × am_R) := [(0, (.iload_n 0, 1, 0, 0, 0, 0)),
  (1, (.iload_n 1, 2, 0, 0, 0, 0)),
  (2, (.if_icmp .lt 12, 5, 14, 0, 0, 0)),
  (5, (.iload_n 0, 6, 0, 0, 0, 0)),
  (6, (.iload_n 2, 7, 0, 0, 0, 0)),
  (7, (.if_icmp .gt 7, 10, 14, 0, 0, 0)),
  (10, (.iconst 1, 11, 0, 0, 0, 0)),
  (11, (.goto 4, 14, 15, 0, 0, 0)),
  (14, (.iconst 0, 15, 0, 0, 0, 0)),
  (15, (.ireturn, 16, 0, 0, 0, 0))]
def am_r61 : List (Nat × am_R) := [(0, (.aload_n 0, 1, 0, 0, 0, 0)),
  (1, (.iload_n 1, 2, 0, 0, 0, 0)),
  (2, (.invokevirtual 74, 5, 62, 1, 80, 7)),
  (5, (.ifCond .ne 9, 8, 14, 0, 0, 0)),
  (8, (.aload_n 0, 9, 0, 0, 0, 0)),
  (9, (.iconst 1, 10, 0, 0, 0, 0)),
  (10, (.invokevirtual 70, 13, 52, 1, 77, 7)),
  (13, (.ireturn, 14, 0, 0, 0, 0)),
  (14, (.aload_n 0, 15, 0, 0, 0, 0)),
  (15, (.invokevirtual 27, 18, 18, 0, 30, 7)),
  (18, (.iconst 1, 19, 0, 0, 0, 0)),
  (19, (.ireturn, 20, 0, 0, 0, 0))]
def am_r62 : List (Nat × am_R) := [(0, (.aload_n 0, 1, 0, 0, 0, 0)),
  (1, (.getfield 33, 4, 2, 7, 5, 0)),
  (4, (.iconst 3, 5, 0, 0, 0, 0)),
  (5, (.if_icmp .ne 20, 8, 25, 0, 0, 0)),
  (8, (.aload_n 0, 9, 0, 0, 0, 0)),
  (9, (.getfield 9, 12, 0, 7, 0, 0)),
  (12, (.aload_n 0, 13, 0, 0, 0, 0)),
  (13, (.getfield 30, 16, 3, 7, 7, 0)),
  (16, (.caload, 17, 0, 0, 0, 0)),
  (17, (.iload_n 1, 18, 0, 0, 0, 0)),
  (18, (.if_icmp .ne 7, 21, 25, 0, 0, 0)),
  (21, (.iconst 1, 22, 0, 0, 0, 0)),
  (22, (.goto 4, 25, 26, 0, 0, 0)),
  (25, (.iconst 0, 26, 0, 0, 0, 0)),
  (26, (.ireturn, 27, 0, 0, 0, 0))]
def am_r63 : List (Nat × am_R) := [(0, (.aload_n 1, 1, 0, 0, 0, 0)),
  (1, (.getfield 141, 4, 4, 0, 39, 0)),
  (4, (.istore_n 2, 5, 0, 0, 0, 0)),
  (5, (.iload_n 2, 6, 0, 0, 0, 0)),
  (6, (.iconst 5, 7, 0, 0, 0, 0)),
  (7, (.if_icmp .lt 12, 10, 19, 0, 0, 0)),
  (10, (.aload_n 0, 11, 0, 0, 0, 0)),
  (11, (.getfield 9, 14, 0, 1, 20, 0)),
  (14, (.iconst 5, 15, 0, 0, 0, 0)),
  (15, (.invokevirtual 74, 18, 52, 1, 68, 7)),
  (18, (.ireturn, 19, 0, 0, 0, 0)),
  (19, (.aload_n 0, 20, 0, 0, 0, 0)),
  (20, (.getfield 9, 23, 0, 1, 20, 0)),
  (23, (.invokevirtual 96, 26, 18, 0, 69, 7)),
  (26, (.aload_n 0, 27, 0, 0, 0, 0)),
  (27, (.aload_n 1, 28, 0, 0, 0, 0)),
  (28, (.invokevirtual 99, 31, 53, 1, 70, 1)),
  (31, (.ifCond .ne 5, 34, 36, 0, 0, 0)),
  (34, (.iconst 0, 35, 0, 0, 0, 0)),
  (35, (.ireturn, 36, 0, 0, 0, 0)),
  (36, (.aload_n 1, 37, 0, 0, 0, 0)),
  (37, (.getfield 144, 40, 5, 0, 42, 0)),
  (40, (.iload_n 2, 41, 0, 0, 0, 0)),
  (41, (.aload_n 0, 42, 0, 0, 0, 0)),
  (42, (.getfield 9, 45, 0, 1, 20, 0)),
  (45, (.getfield 82, 48, 5, 7, 9, 0)),
  (48, (.lastore, 49, 0, 0, 0, 0)),
  (49, (.aload_n 0, 50, 0, 0, 0, 0)),
  (50, (.getfield 9, 53, 0, 1, 20, 0)),
  (53, (.invokevirtual 96, 56, 18, 0, 69, 7)),
  (56, (.aload_n 0, 57, 0, 0, 0, 0)),
  (57, (.getfield 9, 60, 0, 1, 20, 0)),
  (60, (.ldc 147, 62, 0, 1, 9, 0)),
  (62, (.invokevirtual 116, 65, 58, 1, 75, 7)),
  (65, (.ifCond .eq 16, 68, 81, 0, 0, 0)),
  (68, (.aload_n 0, 69, 0, 0, 0, 0)),
  (69, (.getfield 9, 72, 0, 1, 20, 0)),
  (72, (.iconst 0, 73, 0, 0, 0, 0)),
  (73, (.bipush 6, 75, 0, 0, 0, 0)),
  (75, (.invokevirtual 119, 78, 59, 2, 78, 7)),
  (78, (.ifCond .ne 5, 81, 83, 0, 0, 0)),
  (81, (.iconst 0, 82, 0, 0, 0, 0)),
  (82, (.ireturn, 83, 0, 0, 0, 0)),
  (83, (.aload_n 1, 84, 0, 0, 0, 0)),
  (84, (.getfield 149, 87, 6, 0, 45, 0)),
  (87, (.iload_n 2, 88, 0, 0, 0, 0)),
  (88, (.aload_n 0, 89, 0, 0, 0, 0)),
  (89, (.getfield 9, 92, 0, 1, 20, 0)),
  (92, (.getfield 126, 95, 6, 7, 12, 0)),
  (95, (.iastore, 96, 0, 0, 0, 0)),
  (96, (.aload_n 0, 97, 0, 0, 0, 0)),
  (97, (.getfield 9, 100, 0, 1, 20, 0)),
  (100, (.invokevirtual 96, 103, 18, 0, 69, 7)),
  (103, (.aload_n 0, 104, 0, 0, 0, 0)),
  (104, (.getfield 9, 107, 0, 1, 20, 0)),
  (107, (.ldc 152, 109, 0, 1, 10, 0)),
  (109, (.invokevirtual 116, 112, 58, 1, 75, 7)),
  (112, (.ifCond .eq 16, 115, 128, 0, 0, 0)),
  (115, (.aload_n 0, 116, 0, 0, 0, 0)),
  (116, (.getfield 9, 119, 0, 1, 20, 0)),
  (119, (.iconst 1, 120, 0, 0, 0, 0)),
  (120, (.bipush 6, 122, 0, 0, 0, 0)),
  (122, (.invokevirtual 119, 125, 59, 2, 78, 7)),
  (125, (.ifCond .ne 5, 128, 130, 0, 0, 0)),
  (128, (.iconst 0, 129, 0, 0, 0, 0)),
  (129, (.ireturn, 130, 0, 0, 0, 0)),
  (130, (.aload_n 1, 131, 0, 0, 0, 0)),
  (131, (.getfield 154, 134, 7, 0, 48, 0)),
  (134, (.iload_n 2, 135, 0, 0, 0, 0)),
  (135, (.aload_n 0, 136, 0, 0, 0, 0)),
  (136, (.getfield 9, 139, 0, 1, 20, 0)),
  (139, (.getfield 126, 142, 6, 7, 12, 0)),
  (142, (.iastore, 143, 0, 0, 0, 0)),
  (143, (.aload_n 1, 144, 0, 0, 0, 0)),
  (144, (.getfield 156, 147, 8, 0, 51, 0)),
  (147, (.iload_n 2, 148, 0, 0, 0, 0)),
  (148, (.iconst 0, 149, 0, 0, 0, 0)),
  (149, (.iastore, 150, 0, 0, 0, 0)),
  (150, (.aload_n 0, 151, 0, 0, 0, 0)),
  (151, (.getfield 9, 154, 0, 1, 20, 0)),
  (154, (.invokevirtual 96, 157, 18, 0, 69, 7)),
  (157, (.aload_n 1, 158, 0, 0, 0, 0)),
  (158, (.dup, 159, 0, 0, 0, 0)),
  (159, (.getfield 141, 162, 4, 0, 39, 0)),
  (162, (.iconst 1, 163, 0, 0, 0, 0)),
  (163, (.iadd, 164, 0, 0, 0, 0)),
  (164, (.putfield 141, 167, 4, 0, 39, 0)),
  (167, (.aload_n 0, 168, 0, 0, 0, 0)),
  (168, (.getfield 9, 171, 0, 1, 20, 0)),
  (171, (.bipush 59, 173, 0, 0, 0, 0)),
  (173, (.invokevirtual 129, 176, 61, 1, 79, 7)),
  (176, (.ireturn, 177, 0, 0, 0, 0))]
def am_r64 : List (Nat × am_R) := [(0, (.aload_n 0, 1, 0, 0, 0, 0)),
  (1, (.getfield 9, 4, 0, 1, 20, 0)),
  (4, (.invokevirtual 96, 7, 18, 0, 69, 7)),
  (7, (.aload_n 0, 8, 0, 0, 0, 0)),
  (8, (.getfield 9, 11, 0, 1, 20, 0)),
  (11, (.invokevirtual 78, 14, 54, 0, 71, 7)),
  (14, (.ifCond .ne 12, 17, 26, 0, 0, 0)),
  (17, (.aload_n 0, 18, 0, 0, 0, 0)),
  (18, (.getfield 9, 21, 0, 1, 20, 0)),
  (21, (.iconst 1, 22, 0, 0, 0, 0)),
  (22, (.invokevirtual 74, 25, 52, 1, 68, 7)),
  (25, (.ireturn, 26, 0, 0, 0, 0)),
  (26, (.aload_n 1, 27, 0, 0, 0, 0)),
  (27, (.aload_n 0, 28, 0, 0, 0, 0)),
  (28, (.getfield 9, 31, 0, 1, 20, 0)),
  (31, (.getfield 82, 34, 5, 7, 9, 0)),
  (34, (.invokevirtual 86, 37, 55, 1, 72, 0)),
  (37, (.istore_n 2, 38, 0, 0, 0, 0)),
  (38, (.iload_n 2, 39, 0, 0, 0, 0)),
  (39, (.iconst (-1), 40, 0, 0, 0, 0)),
  (40, (.if_icmp .ne 12, 43, 52, 0, 0, 0)),
  (43, (.aload_n 0, 44, 0, 0, 0, 0)),
  (44, (.getfield 9, 47, 0, 1, 20, 0)),
  (47, (.iconst 2, 48, 0, 0, 0, 0)),
  (48, (.invokevirtual 74, 51, 52, 1, 68, 7)),
  (51, (.ireturn, 52, 0, 0, 0, 0)),
  (52, (.aload_n 0, 53, 0, 0, 0, 0)),
  (53, (.getfield 9, 56, 0, 1, 20, 0)),
  (56, (.invokevirtual 96, 59, 18, 0, 69, 7)),
  (59, (.aload_n 0, 60, 0, 0, 0, 0)),
  (60, (.getfield 9, 63, 0, 1, 20, 0)),
  (63, (.invokevirtual 78, 66, 54, 0, 71, 7)),
  (66, (.ifCond .ne 12, 69, 78, 0, 0, 0)),
  (69, (.aload_n 0, 70, 0, 0, 0, 0)),
  (70, (.getfield 9, 73, 0, 1, 20, 0)),
  (73, (.iconst 1, 74, 0, 0, 0, 0)),
  (74, (.invokevirtual 74, 77, 52, 1, 68, 7)),
  (77, (.ireturn, 78, 0, 0, 0, 0)),
  (78, (.aload_n 1, 79, 0, 0, 0, 0)),
  (79, (.aload_n 0, 80, 0, 0, 0, 0)),
  (80, (.getfield 9, 83, 0, 1, 20, 0)),
  (83, (.getfield 82, 86, 5, 7, 9, 0)),
  (86, (.invokevirtual 90, 89, 56, 1, 73, 0)),
  (89, (.istore_n 3, 90, 0, 0, 0, 0)),
  (90, (.iload_n 3, 91, 0, 0, 0, 0)),
  (91, (.iconst (-1), 92, 0, 0, 0, 0)),
  (92, (.if_icmp .ne 12, 95, 104, 0, 0, 0)),
  (95, (.aload_n 0, 96, 0, 0, 0, 0)),
  (96, (.getfield 9, 99, 0, 1, 20, 0)),
  (99, (.iconst 2, 100, 0, 0, 0, 0)),
  (100, (.invokevirtual 74, 103, 52, 1, 68, 7)),
  (103, (.ireturn, 104, 0, 0, 0, 0)),
  (104, (.aload_n 1, 105, 0, 0, 0, 0)),
  (105, (.getfield 156, 108, 8, 0, 51, 0)),
  (108, (.iload_n 3, 109, 0, 0, 0, 0)),
  (109, (.iaload, 110, 0, 0, 0, 0)),
  (110, (.iload_n 2, 111, 0, 0, 0, 0)),
  (111, (.invokestatic 159, 114, 65, 2, 1, 1)),
  (114, (.ifCond .eq 12, 117, 126, 0, 0, 0)),
  (117, (.aload_n 0, 118, 0, 0, 0, 0)),
  (118, (.getfield 9, 121, 0, 1, 20, 0)),
  (121, (.iconst 3, 122, 0, 0, 0, 0)),
  (122, (.invokevirtual 74, 125, 52, 1, 68, 7)),
  (125, (.ireturn, 126, 0, 0, 0, 0)),
  (126, (.aload_n 1, 127, 0, 0, 0, 0)),
  (127, (.getfield 156, 130, 8, 0, 51, 0)),
  (130, (.iload_n 3, 131, 0, 0, 0, 0)),
  (131, (.dup2, 132, 0, 0, 0, 0)),
  (132, (.iaload, 133, 0, 0, 0, 0)),
  (133, (.iconst 1, 134, 0, 0, 0, 0)),
  (134, (.iload_n 2, 135, 0, 0, 0, 0)),
  (135, (.ishl, 136, 0, 0, 0, 0)),
  (136, (.ior, 137, 0, 0, 0, 0)),
  (137, (.iastore, 138, 0, 0, 0, 0)),
  (138, (.aload_n 0, 139, 0, 0, 0, 0)),
  (139, (.getfield 9, 142, 0, 1, 20, 0)),
  (142, (.invokevirtual 96, 145, 18, 0, 69, 7)),
  (145, (.aload_n 0, 146, 0, 0, 0, 0)),
  (146, (.getfield 9, 149, 0, 1, 20, 0)),
  (149, (.bipush 59, 151, 0, 0, 0, 0)),
  (151, (.invokevirtual 129, 154, 61, 1, 79, 7)),
  (154, (.ireturn, 155, 0, 0, 0, 0))]
def am_r65 : List (Nat × am_R) := [(0, (.iload_n 0, 1, 0, 0, 0, 0)),
  (1, (.iload_n 1, 2, 0, 0, 0, 0)),
  (2, (.ishr, 3, 0, 0, 0, 0)),
  (3, (.iconst 1, 4, 0, 0, 0, 0)),
  (4, (.iand, 5, 0, 0, 0, 0)),
  (5, (.ifCond .eq 7, 8, 12, 0, 0, 0)),
  (8, (.iconst 1, 9, 0, 0, 0, 0)),
  (9, (.goto 4, 12, 13, 0, 0, 0)),
  (12, (.iconst 0, 13, 0, 0, 0, 0)),
  (13, (.ireturn, 14, 0, 0, 0, 0))]
def am_r66 : List (Nat × am_R) := [(0, (.aload_n 1, 1, 0, 0, 0, 0)),
  (1, (.getfield 162, 4, 9, 0, 53, 0)),
  (4, (.ifCond .eq 12, 7, 16, 0, 0, 0)),
  (7, (.aload_n 0, 8, 0, 0, 0, 0)),
  (8, (.getfield 9, 11, 0, 1, 20, 0)),
  (11, (.iconst 3, 12, 0, 0, 0, 0)),
  (12, (.invokevirtual 74, 15, 52, 1, 68, 7)),
  (15, (.ireturn, 16, 0, 0, 0, 0)),
  (16, (.aload_n 1, 17, 0, 0, 0, 0)),
  (17, (.iconst 1, 18, 0, 0, 0, 0)),
  (18, (.putfield 162, 21, 9, 0, 53, 0)),
  (21, (.aload_n 0, 22, 0, 0, 0, 0)),
  (22, (.getfield 9, 25, 0, 1, 20, 0)),
  (25, (.invokevirtual 96, 28, 18, 0, 69, 7)),
  (28, (.aload_n 0, 29, 0, 0, 0, 0)),
  (29, (.aload_n 1, 30, 0, 0, 0, 0)),
  (30, (.invokevirtual 166, 33, 67, 1, 84, 1)),
  (33, (.istore_n 2, 34, 0, 0, 0, 0)),
  (34, (.iconst 0, 35, 0, 0, 0, 0)),
  (35, (.istore_n 3, 36, 0, 0, 0, 0)),
  (36, (.iload_n 2, 37, 0, 0, 0, 0)),
  (37, (.ifCond .eq 33, 40, 70, 0, 0, 0)),
  (40, (.aload_n 0, 41, 0, 0, 0, 0)),
  (41, (.getfield 9, 44, 0, 1, 20, 0)),
  (44, (.getfield 34, 47, 2, 7, 3, 0)),
  (47, (.iconst 2, 48, 0, 0, 0, 0)),
  (48, (.if_icmp .ne 22, 51, 70, 0, 0, 0)),
  (51, (.iload_n 3, 52, 0, 0, 0, 0)),
  (52, (.sipush 1000, 55, 0, 0, 0, 0)),
  (55, (.if_icmp .ge 15, 58, 70, 0, 0, 0)),
  (58, (.aload_n 0, 59, 0, 0, 0, 0)),
  (59, (.aload_n 1, 60, 0, 0, 0, 0)),
  (60, (.invokevirtual 166, 63, 67, 1, 84, 1)),
  (63, (.istore_n 2, 64, 0, 0, 0, 0)),
  (64, (.iinc 3 1, 67, 0, 0, 0, 0)),
  (67, (.goto (-31), 70, 36, 0, 0, 0)),
  (70, (.iload_n 2, 71, 0, 0, 0, 0)),
  (71, (.ifCond .eq 19, 74, 90, 0, 0, 0)),
  (74, (.aload_n 0, 75, 0, 0, 0, 0)),
  (75, (.getfield 9, 78, 0, 1, 20, 0)),
  (78, (.bipush 59, 80, 0, 0, 0, 0)),
  (80, (.invokevirtual 129, 83, 61, 1, 79, 7)),
  (83, (.ifCond .eq 7, 86, 90, 0, 0, 0)),
  (86, (.iconst 1, 87, 0, 0, 0, 0)),
  (87, (.goto 4, 90, 91, 0, 0, 0)),
  (90, (.iconst 0, 91, 0, 0, 0, 0)),
  (91, (.ireturn, 92, 0, 0, 0, 0))]
def am_r67 : List (Nat × am_R) := [(0, (.aload_n 0, 1, 0, 0, 0, 0)),
  (1, (.getfield 9, 4, 0, 1, 20, 0)),
  (4, (.getfield 34, 7, 2, 7, 3, 0)),
  (7, (.iconst 2, 8, 0, 0, 0, 0)),
  (8, (.if_icmp .ne 19, 11, 27, 0, 0, 0)),
  (11, (.aload_n 0, 12, 0, 0, 0, 0)),
  (12, (.getfield 9, 15, 0, 1, 20, 0)),
  (15, (.getfield 126, 18, 6, 7, 12, 0)),
  (18, (.bipush 28, 20, 0, 0, 0, 0)),
  (20, (.if_icmp .ge 7, 23, 27, 0, 0, 0)),
  (23, (.iconst 1, 24, 0, 0, 0, 0)),
  (24, (.goto 4, 27, 28, 0, 0, 0)),
  (27, (.iconst 0, 28, 0, 0, 0, 0)),
  (28, (.istore_n 2, 29, 0, 0, 0, 0)),
  (29, (.iload_n 2, 30, 0, 0, 0, 0)),
  (30, (.ifCond .eq 26, 33, 56, 0, 0, 0)),
  (33, (.aload_n 1, 34, 0, 0, 0, 0)),
  (34, (.aload_n 0, 35, 0, 0, 0, 0)),
  (35, (.getfield 9, 38, 0, 1, 20, 0)),
  (38, (.getfield 126, 41, 6, 7, 12, 0)),
  (41, (.invokevirtual 169, 44, 68, 1, 85, 0)),
  (44, (.ifCond .eq 12, 47, 56, 0, 0, 0)),
  (47, (.aload_n 0, 48, 0, 0, 0, 0)),
  (48, (.getfield 9, 51, 0, 1, 20, 0)),
  (51, (.iconst 3, 52, 0, 0, 0, 0)),
  (52, (.invokevirtual 74, 55, 52, 1, 68, 7)),
  (55, (.ireturn, 56, 0, 0, 0, 0)),
  (56, (.aload_n 0, 57, 0, 0, 0, 0)),
  (57, (.getfield 9, 60, 0, 1, 20, 0)),
  (60, (.iconst 0, 61, 0, 0, 0, 0)),
  (61, (.bipush 27, 63, 0, 0, 0, 0)),
  (63, (.invokevirtual 119, 66, 59, 2, 78, 7)),
  (66, (.ifCond .ne 5, 69, 71, 0, 0, 0)),
  (69, (.iconst 0, 70, 0, 0, 0, 0)),
  (70, (.ireturn, 71, 0, 0, 0, 0)),
  (71, (.aload_n 1, 72, 0, 0, 0, 0)),
  (72, (.getfield 172, 75, 10, 0, 55, 0)),
  (75, (.invokestatic 174, 78, 69, 1, 86, 0)),
  (78, (.bipush 8, 80, 0, 0, 0, 0)),
  (80, (.if_icmp .lt 12, 83, 92, 0, 0, 0)),
  (83, (.aload_n 0, 84, 0, 0, 0, 0)),
  (84, (.getfield 9, 87, 0, 1, 20, 0)),
  (87, (.iconst 5, 88, 0, 0, 0, 0)),
  (88, (.invokevirtual 74, 91, 52, 1, 68, 7)),
  (91, (.ireturn, 92, 0, 0, 0, 0)),
  (92, (.aload_n 1, 93, 0, 0, 0, 0)),
  (93, (.dup, 94, 0, 0, 0, 0)),
  (94, (.getfield 172, 97, 10, 0, 55, 0)),
  (97, (.iconst 1, 98, 0, 0, 0, 0)),
  (98, (.aload_n 0, 99, 0, 0, 0, 0)),
  (99, (.getfield 9, 102, 0, 1, 20, 0)),
  (102, (.getfield 126, 105, 6, 7, 12, 0)),
  (105, (.ishl, 106, 0, 0, 0, 0)),
  (106, (.ior, 107, 0, 0, 0, 0)),
  (107, (.putfield 172, 110, 10, 0, 55, 0)),
  (110, (.aload_n 0, 111, 0, 0, 0, 0)),
  (111, (.getfield 9, 114, 0, 1, 20, 0)),
  (114, (.invokevirtual 96, 117, 18, 0, 69, 7)),
  (117, (.iconst 1, 118, 0, 0, 0, 0)),
  (118, (.ireturn, 119, 0, 0, 0, 0))]
def am_r68 : List (Nat × am_R) := [(0, (.aload_n 0, 1, 0, 0, 0, 0)),
  (1, (.getfield 52, 4, 10, 0, 54, 0)),
  (4, (.iload_n 1, 5, 0, 0, 0, 0)),
  (5, (.bipush 28, 7, 0, 0, 0, 0)),
  (7, (.irem, 8, 0, 0, 0, 0)),
  (8, (.invokestatic 61, 11, 65, 2, 2, 1)),
  (11, (.ireturn, 12, 0, 0, 0, 0))]
def am_r69 : List (Nat × am_R) := [(0, (.iload_n 0, 1, 0, 0, 0, 0)),
  (1, (.iload_n 0, 2, 0, 0, 0, 0)),
  (2, (.iconst 1, 3, 0, 0, 0, 0)),
  (3, (.iushr, 4, 0, 0, 0, 0)),
  (4, (.ldc_w 265, 7, 0, 0, 3, 0)),
  (7, (.iand, 8, 0, 0, 0, 0)),
  (8, (.isub, 9, 0, 0, 0, 0)),
  (9, (.istore_n 0, 10, 0, 0, 0, 0)),
  (10, (.iload_n 0, 11, 0, 0, 0, 0)),
  (11, (.ldc_w 266, 14, 0, 0, 4, 0)),
  (14, (.iand, 15, 0, 0, 0, 0)),
  (15, (.iload_n 0, 16, 0, 0, 0, 0)),
  (16, (.iconst 2, 17, 0, 0, 0, 0)),
  (17, (.iushr, 18, 0, 0, 0, 0)),
  (18, (.ldc_w 266, 21, 0, 0, 4, 0)),
  (21, (.iand, 22, 0, 0, 0, 0)),
  (22, (.iadd, 23, 0, 0, 0, 0)),
  (23, (.istore_n 0, 24, 0, 0, 0, 0)),
  (24, (.iload_n 0, 25, 0, 0, 0, 0)),
  (25, (.iload_n 0, 26, 0, 0, 0, 0)),
  (26, (.iconst 4, 27, 0, 0, 0, 0)),
  (27, (.iushr, 28, 0, 0, 0, 0)),
  (28, (.iadd, 29, 0, 0, 0, 0)),
  (29, (.ldc_w 267, 32, 0, 0, 5, 0)),
  (32, (.iand, 33, 0, 0, 0, 0)),
  (33, (.istore_n 0, 34, 0, 0, 0, 0)),
  (34, (.iload_n 0, 35, 0, 0, 0, 0)),
  (35, (.iload_n 0, 36, 0, 0, 0, 0)),
  (36, (.bipush 8, 38, 0, 0, 0, 0)),
  (38, (.iushr, 39, 0, 0, 0, 0)),
  (39, (.iadd, 40, 0, 0, 0, 0)),
  (40, (.istore_n 0, 41, 0, 0, 0, 0)),
  (41, (.iload_n 0, 42, 0, 0, 0, 0)),
  (42, (.iload_n 0, 43, 0, 0, 0, 0)),
  (43, (.bipush 16, 45, 0, 0, 0, 0)),
  (45, (.iushr, 46, 0, 0, 0, 0)),
  (46, (.iadd, 47, 0, 0, 0, 0)),
  (47, (.istore_n 0, 48, 0, 0, 0, 0)),
  (48, (.iload_n 0, 49, 0, 0, 0, 0)),
  (49, (.bipush 63, 51, 0, 0, 0, 0)),
  (51, (.iand, 52, 0, 0, 0, 0)),
  (52, (.ireturn, 53, 0, 0, 0, 0))]
def am_r70 : List (Nat × am_R) := [(0, (.aload_n 1, 1, 0, 0, 0, 0)),
  (1, (.getfield 15, 4, 11, 0, 56, 0)),
  (4, (.ifCond .eq 12, 7, 16, 0, 0, 0)),
  (7, (.aload_n 0, 8, 0, 0, 0, 0)),
  (8, (.getfield 9, 11, 0, 4, 19, 0)),
  (11, (.iconst 3, 12, 0, 0, 0, 0)),
  (12, (.invokevirtual 23, 15, 52, 1, 88, 7)),
  (15, (.ireturn, 16, 0, 0, 0, 0)),
  (16, (.aload_n 1, 17, 0, 0, 0, 0)),
  (17, (.iconst 1, 18, 0, 0, 0, 0)),
  (18, (.putfield 15, 21, 11, 0, 56, 0)),
  (21, (.aload_n 0, 22, 0, 0, 0, 0)),
  (22, (.getfield 9, 25, 0, 4, 19, 0)),
  (25, (.invokevirtual 27, 28, 18, 0, 89, 7)),
  (28, (.aload_n 0, 29, 0, 0, 0, 0)),
  (29, (.aload_n 1, 30, 0, 0, 0, 0)),
  (30, (.getfield 30, 33, 12, 0, 59, 0)),
  (33, (.iconst 0, 34, 0, 0, 0, 0)),
  (34, (.invokevirtual 34, 37, 71, 2, 90, 4)),
  (37, (.ifCond .eq 19, 40, 56, 0, 0, 0)),
  (40, (.aload_n 0, 41, 0, 0, 0, 0)),
  (41, (.getfield 9, 44, 0, 4, 19, 0)),
  (44, (.bipush 59, 46, 0, 0, 0, 0)),
  (46, (.invokevirtual 38, 49, 61, 1, 99, 7)),
  (49, (.ifCond .eq 7, 52, 56, 0, 0, 0)),
  (52, (.iconst 1, 53, 0, 0, 0, 0)),
  (53, (.goto 4, 56, 57, 0, 0, 0)),
  (56, (.iconst 0, 57, 0, 0, 0, 0)),
  (57, (.ireturn, 58, 0, 0, 0, 0))]
def am_r71 : List (Nat × am_R) := [(0, (.aload_n 0, 1, 0, 0, 0, 0)),
  (1, (.aload_n 1, 2, 0, 0, 0, 0)),
  (2, (.iload_n 2, 3, 0, 0, 0, 0)),
  (3, (.invokevirtual 42, 6, 72, 2, 91, 4)),
  (6, (.istore_n 3, 7, 0, 0, 0, 0)),
  (7, (.iconst 0, 8, 0, 0, 0, 0)),
  (8, (.istore 4, 10, 0, 0, 0, 0)),
  (10, (.iload_n 3, 11, 0, 0, 0, 0)),
  (11, (.ifCond .eq 81, 14, 92, 0, 0, 0)),
  (14, (.iload 4, 16, 0, 0, 0, 0)),
  (16, (.sipush 1000, 19, 0, 0, 0, 0)),
  (19, (.if_icmp .ge 73, 22, 92, 0, 0, 0)),
  (22, (.aload_n 0, 23, 0, 0, 0, 0)),
  (23, (.getfield 9, 26, 0, 4, 19, 0)),
  (26, (.ldc 45, 28, 0, 1, 19, 0)),
  (28, (.invokevirtual 47, 31, 44, 1, 96, 7)),
  (31, (.ifCond .eq 8, 34, 39, 0, 0, 0)),
  (34, (.bipush (-6), 36, 0, 0, 0, 0)),
  (36, (.goto 21, 39, 57, 0, 0, 0)),
  (39, (.aload_n 0, 40, 0, 0, 0, 0)),
  (40, (.getfield 9, 43, 0, 4, 19, 0)),
  (43, (.ldc 53, 45, 0, 1, 20, 0)),
  (45, (.invokevirtual 47, 48, 44, 1, 96, 7)),
  (48, (.ifCond .eq 8, 51, 56, 0, 0, 0)),
  (51, (.bipush (-7), 53, 0, 0, 0, 0)),
  (53, (.goto 4, 56, 57, 0, 0, 0)),
  (56, (.iconst 0, 57, 0, 0, 0, 0)),
  (57, (.istore 5, 59, 0, 0, 0, 0)),
  (59, (.iload 5, 61, 0, 0, 0, 0)),
  (61, (.ifCond .ne 5, 64, 66, 0, 0, 0)),
  (64, (.iconst 1, 65, 0, 0, 0, 0)),
  (65, (.ireturn, 66, 0, 0, 0, 0)),
  (66, (.aload_n 0, 67, 0, 0, 0, 0)),
  (67, (.getfield 9, 70, 0, 4, 19, 0)),
  (70, (.invokevirtual 27, 73, 18, 0, 89, 7)),
  (73, (.aload_n 0, 74, 0, 0, 0, 0)),
  (74, (.aload_n 1, 75, 0, 0, 0, 0)),
  (75, (.iload_n 2, 76, 0, 0, 0, 0)),
  (76, (.invokevirtual 42, 79, 72, 2, 91, 4)),
  (79, (.istore_n 3, 80, 0, 0, 0, 0)),
  (80, (.aload_n 1, 81, 0, 0, 0, 0)),
  (81, (.iload 5, 83, 0, 0, 0, 0)),
  (83, (.invokevirtual 55, 86, 77, 1, 98, 3)),
  (86, (.iinc 4 1, 89, 0, 0, 0, 0)),
  (89, (.goto (-79), 92, 10, 0, 0, 0)),
  (92, (.iload_n 3, 93, 0, 0, 0, 0)),
  (93, (.ireturn, 94, 0, 0, 0, 0))]
def am_r72 : List (Nat × am_R) := [(0, (.aload_n 0, 1, 0, 0, 0, 0)),
  (1, (.aload_n 1, 2, 0, 0, 0, 0)),
  (2, (.iload_n 2, 3, 0, 0, 0, 0)),
  (3, (.invokevirtual 59, 6, 73, 2, 92, 4)),
  (6, (.ifCond .ne 5, 9, 11, 0, 0, 0)),
  (9, (.iconst 0, 10, 0, 0, 0, 0)),
  (10, (.ireturn, 11, 0, 0, 0, 0)),
  (11, (.aload_n 0, 12, 0, 0, 0, 0)),
  (12, (.getfield 9, 15, 0, 4, 19, 0)),
  (15, (.bipush 60, 17, 0, 0, 0, 0)),
  (17, (.invokevirtual 62, 20, 62, 1, 97, 7)),
  (20, (.ifCond .eq 8, 23, 28, 0, 0, 0)),
  (23, (.bipush (-8), 25, 0, 0, 0, 0)),
  (25, (.goto 21, 28, 46, 0, 0, 0)),
  (28, (.aload_n 0, 29, 0, 0, 0, 0)),
  (29, (.getfield 9, 32, 0, 4, 19, 0)),
  (32, (.bipush 61, 34, 0, 0, 0, 0)),
  (34, (.invokevirtual 62, 37, 62, 1, 97, 7)),
  (37, (.ifCond .eq 8, 40, 45, 0, 0, 0)),
  (40, (.bipush (-9), 42, 0, 0, 0, 0)),
  (42, (.goto 4, 45, 46, 0, 0, 0)),
  (45, (.iconst 0, 46, 0, 0, 0, 0)),
  (46, (.istore_n 3, 47, 0, 0, 0, 0)),
  (47, (.iload_n 3, 48, 0, 0, 0, 0)),
  (48, (.ifCond .ne 5, 51, 53, 0, 0, 0)),
  (51, (.iconst 1, 52, 0, 0, 0, 0)),
  (52, (.ireturn, 53, 0, 0, 0, 0)),
  (53, (.aload_n 0, 54, 0, 0, 0, 0)),
  (54, (.getfield 9, 57, 0, 4, 19, 0)),
  (57, (.invokevirtual 27, 60, 18, 0, 89, 7)),
  (60, (.aload_n 0, 61, 0, 0, 0, 0)),
  (61, (.aload_n 1, 62, 0, 0, 0, 0)),
  (62, (.iload_n 2, 63, 0, 0, 0, 0)),
  (63, (.invokevirtual 59, 66, 73, 2, 92, 4)),
  (66, (.istore 4, 68, 0, 0, 0, 0)),
  (68, (.aload_n 1, 69, 0, 0, 0, 0)),
  (69, (.iload_n 3, 70, 0, 0, 0, 0)),
  (70, (.invokevirtual 55, 73, 77, 1, 98, 3)),
  (73, (.iload 4, 75, 0, 0, 0, 0)),
  (75, (.ireturn, 76, 0, 0, 0, 0))]
def am_r73 : List (Nat × am_R) := [(0, (.aload_n 0, 1, 0, 0, 0, 0)),
  (1, (.aload_n 1, 2, 0, 0, 0, 0)),
  (2, (.iload_n 2, 3, 0, 0, 0, 0)),
  (3, (.invokevirtual 65, 6, 74, 2, 93, 4)),
  (6, (.istore_n 3, 7, 0, 0, 0, 0)),
  (7, (.iconst 0, 8, 0, 0, 0, 0)),
  (8, (.istore 4, 10, 0, 0, 0, 0)),
  (10, (.iload_n 3, 11, 0, 0, 0, 0)),
  (11, (.ifCond .eq 81, 14, 92, 0, 0, 0)),
  (14, (.iload 4, 16, 0, 0, 0, 0)),
  (16, (.sipush 1000, 19, 0, 0, 0, 0)),
  (19, (.if_icmp .ge 73, 22, 92, 0, 0, 0)),
  (22, (.aload_n 0, 23, 0, 0, 0, 0)),
  (23, (.getfield 9, 26, 0, 4, 19, 0)),
  (26, (.bipush 43, 28, 0, 0, 0, 0)),
  (28, (.invokevirtual 62, 31, 62, 1, 97, 7)),
  (31, (.ifCond .eq 8, 34, 39, 0, 0, 0)),
  (34, (.bipush (-10), 36, 0, 0, 0, 0)),
  (36, (.goto 21, 39, 57, 0, 0, 0)),
  (39, (.aload_n 0, 40, 0, 0, 0, 0)),
  (40, (.getfield 9, 43, 0, 4, 19, 0)),
  (43, (.bipush 45, 45, 0, 0, 0, 0)),
  (45, (.invokevirtual 62, 48, 62, 1, 97, 7)),
  (48, (.ifCond .eq 8, 51, 56, 0, 0, 0)),
  (51, (.bipush (-11), 53, 0, 0, 0, 0)),
  (53, (.goto 4, 56, 57, 0, 0, 0)),
  (56, (.iconst 0, 57, 0, 0, 0, 0)),
  (57, (.istore 5, 59, 0, 0, 0, 0)),
  (59, (.iload 5, 61, 0, 0, 0, 0)),
  (61, (.ifCond .ne 5, 64, 66, 0, 0, 0)),
  (64, (.iconst 1, 65, 0, 0, 0, 0)),
  (65, (.ireturn, 66, 0, 0, 0, 0)),
  (66, (.aload_n 0, 67, 0, 0, 0, 0)),
  (67, (.getfield 9, 70, 0, 4, 19, 0)),
  (70, (.invokevirtual 27, 73, 18, 0, 89, 7)),
  (73, (.aload_n 0, 74, 0, 0, 0, 0)),
  (74, (.aload_n 1, 75, 0, 0, 0, 0)),
  (75, (.iload_n 2, 76, 0, 0, 0, 0)),
  (76, (.invokevirtual 65, 79, 74, 2, 93, 4)),
  (79, (.istore_n 3, 80, 0, 0, 0, 0)),
  (80, (.aload_n 1, 81, 0, 0, 0, 0)),
  (81, (.iload 5, 83, 0, 0, 0, 0)),
  (83, (.invokevirtual 55, 86, 77, 1, 98, 3)),
  (86, (.iinc 4 1, 89, 0, 0, 0, 0)),
  (89, (.goto (-79), 92, 10, 0, 0, 0)),
  (92, (.iload_n 3, 93, 0, 0, 0, 0)),
  (93, (.ireturn, 94, 0, 0, 0, 0))]
def am_r74 : List (Nat × am_R) := [(0, (.aload_n 0, 1, 0, 0, 0, 0)),
  (1, (.aload_n 1, 2, 0, 0, 0, 0)),
  (2, (.iload_n 2, 3, 0, 0, 0, 0)),
  (3, (.invokevirtual 68, 6, 75, 2, 94, 4)),
  (6, (.istore_n 3, 7, 0, 0, 0, 0)),
  (7, (.iconst 0, 8, 0, 0, 0, 0)),
  (8, (.istore 4, 10, 0, 0, 0, 0)),
  (10, (.iload_n 3, 11, 0, 0, 0, 0)),
  (11, (.ifCond .eq 51, 14, 62, 0, 0, 0)),
  (14, (.iload 4, 16, 0, 0, 0, 0)),
  (16, (.sipush 1000, 19, 0, 0, 0, 0)),
  (19, (.if_icmp .ge 43, 22, 62, 0, 0, 0)),
  (22, (.aload_n 0, 23, 0, 0, 0, 0)),
  (23, (.getfield 9, 26, 0, 4, 19, 0)),
  (26, (.bipush 42, 28, 0, 0, 0, 0)),
  (28, (.invokevirtual 62, 31, 62, 1, 97, 7)),
  (31, (.ifCond .ne 5, 34, 36, 0, 0, 0)),
  (34, (.iconst 1, 35, 0, 0, 0, 0)),
  (35, (.ireturn, 36, 0, 0, 0, 0)),
  (36, (.aload_n 0, 37, 0, 0, 0, 0)),
  (37, (.getfield 9, 40, 0, 4, 19, 0)),
  (40, (.invokevirtual 27, 43, 18, 0, 89, 7)),
  (43, (.aload_n 0, 44, 0, 0, 0, 0)),
  (44, (.aload_n 1, 45, 0, 0, 0, 0)),
  (45, (.iload_n 2, 46, 0, 0, 0, 0)),
  (46, (.invokevirtual 68, 49, 75, 2, 94, 4)),
  (49, (.istore_n 3, 50, 0, 0, 0, 0)),
  (50, (.aload_n 1, 51, 0, 0, 0, 0)),
  (51, (.bipush (-12), 53, 0, 0, 0, 0)),
  (53, (.invokevirtual 55, 56, 77, 1, 98, 3)),
  (56, (.iinc 4 1, 59, 0, 0, 0, 0)),
  (59, (.goto (-49), 62, 10, 0, 0, 0)),
  (62, (.iload_n 3, 63, 0, 0, 0, 0)),
  (63, (.ireturn, 64, 0, 0, 0, 0))]
def am_r75 : List (Nat × am_R) := [(0, (.aload_n 0, 1, 0, 0, 0, 0)),
  (1, (.invokevirtual 71, 4, 76, 0, 95, 4)),
  (4, (.istore_n 3, 5, 0, 0, 0, 0)),
  (5, (.aload_n 0, 6, 0, 0, 0, 0)),
  (6, (.getfield 9, 9, 0, 4, 19, 0)),
  (9, (.getfield 75, 12, 2, 7, 6, 0)),
  (12, (.iconst 2, 13, 0, 0, 0, 0)),
  (13, (.if_icmp .ne 7, 16, 20, 0, 0, 0)),
  (16, (.iconst 1, 17, 0, 0, 0, 0)),
  (17, (.goto 4, 20, 21, 0, 0, 0)),
  (20, (.iconst 0, 21, 0, 0, 0, 0)),
  (21, (.istore 4, 23, 0, 0, 0, 0)),
  (23, (.aload_n 0, 24, 0, 0, 0, 0)),
  (24, (.getfield 9, 27, 0, 4, 19, 0)),
  (27, (.ldc 79, 29, 0, 1, 18, 0)),
  (29, (.invokevirtual 47, 32, 44, 1, 96, 7)),
  (32, (.istore 5, 34, 0, 0, 0, 0)),
  (34, (.iload_n 3, 35, 0, 0, 0, 0)),
  (35, (.ifCond .ne 34, 38, 69, 0, 0, 0)),
  (38, (.iload 4, 40, 0, 0, 0, 0)),
  (40, (.ifCond .ne 29, 43, 69, 0, 0, 0)),
  (43, (.iload 5, 45, 0, 0, 0, 0)),
  (45, (.ifCond .ne 24, 48, 69, 0, 0, 0)),
  (48, (.aload_n 0, 49, 0, 0, 0, 0)),
  (49, (.getfield 9, 52, 0, 4, 19, 0)),
  (52, (.bipush 40, 54, 0, 0, 0, 0)),
  (54, (.invokevirtual 62, 57, 62, 1, 97, 7)),
  (57, (.ifCond .ne 12, 60, 69, 0, 0, 0)),
  (60, (.aload_n 0, 61, 0, 0, 0, 0)),
  (61, (.getfield 9, 64, 0, 4, 19, 0)),
  (64, (.iconst 1, 65, 0, 0, 0, 0)),
  (65, (.invokevirtual 23, 68, 52, 1, 88, 7)),
  (68, (.ireturn, 69, 0, 0, 0, 0)),
  (69, (.iload_n 2, 70, 0, 0, 0, 0)),
  (70, (.iconst 5, 71, 0, 0, 0, 0)),
  (71, (.if_icmp .lt 12, 74, 83, 0, 0, 0)),
  (74, (.aload_n 0, 75, 0, 0, 0, 0)),
  (75, (.getfield 9, 78, 0, 4, 19, 0)),
  (78, (.iconst 5, 79, 0, 0, 0, 0)),
  (79, (.invokevirtual 23, 82, 52, 1, 88, 7)),
  (82, (.ireturn, 83, 0, 0, 0, 0)),
  (83, (.iload 4, 85, 0, 0, 0, 0)),
  (85, (.ifCond .ne 7, 88, 92, 0, 0, 0)),
  (88, (.iload_n 3, 89, 0, 0, 0, 0)),
  (89, (.ifCond .eq 32, 92, 121, 0, 0, 0)),
  (92, (.aload_n 1, 93, 0, 0, 0, 0)),
  (93, (.iload 4, 95, 0, 0, 0, 0)),
  (95, (.ifCond .eq 13, 98, 108, 0, 0, 0)),
  (98, (.aload_n 0, 99, 0, 0, 0, 0)),
  (99, (.getfield 9, 102, 0, 4, 19, 0)),
  (102, (.getfield 81, 105, 6, 7, 15, 0)),
  (105, (.goto 4, 108, 109, 0, 0, 0)),
  (108, (.iload_n 3, 109, 0, 0, 0, 0)),
  (109, (.invokevirtual 55, 112, 77, 1, 98, 3)),
  (112, (.aload_n 0, 113, 0, 0, 0, 0)),
  (113, (.getfield 9, 116, 0, 4, 19, 0)),
  (116, (.invokevirtual 27, 119, 18, 0, 89, 7)),
  (119, (.iconst 1, 120, 0, 0, 0, 0)),
  (120, (.ireturn, 121, 0, 0, 0, 0)),
  (121, (.aload_n 0, 122, 0, 0, 0, 0)),
  (122, (.getfield 9, 125, 0, 4, 19, 0)),
  (125, (.invokevirtual 27, 128, 18, 0, 89, 7)),
  (128, (.iload 5, 130, 0, 0, 0, 0)),
  (130, (.ifCond .eq 22, 133, 152, 0, 0, 0)),
  (133, (.aload_n 0, 134, 0, 0, 0, 0)),
  (134, (.aload_n 1, 135, 0, 0, 0, 0)),
  (135, (.iload_n 2, 136, 0, 0, 0, 0)),
  (136, (.iconst 1, 137, 0, 0, 0, 0)),
  (137, (.iadd, 138, 0, 0, 0, 0)),
  (138, (.invokevirtual 68, 141, 75, 2, 94, 4)),
  (141, (.istore 6, 143, 0, 0, 0, 0)),
  (143, (.aload_n 1, 144, 0, 0, 0, 0)),
  (144, (.bipush (-5), 146, 0, 0, 0, 0)),
  (146, (.invokevirtual 55, 149, 77, 1, 98, 3)),
  (149, (.iload 6, 151, 0, 0, 0, 0)),
  (151, (.ireturn, 152, 0, 0, 0, 0)),
  (152, (.aload_n 0, 153, 0, 0, 0, 0)),
  (153, (.aload_n 1, 154, 0, 0, 0, 0)),
  (154, (.iload_n 2, 155, 0, 0, 0, 0)),
  (155, (.iconst 1, 156, 0, 0, 0, 0)),
  (156, (.iadd, 157, 0, 0, 0, 0)),
  (157, (.invokevirtual 34, 160, 71, 2, 90, 4)),
  (160, (.ifCond .eq 19, 163, 179, 0, 0, 0)),
  (163, (.aload_n 0, 164, 0, 0, 0, 0)),
  (164, (.getfield 9, 167, 0, 4, 19, 0)),
  (167, (.bipush 41, 169, 0, 0, 0, 0)),
  (169, (.invokevirtual 38, 172, 61, 1, 99, 7)),
  (172, (.ifCond .eq 7, 175, 179, 0, 0, 0)),
  (175, (.iconst 1, 176, 0, 0, 0, 0)),
  (176, (.goto 4, 179, 180, 0, 0, 0)),
  (179, (.iconst 0, 180, 0, 0, 0, 0)),
  (180, (.ireturn, 181, 0, 0, 0, 0))]
def am_r76 : List (Nat × am_R) := [(0, (.aload_n 0, 1, 0, 0, 0, 0)),
  (1, (.getfield 9, 4, 0, 4, 19, 0)),
  (4, (.ldc 84, 6, 0, 1, 14, 0)),
  (6, (.invokevirtual 47, 9, 44, 1, 96, 7)),
  (9, (.ifCond .eq 5, 12, 14, 0, 0, 0)),
  (12, (.iconst (-1), 13, 0, 0, 0, 0)),
  (13, (.ireturn, 14, 0, 0, 0, 0)),
  (14, (.aload_n 0, 15, 0, 0, 0, 0)),
  (15, (.getfield 9, 18, 0, 4, 19, 0)),
  (18, (.ldc 86, 20, 0, 1, 15, 0)),
  (20, (.invokevirtual 47, 23, 44, 1, 96, 7)),
  (23, (.ifCond .eq 6, 26, 29, 0, 0, 0)),
  (26, (.bipush (-2), 28, 0, 0, 0, 0)),
  (28, (.ireturn, 29, 0, 0, 0, 0)),
  (29, (.aload_n 0, 30, 0, 0, 0, 0)),
  (30, (.getfield 9, 33, 0, 4, 19, 0)),
  (33, (.ldc 88, 35, 0, 1, 16, 0)),
  (35, (.invokevirtual 47, 38, 44, 1, 96, 7)),
  (38, (.ifCond .eq 6, 41, 44, 0, 0, 0)),
  (41, (.bipush (-3), 43, 0, 0, 0, 0)),
  (43, (.ireturn, 44, 0, 0, 0, 0)),
  (44, (.aload_n 0, 45, 0, 0, 0, 0)),
  (45, (.getfield 9, 48, 0, 4, 19, 0)),
  (48, (.ldc 90, 50, 0, 1, 17, 0)),
  (50, (.invokevirtual 47, 53, 44, 1, 96, 7)),
  (53, (.ifCond .eq 8, 56, 61, 0, 0, 0)),
  (56, (.bipush (-4), 58, 0, 0, 0, 0)),
  (58, (.goto 4, 61, 62, 0, 0, 0)),
  (61, (.iconst 0, 62, 0, 0, 0, 0)),
  (62, (.ireturn, 63, 0, 0, 0, 0))]
def am_r77 : List (Nat × am_R) := [(0, (.aload_n 0, 1, 0, 0, 0, 0)),
  (1, (.getfield 18, 4, 2, 3, 25, 0)),
  (4, (.sipush 1000, 7, 0, 0, 0, 0)),
  (7, (.if_icmp .ge 23, 10, 30, 0, 0, 0)),
  (10, (.aload_n 0, 11, 0, 0, 0, 0)),
  (11, (.getfield 9, 14, 0, 3, 23, 0)),
  (14, (.aload_n 0, 15, 0, 0, 0, 0)),
  (15, (.getfield 18, 18, 2, 3, 25, 0)),
  (18, (.iload_n 1, 19, 0, 0, 0, 0)),
  (19, (.iastore, 20, 0, 0, 0, 0)),
  (20, (.aload_n 0, 21, 0, 0, 0, 0)),
  (21, (.dup, 22, 0, 0, 0, 0)),
  (22, (.getfield 18, 25, 2, 3, 25, 0)),
  (25, (.iconst 1, 26, 0, 0, 0, 0)),
  (26, (.iadd, 27, 0, 0, 0, 0)),
  (27, (.putfield 18, 30, 2, 3, 25, 0)),
  (30, (.return_, 31, 0, 0, 0, 0))]
def am_r78 : List (Nat × am_R) := [(0, (.aload_n 0, 1, 0, 0, 0, 0)),
  (1, (.getfield 55, 4, 7, 10, 107, 0)),
  (4, (.aload_n 0, 5, 0, 0, 0, 0)),
  (5, (.getfield 35, 8, 3, 10, 103, 0)),
  (8, (.invokevirtual 104, 11, 79, 1, 101, 6)),
  (11, (.aload_n 0, 12, 0, 0, 0, 0)),
  (12, (.getfield 45, 15, 5, 10, 105, 0)),
  (15, (.iconst 0, 16, 0, 0, 0, 0)),
  (16, (.putfield 108, 19, 3, 8, 70, 0)),
  (19, (.aload_n 0, 20, 0, 0, 0, 0)),
  (20, (.getfield 69, 23, 10, 10, 110, 0)),
  (23, (.iconst 0, 24, 0, 0, 0, 0)),
  (24, (.putfield 109, 27, 2, 2, 91, 0)),
  (27, (.aload_n 0, 28, 0, 0, 0, 0)),
  (28, (.iconst 0, 29, 0, 0, 0, 0)),
  (29, (.putfield 80, 32, 12, 10, 112, 0)),
  (32, (.aload_n 0, 33, 0, 0, 0, 0)),
  (33, (.bipush 31, 35, 0, 0, 0, 0)),
  (35, (.putfield 84, 38, 13, 10, 113, 0)),
  (38, (.iconst 0, 39, 0, 0, 0, 0)),
  (39, (.istore_n 1, 40, 0, 0, 0, 0)),
  (40, (.iload_n 1, 41, 0, 0, 0, 0)),
  (41, (.iconst 4, 42, 0, 0, 0, 0)),
  (42, (.if_icmp .ge 19, 45, 61, 0, 0, 0)),
  (45, (.aload_n 0, 46, 0, 0, 0, 0)),
  (46, (.getfield 75, 49, 11, 10, 111, 0)),
  (49, (.iload_n 1, 50, 0, 0, 0, 0)),
  (50, (.aaload, 51, 0, 0, 0, 0)),
  (51, (.iconst 0, 52, 0, 0, 0, 0)),
  (52, (.putfield 110, 55, 0, 5, 93, 0)),
  (55, (.iinc 1 1, 58, 0, 0, 0, 0)),
  (58, (.goto (-18), 61, 40, 0, 0, 0)),
  (61, (.return_, 62, 0, 0, 0, 0))]
def am_r79 : List (Nat × am_R) := [(0, (.aload_n 0, 1, 0, 0, 0, 0)),
  (1, (.iconst 0, 2, 0, 0, 0, 0)),
  (2, (.putfield 24, 5, 0, 6, 71, 0)),
  (5, (.aload_n 0, 6, 0, 0, 0, 0)),
  (6, (.iconst 0, 7, 0, 0, 0, 0)),
  (7, (.putfield 28, 10, 1, 6, 74, 0)),
  (10, (.iconst 0, 11, 0, 0, 0, 0)),
  (11, (.istore_n 2, 12, 0, 0, 0, 0)),
  (12, (.iload_n 2, 13, 0, 0, 0, 0)),
  (13, (.bipush 6, 15, 0, 0, 0, 0)),
  (15, (.if_icmp .ge 28, 18, 43, 0, 0, 0)),
  (18, (.aload_n 0, 19, 0, 0, 0, 0)),
  (19, (.getfield 9, 22, 2, 6, 76, 0)),
  (22, (.iload_n 2, 23, 0, 0, 0, 0)),
  (23, (.aload_n 1, 24, 0, 0, 0, 0)),
  (24, (.getfield 31, 27, 3, 0, 36, 0)),
  (27, (.iload_n 2, 28, 0, 0, 0, 0)),
  (28, (.iaload, 29, 0, 0, 0, 0)),
  (29, (.iastore, 30, 0, 0, 0, 0)),
  (30, (.aload_n 0, 31, 0, 0, 0, 0)),
  (31, (.getfield 15, 34, 3, 6, 79, 0)),
  (34, (.iload_n 2, 35, 0, 0, 0, 0)),
  (35, (.iconst 0, 36, 0, 0, 0, 0)),
  (36, (.iastore, 37, 0, 0, 0, 0)),
  (37, (.iinc 2 1, 40, 0, 0, 0, 0)),
  (40, (.goto (-28), 43, 12, 0, 0, 0)),
  (43, (.iconst 0, 44, 0, 0, 0, 0)),
  (44, (.istore_n 2, 45, 0, 0, 0, 0)),
  (45, (.iload_n 2, 46, 0, 0, 0, 0)),
  (46, (.iconst 5, 47, 0, 0, 0, 0)),
  (47, (.if_icmp .ge 23, 50, 70, 0, 0, 0)),
  (50, (.aload_n 0, 51, 0, 0, 0, 0)),
  (51, (.getfield 18, 54, 4, 6, 82, 0)),
  (54, (.iload_n 2, 55, 0, 0, 0, 0)),
  (55, (.iconst 0, 56, 0, 0, 0, 0)),
  (56, (.iastore, 57, 0, 0, 0, 0)),
  (57, (.aload_n 0, 58, 0, 0, 0, 0)),
  (58, (.getfield 21, 61, 5, 6, 85, 0)),
  (61, (.iload_n 2, 62, 0, 0, 0, 0)),
  (62, (.iconst 0, 63, 0, 0, 0, 0)),
  (63, (.iastore, 64, 0, 0, 0, 0)),
  (64, (.iinc 2 1, 67, 0, 0, 0, 0)),
  (67, (.goto (-22), 70, 45, 0, 0, 0)),
  (70, (.return_, 71, 0, 0, 0, 0))]
def am_inf_1 : List (List (Nat × am_R) × Nat × Option FieldType) := [(am_r40, 2, (Option.some Jvm.ClassFile.FieldType.boolean)), (am_r41, 1, (Option.some Jvm.ClassFile.FieldType.char)), (am_r42, 1, (Option.some Jvm.ClassFile.FieldType.char)), (am_r43, 2, (Option.some Jvm.ClassFile.FieldType.boolean)), (am_r44, 5, (Option.some Jvm.ClassFile.FieldType.boolean)), (am_r45, 2, (Option.some Jvm.ClassFile.FieldType.char)), (am_r46, 2, (Option.some Jvm.ClassFile.FieldType.char)), (am_r47, 2, (Option.none : Option Jvm.ClassFile.FieldType)), (am_r48, 3, (Option.some Jvm.ClassFile.FieldType.int)), (am_r49, 2, (Option.some Jvm.ClassFile.FieldType.char)), (am_r50, 2, (Option.none : Option Jvm.ClassFile.FieldType)), (am_r51, 4, (Option.some Jvm.ClassFile.FieldType.boolean)), (am_r52, 2, (Option.some Jvm.ClassFile.FieldType.boolean)), (am_r53, 3, (Option.some Jvm.ClassFile.FieldType.boolean)), (am_r54, 4, (Option.some Jvm.ClassFile.FieldType.boolean)), (am_r55, 4, (Option.some Jvm.ClassFile.FieldType.int)), (am_r56, 4, (Option.some Jvm.ClassFile.FieldType.int)), (am_r57, 1, (Option.some Jvm.ClassFile.FieldType.int)), (am_r58, 2, (Option.some Jvm.ClassFile.FieldType.boolean)), (am_r59, 3, (Option.some Jvm.ClassFile.FieldType.boolean)), (am_r60, 3, (Option.some Jvm.ClassFile.FieldType.boolean)), (am_r61, 2, (Option.some Jvm.ClassFile.FieldType.boolean)), (am_r62, 2, (Option.some Jvm.ClassFile.FieldType.boolean)), (am_r63, 3, (Option.some Jvm.ClassFile.FieldType.boolean)), (am_r64, 4, (Option.some Jvm.ClassFile.FieldType.boolean)), (am_r65, 2, (Option.some Jvm.ClassFile.FieldType.boolean)), (am_r66, 4, (Option.some Jvm.ClassFile.FieldType.boolean)), (am_r67, 3, (Option.some Jvm.ClassFile.FieldType.boolean)), (am_r68, 2, (Option.some Jvm.ClassFile.FieldType.boolean)), (am_r69, 1, (Option.some Jvm.ClassFile.FieldType.int)), (am_r70, 2, (Option.some Jvm.ClassFile.FieldType.boolean)), (am_r71, 6, (Option.some Jvm.ClassFile.FieldType.boolean)), (am_r72, 5, (Option.some Jvm.ClassFile.FieldType.boolean)), (am_r73, 6, (Option.some Jvm.ClassFile.FieldType.boolean)), (am_r74, 5, (Option.some Jvm.ClassFile.FieldType.boolean)), (am_r75, 7, (Option.some Jvm.ClassFile.FieldType.boolean)), (am_r76, 1, (Option.some Jvm.ClassFile.FieldType.int)), (am_r77, 2, (Option.none : Option Jvm.ClassFile.FieldType)), (am_r78, 2, (Option.none : Option Jvm.ClassFile.FieldType)), (am_r79, 3, (Option.none : Option Jvm.ClassFile.FieldType))]
theorem am_ck_1_0 : ((am_mi_1.zip am_inf_1).take 10).all am_chk = true := am_chkD_all (by decide +kernel)
theorem am_ck_1_1 : (((am_mi_1.zip am_inf_1).drop 10).take 10).all am_chk = true := am_chkD_all (by decide +kernel)
theorem am_ck_1_2 : (((am_mi_1.zip am_inf_1).drop 20).take 10).all am_chk = true := am_chkD_all (by decide +kernel)
theorem am_ck_1_3 : (((am_mi_1.zip am_inf_1).drop 30)).all am_chk = true := am_chkD_all (by decide +kernel)
theorem am_ck_1 : (am_mi_1.zip am_inf_1).all am_chk = true := am_all_cut _ 10 _ am_ck_1_0 (am_all_cut _ 10 _ am_ck_1_1 (by
  rw [List.drop_drop]
  exact am_all_cut _ 10 _ am_ck_1_2 (by
    rw [List.drop_drop]
    exact am_ck_1_3)))
end
