section
/-! WORDS, ROWS, WORLD: what the tables give, when a row is right, the cells that an abstract heap stands for -/
theorem am_mem_of {α : Type} {f : Cond → Option α} {L : List α} (h : lw_tbl.filterMap f = L) {k : Nat} {x : α} (hk : L[k]? = some x) : ∃ w, w ∈ lw_tbl ∧ f w = some x := by
  have h1 := List.mem_of_getElem? hk
  rw [← h] at h1
  exact List.mem_filterMap.mp h1
theorem am_mem_in {α : Type} {f : Cond → Option α} {x : α} (h1 : x ∈ lw_tbl.filterMap f) : ∃ w, w ∈ lw_tbl ∧ f w = some x := List.mem_filterMap.mp h1
def am_gw : List Cond := lw_tbl.filter goodWord
theorem am_gw_of {w : Cond} (h : w ∈ lw_tbl) (hg : goodWord w = true) : w ∈ am_gw := List.mem_filter.mpr ⟨h, hg⟩
theorem am_gw_code {n : Nat} {q : MethodName × ByteArray × Nat × Option FieldType} (h : am_mi[n]? = some q) : Cond.code q.1 q.2.1 q.2.2.1 q.2.2.2 ∈ am_gw := by
  have hm := List.mem_of_getElem? h
  rw [← am_mi_eq] at hm
  have hm2 : q ∈ lw_tbl.filterMap am_isCode := by
    rcases List.mem_append.mp hm with z | z
    · exact List.mem_of_mem_take z
    · rcases List.mem_append.mp z with z | z
      · exact List.mem_of_mem_drop (List.mem_of_mem_take z)
      · exact List.mem_of_mem_drop z
  obtain ⟨w, h1, h2⟩ := List.mem_filterMap.mp hm2
  unfold am_isCode at h2
  split at h2
  · cases h2
    exact am_gw_of h1 rfl
  · cases h2
theorem am_gw_fl {k : Nat} {a b c d : String} {i : Nat} (h : am_fl[k]? = some (a, i, b, c, d)) : Cond.fieldLink a i b c d ∈ am_gw := by
  obtain ⟨w, h1, h2⟩ := am_mem_of am_fl_eq h
  unfold am_isFL at h2
  split at h2
  · cases h2
    exact am_gw_of h1 rfl
  · cases h2
theorem am_gw_cl {k : Nat} {a : String} {i : Nat} {v : Int64} (h : am_cl[k]? = some (a, i, v)) : Cond.constantLong a i v ∈ am_gw := by
  obtain ⟨w, h1, h2⟩ := am_mem_of am_cl_eq h
  unfold am_isCL at h2
  split at h2
  · cases h2
    exact am_gw_of h1 rfl
  · cases h2
theorem am_gw_ci {k : Nat} {a : String} {i : Nat} {v : Int32} (h : am_ci[k]? = some (a, i, v)) : Cond.constant a i v ∈ am_gw := by
  obtain ⟨w, h1, h2⟩ := am_mem_of am_ci_eq h
  unfold am_isCI at h2
  split at h2
  · cases h2
    exact am_gw_of h1 rfl
  · cases h2
theorem am_gw_ml {k n : Nat} {a : String} {i : Nat} (h : am_ml[k]? = some (a, i, n)) (hn : ¬ n = 999) : Cond.methodLink a i (am_y n) ∈ am_gw := by
  have hk : k < am_ml.length := (List.getElem?_eq_some_iff.mp h).1
  have hk2 : k < am_mlq.length := am_ml_eq.2 ▸ hk
  have hz : (am_ml.zip am_mlq)[k]? = some ((a, i, n), am_mlq[k]) := by
    rw [List.getElem?_zip_eq_some]
    exact ⟨h, List.getElem?_eq_getElem hk2⟩
  have h1 := List.all_eq_true.mp am_ml_eq.1 _ (List.mem_of_getElem? hz)
  simp only [Bool.and_eq_true, decide_eq_true_eq, Bool.or_eq_true] at h1
  obtain ⟨e1, e2, e3⟩ := h1
  have e3 := e3.resolve_right hn
  obtain ⟨w, w1, w2⟩ := am_mem_in (f := am_isML) (x := am_mlq[k]) (List.getElem_mem hk2)
  unfold am_isML at w2
  split at w2
  · have w2 := (Option.some.inj w2)
    rw [← w2] at e1 e2 e3
    rw [e1, e2, e3]
    exact am_gw_of w1 rfl
  · cases w2
def am_stw : List MethodName := lw_tbl.filterMap am_isSt
def am_inw : List MethodName := lw_tbl.filterMap am_isIn
def am_sew : List MethodName := lw_tbl.filterMap am_isSe
def am_iiw : List String := lw_tbl.filterMap am_isIi
theorem am_gw_st {y : MethodName} (h : y ∈ am_stw) : Cond.static y ∈ am_gw := by
  obtain ⟨w, h1, h2⟩ := am_mem_in h
  unfold am_isSt at h2
  split at h2
  · cases h2
    exact am_gw_of h1 rfl
  · cases h2
theorem am_gw_in {y : MethodName} (h : y ∈ am_inw) : Cond.instanceMethod y ∈ am_gw := by
  obtain ⟨w, h1, h2⟩ := am_mem_in h
  unfold am_isIn at h2
  split at h2
  · cases h2
    exact am_gw_of h1 rfl
  · cases h2
theorem am_gw_ii {y : String} (h : y ∈ am_iiw) : Cond.initialized y ∈ am_gw := by
  obtain ⟨w, h1, h2⟩ := am_mem_in h
  unfold am_isIi at h2
  split at h2
  · cases h2
    exact am_gw_of h1 rfl
  · cases h2
theorem am_gw_se {y : MethodName} (h : y ∈ am_sew) : Cond.selects y.cls y y ∈ am_gw := by
  obtain ⟨w, h1, h2⟩ := am_mem_in h
  unfold am_isSe at h2
  split at h2
  · rename_i c y' z
    by_cases hc : (decide (c = y'.cls) && decide (y' = z)) = true
    · rw [hc] at h2
      simp only [Bool.and_eq_true, decide_eq_true_eq] at hc
      obtain ⟨rfl, rfl⟩ := hc
      cases h2
      exact am_gw_of h1 rfl
    · rw [Bool.not_eq_true] at hc
      rw [hc] at h2
      cases h2
  · cases h2
/-- the length of an instruction; 0 for a switch -/
def am_len : Instr → Nat
  | .bipush _ | .ldc _ | .iload _ | .lload _ | .aload _ | .istore _ | .lstore _ | .astore _ | .newarray _ => 2
  | .sipush _ | .ldc_w _ | .ldc2_w _ | .iinc _ _ | .goto _ | .if_icmp _ _ | .ifCond _ _ | .getfield _ | .putfield _ | .getstatic _ | .invokevirtual _ | .invokestatic _ | .invokespecial _ | .new _ | .anewarray _ => 3
  | .tableswitch _ _ _ _ | .lookupswitch _ _ => 0
  | _ => 1
def am_nf (ci : Nat) : Nat := (am_kds.getD ci []).length
def am_fd (ci k : Nat) : String × String × String × Bool := match vwCl[ci]? with
  | some q => q.2.1 k
  | none => ("", "", "", false)
def am_cn (ci : Nat) : String := match vwCl[ci]? with
  | some q => q.1
  | none => ""
def am_prm (y : MethodName) : Option Nat := (parseMethodDescriptor y.desc).map (fun d => d.parameters.length)
def am_hd (y : MethodName) : Bool := decide (y.cls ≠ "java/lang/invoke/MethodHandle") && decide (y.cls ≠ "java/lang/invoke/VarHandle")
def am_tc : List FieldType := [.char, .int, .long, .boolean]
def am_atc : ArrayType → Nat
  | .char => 12
  | .int => 13
  | .long => 14
  | .boolean => 15
  | _ => 99
def am_ex (ini : Bool) (own : String) (pc : Nat) (i : Instr) (a b c d : Nat) : Bool := match i with
  | .goto o | .if_icmp _ o | .ifCond _ o => decide ((pc : Int) + o = (a : Int))
  | .getstatic k => (Nat.beq b 0 && decide (am_fl[c]? = some (own, k, "java/lang/String", "COMPACT_STRINGS", "Z")))
  | .getfield k => bif Nat.beq b 20 then (Nat.beq a 0 && decide (am_fl[c]? = some (own, k, "java/lang/String", "value", "[B"))) || (Nat.beq a 1 && decide (am_fl[c]? = some (own, k, "java/lang/String", "coder", "B"))) else decide (am_fl[c]? = some (own, k, (am_fd b a).1, (am_fd b a).2.1, (am_fd b a).2.2.1)) && (decide (b < 12) && decide (a < am_nf b))
  | .putfield k => decide (am_fl[c]? = some (own, k, (am_fd b a).1, (am_fd b a).2.1, (am_fd b a).2.2.1)) && (decide (b < 12) && (decide (a < am_nf b) && (!(am_fd b a).2.2.2 || (ini && decide ((am_fd b a).1 = own)))))
  | .ldc2_w k => decide ((am_cl[c]?).map (fun q => (q.1, q.2.1)) = some (own, k))
  | .ldc k => bif Nat.beq b 1 then decide ((am_stt[c]?).map (fun q => (q.1, q.2.1)) = some (own, k)) else decide ((am_ci[c]?).map (fun q => (q.1, q.2.1)) = some (own, k))
  | .ldc_w k => !(Nat.beq b 1) && decide ((am_ci[c]?).map (fun q => (q.1, q.2.1)) = some (own, k))
  | .new k => decide (am_ck[c]? = some (own, k, am_cn b)) && (decide (b < 12) && decide (am_cn b ∈ am_iiw))
  | .newarray t => Nat.beq b (am_atc t) && Nat.ble b 15
  | .anewarray k => (Nat.beq b 16 && decide (am_ck[c]? = some (own, k, "MistCanton$Mark"))) || (Nat.beq b 17 && decide (am_ck[c]? = some (own, k, "MistCanton$State")))
  | .invokespecial k => decide (am_ml[c]? = some (own, k, a)) && ((Nat.beq a 1 && Nat.beq b 0) || decide ((a, b) ∈ am_ils))
  | .invokevirtual k => decide (am_ml[c]? = some (own, k, a)) && (bif Nat.beq d 20 then decide ((a, b) ∈ am_svl) else decide ((a, b, d) ∈ am_vls))
  | .invokestatic k => (bif Nat.beq d 1 then decide (am_nl[c]? = some (own, k, a)) else decide (am_ml[c]? = some (own, k, a))) && decide ((a, b) ∈ am_sls)
  | _ => true
def am_okB (ini : Bool) (own : String) (cc : ByteArray) (pc : Nat) (r : am_R) : Bool := match r with
  | (i, nx, a, b, c, d) => match i with
    | .tableswitch df lo hi os => (match decode cc pc with
      | .ok (i', _) => decide (i' = .tableswitch df lo hi os)
      | _ => false) && (decide (0 ≤ (pc : Int) + df) && (os.toList.all (fun o => decide (0 ≤ (pc : Int) + o)) && decide ((os.size : Int) = hi - lo + 1)))
    | .lookupswitch df ps => (match decode cc pc with
      | .ok (i', _) => decide (i' = .lookupswitch df ps)
      | _ => false) && (decide (0 ≤ (pc : Int) + df) && (ps.toList.all (fun o => decide (0 ≤ (pc : Int) + o.2)) && (ps.toList.zip (ps.toList.drop 1)).all (fun (a, next) => a.1 < next.1)))
    | i => decide (decode cc pc = .ok (i, am_len i)) && (decide (nx = pc + am_len i) && am_ex ini own pc i a b c d)
/-- what the tables say of the methods that are called -/
def am_mok (n : Nat) : Bool := decide ((am_y n).cls ∈ am_iiw) && (decide (n < am_mi.length) && (decide (am_nL n ≤ 21) && (am_hd (am_y n) && !(Nat.beq n 999))))
theorem am_vls_ok : am_vls.all (fun q => decide (am_y q.1 ∈ am_inw) && (decide (am_y q.1 ∈ am_sew) && (decide (am_prm (am_y q.1) = some q.2.1) && (decide (am_cn q.2.2 = (am_y q.1).cls) && (decide (q.2.2 < 12) && am_mok q.1))))) = true := by decide +kernel
theorem am_svl_ok : am_svl.all (fun q => decide (am_y q.1 ∈ am_inw) && (decide (am_y q.1 ∈ am_sew) && (decide (am_prm (am_y q.1) = some q.2) && (decide ((am_y q.1).cls = "java/lang/String") && am_mok q.1)))) = true := by decide +kernel
theorem am_sls_ok : am_sls.all (fun q => decide (am_y q.1 ∈ am_stw) && (decide (am_prm (am_y q.1) = some q.2) && am_mok q.1)) = true := by decide +kernel
theorem am_ils_ok : am_ils.all (fun q => decide (am_y q.1 ∈ am_inw) && (decide (am_prm (am_y q.1) = some q.2) && (decide ((am_y q.1).name = "<init>") && (decide (am_rt q.1 = none) && am_mok q.1)))) = true := by decide +kernel
theorem am_iaw_ok : (List.range 12).all (fun ci => decide ((am_cn ci, am_nf ci) ∈ lw_tbl.filterMap am_isIa)) = true := by decide +kernel
theorem am_gw_ck {k : Nat} {a b : String} {i : Nat} (h : am_ck[k]? = some (a, i, b)) : Cond.classLink a i b ∈ am_gw := by
  obtain ⟨w, h1, h2⟩ := am_mem_of am_ck_eq h
  unfold am_isCk at h2
  split at h2
  · cases h2
    exact am_gw_of h1 rfl
  · cases h2
theorem am_gw_ia {a : String} {i : Nat} (h : (a, i) ∈ lw_tbl.filterMap am_isIa) : Cond.instantiable a i ∈ am_gw := by
  obtain ⟨w, h1, h2⟩ := am_mem_in h
  unfold am_isIa at h2
  split at h2
  · cases h2
    exact am_gw_of h1 rfl
  · cases h2
/-- values and cells -/
def am_cv (ad : Nat → Nat) : Value → Value
  | .ref a => .ref (ad a)
  | v => v
theorem am_cv_cat (ad : Nat → Nat) (v : Value) : (am_cv ad v).category = v.category := by cases v <;> rfl
def am_cl2 (ad : Nat → Nat) (lv : am_V) : am_V := lv.map (fun q => (q.1, am_cv ad q.2))
def am_cell (cA : Nat → ClassId) (ad : Nat → Nat) (h : am_H) (o : Nat) (e : Nat × Nat) : va_E :=
  if e.1 < 12 then .inr (e.1, (List.range (am_nf e.1)).map (fun k => am_cv ad (am_gv h e.1 k o)))
  else if e.1 = 14 then .inl (cA 14, e.2, .inr (.inl (h.2.1 o)))
  else if e.1 = 16 ∨ e.1 = 17 then .inl (cA e.1, e.2, .inr (.inr (.inr (.inr (fun j => (h.2.2.1 o j).map ad)))))
  else .inl (cA e.1, e.2, .inl (h.1 o))
def am_cc (cA : Nat → ClassId) (ad : Nat → Nat) (h : am_H) : va_W := (List.range h.2.2.2.2).map (fun o => (ad o, am_cell cA ad h o (am_shl.getD o (99, 0))))
theorem am_so_lt {h : am_H} {o : Nat} {e : Nat × Nat} (he : am_so h o = some e) : o < h.2.2.2.2 ∧ am_shl[o]? = some e := by
  unfold am_so at he
  cases hq : Nat.blt o h.2.2.2.2 with
  | true =>
    rw [hq] at he
    exact ⟨Nat.le_of_ble_eq_true hq, he⟩
  | false =>
    rw [hq] at he
    cases he
theorem am_cc_at {cA : Nat → ClassId} {ad : Nat → Nat} {h : am_H} {o : Nat} {e : Nat × Nat} (he : am_so h o = some e) : (am_cc cA ad h)[o]? = some (ad o, am_cell cA ad h o e) := by
  obtain ⟨hlt, he⟩ := am_so_lt he
  obtain ⟨hlt2, hv⟩ := List.getElem?_eq_some_iff.mp he
  simp [am_cc, hlt, hlt2, hv]
theorem am_cc_in {cA : Nat → ClassId} {ad : Nat → Nat} {h : am_H} {o : Nat} {q : Nat × va_E} (hq : (am_cc cA ad h)[o]? = some q) : o < h.2.2.2.2 ∧ q.1 = ad o := by
  unfold am_cc at hq
  rw [List.getElem?_map] at hq
  cases hr : (List.range h.2.2.2.2)[o]? with
  | none => rw [hr] at hq; cases hq
  | some x =>
    rw [hr] at hq
    obtain ⟨h1, h2⟩ := List.getElem?_eq_some_iff.mp hr
    have h3 : x = o := by rw [← h2]; simp
    cases hq
    exact ⟨by simpa using h1, by rw [h3]⟩
theorem am_cc_D {cA : Nat → ClassId} {ad : Nat → Nat} {base : Nat} {h : am_H} (hc : h.2.2.2.2 ≤ am_shl.length) (had : ∀ o, o < am_shl.length → ad o = base + o) : va_D (fun q => base ≤ q) (am_cc cA ad h) := by
  refine ⟨fun i j p q hi hj e => ?_, fun k q hk => ?_⟩
  · obtain ⟨a1, a2⟩ := am_cc_in hi
    obtain ⟨b1, b2⟩ := am_cc_in hj
    rw [a2, b2, had i (by omega), had j (by omega)] at e
    omega
  · obtain ⟨a1, a2⟩ := am_cc_in hk
    show base ≤ q.1
    rw [a2, had k (by omega)]
    omega
theorem am_cc_set {cA : Nat → ClassId} {ad : Nat → Nat} {h h' : am_H} {o : Nat} {e : Nat × Nat} (he : am_so h o = some e) (hn : h'.2.2.2.2 = h.2.2.2.2) (hs : ∀ o' e', o' ≠ o → am_cell cA ad h' o' e' = am_cell cA ad h o' e') :
    am_cc cA ad h' = (am_cc cA ad h).set o (ad o, am_cell cA ad h' o e) := by
  have he' : am_so h' o = some e := by unfold am_so; rw [hn]; exact he
  have hlt : o < h.2.2.2.2 := (am_so_lt he).1
  apply List.ext_getElem?
  intro k
  by_cases hk : k = o
  · subst hk
    rw [am_cc_at he', List.getElem?_set_self (by simp [am_cc, hlt])]
  · rw [List.getElem?_set_ne (fun q => hk q.symm)]
    simp only [am_cc, List.getElem?_map, hn]
    cases hr : (List.range h.2.2.2.2)[k]? with
    | none => rfl
    | some x =>
      obtain ⟨h1, h2⟩ := List.getElem?_eq_some_iff.mp hr
      have h3 : x = k := by rw [← h2]; simp
      subst h3
      simp only [Option.map_some]
      rw [hs _ _ hk]
theorem am_gv_new {h : am_H} {ci j o' : Nat} (hn : o' ≠ h.2.2.2.2) : am_gv (am_nx h) ci j o' = am_gv h ci j o' := by
  unfold am_gv am_nx
  split <;> simp [hn]
theorem am_cell_new {cA : Nat → ClassId} {ad : Nat → Nat} {h : am_H} (o' : Nat) (e' : Nat × Nat) (hn : o' ≠ h.2.2.2.2) : am_cell cA ad (am_nx h) o' e' = am_cell cA ad h o' e' := by
  unfold am_cell
  simp only [am_gv_new hn]
  simp [am_nx, hn]
theorem am_cc_new {cA : Nat → ClassId} {ad : Nat → Nat} {h : am_H} {e : Nat × Nat} (he : am_shl[h.2.2.2.2]? = some e) : am_cc cA ad (am_nx h) = am_cc cA ad h ++ [(ad h.2.2.2.2, am_cell cA ad (am_nx h) h.2.2.2.2 e)] := by
  obtain ⟨hlt2, hv⟩ := List.getElem?_eq_some_iff.mp he
  have h1 : (am_nx h).2.2.2.2 = h.2.2.2.2 + 1 := rfl
  unfold am_cc
  rw [h1, List.range_succ, List.map_append]
  congr 1
  · apply List.map_congr_left
    intro o ho
    have : o ≠ h.2.2.2.2 := by
      have := List.mem_range.mp ho
      omega
    rw [am_cell_new o _ this]
  · simp [hlt2, hv]
theorem am_gv_oI {h : am_H} {o k : Nat} {v : Int32} {ci j o' : Nat} (hn : o' ≠ o) : am_gv (am_wI h o k v) ci j o' = am_gv h ci j o' := by
  unfold am_gv am_wI
  split <;> simp [hn]
theorem am_gv_oL {h : am_H} {o k : Nat} {v : Int64} {ci j o' : Nat} (hn : o' ≠ o) : am_gv (am_wL h o k v) ci j o' = am_gv h ci j o' := by
  unfold am_gv am_wL
  split <;> simp [hn]
theorem am_gv_oR {h : am_H} {o k : Nat} {v : Option Nat} {ci j o' : Nat} (hn : o' ≠ o) : am_gv (am_wR h o k v) ci j o' = am_gv h ci j o' := by
  unfold am_gv am_wR
  split <;> simp [hn]
theorem am_cell_oI {cA : Nat → ClassId} {ad : Nat → Nat} {h : am_H} {o k : Nat} {v : Int32} (o' : Nat) (e' : Nat × Nat) (hn : o' ≠ o) : am_cell cA ad (am_wI h o k v) o' e' = am_cell cA ad h o' e' := by
  unfold am_cell
  simp only [am_gv_oI hn]
  simp [am_wI, hn]
theorem am_cell_oL {cA : Nat → ClassId} {ad : Nat → Nat} {h : am_H} {o k : Nat} {v : Int64} (o' : Nat) (e' : Nat × Nat) (hn : o' ≠ o) : am_cell cA ad (am_wL h o k v) o' e' = am_cell cA ad h o' e' := by
  unfold am_cell
  simp only [am_gv_oL hn]
  simp [am_wL, hn]
theorem am_cell_oR {cA : Nat → ClassId} {ad : Nat → Nat} {h : am_H} {o k : Nat} {v : Option Nat} (o' : Nat) (e' : Nat × Nat) (hn : o' ≠ o) : am_cell cA ad (am_wR h o k v) o' e' = am_cell cA ad h o' e' := by
  unfold am_cell
  simp only [am_gv_oR hn]
  simp [am_wR, hn]
end
section
/-! SOUNDNESS: a step of the abstract machine is a step of the machine -/
/-- the array classes in their order -/
def am_tys (cA : Nat → ClassId) : List (ClassId × FieldType) := [(cA 12, .char), (cA 13, .int), (cA 14, .long), (cA 15, .boolean), (cA 16, .object "MistCanton$Mark"), (cA 17, .object "MistCanton$State")]
def am_nw (U : State) : Prop := ∀ (k i n : Nat) (a : String), am_nl[k]? = some (a, i, n) → va_Nw (.methodLinkNest a i (am_y n) "MistCanton") U
/-- String constants, and the statics that their methods read -/
def am_SE (ad : Nat → Nat) (A : Nat → Prop) (U : State) (H : Heap) : Prop := (∀ i : Nat, i < 26 → vk_S 1 [am_sln.getD i 0] [am_sby.getD i []] (fun _ => ad (4000000 + i)) (fun _ => ad (5000000 + i)) A U H) ∧ (∀ (i k : Nat) (own tx : String), am_stt[i]? = some (own, k, tx) → vk_R own k tx (ad (4000000 + i)) U) ∧ va_Z "java/lang/String" "COMPACT_STRINGS" "Z" (.int 1) A U H ∧ (va_Z "jdk/internal/util/Preconditions" "SIOOBE_FORMATTER" "Ljava/util/function/BiFunction;" .null A U H ∨ va_Z "jdk/internal/util/Preconditions" "SIOOBE_FORMATTER" "Ljava/util/function/BiFunction;" (.ref (ad 6000000)) A U H)
def am_E (D : va_G) (cA : Nat → ClassId) (ad : Nat → Nat) (base b L : Nat) (xs : Nat → Int32) (U : State) : Prop := va_K D vwCl (am_tys cA) U ∧ am_nw U ∧ va_X b L xs U U.heap ∧ va_AO "MistCanton$Mark" U ∧ va_AO "MistCanton$State" U ∧ am_SE ad (fun q => base ≤ q) U U.heap
def am_ro (L : Nat) (xs : Nat → Int32) (h : am_H) : Prop := h.2.2.2.1 = L ∧ ∀ j, j < L → h.1 3000000 j = xs j
def am_G (ad : Nat → Nat) (base b L : Nat) : Prop := (∀ o, o < am_shl.length → ad o = base + o) ∧ ad 3000000 = b ∧ b < base ∧ L < 2 ^ 31
theorem am_SE.warm {ad : Nat → Nat} {A : Nat → Prop} {s U : State} (hW : s.WarmedH U.vm) (hq : ∀ a : Nat, a < s.heap.size → ¬ A a → U.heap[a]? = s.heap[a]?) (h : am_SE ad A s s.heap) : am_SE ad A U U.heap :=
  ⟨fun i hi => ((h.1 i hi).moved hW.alike).kept hq, fun i k own tx hk => (h.2.1 i k own tx hk).warm hW, (h.2.2.1.moved hW.alike).kept hq, h.2.2.2.imp (fun z => (z.moved hW.alike).kept hq) (fun z => (z.moved hW.alike).kept hq)⟩
theorem am_SE.calling {ad : Nat → Nat} {A : Nat → Prop} {U : State} {g : JFrame} {mk : MethodId} {a : Array Value} (h : am_SE ad A U U.heap) : am_SE ad A (U.calling g mk a) (U.calling g mk a).heap :=
  ⟨fun i hi => vk_S.moved (u := U) (U := U.calling g mk a) (Vm.Alike.refl U.vm) (h.1 i hi), fun i k own tx hk => vk_R.same (u := U) rfl (h.2.1 i k own tx hk), va_Z.moved (u := U) (U := U.calling g mk a) (Vm.Alike.refl U.vm) h.2.2.1, h.2.2.2.imp (fun z => va_Z.moved (u := U) (U := U.calling g mk a) (Vm.Alike.refl U.vm) z) (fun z => va_Z.moved (u := U) (U := U.calling g mk a) (Vm.Alike.refl U.vm) z)⟩
theorem am_E.warm {D : va_G} {cA : Nat → ClassId} {ad : Nat → Nat} {base b L : Nat} {xs : Nat → Int32} {s U : State} (hW : s.WarmedH U.vm) (hq : ∀ a : Nat, a < s.heap.size → ¬ base ≤ a → U.heap[a]? = s.heap[a]?) (hb1 : b < s.heap.size) (hb2 : ¬ base ≤ b) (h : am_E D cA ad base b L xs s) : am_E D cA ad base b L xs U :=
  ⟨h.1.moved hW.alike, fun k i n a hk => (h.2.1 k i n a hk).warmM hW, (h.2.2.1.moved hW.alike).kept (hq b hb1 hb2), h.2.2.2.1.moved hW.alike, h.2.2.2.2.1.moved hW.alike, h.2.2.2.2.2.warm hW hq⟩
theorem am_E.calling {D : va_G} {cA : Nat → ClassId} {ad : Nat → Nat} {base b L : Nat} {xs : Nat → Int32} {U : State} {g : JFrame} {mk : MethodId} {a : Array Value} (h : am_E D cA ad base b L xs U) : am_E D cA ad base b L xs (U.calling g mk a) :=
  ⟨va_K.moved (u := U) (U := U.calling g mk a) (Vm.Alike.refl U.vm) h.1, fun k i n x hk => va_Nw.same (u := U) rfl rfl (h.2.1 k i n x hk), va_X.moved (u := U) (U := U.calling g mk a) (Vm.Alike.refl U.vm) h.2.2.1, va_AO.moved (u := U) (U := U.calling g mk a) (Vm.Alike.refl U.vm) h.2.2.2.1, va_AO.moved (u := U) (U := U.calling g mk a) (Vm.Alike.refl U.vm) h.2.2.2.2.1, h.2.2.2.2.2.calling⟩
def am_A (base : Nat) : Nat → Prop := fun q => base ≤ q
def am_ws (n : Nat) : List Cond := Cond.code (am_y n) (am_by n) (am_nL n) (am_rt n) :: am_gw
def am_siz (e : Nat × Nat) : Nat := bif Nat.blt e.1 12 then am_nf e.1 else e.2
/-- the slots of the first k objects -/
def am_ss (k : Nat) : Nat := ((am_shl.take k).map am_siz).sum
theorem am_ss_succ {k : Nat} {e : Nat × Nat} (h : am_shl[k]? = some e) : am_ss (k + 1) = am_ss k + am_siz e := by
  unfold am_ss
  rw [List.take_succ, h]
  simp
theorem am_ss_mono {a b : Nat} (h : a ≤ b) : am_ss a ≤ am_ss b := by
  induction h with
  | refl => exact Nat.le_refl _
  | @step m _ ih =>
    cases hq : am_shl[m]? with
    | none =>
      refine Nat.le_trans ih (Nat.le_of_eq ?_)
      unfold am_ss
      rw [List.take_succ, hq]
      simp
    | some e =>
      rw [am_ss_succ hq]
      omega
def am_rm (d mc ms : Nat) : Room := { frames := d, cells := mc, slots := ms, locals := 40 * d }
def am_ms (n : Nat) (h : am_H) : Nat := am_ss (h.2.2.2.2 + am_al n) - am_ss h.2.2.2.2
/-- while objects are made they lie one behind the other -/
def am_wf (base : Nat) (h : am_H) (H : Heap) : Prop := h.2.2.2.2 ≤ am_shl.length ∧ (h.2.2.2.2 < am_shl.length → H.size = base + h.2.2.2.2)
def am_Pc (D : va_G) (cA : Nat → ClassId) (ad : Nat → Nat) (base b L : Nat) (xs : Nat → Int32) (args : List Value) (h : am_H) : Array Value → State → Prop :=
  va_Pc (args.map (am_cv ad)) (fun U => am_E D cA ad base b L xs U ∧ base ≤ U.heap.size ∧ va_P D vwCl (am_cc cA ad h) U.heap ∧ am_ro L xs h ∧ am_wf base h U.heap)
def am_Qc (D : va_G) (cA : Nat → ClassId) (ad : Nat → Nat) (base L : Nat) (xs : Nat → Int32) (Q : am_Q) : Array Value → State → Outcome → State → Prop := fun _ st o t =>
  (∃ v h', o = .returned (v.map (am_cv ad)) ∧ Q v h' ∧ va_P D vwCl (am_cc cA ad h') t.heap ∧ am_ro L xs h' ∧ h'.2.2.2.2 ≤ am_shl.length) ∧ va_F (am_A base) st t
theorem am_Pc.blind {D : va_G} {cA : Nat → ClassId} {ad : Nat → Nat} {base b L : Nat} {xs : Nat → Int32} {args : List Value} {h : am_H} : FrameBlind (am_Pc D cA ad base b L xs args h) := by
  intro a U g mk hp
  obtain ⟨h1, h2, h3, h4, h5, h6⟩ := hp
  exact ⟨h1, h2.calling, h3, h4, h5, h6⟩
theorem am_pI.inv {st : List Value} {k : Int32 → List Value → Prop} (h : am_pI st k) : ∃ x r, st = .int x :: r ∧ k x r := by
  unfold am_pI at h
  split at h
  · exact ⟨_, _, rfl, h⟩
  · exact h.elim
theorem am_pL.inv {st : List Value} {k : Int64 → List Value → Prop} (h : am_pL st k) : ∃ x r, st = .long x :: r ∧ k x r := by
  unfold am_pL at h
  split at h
  · exact ⟨_, _, rfl, h⟩
  · exact h.elim
theorem am_pR.inv {st : List Value} {k : Nat → List Value → Prop} (h : am_pR st k) : ∃ x r, st = .ref x :: r ∧ k x r := by
  unfold am_pR at h
  split at h
  · exact ⟨_, _, rfl, h⟩
  · exact h.elim
theorem am_pV.inv {st : List Value} {k : Value → List Value → Prop} (h : am_pV st k) : ∃ x r, st = x :: r ∧ k x r := by
  unfold am_pV at h
  split at h
  · exact ⟨_, _, rfl, h⟩
  · exact h.elim
theorem am_li.inv {lv : am_V} {i : Nat} {k : Int32 → Prop} (h : am_li lv i k) : ∃ x, am_lk lv i = some (.int x) ∧ k x := by
  unfold am_li at h
  split at h
  · exact ⟨_, ‹_›, h⟩
  · exact h.elim
theorem am_ll.inv {lv : am_V} {i : Nat} {k : Int64 → Prop} (h : am_ll lv i k) : ∃ x, am_lk lv i = some (.long x) ∧ k x := by
  unfold am_ll at h
  split at h
  · exact ⟨_, ‹_›, h⟩
  · exact h.elim
theorem am_la.inv {lv : am_V} {i : Nat} {k : Nat → Prop} (h : am_la lv i k) : ∃ x, am_lk lv i = some (.ref x) ∧ k x := by
  unfold am_la at h
  split at h
  · exact ⟨_, ‹_›, h⟩
  · exact h.elim
theorem am_lk_mem {lv : am_V} {i : Nat} {v : Value} (h : am_lk lv i = some v) : (i, v) ∈ lv := by
  induction lv with
  | nil => cases h
  | cons q r ih =>
    unfold am_lk at h
    cases hq : Nat.beq q.1 i with
    | true =>
      rw [hq] at h
      have e : q.1 = i := Nat.eq_of_beq_eq_true hq
      have e2 : q.2 = v := Option.some.inj h
      rw [← e, ← e2]
      exact List.mem_cons_self
    | false =>
      rw [hq] at h
      exact List.mem_cons_of_mem _ (ih h)
theorem am_lk_at {ad : Nat → Nat} {ls : Array Slot} {nL : Nat} {lv : am_V} {i : Nat} {v : Value} (hl : lv_has ls nL (am_cl2 ad lv)) (h : am_lk lv i = some v) : ls[i]? = some (.val (am_cv ad v)) :=
  hl.2.2 (i, am_cv ad v) (List.mem_map.mpr ⟨(i, v), am_lk_mem h, rfl⟩)
theorem am_lk_pl {ad : Nat → Nat} {lv : am_V} {i : Nat} {v : Value} (h : am_lk lv i = some v) : ∃ k : Nat, (am_cl2 ad lv)[k]? = some (i, am_cv ad v) := by
  obtain ⟨k, hk, e⟩ := List.getElem_of_mem (am_lk_mem h)
  exact ⟨k, by simp [am_cl2, hk, e]⟩
theorem am_s1_cl (ad : Nat → Nat) (lv : am_V) (i : Nat) (v : Value) : (i, am_cv ad v) :: (am_cl2 ad lv).filter (fun q => !(q.1 == i) && !(q.1 + 1 == i && q.2.category == 2)) = am_cl2 ad (am_s1 lv i v) := by
  simp only [am_cl2, am_s1, List.map_cons, List.filter_map]
  congr 2
  apply List.filter_congr
  intro q _
  simp [am_cv_cat]
theorem am_s2_cl (ad : Nat → Nat) (lv : am_V) (i : Nat) (v : Value) : (i, am_cv ad v) :: (am_cl2 ad lv).filter (fun q => !(q.1 == i) && (!(q.1 == i + 1) && !(q.1 + 1 == i && q.2.category == 2))) = am_cl2 ad (am_s2 lv i v) := by
  simp only [am_cl2, am_s2, List.map_cons, List.filter_map]
  congr 2
  apply List.filter_congr
  intro q _
  simp [am_cv_cat]
theorem am_pop_inv : ∀ {n : Nat} {acc st As r : List Value}, am_pop n acc st = some (As, r) → ∃ B, As = B ++ acc ∧ B.length = n ∧ st = B.reverse ++ r
  | 0, acc, st, As, r, h => by
    cases h
    exact ⟨[], rfl, rfl, rfl⟩
  | n + 1, acc, v :: st, As, r, h => by
    obtain ⟨B, h1, h2, h3⟩ := am_pop_inv (n := n) (acc := v :: acc) (st := st) h
    exact ⟨B ++ [v], by rw [h1]; simp, by simp [h2], by rw [h3]; simp⟩
  | n + 1, acc, [], As, r, h => by cases h
theorem am_len_sh : ∀ e ∈ am_shl, e.2 < 2 ^ 31 := by decide +kernel
theorem am_shl_len : am_shl.length = 175 := by decide +kernel
theorem am_sh_lt {o : Nat} {e : Nat × Nat} (h : am_shl[o]? = some e) : o < 175 := by
  have h1 := (List.getElem?_eq_some_iff.mp h).1
  rw [am_shl_len] at h1
  exact h1
theorem am_sh_cases {h : am_H} {o : Nat} {e : Nat × Nat} (he : am_sh h o = some e) : (o = 3000000 ∧ e = (13, h.2.2.2.1)) ∨ am_so h o = some e := by
  unfold am_sh at he
  cases hq : Nat.beq o 3000000 with
  | true =>
    rw [hq] at he
    exact Or.inl ⟨Nat.eq_of_beq_eq_true hq, (Option.some.inj he).symm⟩
  | false =>
    rw [hq] at he
    exact Or.inr he
theorem am_ro.wI {L : Nat} {xs : Nat → Int32} {h : am_H} {o k : Nat} {v : Int32} (hr : am_ro L xs h) (ho : o < 175) : am_ro L xs (am_wI h o k v) := by
  refine ⟨hr.1, fun j hj => ?_⟩
  show (if 3000000 = o ∧ j = k then v else h.1 3000000 j) = xs j
  rw [if_neg (fun q => by omega)]
  exact hr.2 j hj
end
section
/-! one step -/
/-- where the count began (c0 % 1000), and how many cells more there are (c0 / 1000: made by what threw), none before all objects are there -/
def am_c0 (c0 n : Nat) : Prop := c0 % 1000 ≤ n ∧ (1000 ≤ c0 → n = am_shl.length)
def am_Inv (D : va_G) (cA : Nat → ClassId) (ad : Nat → Nat) (base L : Nat) (xs : Nat → Int32) (s : State) (c0 : Nat) (h : am_H) (H : Heap) (locs : List Loc) : Prop :=
  va_P D vwCl (am_cc cA ad h) H ∧ va_S (am_A base) s.heap H locs ∧ am_ro L xs h ∧ h.2.2.2.2 ≤ am_shl.length ∧ am_c0 c0 h.2.2.2.2
/-- a method's body as it is walked: the machine, the code, the words, what stays -/
def am_Fx (p : Program) (s : State) (m : MethodId) (args : Array Value) (c : Code) (D : va_G) (cA : Nat → ClassId) (ad : Nat → Nat) (base b L : Nat) (xs : Nat → Int32) (own : String) (cc : ByteArray) (nL c0 : Nat) : Prop :=
  p.tables.exec = Jvm.exec ∧ c.code = cc ∧ c.maxLocals = nL ∧ s.vm.findClass own = some m.cls ∧ (∀ w ∈ am_gw, w.before args s = true) ∧ am_E D cA ad base b L xs s ∧ base ≤ s.heap.size ∧ am_G ad base b L ∧ (c0 % 1000 < am_shl.length → s.heap.size = base + c0 % 1000)
/-- what is known of the calls -/
def am_Cs (l : Launch) (R : Room) (D : va_G) (cA : Nat → ClassId) (ad : Nat → Nat) (base b L : Nat) (xs : Nat → Int32) (cp : am_P) : Prop :=
  ∀ n As h Q, cp n As h Q → ∃ d : Nat, Met l (am_y n) (am_ws n) (am_rm d (am_al n) (am_ms n h)) (am_Pc D cA ad base b L xs As h) (am_Qc D cA ad base L xs (fun v h' => h'.2.2.2.2 = h.2.2.2.2 + am_al n ∧ Q v h')) (am_al n) (am_ms n h) (am_A base) ∧ d + 1 ≤ R.frames ∧ 40 + 40 * d ≤ R.locals
theorem am_ok3 {A B : Prop} {C : Bool} [Decidable A] [Decidable B] (h : (decide A && (decide B && C)) = true) : A ∧ B ∧ C = true := by
  simp only [Bool.and_eq_true, decide_eq_true_eq] at h
  exact h
theorem am_ci_ok : ∀ ci, ci < 12 → ∃ (C : String) (T : u_T) (N : Nat), vwCl[ci]? = some (C, T, N) ∧ am_nf ci = N ∧ am_cn ci = C ∧ (∀ k, am_fd ci k = T k) ∧ (∀ w ∈ u_ws C T N, w ∈ am_gw) ∧ ∃ ty : Nat → FieldType, (∀ k, k < N → parseFieldDescriptor (T k).2.2.1 = some (ty k)) ∧ (∀ a, a < N → ∀ b, b < N → a ≠ b → (T a).2.1 ≠ (T b).2.1) ∧ ∀ k, k < N → am_kd ci k = (match ty k with
    | .long => 1
    | .object _ => 2
    | .array _ => 2
    | _ => 0) ∧ am_fty ci k = ty k := by
  intro ci h
  have hci : ci = 0 ∨ ci = 1 ∨ ci = 2 ∨ ci = 3 ∨ ci = 4 ∨ ci = 5 ∨ ci = 6 ∨ ci = 7 ∨ ci = 8 ∨ ci = 9 ∨ ci = 10 ∨ ci = 11 := by omega
  rcases hci with rfl | rfl | rfl | rfl | rfl | rfl | rfl | rfl | rfl | rfl | rfl | rfl
  · exact ⟨RX0, TX0, 13, rfl, by decide +kernel, rfl, fun _ => rfl, by decide +kernel, tyX0, tyX0_ok, nmX0, by decide +kernel⟩
  · exact ⟨RX1, TX1, 2, rfl, by decide +kernel, rfl, fun _ => rfl, by decide +kernel, tyX1, tyX1_ok, nmX1, by decide +kernel⟩
  · exact ⟨RX2, TX2, 3, rfl, by decide +kernel, rfl, fun _ => rfl, by decide +kernel, tyX2, tyX2_ok, nmX2, by decide +kernel⟩
  · exact ⟨RX3, TX3, 3, rfl, by decide +kernel, rfl, fun _ => rfl, by decide +kernel, tyX3, tyX3_ok, nmX3, by decide +kernel⟩
  · exact ⟨RX4, TX4, 1, rfl, by decide +kernel, rfl, fun _ => rfl, by decide +kernel, tyX4, tyX4_ok, nmX4, by decide +kernel⟩
  · exact ⟨RX5, TX5, 4, rfl, by decide +kernel, rfl, fun _ => rfl, by decide +kernel, tyX5, tyX5_ok, nmX5, by decide +kernel⟩
  · exact ⟨RX6, TX6, 6, rfl, by decide +kernel, rfl, fun _ => rfl, by decide +kernel, tyX6, tyX6_ok, nmX6, by decide +kernel⟩
  · exact ⟨RX7, TX7, 8, rfl, by decide +kernel, rfl, fun _ => rfl, by decide +kernel, tyX7, tyX7_ok, nmX7, by decide +kernel⟩
  · exact ⟨RX8, TX8, 4, rfl, by decide +kernel, rfl, fun _ => rfl, by decide +kernel, tyX8, tyX8_ok, nmX8, by decide +kernel⟩
  · exact ⟨RX9, TX9, 1, rfl, by decide +kernel, rfl, fun _ => rfl, by decide +kernel, tyX9, tyX9_ok, nmX9, by decide +kernel⟩
  · exact ⟨RX10, TX10, 14, rfl, by decide +kernel, rfl, fun _ => rfl, by decide +kernel, tyX10, tyX10_ok, nmX10, by decide +kernel⟩
  · exact ⟨RX11, TX11, 31, rfl, by decide +kernel, rfl, fun _ => rfl, by decide +kernel, tyX11, tyX11_ok, nmX11, by decide +kernel⟩
theorem am_cell_obj {cA : Nat → ClassId} {ad : Nat → Nat} {h : am_H} {o ci n : Nat} (hc : ci < 12) : am_cell cA ad h o (ci, n) = .inr (ci, (List.range (am_nf ci)).map (fun k => am_cv ad (am_gv h ci k o))) := by
  simp [am_cell, hc]
theorem am_fs_at {ad : Nat → Nat} {h : am_H} {o ci k : Nat} (hk : k < am_nf ci) : ((List.range (am_nf ci)).map (fun k => am_cv ad (am_gv h ci k o)))[k]? = some (am_cv ad (am_gv h ci k o)) := by
  simp [hk]
theorem am_fs_set {ad : Nat → Nat} {h h' : am_H} {o ci k : Nat} (hk : k < am_nf ci) (hs : ∀ j, j ≠ k → am_gv h' ci j o = am_gv h ci j o) :
    ((List.range (am_nf ci)).map (fun k => am_cv ad (am_gv h ci k o))).set k (am_cv ad (am_gv h' ci k o)) = (List.range (am_nf ci)).map (fun k => am_cv ad (am_gv h' ci k o)) := by
  apply List.ext_getElem?
  intro j
  by_cases hj : j = k
  · subst hj
    rw [List.getElem?_set_self (by simp [hk]), am_fs_at hk]
  · rw [List.getElem?_set_ne (fun q => hj q.symm)]
    simp only [List.getElem?_map]
    cases hr : (List.range (am_nf ci))[j]? with
    | none => rfl
    | some x =>
      obtain ⟨h1, h2⟩ := List.getElem?_eq_some_iff.mp hr
      have h3 : x = j := by rw [← h2]; simp
      subst h3
      simp only [Option.map_some, hs _ hj]
theorem am_rf_cv (ad : Nat → Nat) (r : Option Nat) : am_cv ad (am_rf r) = va_rf (r.map ad) := by cases r <;> rfl
end
