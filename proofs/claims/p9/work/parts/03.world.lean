/-! WORDS, ROWS, WORLD: what the tables give, when a row is right, the cells that an abstract heap stands for -/
theorem am_mem_of {α : Type} {f : Cond → Option α} {L : List α} (h : lw_tbl.filterMap f = L) {k : Nat} {x : α} (hk : L[k]? = some x) : ∃ w, w ∈ lw_tbl ∧ f w = some x := by
  have h1 := List.mem_of_getElem? hk
  rw [← h] at h1
  exact List.mem_filterMap.mp h1
theorem am_mem_in {α : Type} {f : Cond → Option α} {x : α} (h1 : x ∈ lw_tbl.filterMap f) : ∃ w, w ∈ lw_tbl ∧ f w = some x := List.mem_filterMap.mp h1
def am_gw : List Cond := lw_tbl.filter goodWord
theorem am_gw_of {w : Cond} (h : w ∈ lw_tbl) (hg : goodWord w = true) : w ∈ am_gw := List.mem_filter.mpr ⟨h, hg⟩
theorem am_gw_code {n : Nat} {q : MethodName × ByteArray × Nat × Option FieldType} (h : am_mi[n]? = some q) : Cond.code q.1 q.2.1 q.2.2.1 q.2.2.2 ∈ am_gw := by
  have hm := List.mem_of_getElem? h
  rw [← am_mi_eq] at hm
  have hm2 : q ∈ lw_tbl.filterMap am_isCode := by
    rcases List.mem_append.mp hm with z | z
    · exact List.mem_of_mem_take z
    · rcases List.mem_append.mp z with z | z
      · exact List.mem_of_mem_drop (List.mem_of_mem_take z)
      · exact List.mem_of_mem_drop z
  obtain ⟨w, h1, h2⟩ := List.mem_filterMap.mp hm2
  unfold am_isCode at h2
  split at h2
  · cases h2
    exact am_gw_of h1 rfl
  · cases h2
theorem am_gw_fl {k : Nat} {a b c d : String} {i : Nat} (h : am_fl[k]? = some (a, i, b, c, d)) : Cond.fieldLink a i b c d ∈ am_gw := by
  obtain ⟨w, h1, h2⟩ := am_mem_of am_fl_eq h
  unfold am_isFL at h2
  split at h2
  · cases h2
    exact am_gw_of h1 rfl
  · cases h2
theorem am_gw_cl {k : Nat} {a : String} {i : Nat} {v : Int64} (h : am_cl[k]? = some (a, i, v)) : Cond.constantLong a i v ∈ am_gw := by
  obtain ⟨w, h1, h2⟩ := am_mem_of am_cl_eq h
  unfold am_isCL at h2
  split at h2
  · cases h2
    exact am_gw_of h1 rfl
  · cases h2
theorem am_gw_ci {k : Nat} {a : String} {i : Nat} {v : Int32} (h : am_ci[k]? = some (a, i, v)) : Cond.constant a i v ∈ am_gw := by
  obtain ⟨w, h1, h2⟩ := am_mem_of am_ci_eq h
  unfold am_isCI at h2
  split at h2
  · cases h2
    exact am_gw_of h1 rfl
  · cases h2
theorem am_gw_ml {k n : Nat} {a : String} {i : Nat} (h : am_ml[k]? = some (a, i, n)) (hn : ¬ n = 999) : Cond.methodLink a i (am_y n) ∈ am_gw := by
  have hk : k < am_ml.length := (List.getElem?_eq_some_iff.mp h).1
  have hk2 : k < am_mlq.length := am_ml_eq.2 ▸ hk
  have hz : (am_ml.zip am_mlq)[k]? = some ((a, i, n), am_mlq[k]) := by
    rw [List.getElem?_zip_eq_some]
    exact ⟨h, List.getElem?_eq_getElem hk2⟩
  have h1 := List.all_eq_true.mp am_ml_eq.1 _ (List.mem_of_getElem? hz)
  simp only [Bool.and_eq_true, decide_eq_true_eq, Bool.or_eq_true] at h1
  obtain ⟨e1, e2, e3⟩ := h1
  have e3 := e3.resolve_right hn
  obtain ⟨w, w1, w2⟩ := am_mem_in (f := am_isML) (x := am_mlq[k]) (List.getElem_mem hk2)
  unfold am_isML at w2
  split at w2
  · have w2 := (Option.some.inj w2)
    rw [← w2] at e1 e2 e3
    rw [e1, e2, e3]
    exact am_gw_of w1 rfl
  · cases w2
def am_stw : List MethodName := lw_tbl.filterMap am_isSt
def am_inw : List MethodName := lw_tbl.filterMap am_isIn
def am_sew : List MethodName := lw_tbl.filterMap am_isSe
def am_iiw : List String := lw_tbl.filterMap am_isIi
theorem am_gw_st {y : MethodName} (h : y ∈ am_stw) : Cond.static y ∈ am_gw := by
  obtain ⟨w, h1, h2⟩ := am_mem_in h
  unfold am_isSt at h2
  split at h2
  · cases h2
    exact am_gw_of h1 rfl
  · cases h2
theorem am_gw_in {y : MethodName} (h : y ∈ am_inw) : Cond.instanceMethod y ∈ am_gw := by
  obtain ⟨w, h1, h2⟩ := am_mem_in h
  unfold am_isIn at h2
  split at h2
  · cases h2
    exact am_gw_of h1 rfl
  · cases h2
theorem am_gw_ii {y : String} (h : y ∈ am_iiw) : Cond.initialized y ∈ am_gw := by
  obtain ⟨w, h1, h2⟩ := am_mem_in h
  unfold am_isIi at h2
  split at h2
  · cases h2
    exact am_gw_of h1 rfl
  · cases h2
theorem am_gw_se {y : MethodName} (h : y ∈ am_sew) : Cond.selects y.cls y y ∈ am_gw := by
  obtain ⟨w, h1, h2⟩ := am_mem_in h
  unfold am_isSe at h2
  split at h2
  · rename_i c y' z
    by_cases hc : (decide (c = y'.cls) && decide (y' = z)) = true
    · rw [hc] at h2
      simp only [Bool.and_eq_true, decide_eq_true_eq] at hc
      obtain ⟨rfl, rfl⟩ := hc
      cases h2
      exact am_gw_of h1 rfl
    · rw [Bool.not_eq_true] at hc
      rw [hc] at h2
      cases h2
  · cases h2
/-- the length of an instruction; 0 for a switch -/
def am_len : Instr → Nat
  | .bipush _ | .ldc _ | .iload _ | .lload _ | .aload _ | .istore _ | .lstore _ | .astore _ | .newarray _ => 2
  | .sipush _ | .ldc_w _ | .ldc2_w _ | .iinc _ _ | .goto _ | .if_icmp _ _ | .ifCond _ _ | .getfield _ | .putfield _ | .getstatic _ | .invokevirtual _ | .invokestatic _ | .invokespecial _ | .new _ | .anewarray _ => 3
  | .tableswitch _ _ _ _ | .lookupswitch _ _ => 0
  | _ => 1
def am_nf (ci : Nat) : Nat := (am_kds.getD ci []).length
def am_fd (ci k : Nat) : String × String × String × Bool := match vwCl[ci]? with
  | some q => q.2.1 k
  | none => ("", "", "", false)
def am_cn (ci : Nat) : String := match vwCl[ci]? with
  | some q => q.1
  | none => ""
def am_prm (y : MethodName) : Option Nat := (parseMethodDescriptor y.desc).map (fun d => d.parameters.length)
def am_hd (y : MethodName) : Bool := decide (y.cls ≠ "java/lang/invoke/MethodHandle") && decide (y.cls ≠ "java/lang/invoke/VarHandle")
def am_tc : List FieldType := [.char, .int, .long, .boolean]
def am_atc : ArrayType → Nat
  | .char => 12
  | .int => 13
  | .long => 14
  | .boolean => 15
  | _ => 99
def am_ex (ini : Bool) (own : String) (pc : Nat) (i : Instr) (a b c d : Nat) : Bool := match i with
  | .goto o | .if_icmp _ o | .ifCond _ o => decide ((pc : Int) + o = (a : Int))
  | .getstatic k => (Nat.beq b 0 && decide (am_fl[c]? = some (own, k, "java/lang/String", "COMPACT_STRINGS", "Z")))
  | .getfield k => bif Nat.beq b 20 then (Nat.beq a 0 && decide (am_fl[c]? = some (own, k, "java/lang/String", "value", "[B"))) || (Nat.beq a 1 && decide (am_fl[c]? = some (own, k, "java/lang/String", "coder", "B"))) else decide (am_fl[c]? = some (own, k, (am_fd b a).1, (am_fd b a).2.1, (am_fd b a).2.2.1)) && (decide (b < 12) && decide (a < am_nf b))
  | .putfield k => decide (am_fl[c]? = some (own, k, (am_fd b a).1, (am_fd b a).2.1, (am_fd b a).2.2.1)) && (decide (b < 12) && (decide (a < am_nf b) && (!(am_fd b a).2.2.2 || (ini && decide ((am_fd b a).1 = own)))))
  | .ldc2_w k => decide ((am_cl[c]?).map (fun q => (q.1, q.2.1)) = some (own, k))
  | .ldc k => bif Nat.beq b 1 then decide ((am_stt[c]?).map (fun q => (q.1, q.2.1)) = some (own, k)) else decide ((am_ci[c]?).map (fun q => (q.1, q.2.1)) = some (own, k))
  | .ldc_w k => !(Nat.beq b 1) && decide ((am_ci[c]?).map (fun q => (q.1, q.2.1)) = some (own, k))
  | .new k => decide (am_ck[c]? = some (own, k, am_cn b)) && (decide (b < 12) && decide (am_cn b ∈ am_iiw))
  | .newarray t => Nat.beq b (am_atc t) && Nat.ble b 15
  | .anewarray k => (Nat.beq b 16 && decide (am_ck[c]? = some (own, k, "MistCanton$Mark"))) || (Nat.beq b 17 && decide (am_ck[c]? = some (own, k, "MistCanton$State")))
  | .invokespecial k => decide (am_ml[c]? = some (own, k, a)) && ((Nat.beq a 1 && Nat.beq b 0) || decide ((a, b) ∈ am_ils))
  | .invokevirtual k => decide (am_ml[c]? = some (own, k, a)) && (bif Nat.beq d 20 then decide ((a, b) ∈ am_svl) else decide ((a, b, d) ∈ am_vls))
  | .invokestatic k => (bif Nat.beq d 1 then decide (am_nl[c]? = some (own, k, a)) else decide (am_ml[c]? = some (own, k, a))) && decide ((a, b) ∈ am_sls)
  | _ => true
def am_okB (ini : Bool) (own : String) (cc : ByteArray) (pc : Nat) (r : am_R) : Bool := match r with
  | (i, nx, a, b, c, d) => match i with
    | .tableswitch df lo hi os => (match decode cc pc with
      | .ok (i', _) => decide (i' = .tableswitch df lo hi os)
      | _ => false) && (decide (0 ≤ (pc : Int) + df) && (os.toList.all (fun o => decide (0 ≤ (pc : Int) + o)) && decide ((os.size : Int) = hi - lo + 1)))
    | .lookupswitch df ps => (match decode cc pc with
      | .ok (i', _) => decide (i' = .lookupswitch df ps)
      | _ => false) && (decide (0 ≤ (pc : Int) + df) && (ps.toList.all (fun o => decide (0 ≤ (pc : Int) + o.2)) && (ps.toList.zip (ps.toList.drop 1)).all (fun (a, next) => a.1 < next.1)))
    | i => decide (decode cc pc = .ok (i, am_len i)) && (decide (nx = pc + am_len i) && am_ex ini own pc i a b c d)
/-- what the tables say of the methods that are called -/
def am_mok (n : Nat) : Bool := decide ((am_y n).cls ∈ am_iiw) && (decide (n < am_mi.length) && (decide (am_nL n ≤ 21) && (am_hd (am_y n) && !(Nat.beq n 999))))
theorem am_vls_ok : am_vls.all (fun q => decide (am_y q.1 ∈ am_inw) && (decide (am_y q.1 ∈ am_sew) && (decide (am_prm (am_y q.1) = some q.2.1) && (decide (am_cn q.2.2 = (am_y q.1).cls) && (decide (q.2.2 < 12) && am_mok q.1))))) = true := by decide +kernel
theorem am_svl_ok : am_svl.all (fun q => decide (am_y q.1 ∈ am_inw) && (decide (am_y q.1 ∈ am_sew) && (decide (am_prm (am_y q.1) = some q.2) && (decide ((am_y q.1).cls = "java/lang/String") && am_mok q.1)))) = true := by decide +kernel
theorem am_sls_ok : am_sls.all (fun q => decide (am_y q.1 ∈ am_stw) && (decide (am_prm (am_y q.1) = some q.2) && am_mok q.1)) = true := by decide +kernel
theorem am_ils_ok : am_ils.all (fun q => decide (am_y q.1 ∈ am_inw) && (decide (am_prm (am_y q.1) = some q.2) && (decide ((am_y q.1).name = "<init>") && (decide (am_rt q.1 = none) && am_mok q.1)))) = true := by decide +kernel
theorem am_iaw_ok : (List.range 12).all (fun ci => decide ((am_cn ci, am_nf ci) ∈ lw_tbl.filterMap am_isIa)) = true := by decide +kernel
theorem am_gw_ck {k : Nat} {a b : String} {i : Nat} (h : am_ck[k]? = some (a, i, b)) : Cond.classLink a i b ∈ am_gw := by
  obtain ⟨w, h1, h2⟩ := am_mem_of am_ck_eq h
  unfold am_isCk at h2
  split at h2
  · cases h2
    exact am_gw_of h1 rfl
  · cases h2
theorem am_gw_ia {a : String} {i : Nat} (h : (a, i) ∈ lw_tbl.filterMap am_isIa) : Cond.instantiable a i ∈ am_gw := by
  obtain ⟨w, h1, h2⟩ := am_mem_in h
  unfold am_isIa at h2
  split at h2
  · cases h2
    exact am_gw_of h1 rfl
  · cases h2
/-- values and cells -/
def am_cv (ad : Nat → Nat) : Value → Value
  | .ref a => .ref (ad a)
  | v => v
theorem am_cv_cat (ad : Nat → Nat) (v : Value) : (am_cv ad v).category = v.category := by cases v <;> rfl
def am_cl2 (ad : Nat → Nat) (lv : am_V) : am_V := lv.map (fun q => (q.1, am_cv ad q.2))
def am_cell (cA : Nat → ClassId) (ad : Nat → Nat) (h : am_H) (o : Nat) (e : Nat × Nat) : va_E :=
  if e.1 < 12 then .inr (e.1, (List.range (am_nf e.1)).map (fun k => am_cv ad (am_gv h e.1 k o)))
  else if e.1 = 14 then .inl (cA 14, e.2, .inr (.inl (h.2.1 o)))
  else if e.1 = 16 ∨ e.1 = 17 then .inl (cA e.1, e.2, .inr (.inr (.inr (.inr (fun j => (h.2.2.1 o j).map ad)))))
  else .inl (cA e.1, e.2, .inl (h.1 o))
def am_cc (cA : Nat → ClassId) (ad : Nat → Nat) (h : am_H) : va_W := (List.range h.2.2.2.2).map (fun o => (ad o, am_cell cA ad h o (am_shl.getD o (99, 0))))
theorem am_so_lt {h : am_H} {o : Nat} {e : Nat × Nat} (he : am_so h o = some e) : o < h.2.2.2.2 ∧ am_shl[o]? = some e := by
  unfold am_so at he
  cases hq : Nat.blt o h.2.2.2.2 with
  | true =>
    rw [hq] at he
    exact ⟨Nat.le_of_ble_eq_true hq, he⟩
  | false =>
    rw [hq] at he
    cases he
theorem am_cc_at {cA : Nat → ClassId} {ad : Nat → Nat} {h : am_H} {o : Nat} {e : Nat × Nat} (he : am_so h o = some e) : (am_cc cA ad h)[o]? = some (ad o, am_cell cA ad h o e) := by
  obtain ⟨hlt, he⟩ := am_so_lt he
  obtain ⟨hlt2, hv⟩ := List.getElem?_eq_some_iff.mp he
  simp [am_cc, hlt, hlt2, hv]
theorem am_cc_in {cA : Nat → ClassId} {ad : Nat → Nat} {h : am_H} {o : Nat} {q : Nat × va_E} (hq : (am_cc cA ad h)[o]? = some q) : o < h.2.2.2.2 ∧ q.1 = ad o := by
  unfold am_cc at hq
  rw [List.getElem?_map] at hq
  cases hr : (List.range h.2.2.2.2)[o]? with
  | none => rw [hr] at hq; cases hq
  | some x =>
    rw [hr] at hq
    obtain ⟨h1, h2⟩ := List.getElem?_eq_some_iff.mp hr
    have h3 : x = o := by rw [← h2]; simp
    cases hq
    exact ⟨by simpa using h1, by rw [h3]⟩
theorem am_cc_D {cA : Nat → ClassId} {ad : Nat → Nat} {base : Nat} {h : am_H} (hc : h.2.2.2.2 ≤ am_shl.length) (had : ∀ o, o < am_shl.length → ad o = base + o) : va_D (fun q => base ≤ q) (am_cc cA ad h) := by
  refine ⟨fun i j p q hi hj e => ?_, fun k q hk => ?_⟩
  · obtain ⟨a1, a2⟩ := am_cc_in hi
    obtain ⟨b1, b2⟩ := am_cc_in hj
    rw [a2, b2, had i (by omega), had j (by omega)] at e
    omega
  · obtain ⟨a1, a2⟩ := am_cc_in hk
    show base ≤ q.1
    rw [a2, had k (by omega)]
    omega
theorem am_cc_set {cA : Nat → ClassId} {ad : Nat → Nat} {h h' : am_H} {o : Nat} {e : Nat × Nat} (he : am_so h o = some e) (hn : h'.2.2.2.2 = h.2.2.2.2) (hs : ∀ o' e', o' ≠ o → am_cell cA ad h' o' e' = am_cell cA ad h o' e') :
    am_cc cA ad h' = (am_cc cA ad h).set o (ad o, am_cell cA ad h' o e) := by
  have he' : am_so h' o = some e := by unfold am_so; rw [hn]; exact he
  have hlt : o < h.2.2.2.2 := (am_so_lt he).1
  apply List.ext_getElem?
  intro k
  by_cases hk : k = o
  · subst hk
    rw [am_cc_at he', List.getElem?_set_self (by simp [am_cc, hlt])]
  · rw [List.getElem?_set_ne (fun q => hk q.symm)]
    simp only [am_cc, List.getElem?_map, hn]
    cases hr : (List.range h.2.2.2.2)[k]? with
    | none => rfl
    | some x =>
      obtain ⟨h1, h2⟩ := List.getElem?_eq_some_iff.mp hr
      have h3 : x = k := by rw [← h2]; simp
      subst h3
      simp only [Option.map_some]
      rw [hs _ _ hk]
theorem am_gv_new {h : am_H} {ci j o' : Nat} (hn : o' ≠ h.2.2.2.2) : am_gv (am_nx h) ci j o' = am_gv h ci j o' := by
  unfold am_gv am_nx
  split <;> simp [hn]
theorem am_cell_new {cA : Nat → ClassId} {ad : Nat → Nat} {h : am_H} (o' : Nat) (e' : Nat × Nat) (hn : o' ≠ h.2.2.2.2) : am_cell cA ad (am_nx h) o' e' = am_cell cA ad h o' e' := by
  unfold am_cell
  simp only [am_gv_new hn]
  simp [am_nx, hn]
theorem am_cc_new {cA : Nat → ClassId} {ad : Nat → Nat} {h : am_H} {e : Nat × Nat} (he : am_shl[h.2.2.2.2]? = some e) : am_cc cA ad (am_nx h) = am_cc cA ad h ++ [(ad h.2.2.2.2, am_cell cA ad (am_nx h) h.2.2.2.2 e)] := by
  obtain ⟨hlt2, hv⟩ := List.getElem?_eq_some_iff.mp he
  have h1 : (am_nx h).2.2.2.2 = h.2.2.2.2 + 1 := rfl
  unfold am_cc
  rw [h1, List.range_succ, List.map_append]
  congr 1
  · apply List.map_congr_left
    intro o ho
    have : o ≠ h.2.2.2.2 := by
      have := List.mem_range.mp ho
      omega
    rw [am_cell_new o _ this]
  · simp [hlt2, hv]
theorem am_gv_oI {h : am_H} {o k : Nat} {v : Int32} {ci j o' : Nat} (hn : o' ≠ o) : am_gv (am_wI h o k v) ci j o' = am_gv h ci j o' := by
  unfold am_gv am_wI
  split <;> simp [hn]
theorem am_gv_oL {h : am_H} {o k : Nat} {v : Int64} {ci j o' : Nat} (hn : o' ≠ o) : am_gv (am_wL h o k v) ci j o' = am_gv h ci j o' := by
  unfold am_gv am_wL
  split <;> simp [hn]
theorem am_gv_oR {h : am_H} {o k : Nat} {v : Option Nat} {ci j o' : Nat} (hn : o' ≠ o) : am_gv (am_wR h o k v) ci j o' = am_gv h ci j o' := by
  unfold am_gv am_wR
  split <;> simp [hn]
theorem am_cell_oI {cA : Nat → ClassId} {ad : Nat → Nat} {h : am_H} {o k : Nat} {v : Int32} (o' : Nat) (e' : Nat × Nat) (hn : o' ≠ o) : am_cell cA ad (am_wI h o k v) o' e' = am_cell cA ad h o' e' := by
  unfold am_cell
  simp only [am_gv_oI hn]
  simp [am_wI, hn]
theorem am_cell_oL {cA : Nat → ClassId} {ad : Nat → Nat} {h : am_H} {o k : Nat} {v : Int64} (o' : Nat) (e' : Nat × Nat) (hn : o' ≠ o) : am_cell cA ad (am_wL h o k v) o' e' = am_cell cA ad h o' e' := by
  unfold am_cell
  simp only [am_gv_oL hn]
  simp [am_wL, hn]
theorem am_cell_oR {cA : Nat → ClassId} {ad : Nat → Nat} {h : am_H} {o k : Nat} {v : Option Nat} (o' : Nat) (e' : Nat × Nat) (hn : o' ≠ o) : am_cell cA ad (am_wR h o k v) o' e' = am_cell cA ad h o' e' := by
  unfold am_cell
  simp only [am_gv_oR hn]
  simp [am_wR, hn]
