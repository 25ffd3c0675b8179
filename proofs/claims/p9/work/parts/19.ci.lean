/-! String.checkIndex: THE STATIC THAT IT TELLS ON, null or not, IS NOT LOOKED AT -/
variable {p : Program} {l : Launch} {e : Env} {R : Room} {s : State} {m : MethodId} {args : Array Value} {below : List Frame} {meth : Method} {c : Code} {Qw : State → Prop} {D : va_G} {cA : Nat → ClassId} {ad : Nat → Nat} {base b L nL : Nat} {xs : Nat → Int32} {own : String} {cc : ByteArray} {cp : am_P} {rt : Option FieldType} {c0 lim : Nat} {ini : Bool}
theorem am_X.inv1 {cod : Nat → Option am_R} {E : Nat → am_V → List Value → am_H → Prop} {Q : am_Q} {pc : Nat} {lv : am_V} {st : List Value} {h : am_H} {r : am_R} (hE : ¬ E pc lv st h) (hc : cod pc = some r) (k : am_X cp nL lim rt cod E Q pc lv st h) :
    ∃ (K0 : Nat → am_V → List Value → am_H → Prop) (Q0 : am_Q), am_stp cp nL lim rt pc r lv st h K0 Q0 ∧ (∀ pc lv st h, K0 pc lv st h → am_X cp nL lim rt cod E Q pc lv st h) ∧ (∀ v h, Q0 v h → Q v h) := by
  have key := k (fun pc lv st h => E pc lv st h ∨ ∃ (r : am_R) (K0 : Nat → am_V → List Value → am_H → Prop) (Q0 : am_Q), cod pc = some r ∧ am_stp cp nL lim rt pc r lv st h K0 Q0 ∧ (∀ pc lv st h, K0 pc lv st h → am_X cp nL lim rt cod E Q pc lv st h) ∧ (∀ v h, Q0 v h → Q v h)) (fun _ _ _ _ e => Or.inl e) (fun pc lv st h r K0 Q0 hc hs hk hq => Or.inr ⟨r, K0, Q0, hc, hs, fun pc lv st h q => by
    rcases hk pc lv st h q with z | ⟨r1, K1, Q1, hc1, hs1, hk1, hq1⟩
    · exact am_xexit z
    · exact fun P hE hP => hP _ _ _ _ r1 K1 Q1 hc1 hs1 (fun _ _ _ _ z => hk1 _ _ _ _ z P hE hP) hq1, hq⟩)
  rcases key with z | ⟨r', K0, Q0, hc', hs, hk, hq⟩
  · exact absurd z hE
  · cases hc.symm.trans hc'
    exact ⟨K0, Q0, hs, hk, hq⟩
theorem am_c47 : am_cod 47 = am_find am_r47 := by
  funext pc
  rfl
theorem am_c48 : am_cod 48 = am_find am_r48 := by
  funext pc
  rfl
theorem am_48_inv {d : Nat} {x y : Int32} {h : am_H} {Q : am_Q} (k : am_call am_cod d 48 [.int x, .int y, .int (Int32.ofInt 0)] h Q) : 1 ≤ d ∧ 0 ≤ x ∧ x < y ∧ Q (some (.int x)) h := by
  induction d with
  | zero => exact k.elim
  | succ d ih =>
    rcases k with k | ⟨-, k⟩
    · obtain ⟨a, q⟩ := ih k
      exact ⟨by omega, q⟩
    · refine ⟨by omega, ?_⟩
      unfold am_W at k
      rw [am_c48] at k
      have no9 : ∀ st, ¬ am_X (am_call am_cod d) (am_nL 48) (h.2.2.2.2 + am_al 48) (am_rt 48) (am_find am_r48) (fun _ _ _ _ => False) (fun v h' => h'.2.2.2.2 = h.2.2.2.2 + am_al 48 ∧ Q v h') 9 (lv_args 0 [.int x, .int y, .int (Int32.ofInt 0)]) st h := fun st k9 => by
        obtain ⟨K0, Q0, hs, -, -⟩ := am_X.inv1 (r := (.aload_n 2, 10, 0, 0, 0, 0)) (fun z => z) rfl k9
        have hs : am_la (lv_args 0 [.int x, .int y, .int (Int32.ofInt 0)]) 2 (fun o => K0 10 (lv_args 0 [.int x, .int y, .int (Int32.ofInt 0)]) (.ref o :: st) h) := hs
        obtain ⟨o, ho, -⟩ := am_la.inv hs
        cases ho
      obtain ⟨K0, Q0, hs, hk, -⟩ := am_X.inv1 (r := (.iload_n 0, 1, 0, 0, 0, 0)) (fun z => z) rfl k
      have k1 := hk _ _ _ _ (show K0 1 (lv_args 0 [.int x, .int y, .int (Int32.ofInt 0)]) [.int x] h from hs)
      obtain ⟨K1, Q1, hs, hk, -⟩ := am_X.inv1 (r := (.ifCond .lt 8, 4, 9, 0, 0, 0)) (fun z => z) rfl k1
      have hs : (x < 0 → K1 9 (lv_args 0 [.int x, .int y, .int (Int32.ofInt 0)]) [] h) ∧ (¬ x < 0 → K1 4 (lv_args 0 [.int x, .int y, .int (Int32.ofInt 0)]) [] h) := hs
      by_cases hx : x < 0
      · exact absurd (hk _ _ _ _ (hs.1 hx)) (no9 _)
      have k4 := hk _ _ _ _ (hs.2 hx)
      obtain ⟨K2, Q2, hs, hk, -⟩ := am_X.inv1 (r := (.iload_n 0, 5, 0, 0, 0, 0)) (fun z => z) rfl k4
      have k5 := hk _ _ _ _ (show K2 5 (lv_args 0 [.int x, .int y, .int (Int32.ofInt 0)]) [.int x] h from hs)
      obtain ⟨K3, Q3, hs, hk, -⟩ := am_X.inv1 (r := (.iload_n 1, 6, 0, 0, 0, 0)) (fun z => z) rfl k5
      have k6 := hk _ _ _ _ (show K3 6 (lv_args 0 [.int x, .int y, .int (Int32.ofInt 0)]) [.int y, .int x] h from hs)
      obtain ⟨K4, Q4, hs, hk, -⟩ := am_X.inv1 (r := (.if_icmp .lt 10, 9, 16, 0, 0, 0)) (fun z => z) rfl k6
      have hs : (x < y → K4 16 (lv_args 0 [.int x, .int y, .int (Int32.ofInt 0)]) [] h) ∧ (¬ x < y → K4 9 (lv_args 0 [.int x, .int y, .int (Int32.ofInt 0)]) [] h) := hs
      by_cases hy : x < y
      · have k16 := hk _ _ _ _ (hs.1 hy)
        obtain ⟨K5, Q5, hs, hk, -⟩ := am_X.inv1 (r := (.iload_n 0, 17, 0, 0, 0, 0)) (fun z => z) rfl k16
        have k17 := hk _ _ _ _ (show K5 17 (lv_args 0 [.int x, .int y, .int (Int32.ofInt 0)]) [.int x] h from hs)
        obtain ⟨K6, Q6, hs, -, hq⟩ := am_X.inv1 (r := (.ireturn, 18, 0, 0, 0, 0)) (fun z => z) rfl k17
        have hs : (∃ ty, am_rt 48 = some ty ∧ narrow ty (.int x) = .int x) ∧ Q6 (some (.int x)) h := hs
        exact ⟨Int32.not_lt.mp hx, hy, (hq _ _ hs.2).2⟩
      · exact absurd (hk _ _ _ _ (hs.2 hy)) (no9 _)
theorem am_sl_ge (vs : List Value) : vs.length ≤ (lg_sl vs).length := by
  induction vs with
  | nil => exact Nat.zero_le _
  | cons v r ih =>
    have e : (lg_sl (v :: r)).length = (if v.category = 2 then [Slot.val v, Slot.second] else [Slot.val v]).length + (lg_sl r).length := by
      unfold lg_sl
      rw [List.flatMap_cons, List.length_append]
    have e2 : 1 ≤ (if v.category = 2 then [Slot.val v, Slot.second] else [Slot.val v]).length := by
      split <;> simp
    rw [e, List.length_cons]
    omega
theorem am_47_inv {d : Nat} {As : List Value} {h : am_H} {Q : am_Q} (hlen : (lg_sl As).length ≤ 2) (k : am_X (am_call am_cod d) nL lim rt (am_find am_r47) (fun _ _ _ _ => False) Q 0 (lv_args 0 As) [] h) : ∃ x y : Int32, As = [.int x, .int y] ∧ 1 ≤ d ∧ 0 ≤ x ∧ x < y ∧ rt = none ∧ Q none h := by
  obtain ⟨K0, Q0, hs, hk, -⟩ := am_X.inv1 (r := (.iload_n 0, 1, 0, 0, 0, 0)) (fun z => z) rfl k
  have hs : am_li (lv_args 0 As) 0 (fun x => K0 1 (lv_args 0 As) [.int x] h) := hs
  obtain ⟨x, hx, hs⟩ := am_li.inv hs
  have k1 := hk _ _ _ _ hs
  obtain ⟨K1, Q1, hs, hk, -⟩ := am_X.inv1 (r := (.iload_n 1, 2, 0, 0, 0, 0)) (fun z => z) rfl k1
  have hs : am_li (lv_args 0 As) 1 (fun y => K1 2 (lv_args 0 As) [.int y, .int x] h) := hs
  obtain ⟨y, hy, hs⟩ := am_li.inv hs
  have k2 := hk _ _ _ _ hs
  have hA : As = [.int x, .int y] := by
    match As, hlen, hx, hy with
    | [], _, hx, _ => cases hx
    | [a], _, hx, hy =>
      cases hx
      cases hy
    | [a, b], _, hx, hy =>
      cases hx
      cases hy
      rfl
    | a :: b :: c :: r, hlen, _, _ =>
      have := am_sl_ge (a :: b :: c :: r)
      simp only [List.length_cons] at this
      omega
  subst hA
  obtain ⟨K2, Q2, hs, hk, -⟩ := am_X.inv1 (r := (.iconst 0, 5, 0, 0, 0, 0)) (fun z => z) rfl k2
  have k5 := hk _ _ _ _ (show K2 5 (lv_args 0 [.int x, .int y]) [.int (Int32.ofInt 0), .int y, .int x] h from hs)
  obtain ⟨K3, Q3, hs, hk, -⟩ := am_X.inv1 (r := (.invokestatic 1059, 8, 48, 3, 63, 0)) (fun z => z) rfl k5
  have hs : 0 ≤ 8 ∧ h.2.2.2.2 + am_al 48 ≤ lim ∧ am_call am_cod d 48 [.int x, .int y, .int (Int32.ofInt 0)] h (fun v h' => K3 8 (lv_args 0 [.int x, .int y]) (v.toList ++ []) h') := hs
  obtain ⟨h1, h2, h3, h4⟩ := am_48_inv hs.2.2
  have k8 := hk _ _ _ _ h4
  obtain ⟨K4, Q4, hs, hk, -⟩ := am_X.inv1 (r := (.pop, 9, 0, 0, 0, 0)) (fun z => z) rfl k8
  have hs : (Value.int x).category = 1 ∧ K4 9 (lv_args 0 [.int x, .int y]) [] h := hs
  have k9 := hk _ _ _ _ hs.2
  obtain ⟨K5, Q5, hs, -, hq⟩ := am_X.inv1 (r := (.return_, 10, 0, 0, 0, 0)) (fun z => z) rfl k9
  have hs : rt = none ∧ Q5 none h := hs
  exact ⟨x, y, rfl, h1, h2, h3, hs.1, hq _ _ hs.2⟩
theorem am_48_fwd {x y : Int32} {w : Value} {h : am_H} {Q : am_Q} (hw : w.category = 1) (hx : 0 ≤ x) (hy : x < y) (hQ : Q (some (.int x)) h) : am_call am_cod 1 48 [.int x, .int y, w] h Q := by
  refine Or.inr ⟨?_, ?_⟩
  · have e : (lg_sl [.int x, .int y, w]).length = 3 := by
      simp [lg_sl, hw]
      rfl
    rw [e]
    decide +kernel
  unfold am_W
  rw [am_c48]
  have e0 : am_al 48 = 0 := rfl
  rw [e0]
  refine am_xstep (r := (.iload_n 0, 1, 0, 0, 0, 0)) rfl (show am_X _ _ _ _ _ _ _ 1 (lv_args 0 [.int x, .int y, w]) [.int x] h from ?_)
  refine am_xstep (r := (.ifCond .lt 8, 4, 9, 0, 0, 0)) rfl (show (x < 0 → am_X _ _ _ _ _ _ _ 9 (lv_args 0 [.int x, .int y, w]) [] h) ∧ (¬ x < 0 → am_X _ _ _ _ _ _ _ 4 (lv_args 0 [.int x, .int y, w]) [] h) from ⟨fun z => absurd z (Int32.not_lt.mpr hx), fun _ => ?_⟩)
  refine am_xstep (r := (.iload_n 0, 5, 0, 0, 0, 0)) rfl (show am_X _ _ _ _ _ _ _ 5 (lv_args 0 [.int x, .int y, w]) [.int x] h from ?_)
  refine am_xstep (r := (.iload_n 1, 6, 0, 0, 0, 0)) rfl (show am_X _ _ _ _ _ _ _ 6 (lv_args 0 [.int x, .int y, w]) [.int y, .int x] h from ?_)
  refine am_xstep (r := (.if_icmp .lt 10, 9, 16, 0, 0, 0)) rfl (show (x < y → am_X _ _ _ _ _ _ _ 16 (lv_args 0 [.int x, .int y, w]) [] h) ∧ (¬ x < y → am_X _ _ _ _ _ _ _ 9 (lv_args 0 [.int x, .int y, w]) [] h) from ⟨fun _ => ?_, fun z => absurd hy z⟩)
  refine am_xstep (r := (.iload_n 0, 17, 0, 0, 0, 0)) rfl (show am_X _ _ _ _ _ _ _ 17 (lv_args 0 [.int x, .int y, w]) [.int x] h from ?_)
  exact am_xstep (r := (.ireturn, 18, 0, 0, 0, 0)) rfl (show (∃ ty, am_rt 48 = some ty ∧ narrow ty (.int x) = .int x) ∧ (h.2.2.2.2 = h.2.2.2.2 + 0 ∧ Q (some (.int x)) h) from ⟨⟨.int, by rfl, rfl⟩, rfl, hQ⟩)
def am_r47a : List (Nat × am_R) := [(0, (.iload_n 0, 1, 0, 0, 0, 0)), (1, (.iload_n 1, 2, 0, 0, 0, 0))]
def am_r47b : List (Nat × am_R) := [(5, (.invokestatic 1059, 8, 48, 3, 63, 0)), (8, (.pop, 9, 0, 0, 0, 0)), (9, (.return_, 10, 0, 0, 0, 0))]
theorem am_o47 : (am_r47a ++ am_r47b).all (fun q => am_okB false "java/lang/String" (am_by 47) q.1 q.2) = true := by decide +kernel
theorem am_n47 : (am_y 47 = am_47 ∧ am_nL 47 = 2 ∧ am_rt 47 = none ∧ am_al 47 = 0 ∧ plainFor am_47 = true) ∧ decode (am_by 47) 2 = .ok (.getstatic 1053, 3) ∧ am_fl[115]? = some ("java/lang/String", 1053, "jdk/internal/util/Preconditions", "SIOOBE_FORMATTER", "Ljava/util/function/BiFunction;") := by decide +kernel
theorem am_u47 : (List.range am_mi.length).all (fun n => decide (am_y n = am_47 → n = 47)) = true := by decide +kernel
theorem am_e47 {n : Nat} (h : am_y n = am_47) : n = 47 := by
  rcases Nat.lt_or_ge n am_mi.length with z | z
  · exact of_decide_eq_true (List.all_eq_true.mp am_u47 n (List.mem_range.mpr z)) h
  · unfold am_y at h
    rw [List.getElem?_eq_none z] at h
    exact absurd h (by decide)
set_option maxHeartbeats 4000000 in
theorem am_cix (hG : am_G ad base b L) (n : Nat) (hn : am_y n = am_47) (d : Nat) (ih : am_Mt l D cA ad base b L xs am_cod d) (As : List Value) (h : am_H) (Q : am_Q) (hlen : (lg_sl As).length ≤ am_nL n) (hW : am_W (am_call am_cod d) (am_nL n) (h.2.2.2.2 + am_al n) (am_rt n) (am_cod n) (fun v h' => h'.2.2.2.2 = h.2.2.2.2 + am_al n ∧ Q v h') 0 (lv_args 0 As) [] h) :
    Met l (am_y n) (am_ws n) (am_rm (d + 1) (am_al n) (am_ms n h)) (am_Pc D cA ad base b L xs As h) (am_Qc D cA ad base L xs (fun v h' => h'.2.2.2.2 = h.2.2.2.2 + am_al n ∧ Q v h')) (am_al n) (am_ms n h) (am_A base) := by
  have e47 := am_e47 hn
  subst e47
  obtain ⟨⟨t1, t2, t3, t4, t5⟩, t6, t7⟩ := am_n47
  have hlen2 : (lg_sl As).length ≤ 2 := by rw [← t2]; exact hlen
  unfold am_W at hW
  rw [am_c47] at hW
  obtain ⟨x, y, rfl, h1, h2, h3, -, hQ0⟩ := am_47_inv hlen2 hW
  have hal : am_al 47 = 0 := t4
  refine va_MetF (cc := am_by 47) (maxL := am_nL 47) (ret := am_rt 47) (by rw [t1]; exact t5) rfl ?_
  intro p e s m args below meth c s₁ B hml hv
  obtain ⟨rfl, hE, hbase, hP, hro, hwf⟩ := hv
  have hts := atoms_spec (ws := am_ws 47) B.pre
  have hgw : ∀ w ∈ am_gw, w.before (([.int x, .int y] : List Value).map (am_cv ad)).toArray s = true := fun w hw => hts w (List.mem_cons_of_mem _ hw)
  have hlen9 : h.2.2.2.2 ≤ 175 := by have := hwf.1; rw [am_shl_len] at this; exact this
  have hmod : h.2.2.2.2 % 1000 = h.2.2.2.2 := Nat.mod_eq_of_lt (by omega)
  have hdiv : h.2.2.2.2 / 1000 = 0 := Nat.div_eq_of_lt (by omega)
  have hown : s.vm.findClass "java/lang/String" = some m.cls := by
    have := findClass_of_methodNamed B.named
    rw [t1] at this
    exact this
  have F : am_Fx p s m (([.int x, .int y] : List Value).map (am_cv ad)).toArray c D cA ad base b L xs "java/lang/String" (am_by 47) 2 h.2.2.2.2 := ⟨B.exec, B.bytes, hml.trans t2, hown, hgw, hE, hbase, hG, by rw [hmod]; exact hwf.2⟩
  have hC : am_Cs l (am_rm (d + 1) (am_al 47) (am_ms 47 h)) D cA ad base b L xs (am_call am_cod d) := by
    intro n' As' h' Q' k'
    obtain ⟨d', z1, z2⟩ := ih n' As' h' Q' k'
    exact ⟨d', z2, by show d' + 1 ≤ d + 1; omega, by show 40 + 40 * d' ≤ 40 * (d + 1); omega⟩
  have hl := lv_entry (([.int x, .int y] : List Value).map (am_cv ad)) (n := am_nL 47) (by rw [am_sl_len]; exact hlen)
  rw [am_args_cl] at hl
  rw [lg_entry_eq]
  rw [t2] at hl ⊢
  have hcs : h.2.2.2.2 + am_al 47 - h.2.2.2.2 % 1000 + h.2.2.2.2 / 1000 ≤ am_al 47 ∧ am_ss (h.2.2.2.2 + am_al 47) - am_ss (h.2.2.2.2 % 1000) + 6 * (h.2.2.2.2 / 1000) ≤ am_ms 47 h := ⟨by rw [hmod, hdiv]; omega, by rw [hmod, hdiv]; exact Nat.le_refl _⟩
  have z1 : am_ce h.2.2.2.2 h = 0 := by unfold am_ce; omega
  have z2 : am_sc h.2.2.2.2 h = 0 := by unfold am_sc; rw [hmod, hdiv]; omega
  have key := am_X_sound (p := p) (e := e) (below := below) (meth := meth) (Qw := MQ below (am_Qc D cA ad base L xs (fun v h' => h'.2.2.2.2 = h.2.2.2.2 + am_al 47 ∧ Q v h')) (([.int x, .int y] : List Value).map (am_cv ad)).toArray s (am_al 47) (am_ms 47 h) (am_A base)) (R := am_rm (d + 1) (am_al 47) (am_ms 47 h)) (lim := h.2.2.2.2 + am_al 47) (rt := none) (ini := false) (cod := am_find am_r47a) (cp := am_call am_cod d) (E := fun pc lv st h' => pc = 2 ∧ lv = lv_args 0 [.int x, .int y] ∧ st = [.int y, .int x] ∧ h' = h) (Q := fun _ _ => False) F hC hcs ⟨by show 1 ≤ d + 1; omega, by show 20 ≤ 40 * (d + 1); omega⟩ (fun q => by cases q) (fun pc r hc => List.all_eq_true.mp am_o47 _ (List.mem_append_left _ (am_find_mem hc))) ?_ (fun _ _ _ _ _ _ _ q => q.elim) 0 (lv_args 0 [.int x, .int y]) [] h s.heap [] _ (am_xstep (r := (.iload_n 0, 1, 0, 0, 0, 0)) rfl (show am_X _ _ _ _ _ _ _ 1 (lv_args 0 [.int x, .int y]) [.int x] h from am_xstep (r := (.iload_n 1, 2, 0, 0, 0, 0)) rfl (show am_X _ _ _ _ _ _ _ 2 (lv_args 0 [.int x, .int y]) [.int y, .int x] h from am_xexit ⟨rfl, rfl, rfl, rfl⟩))) ⟨hP, va_S.rf, hro, hwf.1, by rw [hmod]; exact Nat.le_refl _, fun z => by omega⟩ hl
  · rw [z1, z2] at key
    exact key
  · intro pc lv st h' H locs ls hx0 hI hl'
    obtain ⟨rfl, rfl, rfl, rfl⟩ := hx0
    have fin : ∀ w : Value, w.category = 1 → W p l e (am_rm (d + 1) (am_al 47) (am_ms 47 h')) s m (([.int x, .int y] : List Value).map (am_cv ad)).toArray below meth c H locs (am_ce h'.2.2.2.2 h') (am_sc h'.2.2.2.2 h') (MQ below (am_Qc D cA ad base L xs (fun v h2 => h2.2.2.2.2 = h'.2.2.2.2 + am_al 47 ∧ Q v h2)) (([.int x, .int y] : List Value).map (am_cv ad)).toArray s (am_al 47) (am_ms 47 h') (am_A base)) (F0 m 5 ls (([w, .int y, .int x] : List Value).map (am_cv ad))) := fun w hw => by
      refine am_X_sound (p := p) (e := e) (below := below) (meth := meth) (R := am_rm (d + 1) (am_al 47) (am_ms 47 h')) (lim := h'.2.2.2.2 + am_al 47) (rt := none) (ini := false) (cod := am_find am_r47b) (cp := am_call am_cod d) (E := fun _ _ _ _ => False) (Q := fun v h2 => v = none ∧ h2 = h') F hC hcs ⟨by show 1 ≤ d + 1; omega, by show 20 ≤ 40 * (d + 1); omega⟩ (fun q => by cases q) (fun pc r hc => List.all_eq_true.mp am_o47 _ (List.mem_append_right _ (am_find_mem hc))) (fun _ _ _ _ _ _ _ q => q.elim) ?_ 5 (lv_args 0 [.int x, .int y]) [w, .int y, .int x] h' H locs ls ?_ hI hl'
      · intro v h2 H2 locs2 pc2 ls2 st2 hq hI2 hrk
        obtain ⟨rfl, rfl⟩ := hq
        have y1 : am_ce h2.2.2.2.2 h2 = am_al 47 := z1.trans hal.symm
        have y2 : am_sc h2.2.2.2.2 h2 = am_ms 47 h2 := by
          unfold am_ms
          rw [z2, hal]
          show 0 = am_ss (h2.2.2.2.2 + 0) - am_ss h2.2.2.2.2
          rw [Nat.add_zero, Nat.sub_self]
        rw [y1, y2]
        have hpost : ∀ t : State, t.heap = H2 → am_Qc D cA ad base L xs (fun v h' => h'.2.2.2.2 = h2.2.2.2.2 + am_al 47 ∧ Q v h') (([.int x, .int y] : List Value).map (am_cv ad)).toArray s (.returned none) t := fun t ht => ⟨⟨none, h2, rfl, hQ0, by rw [ht]; exact hI2.1, hI2.2.2.1, hI2.2.2.2.1⟩, hI2.2.1.F ht⟩
        rcases hrk with ⟨x', q1, -⟩ | ⟨x', q1, -⟩ | ⟨-, rfl, hd, -⟩
        · cases q1
        · cases q1
        · exact W.vret B.exec B.bytes (B.returns.trans t3) (fun t ht _ => hpost t ht) hI2.2.1.2.2 hd (hlocks := B.notSynchronized)
      · refine am_xstep (r := (.invokestatic 1059, 8, 48, 3, 63, 0)) rfl (show 0 ≤ 8 ∧ h'.2.2.2.2 + am_al 48 ≤ h'.2.2.2.2 + am_al 47 ∧ am_call am_cod d 48 [.int x, .int y, w] h' (fun v h2 => am_X _ _ _ _ _ _ _ 8 (lv_args 0 [.int x, .int y]) (v.toList ++ []) h2) from ⟨Nat.zero_le _, Nat.le_refl _, am_call.up (am_48_fwd hw h2 h3 ?_) h1⟩)
        refine am_xstep (r := (.pop, 9, 0, 0, 0, 0)) rfl (show (Value.int x).category = 1 ∧ am_X _ _ _ _ _ _ _ 9 (lv_args 0 [.int x, .int y]) [] h' from ⟨rfl, ?_⟩)
        exact am_xstep (r := (.return_, 10, 0, 0, 0, 0)) rfl (show (none : Option FieldType) = none ∧ (none : Option Value) = none ∧ h' = h' from ⟨rfl, rfl, rfl⟩)
    rcases hE.2.2.2.2.2.2.2.2 with hZ | hZ
    · exact va_gets B.exec B.bytes hZ hI.2.1 hown (hgw _ (am_gw_fl t7)) (fun x q => q) t6 (fin .null rfl)
    · exact va_gets B.exec B.bytes hZ hI.2.1 hown (hgw _ (am_gw_fl t7)) (fun x q => q) t6 (fin (.ref 6000000) rfl)
theorem am_Met (_ : am_Rok am_cod) (hG : am_G ad base b L) : ∀ d, am_Mt l D cA ad base b L xs am_cod d := am_Met7 am_cod_ok hG (am_cix hG)
