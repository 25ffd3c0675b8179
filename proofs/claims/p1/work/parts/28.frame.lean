/-! LONGS THAT NO INSTRUCTION WRITES STAY -/
def lf_S : List Nat := [286, 176, 207, 287]
def lf_ok (r : am_R) : Bool := match r with
  | (i, _, a, b, _, _) => match i with
    | .aload_n _ | .bipush _ | .getfield _ | .goto _ | .iadd | .iconst _ | .idiv | .ifCond _ _ | .if_icmp _ _ | .iinc _ _ | .iload _ | .iload_n _ | .irem | .ireturn | .istore _ | .istore_n _ | .isub | .ineg | .iaload | .imul => true
    | .putfield _ => Nat.beq (am_kd b a) 0
    | .invokestatic _ | .invokevirtual _ => lf_S.contains a
    | _ => false
theorem am_pI.imp {st : List Value} {k k' : Int32 → List Value → Prop} (f : ∀ x r, k x r → k' x r) (h : am_pI st k) : am_pI st k' := by
  obtain ⟨x, r, rfl, h⟩ := h.inv
  exact f x r h
theorem am_pR.imp {st : List Value} {k k' : Nat → List Value → Prop} (f : ∀ x r, k x r → k' x r) (h : am_pR st k) : am_pR st k' := by
  unfold am_pR at h ⊢
  split at h
  · exact f _ _ h
  · exact h.elim
theorem am_li.imp {lv : am_V} {i : Nat} {k k' : Int32 → Prop} (f : ∀ x, k x → k' x) (h : am_li lv i k) : am_li lv i k' := by
  unfold am_li at h ⊢
  split at h
  · exact f _ h
  · exact h.elim
theorem am_la.imp {lv : am_V} {i : Nat} {k k' : Nat → Prop} (f : ∀ x, k x → k' x) (h : am_la lv i k) : am_la lv i k' := by
  unfold am_la at h ⊢
  split at h
  · exact f _ h
  · exact h.elim
def lf_P (cp cp' : am_P) : Prop := ∀ n As h Q, n ∈ lf_S → cp n As h Q → cp' n As h (fun v h' => h'.2.1 = h.2.1 ∧ Q v h')
theorem lf_stp {cp cp' : am_P} {nL lim : Nat} {rt : Option FieldType} {pc : Nat} {r : am_R} {lv : am_V} {st : List Value} {h : am_H} {K : Nat → am_V → List Value → am_H → Prop} {Q : am_Q} {x : Nat → Nat → Int64} (hP : lf_P cp cp') (hm : ∀ n As h Q Q', (∀ v h, Q v h → Q' v h) → cp' n As h Q → cp' n As h Q') (hok : lf_ok r = true) (hl : h.2.1 = x) (hs : am_stp cp nL lim rt pc r lv st h K Q) :
    am_stp cp' nL lim rt pc r lv st h (fun pc lv st h' => h'.2.1 = x ∧ K pc lv st h') (fun v h' => h'.2.1 = x ∧ Q v h') := by
  obtain ⟨i, nx, a, b, c, d⟩ := r
  cases i
  case iconst n => exact ⟨hl, hs⟩
  case bipush n => exact ⟨hl, hs⟩
  case goto n => exact ⟨hl, hs⟩
  case iload_n k => exact am_li.imp (fun _ q => ⟨hl, q⟩) hs
  case iload k => exact am_li.imp (fun _ q => ⟨hl, q⟩) hs
  case aload_n k => exact am_la.imp (fun _ q => ⟨hl, q⟩) hs
  case istore_n k => exact am_pI.imp (fun _ _ q => ⟨q.1, hl, q.2⟩) hs
  case istore k => exact am_pI.imp (fun _ _ q => ⟨q.1, hl, q.2⟩) hs
  case iinc k n => exact am_li.imp (fun _ q => ⟨q.1, hl, q.2⟩) hs
  case iadd => exact am_pI.imp (fun _ _ q => am_pI.imp (fun _ _ q => ⟨hl, q⟩) q) hs
  case isub => exact am_pI.imp (fun _ _ q => am_pI.imp (fun _ _ q => ⟨hl, q⟩) q) hs
  case imul => exact am_pI.imp (fun _ _ q => am_pI.imp (fun _ _ q => ⟨hl, q⟩) q) hs
  case idiv => exact am_pI.imp (fun _ _ q => am_pI.imp (fun _ _ q => ⟨q.1, hl, q.2⟩) q) hs
  case irem => exact am_pI.imp (fun _ _ q => am_pI.imp (fun _ _ q => ⟨q.1, hl, q.2⟩) q) hs
  case ineg => exact am_pI.imp (fun _ _ q => ⟨hl, q⟩) hs
  case if_icmp w n => exact am_pI.imp (fun _ _ q => am_pI.imp (fun _ _ q => ⟨fun z => ⟨hl, q.1 z⟩, fun z => ⟨hl, q.2 z⟩⟩) q) hs
  case ifCond w n => exact am_pI.imp (fun _ _ q => ⟨fun z => ⟨hl, q.1 z⟩, fun z => ⟨hl, q.2 z⟩⟩) hs
  case getfield n => exact am_pR.imp (fun _ _ q => ⟨q.1, hl, q.2⟩) hs
  case putfield n =>
    have h0 : am_kd b a = 0 := Nat.eq_of_beq_eq_true hok
    simp only [am_stp, h0] at hs ⊢
    exact am_pI.imp (fun _ _ q => am_pR.imp (fun _ _ q => ⟨q.1, q.2.1, q.2.2.1, hl, q.2.2.2⟩) q) hs
  case iaload => exact am_pI.imp (fun _ _ q => am_pR.imp (fun _ _ ⟨j, n, q1, q2, q3, q4⟩ => ⟨j, n, q1, q2, q3, hl, q4⟩) q) hs
  case ireturn =>
    simp only [am_stp] at hs ⊢
    split at hs
    · exact ⟨hs.1, hl, hs.2⟩
    · exact hs.elim
  case invokestatic n =>
    have ha : a ∈ lf_S := List.contains_iff_mem.mp hok
    simp only [am_stp] at hs ⊢
    split at hs
    · exact ⟨hs.1, hs.2.1, hm _ _ _ _ _ (fun v h' q => ⟨q.1.trans hl, q.2⟩) (hP _ _ _ _ ha hs.2.2)⟩
    · exact hs.elim
  case invokevirtual n =>
    have ha : a ∈ lf_S := List.contains_iff_mem.mp hok
    simp only [am_stp] at hs ⊢
    split at hs
    · exact ⟨hs.1, hs.2.1, hs.2.2.1, hm _ _ _ _ _ (fun v h' q => ⟨q.1.trans hl, q.2⟩) (hP _ _ _ _ ha hs.2.2.2)⟩
    · exact hs.elim
  all_goals exact absurd hok (by simp [lf_ok])
theorem lf_X {cp cp' : am_P} {nL lim : Nat} {rt : Option FieldType} {cod : Nat → Option am_R} {E : Nat → am_V → List Value → am_H → Prop} {Q : am_Q} {pc : Nat} {lv : am_V} {st : List Value} {h : am_H} (hP : lf_P cp cp') (hm : ∀ n As h Q Q', (∀ v h, Q v h → Q' v h) → cp' n As h Q → cp' n As h Q') (hok : ∀ pc r, cod pc = some r → lf_ok r = true) (k : am_X cp nL lim rt cod E Q pc lv st h) :
    am_X cp' nL lim rt cod (fun pc lv st h' => h'.2.1 = h.2.1 ∧ E pc lv st h') (fun v h' => h'.2.1 = h.2.1 ∧ Q v h') pc lv st h := by
  intro P hE hP'
  refine k (fun pc lv st h' => h'.2.1 = h.2.1 → P pc lv st h') (fun pc lv st h' e q => hE pc lv st h' ⟨q, e⟩) ?_ rfl
  intro pc lv st h' r K0 Q0 hc hs hk hq hl
  exact hP' pc lv st h' r _ _ hc (lf_stp hP hm (hok _ _ hc) hl hs) (fun pc lv st h' q => hk pc lv st h' q.2 q.1) (fun v h' q => ⟨q.1, hq v h' q.2⟩)
theorem lf_rows : lf_S.all (fun n => match am_inf[n]? with
  | some q => q.1.all (fun r => lf_ok r.2)
  | none => false) = true := by decide +kernel
theorem lf_cod {n pc : Nat} {r : am_R} (hn : n ∈ lf_S) (h : am_cod n pc = some r) : lf_ok r = true := by
  have h1 := List.all_eq_true.mp lf_rows n hn
  unfold am_cod at h
  split at h
  · rename_i q hq
    rw [hq] at h1
    exact List.all_eq_true.mp h1 _ (am_find_mem h)
  · cases h
theorem lf_call : ∀ d, lf_P (am_call am_cod d) (am_call am_cod d)
  | 0 => fun _ _ _ _ _ k => k.elim
  | d + 1 => by
    intro n As h Q hn k
    rcases k with k | ⟨h1, h2⟩
    · exact Or.inl (lf_call d n As h Q hn k)
    · refine Or.inr ⟨h1, ?_⟩
      refine am_X.mono (fun _ _ _ _ q => q.2.elim) (fun v h' q => ⟨q.2.1, q.1, q.2.2⟩) (lf_X (lf_call d) (fun _ _ _ _ _ f k => k.mono f) (fun pc r hc => lf_cod hn hc) h2)
theorem am_X.more {cp : am_P} {nL lim : Nat} {rt : Option FieldType} {cod cod' : Nat → Option am_R} {E : Nat → am_V → List Value → am_H → Prop} {Q : am_Q} {pc : Nat} {lv : am_V} {st : List Value} {h : am_H} (hc : ∀ pc r, cod pc = some r → cod' pc = some r) (k : am_X cp nL lim rt cod E Q pc lv st h) : am_X cp nL lim rt cod' E Q pc lv st h :=
  fun P hE hP => k P hE fun pc lv st h r K0 Q0 h1 h2 h3 h4 => hP pc lv st h r K0 Q0 (hc pc r h1) h2 h3 h4
/-! OPCODE 40 IN THE ABSTRACT MACHINE -/
theorem rs_more : ∀ pc r, am_find rs_rL pc = some r → am_find am_rL pc = some r := by
  intro pc r h
  have key : rs_rL.all (fun q => decide (am_find am_rL q.1 = some q.2)) = true := by decide +kernel
  exact of_decide_eq_true (List.all_eq_true.mp key _ (am_find_mem h))
theorem rs_rok : ∀ pc r, am_find rs_rL pc = some r → lf_ok r = true := by
  intro pc r h
  have key : rs_rL.all (fun q => lf_ok q.2) = true := by decide +kernel
  exact List.all_eq_true.mp key _ (am_find_mem h)
/-- what the class answers in a box, what the law does after it -/
def rs_CX (xs : Nat → Int32) (K : Nat) (V : Int) : Prop := ∀ h, ae_R (lw_rho xs 0 0) 7 ae_H0 h → am_X (am_call am_cod 9) 9 175 (some .int) (am_find am_r168) (fun pc _ st h' => K = 1 ∧ (pc = 30 ∨ pc = 144) ∧ st = [] ∧ ae_R (lw_rho xs 0 0) 7 ae_H0 h') (fun v h' => K = 0 ∧ v = some (.int (Int32.ofInt V)) ∧ ae_R (lw_rho xs 0 0) 7 ae_H0 h') 0 (ae_cl (lw_rho xs 0 0) rs_lv) [] h
theorem rs_main (xs : Nat → Int32) (h40 : (xs 0 &&& 63).toInt = 40) : ∃ (K : Nat) (V : Int), rs_CX xs K V ∧
    ((K = 1 ∧ ∀ E h, ae_R (lw_rho xs 0 0) 7 ae_H0 h → lw_X E 1351 (ae_cl (lw_rho xs 0 0) ae_lv0) [.int 1] h) ∨
     (K = 0 ∧ ∀ E h, ae_R (lw_rho xs 0 0) 7 ae_H0 h → h.2.1 174 0 = (Int32.ofInt V).toInt64 → lw_X E 1351 (ae_cl (lw_rho xs 0 0) ae_lv0) [.int 0] h)) := by
  obtain ⟨q, hq, hat⟩ := rs_cov xs
  have hin : ae_in (lw_rho xs 0 0) (rs_env q) := rs_in hat h40
  have hK := List.all_eq_true.mp rs_K q hq
  have hC := List.all_eq_true.mp rs_CC q hq
  have hL := rs_LL q hq
  have hT := List.all_eq_true.mp rs_TT q hq
  obtain ⟨K, V, q1, q2, q3, q4⟩ := q
  refine ⟨K, V, ?_, ?_⟩
  · intro h hR
    have w := ae_go_ok (ρ := lw_rho xs 0 0) (LL := 7) (E := fun pc _ st h' => K = 1 ∧ (pc = 30 ∨ pc = 144) ∧ st = [] ∧ ae_R (lw_rho xs 0 0) 7 ae_H0 h') (Q := fun v h' => K = 0 ∧ v = some (.int (Int32.ofInt V)) ∧ ae_R (lw_rho xs 0 0) 7 ae_H0 h') (fun _ _ _ _ z => by cases z) (fun env pc lv st H z1 z2 hi h' hr => by
      simp only [Bool.and_eq_true, Bool.or_eq_true, decide_eq_true_eq] at z1 z2
      obtain ⟨rfl, rfl⟩ := z2
      exact ⟨Nat.eq_of_beq_eq_true z1.1, z1.2.imp Nat.eq_of_beq_eq_true Nat.eq_of_beq_eq_true, rfl, hr⟩) (fun env v H z hi h' hr => by
      simp only [Bool.and_eq_true, decide_eq_true_eq] at z
      obtain ⟨z1, rfl, rfl⟩ := z
      exact ⟨Nat.eq_of_beq_eq_true z1, rfl, hr⟩) _ _ _ _ _ _ _ _ _ _ _ _ hC hin h hR
    exact w
  · rw [Bool.or_eq_true] at hK
    rcases hK with hK | hK
    · have e0 : K = 0 := Nat.eq_of_beq_eq_true hK
      subst e0
      refine Or.inr ⟨rfl, fun E h hR hV => ?_⟩
      unfold rs_L at hL
      rw [show Nat.beq ((0, V, q1, q2, q3, q4) : rs_B).1 1 = false from rfl, cond_false] at hL
      have w := ae_go_ok (ρ := lw_rho xs 0 0) (LL := 7) (E := fun pc lv st h' => pc = 1401 ∧ lv = ae_cl (lw_rho xs 0 0) (rs_lv1 (0, V, q1, q2, q3, q4)) ∧ st = [.int (Int32.ofInt 0), .ref 174] ∧ ae_R (lw_rho xs 0 0) 7 (ae_H0.1, ae_H0.2.1, 175, 175) h') (Q := fun _ _ => False) (fun _ _ _ _ z => by cases z) (fun env pc lv st H z1 z2 hi h' hr => by
        simp only [Bool.and_eq_true, decide_eq_true_eq] at z1 z2
        obtain ⟨rfl, rfl, z3⟩ := z2
        exact ⟨Nat.eq_of_beq_eq_true z1.2, rfl, rfl, ae_R_no (H' := ae_H0) hr (Nat.eq_of_beq_eq_true z3) ae_H0_7 ae_H0_8⟩) (fun env v H z hi h' hr => by
        simp only [Bool.and_eq_true] at z
        exact absurd z.1 (by decide)) _ _ _ _ _ _ _ _ _ _ _ _ hL hin h hR
      have w2 := lf_X (lf_call 20) (fun _ _ _ _ _ f k => k.mono f) rs_rok (show am_X (am_call am_cod 20) 7 175 (some .boolean) (am_find rs_rL) _ _ 1351 (ae_cl (lw_rho xs 0 0) ae_lv0) [.int (Int32.ofInt 0)] h from w)
      refine am_X.mono (fun pc lv st h' q => ?_) (fun v h' q => q.2.elim) (am_X.more rs_more w2)
      obtain ⟨e1, rfl, rfl, rfl, hr⟩ := q
      have hv : h'.2.1 174 0 = (Int32.ofInt V).toInt64 := by rw [e1]; exact hV
      have hso : am_so h' 174 = some (14, 1) := by
        unfold am_so
        rw [hr.1]
        decide +kernel
      have f1 : am_find am_rL 1401 = some (.laload, 1402, 0, 0, 0, 0) := by decide +kernel
      have f2 : am_find am_rL 1402 = some (.iload 6, 1404, 0, 0, 0, 0) := by decide +kernel
      have f3 : am_find am_rL 1404 = some (.i2l, 1405, 0, 0, 0, 0) := by decide +kernel
      have f4 : am_find am_rL 1405 = some (.lcmp, 1406, 0, 0, 0, 0) := by decide +kernel
      have f5 : am_find am_rL 1406 = some (.ifCond .eq 5, 1409, 1411, 0, 0, 0) := by decide +kernel
      refine am_xstep f1 ⟨0, 1, hso, by decide, rfl, ?_⟩
      refine am_xstep f2 (show lw_X E 1404 (ae_cl (lw_rho xs 0 0) (rs_lv1 (0, V, q1, q2, q3, q4))) [.int (Int32.ofInt V), .long (h'.2.1 174 0)] h' from ?_)
      refine am_xstep f3 (show lw_X E 1405 (ae_cl (lw_rho xs 0 0) (rs_lv1 (0, V, q1, q2, q3, q4))) [.long (Int32.ofInt V).toInt64, .long (h'.2.1 174 0)] h' from ?_)
      refine am_xstep f4 (show lw_X E 1406 (ae_cl (lw_rho xs 0 0) (rs_lv1 (0, V, q1, q2, q3, q4))) [.int (lg_cmp (h'.2.1 174 0) (Int32.ofInt V).toInt64)] h' from ?_)
      refine am_xstep f5 (show (lg_cmp (h'.2.1 174 0) (Int32.ofInt V).toInt64 = 0 → lw_X E 1411 (ae_cl (lw_rho xs 0 0) (rs_lv1 (0, V, q1, q2, q3, q4))) [] h') ∧ (¬ lg_cmp (h'.2.1 174 0) (Int32.ofInt V).toInt64 = 0 → lw_X E 1409 (ae_cl (lw_rho xs 0 0) (rs_lv1 (0, V, q1, q2, q3, q4))) [] h') from ⟨fun _ => ?_, fun z => absurd ?_ z⟩)
      · have w3 := ae_go_ok (ρ := lw_rho xs 0 0) (LL := 7) (E := E) (Q := lw_Qt) (fun _ _ _ _ z => by cases z) (fun _ _ _ _ _ z => by cases z) (fun env v H z _ h _ => by rw [of_decide_eq_true z]; rfl) _ _ _ _ _ _ _ _ _ _ _ _ hT hin h' hr
        exact w3
      · rw [hv]
        simp [lg_cmp]
    · have e1 : K = 1 := Nat.eq_of_beq_eq_true hK
      subst e1
      refine Or.inl ⟨rfl, fun E h hR => ?_⟩
      have w := ae_go_ok (ρ := lw_rho xs 0 0) (LL := 7) (E := E) (Q := lw_Qt) (fun _ _ _ _ z => by cases z) (fun env pc lv st H z1 _ _ _ _ => by
        simp only [Bool.and_eq_true] at z1
        exact absurd z1.1 (by decide)) (fun env v H z hi h' hr => by
        simp only [Bool.and_eq_true, decide_eq_true_eq] at z
        rw [z.2]
        rfl) _ _ _ _ _ _ _ _ _ _ _ _ hL hin h hR
      exact w
