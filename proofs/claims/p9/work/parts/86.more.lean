/-! LOCALS MORE THAN ARE NEEDED -/
theorem am_pI.imp {st : List Value} {k k' : Int32 → List Value → Prop} (f : ∀ x r, k x r → k' x r) (h : am_pI st k) : am_pI st k' := by
  obtain ⟨x, r, rfl, h⟩ := h.inv
  exact f x r h
theorem am_pL.imp {st : List Value} {k k' : Int64 → List Value → Prop} (f : ∀ x r, k x r → k' x r) (h : am_pL st k) : am_pL st k' := by
  obtain ⟨x, r, rfl, h⟩ := h.inv
  exact f x r h
theorem am_pR.imp {st : List Value} {k k' : Nat → List Value → Prop} (f : ∀ x r, k x r → k' x r) (h : am_pR st k) : am_pR st k' := by
  obtain ⟨x, r, rfl, h⟩ := h.inv
  exact f x r h
theorem am_pV.imp {st : List Value} {k k' : Value → List Value → Prop} (f : ∀ x r, k x r → k' x r) (h : am_pV st k) : am_pV st k' := by
  obtain ⟨x, r, rfl, h⟩ := h.inv
  exact f x r h
def sv (lv lv' : am_V) : Prop := ∀ q ∈ lv, am_lk lv' q.1 = some q.2
theorem sv_li {lv lv' : am_V} {i : Nat} {k k' : Int32 → Prop} (hv : sv lv lv') (f : ∀ x, k x → k' x) (h : am_li lv i k) : am_li lv' i k' := by
  obtain ⟨x, h1, h2⟩ := am_li.inv h
  unfold am_li
  rw [hv _ (am_lk_mem h1)]
  exact f x h2
theorem sv_ll {lv lv' : am_V} {i : Nat} {k k' : Int64 → Prop} (hv : sv lv lv') (f : ∀ x, k x → k' x) (h : am_ll lv i k) : am_ll lv' i k' := by
  obtain ⟨x, h1, h2⟩ := am_ll.inv h
  unfold am_ll
  rw [hv _ (am_lk_mem h1)]
  exact f x h2
theorem sv_la {lv lv' : am_V} {i : Nat} {k k' : Nat → Prop} (hv : sv lv lv') (f : ∀ x, k x → k' x) (h : am_la lv i k) : am_la lv' i k' := by
  obtain ⟨x, h1, h2⟩ := am_la.inv h
  unfold am_la
  rw [hv _ (am_lk_mem h1)]
  exact f x h2
theorem sv_fl {f : Nat × Value → Bool} {j : Nat} {w : Value} (hf : f (j, w) = true) : ∀ {l : am_V}, am_lk l j = some w → am_lk (l.filter f) j = some w
  | q :: l, h => by
    unfold am_lk at h
    cases hq : Nat.beq q.1 j with
    | true =>
      rw [hq] at h
      have e1 : q.1 = j := Nat.eq_of_beq_eq_true hq
      have e2 : q.2 = w := Option.some.inj h
      have e3 : q = (j, w) := Prod.ext e1 e2
      rw [List.filter_cons, e3, if_pos hf]
      unfold am_lk
      rw [show Nat.beq (j, w).1 j = true from Nat.beq_refl j]
      rfl
    | false =>
      rw [hq] at h
      have ih := sv_fl hf (l := l) h
      rw [List.filter_cons]
      by_cases hb : f q = true
      · rw [if_pos hb]
        unfold am_lk
        rw [hq]
        exact ih
      · rw [if_neg hb]
        exact ih
theorem sv_hd {i : Nat} {v : Value} {l : am_V} : am_lk ((i, v) :: l) i = some v := by
  unfold am_lk
  rw [show Nat.beq (i, v).1 i = true from Nat.beq_refl i]
  rfl
theorem sv_tl {i j : Nat} {v : Value} {l : am_V} (hn : ¬ i = j) : am_lk ((i, v) :: l) j = am_lk l j := by
  have e : Nat.beq i j = false := by
    cases hb : Nat.beq i j with
    | true => exact absurd (Nat.eq_of_beq_eq_true hb) hn
    | false => rfl
  show (bif Nat.beq i j then _ else am_lk l j) = am_lk l j
  rw [e]
  rfl
theorem sv_s1 {lv lv' : am_V} {i : Nat} {v : Value} (hv : sv lv lv') : sv (am_s1 lv i v) (am_s1 lv' i v) := by
  intro q hq
  rcases List.mem_cons.mp hq with w | w
  · rw [w]
    exact sv_hd
  · obtain ⟨w1, w2⟩ := List.mem_filter.mp w
    have hne : ¬ i = q.1 := fun z => by
      rw [Bool.and_eq_true] at w2
      have w3 := w2.1
      rw [z] at w3
      simp at w3
    unfold am_s1
    rw [sv_tl hne]
    exact sv_fl w2 (hv q w1)
theorem sv_s2 {lv lv' : am_V} {i : Nat} {v : Value} (hv : sv lv lv') : sv (am_s2 lv i v) (am_s2 lv' i v) := by
  intro q hq
  rcases List.mem_cons.mp hq with w | w
  · rw [w]
    exact sv_hd
  · obtain ⟨w1, w2⟩ := List.mem_filter.mp w
    have hne : ¬ i = q.1 := fun z => by
      rw [Bool.and_eq_true] at w2
      have w3 := w2.1
      rw [z] at w3
      simp at w3
    unfold am_s2
    rw [sv_tl hne]
    exact sv_fl w2 (hv q w1)
def sv_ok (r : am_R) : Bool := match r with
  | (i, _, a, b, _, _) => match i with
    | .iconst _ | .bipush _ | .sipush _ | .lconst _ | .ldc2_w _ | .goto _ | .iload_n _ | .iload _ | .lload_n _ | .lload _ | .aload_n _ | .istore_n _ | .istore _ | .lstore_n _ | .lstore _ | .iinc _ _ | .iadd | .isub | .imul | .iand | .ior | .ishl | .ishr | .ladd | .lsub | .lmul | .lcmp | .i2l | .l2i | .dup | .dup2 | .pop | .if_icmp _ _ | .ifCond _ _ | .iaload | .laload | .iastore | .lastore | .invokestatic _ | .invokevirtual _ | .ireturn | .return_ => true
    | .getfield _ => !(Nat.beq b 20)
    | .putfield _ => Nat.beq (am_kd b a) 0
    | _ => false
theorem sv_stp {cp : am_P} {nL lim : Nat} {rt : Option FieldType} {pc : Nat} {r : am_R} {lv lv' : am_V} {st : List Value} {h : am_H} {K : Nat → am_V → List Value → am_H → Prop} {Q : am_Q} (hm : ∀ n As h Q Q', (∀ v h, Q v h → Q' v h) → cp n As h Q → cp n As h Q') (hok : sv_ok r = true) (hv : sv lv lv') (hs : am_stp cp nL lim rt pc r lv st h K Q) :
    am_stp cp nL lim rt pc r lv' st h (fun pc lv2 st h => ∃ lv1, sv lv1 lv2 ∧ K pc lv1 st h) Q := by
  obtain ⟨i, nx, a, b, c, d⟩ := r
  cases i
  case iconst n => exact ⟨lv, hv, hs⟩
  case bipush n => exact ⟨lv, hv, hs⟩
  case sipush n => exact ⟨lv, hv, hs⟩
  case lconst n => exact ⟨lv, hv, hs⟩
  case ldc2_w n => exact ⟨lv, hv, hs⟩
  case goto n => exact ⟨lv, hv, hs⟩
  case iload_n k => exact sv_li hv (fun _ q => ⟨lv, hv, q⟩) hs
  case iload k => exact sv_li hv (fun _ q => ⟨lv, hv, q⟩) hs
  case lload_n k => exact sv_ll hv (fun _ q => ⟨lv, hv, q⟩) hs
  case lload k => exact sv_ll hv (fun _ q => ⟨lv, hv, q⟩) hs
  case aload_n k => exact sv_la hv (fun _ q => ⟨lv, hv, q⟩) hs
  case istore_n k => exact am_pI.imp (fun _ _ q => ⟨q.1, _, sv_s1 hv, q.2⟩) hs
  case istore k => exact am_pI.imp (fun _ _ q => ⟨q.1, _, sv_s1 hv, q.2⟩) hs
  case lstore_n k => exact am_pL.imp (fun _ _ q => ⟨q.1, _, sv_s2 hv, q.2⟩) hs
  case lstore k => exact am_pL.imp (fun _ _ q => ⟨q.1, _, sv_s2 hv, q.2⟩) hs
  case iinc k n => exact sv_li hv (fun _ q => ⟨q.1, _, sv_s1 hv, q.2⟩) hs
  case iadd => exact am_pI.imp (fun _ _ q => am_pI.imp (fun _ _ q => ⟨lv, hv, q⟩) q) hs
  case isub => exact am_pI.imp (fun _ _ q => am_pI.imp (fun _ _ q => ⟨lv, hv, q⟩) q) hs
  case imul => exact am_pI.imp (fun _ _ q => am_pI.imp (fun _ _ q => ⟨lv, hv, q⟩) q) hs
  case iand => exact am_pI.imp (fun _ _ q => am_pI.imp (fun _ _ q => ⟨lv, hv, q⟩) q) hs
  case ior => exact am_pI.imp (fun _ _ q => am_pI.imp (fun _ _ q => ⟨lv, hv, q⟩) q) hs
  case ishl => exact am_pI.imp (fun _ _ q => am_pI.imp (fun _ _ q => ⟨lv, hv, q⟩) q) hs
  case ishr => exact am_pI.imp (fun _ _ q => am_pI.imp (fun _ _ q => ⟨lv, hv, q⟩) q) hs
  case ladd => exact am_pL.imp (fun _ _ q => am_pL.imp (fun _ _ q => ⟨lv, hv, q⟩) q) hs
  case lsub => exact am_pL.imp (fun _ _ q => am_pL.imp (fun _ _ q => ⟨lv, hv, q⟩) q) hs
  case lmul => exact am_pL.imp (fun _ _ q => am_pL.imp (fun _ _ q => ⟨lv, hv, q⟩) q) hs
  case lcmp => exact am_pL.imp (fun _ _ q => am_pL.imp (fun _ _ q => ⟨lv, hv, q⟩) q) hs
  case i2l => exact am_pI.imp (fun _ _ q => ⟨lv, hv, q⟩) hs
  case l2i => exact am_pL.imp (fun _ _ q => ⟨lv, hv, q⟩) hs
  case dup => exact am_pV.imp (fun _ _ q => ⟨q.1, lv, hv, q.2⟩) hs
  case dup2 => exact am_pV.imp (fun _ _ q => am_pV.imp (fun _ _ q => ⟨q.1, q.2.1, lv, hv, q.2.2⟩) q) hs
  case pop => exact am_pV.imp (fun _ _ q => ⟨q.1, lv, hv, q.2⟩) hs
  case if_icmp w n => exact am_pI.imp (fun _ _ q => am_pI.imp (fun _ _ q => ⟨fun z => ⟨lv, hv, q.1 z⟩, fun z => ⟨lv, hv, q.2 z⟩⟩) q) hs
  case ifCond w n => exact am_pI.imp (fun _ _ q => ⟨fun z => ⟨lv, hv, q.1 z⟩, fun z => ⟨lv, hv, q.2 z⟩⟩) hs
  case getfield n =>
    have hb : Nat.beq b 20 = false := by
      cases hb : Nat.beq b 20 with
      | false => rfl
      | true =>
        have hok : (!(Nat.beq b 20)) = true := hok
        rw [hb] at hok
        cases hok
    simp only [am_stp, hb] at hs ⊢
    exact am_pR.imp (fun _ _ q => ⟨q.1, lv, hv, q.2⟩) hs
  case putfield n =>
    have h0 : am_kd b a = 0 := Nat.eq_of_beq_eq_true hok
    simp only [am_stp, h0] at hs ⊢
    exact am_pI.imp (fun _ _ q => am_pR.imp (fun _ _ q => ⟨q.1, q.2.1, q.2.2.1, lv, hv, q.2.2.2⟩) q) hs
  case iaload => exact am_pI.imp (fun _ _ q => am_pR.imp (fun _ _ ⟨j, n, q1, q2, q3, q4⟩ => ⟨j, n, q1, q2, q3, lv, hv, q4⟩) q) hs
  case laload => exact am_pI.imp (fun _ _ q => am_pR.imp (fun _ _ ⟨j, n, q1, q2, q3, q4⟩ => ⟨j, n, q1, q2, q3, lv, hv, q4⟩) q) hs
  case iastore => exact am_pI.imp (fun _ _ q => am_pI.imp (fun _ _ q => am_pR.imp (fun _ _ ⟨j, n, q1, q2, q3, q4⟩ => ⟨j, n, q1, q2, q3, lv, hv, q4⟩) q) q) hs
  case lastore => exact am_pL.imp (fun _ _ q => am_pI.imp (fun _ _ q => am_pR.imp (fun _ _ ⟨j, n, q1, q2, q3, q4⟩ => ⟨j, n, q1, q2, q3, lv, hv, q4⟩) q) q) hs
  case ireturn =>
    simp only [am_stp] at hs ⊢
    split at hs
    · exact hs
    · exact hs.elim
  case return_ =>
    simp only [am_stp] at hs ⊢
    split at hs
    · exact hs
    · exact hs.elim
  case invokestatic n =>
    simp only [am_stp] at hs ⊢
    split at hs
    · exact ⟨hs.1, hs.2.1, hm _ _ _ _ _ (fun v h' q => ⟨lv, hv, q⟩) hs.2.2⟩
    · exact hs.elim
  case invokevirtual n =>
    simp only [am_stp] at hs ⊢
    split at hs
    · exact ⟨hs.1, hs.2.1, hs.2.2.1, hm _ _ _ _ _ (fun v h' q => ⟨lv, hv, q⟩) hs.2.2.2⟩
    · exact hs.elim
  all_goals exact absurd hok (by simp [sv_ok])
theorem sv_X {cp : am_P} {nL lim : Nat} {rt : Option FieldType} {cod : Nat → Option am_R} {Q : am_Q} {pc : Nat} {lv lv' : am_V} {st : List Value} {h : am_H} (hm : ∀ n As h Q Q', (∀ v h, Q v h → Q' v h) → cp n As h Q → cp n As h Q') (hok : ∀ pc r, cod pc = some r → sv_ok r = true) (hv : sv lv lv') (k : am_X cp nL lim rt cod (fun _ _ _ _ => False) Q pc lv st h) : am_X cp nL lim rt cod (fun _ _ _ _ => False) Q pc lv' st h :=
  k (fun pc lv st h => ∀ lv', sv lv lv' → am_X cp nL lim rt cod (fun _ _ _ _ => False) Q pc lv' st h) (fun _ _ _ _ z => z.elim) (fun pc lv st h r K0 Q0 hc hs hk hq lv' hv => fun P hE hP => hP pc lv' st h r _ Q0 hc (sv_stp hm (hok pc r hc) hv hs) (fun pc lv2 st h ⟨lv1, w1, w2⟩ => hk pc lv1 st h w2 lv2 w1 P hE hP) hq) lv' hv
theorem sv_S {nL d : Nat} {rt : Option FieldType} {rows : List (Nat × am_R)} {Q : am_Q} {pc : Nat} {lv lv' : am_V} {st : List Value} {h : am_H} (hok : rows.all (fun q => sv_ok q.2) = true) (hv : sv lv lv') (k : pz_S nL rt rows d Q pc lv st h) : pz_S nL rt rows d Q pc lv' st h :=
  sv_X (fun _ _ _ _ _ f k => am_call.mono f k) (fun _ _ hc => List.all_eq_true.mp hok _ (am_find_mem hc)) hv k
theorem sv_189 : am_r189.all (fun q => sv_ok q.2) = true := by decide +kernel
theorem sv_188 : am_r188.all (fun q => sv_ok q.2) = true := by decide +kernel
theorem sv_219 : am_r219.all (fun q => sv_ok q.2) = true := by decide +kernel
