/-! THE MACHINE IS DETERMINATE: two contracts of one call are one -/
theorem dt_pI {st : List Value} {k1 k2 k : Int32 → List Value → Prop} (h1 : am_pI st k1) (h2 : am_pI st k2) (f : ∀ x r, k1 x r → k2 x r → k x r) : am_pI st k := by
  obtain ⟨x, r, rfl, h⟩ := h1.inv
  exact f x r h h2
theorem dt_pL {st : List Value} {k1 k2 k : Int64 → List Value → Prop} (h1 : am_pL st k1) (h2 : am_pL st k2) (f : ∀ x r, k1 x r → k2 x r → k x r) : am_pL st k := by
  obtain ⟨x, r, rfl, h⟩ := h1.inv
  exact f x r h h2
theorem dt_pR {st : List Value} {k1 k2 k : Nat → List Value → Prop} (h1 : am_pR st k1) (h2 : am_pR st k2) (f : ∀ x r, k1 x r → k2 x r → k x r) : am_pR st k := by
  obtain ⟨x, r, rfl, h⟩ := h1.inv
  exact f x r h h2
theorem dt_pV {st : List Value} {k1 k2 k : Value → List Value → Prop} (h1 : am_pV st k1) (h2 : am_pV st k2) (f : ∀ x r, k1 x r → k2 x r → k x r) : am_pV st k := by
  obtain ⟨x, r, rfl, h⟩ := h1.inv
  exact f x r h h2
theorem dt_li {lv : am_V} {i : Nat} {k1 k2 k : Int32 → Prop} (h1 : am_li lv i k1) (h2 : am_li lv i k2) (f : ∀ x, k1 x → k2 x → k x) : am_li lv i k := by
  obtain ⟨x, e, h⟩ := am_li.inv h1
  unfold am_li at h2 ⊢
  rw [e] at h2 ⊢
  exact f x h h2
theorem dt_ll {lv : am_V} {i : Nat} {k1 k2 k : Int64 → Prop} (h1 : am_ll lv i k1) (h2 : am_ll lv i k2) (f : ∀ x, k1 x → k2 x → k x) : am_ll lv i k := by
  obtain ⟨x, e, h⟩ := am_ll.inv h1
  unfold am_ll at h2 ⊢
  rw [e] at h2 ⊢
  exact f x h h2
theorem dt_la {lv : am_V} {i : Nat} {k1 k2 k : Nat → Prop} (h1 : am_la lv i k1) (h2 : am_la lv i k2) (f : ∀ x, k1 x → k2 x → k x) : am_la lv i k := by
  obtain ⟨x, e, h⟩ := am_la.inv h1
  unfold am_la at h2 ⊢
  rw [e] at h2 ⊢
  exact f x h h2
theorem dt_shl : am_shl.all (fun q => Nat.ble q.2 4096) = true := by decide +kernel
theorem dt_so {h : am_H} {o t n : Nat} (e : am_so h o = some (t, n)) : n ≤ 4096 := by
  unfold am_so at e
  cases hb : Nat.blt o h.2.2.2.2 with
  | false =>
    rw [hb] at e
    cases e
  | true =>
    rw [hb] at e
    exact Nat.le_of_ble_eq_true (List.all_eq_true.mp dt_shl _ (List.mem_of_getElem? e))
theorem dt_sh {h : am_H} {o t n : Nat} (hb : h.2.2.2.1 ≤ 4096) (e : am_sh h o = some (t, n)) : n ≤ 4096 := by
  unfold am_sh at e
  cases hq : Nat.beq o 3000000 with
  | false =>
    rw [hq] at e
    exact dt_so e
  | true =>
    rw [hq] at e
    cases e
    exact hb
theorem dt_big {h : am_H} {q : Nat} {x : Nat × Nat} (e : am_sh h (5000000 + q) = some x) : False := by
  unfold am_sh at e
  have hb3 : Nat.beq (5000000 + q) 3000000 = false := by
    cases hb : Nat.beq (5000000 + q) 3000000 with
    | false => rfl
    | true => exact absurd (Nat.eq_of_beq_eq_true hb) (by omega)
  rw [hb3] at e
  unfold am_so at e
  have e : (bif Nat.blt (5000000 + q) h.2.2.2.2 then am_shl[5000000 + q]? else none) = some x := e
  cases hb : Nat.blt (5000000 + q) h.2.2.2.2 with
  | false =>
    rw [hb] at e
    cases e
  | true =>
    rw [hb] at e
    have hlen : am_shl.length ≤ 175 := by decide +kernel
    have := (List.getElem?_eq_some_iff.mp e).1
    omega
theorem dt_nI {i j : Nat} (hi : i < 4096) (hj : j < 4096) (e : nI i = nI j) : i = j := by
  have e1 : (nI i).toInt = (nI j).toInt := by rw [e]
  rw [nI_toInt (by omega), nI_toInt (by omega)] at e1
  omega
theorem dt_sln : ∀ q, q < 26 → am_sln.getD q 0 ≤ 4096 := by decide +kernel
theorem dt_stp {cp1 cp2 cp : am_P} {nL lim : Nat} {rt : Option FieldType} {pc : Nat} {r : am_R} {lv : am_V} {st : List Value} {h : am_H} {K1 K2 : Nat → am_V → List Value → am_H → Prop} {Q1 Q2 : am_Q}
    (hcp : ∀ n As h Q1 Q2, h.2.2.2.1 ≤ 4096 → cp1 n As h Q1 → cp2 n As h Q2 → cp n As h (fun v h' => (Q1 v h' ∧ Q2 v h') ∧ h'.2.2.2.1 = h.2.2.2.1)) (hb : h.2.2.2.1 ≤ 4096) (k1 : am_stp cp1 nL lim rt pc r lv st h K1 Q1) (k2 : am_stp cp2 nL lim rt pc r lv st h K2 Q2) :
    am_stp cp nL lim rt pc r lv st h (fun pc lv st h' => (K1 pc lv st h' ∧ K2 pc lv st h') ∧ h'.2.2.2.1 = h.2.2.2.1) (fun v h' => (Q1 v h' ∧ Q2 v h') ∧ h'.2.2.2.1 = h.2.2.2.1) := by
  obtain ⟨i, nx, a, b, c, d⟩ := r
  cases i
  case iconst n => exact ⟨⟨k1, k2⟩, rfl⟩
  case bipush n => exact ⟨⟨k1, k2⟩, rfl⟩
  case sipush n => exact ⟨⟨k1, k2⟩, rfl⟩
  case lconst n => exact ⟨⟨k1, k2⟩, rfl⟩
  case ldc2_w n => exact ⟨⟨k1, k2⟩, rfl⟩
  case goto n => exact ⟨⟨k1, k2⟩, rfl⟩
  case ldc_w n =>
    simp only [am_stp] at k1 k2 ⊢
    cases hq : Nat.beq b 1 with
    | true =>
      rw [hq] at k1 k2
      exact ⟨⟨k1, k2⟩, by trivial⟩
    | false =>
      rw [hq] at k1 k2
      exact ⟨⟨k1, k2⟩, by trivial⟩
  case ldc n =>
    simp only [am_stp] at k1 k2 ⊢
    cases hq : Nat.beq b 1 with
    | true =>
      rw [hq] at k1 k2
      exact ⟨⟨k1, k2⟩, by trivial⟩
    | false =>
      rw [hq] at k1 k2
      exact ⟨⟨k1, k2⟩, by trivial⟩
  case getstatic n =>
    simp only [am_stp] at k1 k2 ⊢
    cases hq : Nat.beq b 1 with
    | true =>
      rw [hq] at k1 k2
      exact ⟨⟨k1, k2⟩, by trivial⟩
    | false =>
      rw [hq] at k1 k2
      exact ⟨⟨k1, k2⟩, by trivial⟩
  case iload_n k => exact dt_li k1 k2 (fun _ a b => ⟨⟨a, b⟩, by trivial⟩)
  case iload k => exact dt_li k1 k2 (fun _ a b => ⟨⟨a, b⟩, by trivial⟩)
  case lload_n k => exact dt_ll k1 k2 (fun _ a b => ⟨⟨a, b⟩, by trivial⟩)
  case lload k => exact dt_ll k1 k2 (fun _ a b => ⟨⟨a, b⟩, by trivial⟩)
  case aload_n k => exact dt_la k1 k2 (fun _ a b => ⟨⟨a, b⟩, by trivial⟩)
  case aload k => exact dt_la k1 k2 (fun _ a b => ⟨⟨a, b⟩, by trivial⟩)
  case istore_n k => exact dt_pI k1 k2 (fun _ _ a b => ⟨a.1, ⟨a.2, b.2⟩, by trivial⟩)
  case istore k => exact dt_pI k1 k2 (fun _ _ a b => ⟨a.1, ⟨a.2, b.2⟩, by trivial⟩)
  case lstore_n k => exact dt_pL k1 k2 (fun _ _ a b => ⟨a.1, ⟨a.2, b.2⟩, by trivial⟩)
  case lstore k => exact dt_pL k1 k2 (fun _ _ a b => ⟨a.1, ⟨a.2, b.2⟩, by trivial⟩)
  case astore_n k => exact dt_pR k1 k2 (fun _ _ a b => ⟨a.1, ⟨a.2, b.2⟩, by trivial⟩)
  case astore k => exact dt_pR k1 k2 (fun _ _ a b => ⟨a.1, ⟨a.2, b.2⟩, by trivial⟩)
  case iinc k n => exact dt_li k1 k2 (fun _ a b => ⟨a.1, ⟨a.2, b.2⟩, by trivial⟩)
  case iadd => exact dt_pI k1 k2 (fun _ _ a b => dt_pI a b (fun _ _ a b => ⟨⟨a, b⟩, by trivial⟩))
  case isub => exact dt_pI k1 k2 (fun _ _ a b => dt_pI a b (fun _ _ a b => ⟨⟨a, b⟩, by trivial⟩))
  case imul => exact dt_pI k1 k2 (fun _ _ a b => dt_pI a b (fun _ _ a b => ⟨⟨a, b⟩, by trivial⟩))
  case iand => exact dt_pI k1 k2 (fun _ _ a b => dt_pI a b (fun _ _ a b => ⟨⟨a, b⟩, by trivial⟩))
  case ior => exact dt_pI k1 k2 (fun _ _ a b => dt_pI a b (fun _ _ a b => ⟨⟨a, b⟩, by trivial⟩))
  case ixor => exact dt_pI k1 k2 (fun _ _ a b => dt_pI a b (fun _ _ a b => ⟨⟨a, b⟩, by trivial⟩))
  case ishl => exact dt_pI k1 k2 (fun _ _ a b => dt_pI a b (fun _ _ a b => ⟨⟨a, b⟩, by trivial⟩))
  case ishr => exact dt_pI k1 k2 (fun _ _ a b => dt_pI a b (fun _ _ a b => ⟨⟨a, b⟩, by trivial⟩))
  case iushr => exact dt_pI k1 k2 (fun _ _ a b => dt_pI a b (fun _ _ a b => ⟨⟨a, b⟩, by trivial⟩))
  case idiv => exact dt_pI k1 k2 (fun _ _ a b => dt_pI a b (fun _ _ a b => ⟨a.1, ⟨a.2, b.2⟩, by trivial⟩))
  case irem => exact dt_pI k1 k2 (fun _ _ a b => dt_pI a b (fun _ _ a b => ⟨a.1, ⟨a.2, b.2⟩, by trivial⟩))
  case ladd => exact dt_pL k1 k2 (fun _ _ a b => dt_pL a b (fun _ _ a b => ⟨⟨a, b⟩, by trivial⟩))
  case lsub => exact dt_pL k1 k2 (fun _ _ a b => dt_pL a b (fun _ _ a b => ⟨⟨a, b⟩, by trivial⟩))
  case lmul => exact dt_pL k1 k2 (fun _ _ a b => dt_pL a b (fun _ _ a b => ⟨⟨a, b⟩, by trivial⟩))
  case land => exact dt_pL k1 k2 (fun _ _ a b => dt_pL a b (fun _ _ a b => ⟨⟨a, b⟩, by trivial⟩))
  case lor => exact dt_pL k1 k2 (fun _ _ a b => dt_pL a b (fun _ _ a b => ⟨⟨a, b⟩, by trivial⟩))
  case lcmp => exact dt_pL k1 k2 (fun _ _ a b => dt_pL a b (fun _ _ a b => ⟨⟨a, b⟩, by trivial⟩))
  case ldiv => exact dt_pL k1 k2 (fun _ _ a b => dt_pL a b (fun _ _ a b => ⟨a.1, ⟨a.2, b.2⟩, by trivial⟩))
  case lrem => exact dt_pL k1 k2 (fun _ _ a b => dt_pL a b (fun _ _ a b => ⟨a.1, ⟨a.2, b.2⟩, by trivial⟩))
  case lshl => exact dt_pI k1 k2 (fun _ _ a b => dt_pL a b (fun _ _ a b => ⟨⟨a, b⟩, by trivial⟩))
  case lshr => exact dt_pI k1 k2 (fun _ _ a b => dt_pL a b (fun _ _ a b => ⟨⟨a, b⟩, by trivial⟩))
  case lushr => exact dt_pI k1 k2 (fun _ _ a b => dt_pL a b (fun _ _ a b => ⟨⟨a, b⟩, by trivial⟩))
  case i2b => exact dt_pI k1 k2 (fun _ _ a b => ⟨⟨a, b⟩, by trivial⟩)
  case ineg => exact dt_pI k1 k2 (fun _ _ a b => ⟨⟨a, b⟩, by trivial⟩)
  case i2l => exact dt_pI k1 k2 (fun _ _ a b => ⟨⟨a, b⟩, by trivial⟩)
  case i2c => exact dt_pI k1 k2 (fun _ _ a b => ⟨⟨a, b⟩, by trivial⟩)
  case l2i => exact dt_pL k1 k2 (fun _ _ a b => ⟨⟨a, b⟩, by trivial⟩)
  case dup => exact dt_pV k1 k2 (fun _ _ a b => ⟨a.1, ⟨a.2, b.2⟩, by trivial⟩)
  case pop => exact dt_pV k1 k2 (fun _ _ a b => ⟨a.1, ⟨a.2, b.2⟩, by trivial⟩)
  case dup2 => exact dt_pV k1 k2 (fun _ _ a b => dt_pV a b (fun _ _ a b => ⟨a.1, a.2.1, ⟨a.2.2, b.2.2⟩, by trivial⟩))
  case if_icmp w n => exact dt_pI k1 k2 (fun _ _ a b => dt_pI a b (fun _ _ a b => ⟨fun z => ⟨⟨a.1 z, b.1 z⟩, by trivial⟩, fun z => ⟨⟨a.2 z, b.2 z⟩, by trivial⟩⟩))
  case ifCond w n => exact dt_pI k1 k2 (fun _ _ a b => ⟨fun z => ⟨⟨a.1 z, b.1 z⟩, by trivial⟩, fun z => ⟨⟨a.2 z, b.2 z⟩, by trivial⟩⟩)
  case tableswitch x y z w => exact dt_pI k1 k2 (fun _ _ a b => ⟨fun z => ⟨⟨a.1 z, b.1 z⟩, by trivial⟩, fun j u v => ⟨⟨a.2 j u v, b.2 j u v⟩, by trivial⟩⟩)
  case lookupswitch x y => exact dt_pI k1 k2 (fun _ _ a b => ⟨⟨a, b⟩, by trivial⟩)
  case getfield n =>
    simp only [am_stp] at k1 k2 ⊢
    cases hq : Nat.beq b 20 with
    | true =>
      rw [hq] at k1 k2
      refine dt_pR k1 k2 (fun o r a b => ?_)
      obtain ⟨q, a1, a2, a3⟩ := a
      obtain ⟨q', b1, b2, b3⟩ := b
      have e : q' = q := by omega
      subst e
      exact ⟨q', a1, a2, ⟨a3, b3⟩, by trivial⟩
    | false =>
      rw [hq] at k1 k2
      exact dt_pR k1 k2 (fun o r a b => ⟨a.1, ⟨a.2, b.2⟩, by trivial⟩)
  case putfield n =>
    simp only [am_stp] at k1 k2 ⊢
    rcases hq : am_kd b a with _ | _ | m
    · simp only [hq] at k1 k2 ⊢
      exact dt_pI k1 k2 (fun _ _ a b => dt_pR a b (fun _ _ a b => ⟨a.1, a.2.1, a.2.2.1, ⟨a.2.2.2, b.2.2.2⟩, by trivial⟩))
    · simp only [hq] at k1 k2 ⊢
      exact dt_pL k1 k2 (fun _ _ a b => dt_pR a b (fun _ _ a b => ⟨a.1, ⟨a.2, b.2⟩, by trivial⟩))
    · simp only [hq] at k1 k2 ⊢
      exact dt_pR k1 k2 (fun _ _ a b => dt_pR a b (fun _ _ a b => ⟨a.1, ⟨a.2, b.2⟩, by trivial⟩))
  case iaload =>
    refine dt_pI k1 k2 (fun _ _ a b => dt_pR a b (fun _ _ a b => ?_))
    obtain ⟨j, n, a1, a2, a3, a4⟩ := a
    obtain ⟨j', n', b1, b2, b3, b4⟩ := b
    have en : n' = n := by
      have e := a1.symm.trans b1
      simp only [Option.some.injEq, Prod.mk.injEq] at e
      exact e.2.symm
    have hn := dt_sh hb a1
    have ej : j' = j := dt_nI (by omega) (by omega) (b3.symm.trans a3)
    subst ej
    exact ⟨j', n, a1, a2, a3, ⟨a4, b4⟩, by trivial⟩
  case caload =>
    refine dt_pI k1 k2 (fun _ _ a b => dt_pR a b (fun _ _ a b => ?_))
    obtain ⟨j, n, a1, a2, a3, a4⟩ := a
    obtain ⟨j', n', b1, b2, b3, b4⟩ := b
    have en : n' = n := by
      have e := a1.symm.trans b1
      simp only [Option.some.injEq, Prod.mk.injEq] at e
      exact e.2.symm
    have hn := dt_sh hb a1
    have ej : j' = j := dt_nI (by omega) (by omega) (b3.symm.trans a3)
    subst ej
    exact ⟨j', n, a1, a2, a3, ⟨a4, b4⟩, by trivial⟩
  case laload =>
    refine dt_pI k1 k2 (fun _ _ a b => dt_pR a b (fun _ _ a b => ?_))
    obtain ⟨j, n, a1, a2, a3, a4⟩ := a
    obtain ⟨j', n', b1, b2, b3, b4⟩ := b
    have en : n' = n := by
      have e := a1.symm.trans b1
      simp only [Option.some.injEq, Prod.mk.injEq] at e
      exact e.2.symm
    have hn := dt_sh hb a1
    have ej : j' = j := dt_nI (by omega) (by omega) (b3.symm.trans a3)
    subst ej
    exact ⟨j', n, a1, a2, a3, ⟨a4, b4⟩, by trivial⟩
  case iastore =>
    refine dt_pI k1 k2 (fun _ _ a b => dt_pI a b (fun _ _ a b => dt_pR a b (fun _ _ a b => ?_)))
    obtain ⟨j, n, a1, a2, a3, a4⟩ := a
    obtain ⟨j', n', b1, b2, b3, b4⟩ := b
    have en : n' = n := by
      have e := a1.symm.trans b1
      simp only [Option.some.injEq, Prod.mk.injEq] at e
      exact e.2.symm
    have hn := dt_so a1
    have ej : j' = j := dt_nI (by omega) (by omega) (b3.symm.trans a3)
    subst ej
    exact ⟨j', n, a1, a2, a3, ⟨a4, b4⟩, by trivial⟩
  case castore =>
    refine dt_pI k1 k2 (fun _ _ a b => dt_pI a b (fun _ _ a b => dt_pR a b (fun _ _ a b => ?_)))
    obtain ⟨j, n, a1, a2, a3, a4⟩ := a
    obtain ⟨j', n', b1, b2, b3, b4⟩ := b
    have en : n' = n := by
      have e := a1.symm.trans b1
      simp only [Option.some.injEq, Prod.mk.injEq] at e
      exact e.2.symm
    have hn := dt_so a1
    have ej : j' = j := dt_nI (by omega) (by omega) (b3.symm.trans a3)
    subst ej
    exact ⟨j', n, a1, a2, a3, ⟨a4, b4⟩, by trivial⟩
  case bastore =>
    refine dt_pI k1 k2 (fun _ _ a b => dt_pI a b (fun _ _ a b => dt_pR a b (fun _ _ a b => ?_)))
    obtain ⟨j, n, a1, a2, a3, a4⟩ := a
    obtain ⟨j', n', b1, b2, b3, b4⟩ := b
    have en : n' = n := by
      have e := a1.symm.trans b1
      simp only [Option.some.injEq, Prod.mk.injEq] at e
      exact e.2.symm
    have hn := dt_so a1
    have ej : j' = j := dt_nI (by omega) (by omega) (b3.symm.trans a3)
    subst ej
    exact ⟨j', n, a1, a2, a3, ⟨a4, b4⟩, by trivial⟩
  case lastore =>
    refine dt_pL k1 k2 (fun _ _ a b => dt_pI a b (fun _ _ a b => dt_pR a b (fun _ _ a b => ?_)))
    obtain ⟨j, n, a1, a2, a3, a4⟩ := a
    obtain ⟨j', n', b1, b2, b3, b4⟩ := b
    have en : n' = n := by
      have e := a1.symm.trans b1
      simp only [Option.some.injEq, Prod.mk.injEq] at e
      exact e.2.symm
    have hn := dt_so a1
    have ej : j' = j := dt_nI (by omega) (by omega) (b3.symm.trans a3)
    subst ej
    exact ⟨j', n, a1, a2, a3, ⟨a4, b4⟩, by trivial⟩
  case baload =>
    refine dt_pI k1 k2 (fun _ _ a b => dt_pR a b (fun _ _ a b => ?_))
    rcases a with ⟨j, n, a1, a2, a3, a4⟩ | ⟨q, j, a0, a1, a2, a3, a4⟩
    · rcases b with ⟨j', n', b1, b2, b3, b4⟩ | ⟨q', j', b0, b1, b2, b3, b4⟩
      · have en : n' = n := by
          have e := a1.symm.trans b1
          simp only [Option.some.injEq, Prod.mk.injEq] at e
          exact e.2.symm
        have hn := dt_sh hb a1
        have ej : j' = j := dt_nI (by omega) (by omega) (b3.symm.trans a3)
        subst ej
        exact Or.inl ⟨j', n, a1, a2, a3, ⟨a4, b4⟩, rfl⟩
      · rw [b1] at a1
        exact (dt_big a1).elim
    · rcases b with ⟨j', n', b1, b2, b3, b4⟩ | ⟨q', j', b0, b1, b2, b3, b4⟩
      · rw [a1] at b1
        exact (dt_big b1).elim
      · have e : q' = q := by omega
        subst e
        have hn := dt_sln q' a0
        have ej : j' = j := dt_nI (by omega) (by omega) (b3.symm.trans a3)
        subst ej
        exact Or.inr ⟨q', j', a0, a1, a2, a3, ⟨a4, b4⟩, rfl⟩
  case arraylength =>
    refine dt_pR k1 k2 (fun _ _ a b => ?_)
    rcases a with ⟨t, n, a1, a2, a3⟩ | ⟨q, a0, a1, a2⟩
    · rcases b with ⟨t', n', b1, b2, b3⟩ | ⟨q', b0, b1, b2⟩
      · have e := a1.symm.trans b1
        simp only [Option.some.injEq, Prod.mk.injEq] at e
        obtain ⟨-, rfl⟩ := e
        exact Or.inl ⟨t, n, a1, a2, ⟨a3, b3⟩, rfl⟩
      · rw [b1] at a1
        exact (dt_big a1).elim
    · rcases b with ⟨t', n', b1, b2, b3⟩ | ⟨q', b0, b1, b2⟩
      · rw [a1] at b1
        exact (dt_big b1).elim
      · have e : q' = q := by omega
        subst e
        exact Or.inr ⟨q', a0, a1, ⟨a2, b2⟩, rfl⟩
  case aaload =>
    refine dt_pI k1 k2 (fun _ _ a b => dt_pR a b (fun _ _ a b => ?_))
    obtain ⟨j, n, a1, a2, a3, a4⟩ := a
    obtain ⟨j', n', b1, b2, b3, b4⟩ := b
    have hn : n ≤ 4096 := a1.elim (dt_sh hb) (dt_sh hb)
    have hn' : n' ≤ 4096 := b1.elim (dt_sh hb) (dt_sh hb)
    have ej : j' = j := dt_nI (by omega) (by omega) (b3.symm.trans a3)
    subst ej
    exact ⟨j', n, a1, a2, a3, ⟨a4, b4⟩, rfl⟩
  case aastore =>
    refine dt_pR k1 k2 (fun _ _ a b => dt_pI a b (fun _ _ a b => dt_pR a b (fun _ _ a b => ?_)))
    obtain ⟨j, n, a1, a2, a3, a4⟩ := a
    obtain ⟨j', n', b1, b2, b3, b4⟩ := b
    have hn : n ≤ 4096 := a1.elim (fun z => dt_so z.1) (fun z => dt_so z.1)
    have hn' : n' ≤ 4096 := b1.elim (fun z => dt_so z.1) (fun z => dt_so z.1)
    have ej : j' = j := dt_nI (by omega) (by omega) (b3.symm.trans a3)
    subst ej
    exact ⟨j', n, a1, a2, a3, ⟨a4, b4⟩, rfl⟩
  case new n => exact ⟨k1.1, k1.2.1, ⟨k1.2.2, k2.2.2⟩, rfl⟩
  case newarray w =>
    refine dt_pI k1 k2 (fun _ _ a b => ?_)
    obtain ⟨n, a1, a2, a3, a4⟩ := a
    obtain ⟨n', b1, b2, b3, b4⟩ := b
    exact ⟨n, a1, a2, a3, ⟨a4, b4⟩, rfl⟩
  case anewarray w =>
    refine dt_pI k1 k2 (fun _ _ a b => ?_)
    obtain ⟨n, a1, a2, a3, a4⟩ := a
    obtain ⟨n', b1, b2, b3, b4⟩ := b
    exact ⟨n, a1, a2, a3, ⟨a4, b4⟩, rfl⟩
  case invokevirtual n =>
    simp only [am_stp] at k1 k2 ⊢
    split at k1
    · rename_i As o r e
      simp only [e] at k2 ⊢
      exact ⟨k1.1, k1.2.1, k1.2.2.1, hcp _ _ _ _ _ hb k1.2.2.2 k2.2.2.2⟩
    · exact k1.elim
  case invokespecial n =>
    simp only [am_stp] at k1 k2 ⊢
    split at k1
    · rename_i As o r e
      simp only [e] at k2 ⊢
      refine ⟨k1.1, ?_⟩
      have k1 := k1.2
      have k2 := k2.2
      cases hq : Nat.beq a 1 with
      | true =>
        rw [hq] at k1 k2
        exact ⟨k1.1, ⟨k1.2, k2.2⟩, by trivial⟩
      | false =>
        rw [hq] at k1 k2
        exact ⟨k1.1, hcp _ _ _ _ _ hb k1.2 k2.2⟩
    · exact k1.elim
  case invokestatic n =>
    simp only [am_stp] at k1 k2 ⊢
    split at k1
    · rename_i As r e
      simp only [e] at k2 ⊢
      exact ⟨k1.1, k1.2.1, hcp _ _ _ _ _ hb k1.2.2 k2.2.2⟩
    · exact k1.elim
  case ireturn =>
    simp only [am_stp] at k1 k2 ⊢
    split at k1
    · exact ⟨k1.1, ⟨k1.2, k2.2⟩, by trivial⟩
    · exact k1.elim
  case lreturn =>
    simp only [am_stp] at k1 k2 ⊢
    split at k1
    · exact ⟨k1.1, ⟨k1.2, k2.2⟩, by trivial⟩
    · exact k1.elim
  case return_ =>
    simp only [am_stp] at k1 k2 ⊢
    split at k1
    · exact ⟨k1.1, ⟨k1.2, k2.2⟩, by trivial⟩
    · exact k1.elim
  all_goals exact False.elim k1
theorem dt_W {cp1 cp2 cp : am_P} {nL lim B : Nat} {rt : Option FieldType} {cod : Nat → Option am_R} {Q1 Q2 : am_Q} {pc : Nat} {lv : am_V} {st : List Value} {h : am_H} (hB : B ≤ 4096)
    (hcp : ∀ n As h Q1 Q2, h.2.2.2.1 ≤ 4096 → cp1 n As h Q1 → cp2 n As h Q2 → cp n As h (fun v h' => (Q1 v h' ∧ Q2 v h') ∧ h'.2.2.2.1 = h.2.2.2.1)) (k1 : am_W cp1 nL lim rt cod Q1 pc lv st h) (hb : h.2.2.2.1 = B) (k2 : am_W cp2 nL lim rt cod Q2 pc lv st h) : am_W cp nL lim rt cod (fun v h' => (Q1 v h' ∧ Q2 v h') ∧ h'.2.2.2.1 = B) pc lv st h :=
  k1 (fun pc lv st h => h.2.2.2.1 = B → am_W cp2 nL lim rt cod Q2 pc lv st h → am_W cp nL lim rt cod (fun v h' => (Q1 v h' ∧ Q2 v h') ∧ h'.2.2.2.1 = B) pc lv st h) (fun _ _ _ _ z => z.elim) (fun pc lv st h r K0 Q0 hc hs hk hq hb k2 => by
    obtain ⟨K2, Q2', hs2, hk2, hq2⟩ := am_X.inv1 (fun z => z) hc k2
    have key := dt_stp hcp (by rw [hb]; exact hB) hs hs2
    exact fun P hE hP => hP pc lv st h r _ _ hc key (fun pc lv st h' z => hk pc lv st h' z.1.1 (z.2.trans hb) (hk2 pc lv st h' z.1.2) P hE hP) (fun v h' z => ⟨⟨hq v h' z.1.1, hq2 v h' z.1.2⟩, z.2.trans hb⟩)) hb k2
theorem dt_call {cods : Nat → Nat → Option am_R} : ∀ (d1 d2 n : Nat) (As : List Value) (h : am_H) (Q1 Q2 : am_Q), h.2.2.2.1 ≤ 4096 → am_call cods d1 n As h Q1 → am_call cods d2 n As h Q2 → am_call cods (max d1 d2) n As h (fun v h' => (Q1 v h' ∧ Q2 v h') ∧ h'.2.2.2.1 = h.2.2.2.1) := by
  intro d1
  induction d1 with
  | zero => intro d2 n As h Q1 Q2 hb k1 k2; exact k1.elim
  | succ d1 ih1 =>
    intro d2
    induction d2 with
    | zero => intro n As h Q1 Q2 hb k1 k2; exact k2.elim
    | succ d2 ih2 =>
      intro n As h Q1 Q2 hb k1 k2
      rcases k1 with k1 | k1
      · exact (ih1 (d2 + 1) n As h Q1 Q2 hb k1 k2).up (by omega)
      · rcases k2 with k2 | k2
        · exact (ih2 n As h Q1 Q2 hb (Or.inr k1) k2).up (by omega)
        · rw [show max (d1 + 1) (d2 + 1) = max d1 d2 + 1 by omega]
          exact Or.inr ⟨k1.1, (dt_W hb (ih1 d2) k1.2 rfl k2.2).mono (fun v h' q => ⟨q.1.1.1, ⟨⟨q.1.1.2, q.1.2.2⟩, q.2⟩⟩)⟩
/-- two contracts of one call, joined -/
theorem am_det {d n : Nat} {As : List Value} {h : am_H} {Q1 Q2 Q : am_Q} (hb : h.2.2.2.1 ≤ 4096) (k1 : am_call am_cod d n As h Q1) (k2 : am_call am_cod d n As h Q2) (hQ : ∀ v h', Q1 v h' → Q2 v h' → Q v h') : am_call am_cod d n As h Q := by
  have k := dt_call d d n As h Q1 Q2 hb k1 k2
  rw [Nat.max_self] at k
  exact k.mono (fun v h' q => hQ v h' q.1.1 q.1.2)
