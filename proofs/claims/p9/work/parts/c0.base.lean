/-! MORE LOCALS DO NO HARM, FOR MORE ROWS -/
def sv2_ok (r : am_R) : Bool := sv_ok r || (match r with
  | (i, _, _, b, _, _) => match i with
    | .idiv | .irem | .ineg | .iushr | .ixor | .land | .lor | .ldiv | .lrem | .lshl | .lushr | .lshr | .aload _ | .astore _ | .astore_n _ | .tableswitch _ _ _ _ | .lookupswitch _ _ | .baload | .bastore => true
    | .ldc _ | .ldc_w _ => Nat.beq b 0
    | _ => false)
theorem sv2_stp {cp : am_P} {nL lim : Nat} {rt : Option FieldType} {pc : Nat} {r : am_R} {lv lv' : am_V} {st : List Value} {h : am_H} {K : Nat → am_V → List Value → am_H → Prop} {Q : am_Q} (hm : ∀ n As h Q Q', (∀ v h, Q v h → Q' v h) → cp n As h Q → cp n As h Q') (hok : sv2_ok r = true) (hv : sv lv lv') (hs : am_stp cp nL lim rt pc r lv st h K Q) :
    am_stp cp nL lim rt pc r lv' st h (fun pc lv2 st h => ∃ lv1, sv lv1 lv2 ∧ K pc lv1 st h) Q := by
  rcases Bool.or_eq_true_iff.mp hok with w | w
  · exact sv_stp hm w hv hs
  · obtain ⟨i, nx, a, b, c, d⟩ := r
    cases i
    case idiv => exact am_pI.imp (fun _ _ q => am_pI.imp (fun _ _ q => ⟨q.1, lv, hv, q.2⟩) q) hs
    case irem => exact am_pI.imp (fun _ _ q => am_pI.imp (fun _ _ q => ⟨q.1, lv, hv, q.2⟩) q) hs
    case ineg => exact am_pI.imp (fun _ _ q => ⟨lv, hv, q⟩) hs
    case iushr => exact am_pI.imp (fun _ _ q => am_pI.imp (fun _ _ q => ⟨lv, hv, q⟩) q) hs
    case ixor => exact am_pI.imp (fun _ _ q => am_pI.imp (fun _ _ q => ⟨lv, hv, q⟩) q) hs
    case land => exact am_pL.imp (fun _ _ q => am_pL.imp (fun _ _ q => ⟨lv, hv, q⟩) q) hs
    case lor => exact am_pL.imp (fun _ _ q => am_pL.imp (fun _ _ q => ⟨lv, hv, q⟩) q) hs
    case ldiv => exact am_pL.imp (fun _ _ q => am_pL.imp (fun _ _ q => ⟨q.1, lv, hv, q.2⟩) q) hs
    case lrem => exact am_pL.imp (fun _ _ q => am_pL.imp (fun _ _ q => ⟨q.1, lv, hv, q.2⟩) q) hs
    case lshl => exact am_pI.imp (fun _ _ q => am_pL.imp (fun _ _ q => ⟨lv, hv, q⟩) q) hs
    case lshr => exact am_pI.imp (fun _ _ q => am_pL.imp (fun _ _ q => ⟨lv, hv, q⟩) q) hs
    case lushr => exact am_pI.imp (fun _ _ q => am_pL.imp (fun _ _ q => ⟨lv, hv, q⟩) q) hs
    case aload k => exact sv_la hv (fun _ q => ⟨lv, hv, q⟩) hs
    case astore k => exact am_pR.imp (fun _ _ q => ⟨q.1, _, sv_s1 hv, q.2⟩) hs
    case astore_n k => exact am_pR.imp (fun _ _ q => ⟨q.1, _, sv_s1 hv, q.2⟩) hs
    case tableswitch df lo hi os => exact am_pI.imp (fun _ _ q => ⟨fun z => ⟨lv, hv, q.1 z⟩, fun j z1 z2 => ⟨lv, hv, q.2 j z1 z2⟩⟩) hs
    case lookupswitch df ps => exact am_pI.imp (fun _ _ q => ⟨lv, hv, q⟩) hs
    case baload => exact am_pI.imp (fun _ _ q => am_pR.imp (fun _ _ q => q.imp (fun ⟨j, n, q1, q2, q3, q4⟩ => ⟨j, n, q1, q2, q3, lv, hv, q4⟩) (fun ⟨j, n, q1, q2, q3, q4, q5⟩ => ⟨j, n, q1, q2, q3, q4, lv, hv, q5⟩)) q) hs
    case bastore => exact am_pI.imp (fun _ _ q => am_pI.imp (fun _ _ q => am_pR.imp (fun _ _ ⟨j, n, q1, q2, q3, q4⟩ => ⟨j, n, q1, q2, q3, lv, hv, q4⟩) q) q) hs
    case ldc k =>
      have hb : Nat.beq b 1 = false := by
        have : b = 0 := Nat.eq_of_beq_eq_true w
        rw [this]; rfl
      simp only [am_stp, hb] at hs ⊢
      exact ⟨lv, hv, hs⟩
    case ldc_w k =>
      have hb : Nat.beq b 1 = false := by
        have : b = 0 := Nat.eq_of_beq_eq_true w
        rw [this]; rfl
      simp only [am_stp, hb] at hs ⊢
      exact ⟨lv, hv, hs⟩
    all_goals exact absurd w (by simp)
theorem sv2_X {cp : am_P} {nL lim : Nat} {rt : Option FieldType} {cod : Nat → Option am_R} {Q : am_Q} {pc : Nat} {lv lv' : am_V} {st : List Value} {h : am_H} (hm : ∀ n As h Q Q', (∀ v h, Q v h → Q' v h) → cp n As h Q → cp n As h Q') (hok : ∀ pc r, cod pc = some r → sv2_ok r = true) (hv : sv lv lv') (k : am_X cp nL lim rt cod (fun _ _ _ _ => False) Q pc lv st h) : am_X cp nL lim rt cod (fun _ _ _ _ => False) Q pc lv' st h :=
  k (fun pc lv st h => ∀ lv', sv lv lv' → am_X cp nL lim rt cod (fun _ _ _ _ => False) Q pc lv' st h) (fun _ _ _ _ z => z.elim) (fun pc lv st h r K0 Q0 hc hs hk hq lv' hv => fun P hE hP => hP pc lv' st h r _ Q0 hc (sv2_stp hm (hok pc r hc) hv hs) (fun pc lv2 st h ⟨lv1, w1, w2⟩ => hk pc lv1 st h w2 lv2 w1 P hE hP) hq) lv' hv
theorem sv_S2 {nL d : Nat} {rt : Option FieldType} {rows : List (Nat × am_R)} {Q : am_Q} {pc : Nat} {lv lv' : am_V} {st : List Value} {h : am_H} (hok : rows.all (fun q => sv2_ok q.2) = true) (hv : sv lv lv') (k : pz_S nL rt rows d Q pc lv st h) : pz_S nL rt rows d Q pc lv' st h :=
  sv2_X (fun _ _ _ _ _ f k => am_call.mono f k) (fun _ _ hc => List.all_eq_true.mp hok _ (am_find_mem hc)) hv k
theorem dn_a {x y : Int32} {a b : Nat} (h1 : x = nI a) (h2 : y = nI b) : x + y = nI (a + b) := by rw [h1, h2, nI_add]
theorem dn_m {x y : Int32} {a b : Nat} (h1 : x = nI a) (h2 : y = nI b) : x * y = nI (a * b) := by rw [h1, h2, nI_mul]
theorem dn_q {Q : am_Q} {h : am_H} {x y : Int32} (e : x = y) (q : Q (some (.int x)) h) : Q (some (.int y)) h := e ▸ q
theorem am_wI_id (h : am_H) (o k : Nat) : am_wI h o k (h.1 o k) = h := by
  obtain ⟨a, b⟩ := h
  have : (fun x y => if x = o ∧ y = k then a o k else a x y) = a := by
    funext x y
    by_cases e : x = o ∧ y = k
    · rw [if_pos e, e.1, e.2]
    · rw [if_neg e]
  show ((fun x y => if x = o ∧ y = k then a o k else a x y), b) = (a, b)
  rw [this]
/-! STATES: day, crimes, lots, met, held, came -/
abbrev dS : Type := Int32 × Int32 × (Nat → Int32) × (Nat → Int32) × (Nat → Int32) × (Nat → Int32)
/-- of a canton: persons, events, kinds, lots told, days of the week, needs, who is to come, snow, the law's length and parts -/
abbrev dP (C : sp_C) : Nat := C.1.1
abbrev dE (C : sp_C) : Nat := C.2.1.1
abbrev dK (C : sp_C) (i : Nat) : Int32 := C.1.2.2.1 i
abbrev dL (C : sp_C) (i : Nat) : Int32 := C.1.2.2.2 i
abbrev dW (C : sp_C) (e : Nat) : Int32 := C.2.1.2.2.1 e
abbrev dN (C : sp_C) (e : Nat) : Int32 := C.2.1.2.2.2.1 e
abbrev dG (C : sp_C) (e : Nat) : Int32 := C.2.1.2.2.2.2 e
abbrev dO (C : sp_C) : Int32 := C.2.2.1.2
abbrev dM (C : sp_C) : Nat := C.2.2.2.2.1
abbrev dT (C : sp_C) (i : Nat) : Int32 := C.2.2.2.2.2 i
/-- the law's place, as the reference has it -/
abbrev dQ (C : sp_C) : Int32 := bif C.2.2.2.1 then nI 0 else Int32.ofInt (-1)
/-- the class's State o is s -/
def sC (o : Nat) (s : dS) (h : am_H) : Prop := (h.1 o 0 = s.1 ∧ h.1 o 1 = s.2.1) ∧ (∀ i, i < 6 → h.1 (o + 1) i = s.2.2.1 i ∧ h.1 (o + 2) i = s.2.2.2.1 i) ∧ (∀ i, i < 5 → h.1 (o + 3) i = s.2.2.2.2.1 i ∧ h.1 (o + 4) i = s.2.2.2.2.2 i)
/-- the reference's state at b, of P persons, is s -/
def sR (b P : Nat) (s : dS) (h : am_H) : Prop := (h.1 170 b = s.1 ∧ h.1 170 (b + 1) = s.2.1) ∧ (∀ i, i < P → h.1 170 (b + 2 + i) = s.2.2.1 i) ∧ (∀ i, i < 6 → h.1 170 (b + 8 + i) = s.2.2.2.1 i) ∧ (∀ i, i < 5 → h.1 170 (b + 14 + i) = s.2.2.2.2.1 i ∧ h.1 170 (b + 19 + i) = s.2.2.2.2.2 i)
/-- the reference's told canton is C -/
def tR (C : sp_C) (h : am_H) : Prop := (h.1 160 0 = nI (dP C) ∧ dP C ≤ 6 ∧ ∀ i, i < dP C → h.1 160 (4 + 3 * i) = dK C i ∧ h.1 160 (5 + 3 * i) = dL C i) ∧
  (h.1 160 1 = nI (dE C) ∧ dE C ≤ 5 ∧ ∀ i, i < dE C → h.1 160 (22 + 2 * i) = dW C i ∧ h.1 160 (23 + 2 * i) = dN C i) ∧
  (∀ p e, p < 6 → e < 5 → sp_bit (h.1 160 (6 + 3 * p)) (nI e) = (decide (e < dE C) && sp_bit (dG C e) (nI p)) ∧ bN (h.1 160 (6 + 3 * p)) < 32) ∧
  (h.1 160 2 = dO C ∧ sp_sK C.2.2.1) ∧
  (dM C ≤ 1000 ∧ (∀ j, j < dM C → h.1 161 j = rb_o (dT C j) ∧ h.1 162 j = rb_a (dT C j)) ∧ (C.2.2.2.1 = true → h.1 161 (dM C) = 0) ∧ (C.2.2.2.1 = false → dM C = 0) ∧ h.1 160 3 = dQ C)
/-- the class's told canton (in the objects from c on) is C: all but names and days of the week -/
def c_v (c : Nat) (C : sp_C) (h : am_H) : Prop :=
  (h.1 c 0 = nI (dP C) ∧ dP C ≤ 6 ∧ ∀ i, i < dP C → h.1 (c + 2) i = dK C i ∧ h.1 (c + 3) i = dL C i) ∧
  (h.1 c 4 = nI (dE C) ∧ dE C ≤ 5 ∧ ∀ i, i < dE C → h.1 (c + 6) i = dN C i ∧ h.1 (c + 7) i = dG C i) ∧
  (h.1 c 10 = dO C ∧ sp_sK C.2.2.1) ∧ (h.1 (c + 8) 2 = nI (dM C) ∧ dM C ≤ 1000 ∧ ∀ i, i < dM C → h.1 (c + 9) i = dT C i)
def c_d (c : Nat) (C : sp_C) (h : am_H) : Prop := ∀ i, i < dE C → h.1 (c + 5) i = dW C i
theorem c_c_v {c : Nat} {C : sp_C} {h : am_H} (l : c_c c C h) : c_v c C h ∧ c_d c C h := ⟨⟨⟨l.1.1, l.1.2.1, fun i hi => (l.1.2.2 i hi).2⟩, ⟨l.2.1.1, l.2.1.2.1, fun i hi => (l.2.1.2.2 i hi).2.2⟩, l.2.2.1.2, l.2.2.2.2⟩, fun i hi => (l.2.1.2.2 i hi).2.1⟩
theorem tR_w {C : sp_C} {h : am_H} {o k : Nat} {v : Int32} (hn : ¬ (o = 160 ∨ o = 161 ∨ o = 162)) (l : tR C h) : tR C (am_wI h o k v) := by
  have e : ∀ a b, (a = 160 ∨ a = 161 ∨ a = 162) → (am_wI h o k v).1 a b = h.1 a b := fun a b z => em_wn _ _ (fun y => hn (by rw [← y.1]; exact z))
  obtain ⟨⟨a1, a2, a3⟩, ⟨b1, b2, b3⟩, c3, ⟨d1, d2⟩, e1, e2, e3, e4, e5⟩ := l
  refine ⟨⟨?_, a2, fun i hi => ?_⟩, ⟨?_, b2, fun i hi => ?_⟩, fun p q hp hq => ?_, ⟨?_, d2⟩, e1, fun j hj => ?_, fun w => ?_, e4, ?_⟩
  · rw [e _ _ (Or.inl rfl)]; exact a1
  · rw [e _ _ (Or.inl rfl), e _ _ (Or.inl rfl)]; exact a3 i hi
  · rw [e _ _ (Or.inl rfl)]; exact b1
  · rw [e _ _ (Or.inl rfl), e _ _ (Or.inl rfl)]; exact b3 i hi
  · rw [e _ _ (Or.inl rfl)]; exact c3 p q hp hq
  · rw [e _ _ (Or.inl rfl)]; exact d1
  · rw [e _ _ (Or.inr (Or.inl rfl)), e _ _ (Or.inr (Or.inr rfl))]; exact e2 j hj
  · rw [e _ _ (Or.inr (Or.inl rfl))]; exact e3 w
  · rw [e _ _ (Or.inl rfl)]; exact e5
