/-! THE ABSTRACT MACHINE'S CALLS ARE CONTRACTS -/
variable {p : Program} {l : Launch} {e : Env} {R : Room} {s : State} {m : MethodId} {args : Array Value} {below : List Frame} {meth : Method} {c : Code} {Qw : State → Prop} {D : va_G} {cA : Nat → ClassId} {ad : Nat → Nat} {base b L nL : Nat} {xs : Nat → Int32} {own : String} {cc : ByteArray} {cp : am_P} {rt : Option FieldType} {c0 lim : Nat} {ini : Bool}
theorem am_X_sound {cod : Nat → Option am_R} {E : Nat → am_V → List Value → am_H → Prop} {Q : am_Q} (F : am_Fx p s m args c D cA ad base b L xs own cc nL c0) (hC : am_Cs l R D cA ad base b L xs cp) (hcs : lim - c0 % 1000 + c0 / 1000 ≤ R.cells ∧ am_ss lim - am_ss (c0 % 1000) + 6 * (c0 / 1000) ≤ R.slots) (hR1 : 1 ≤ R.frames ∧ 20 ≤ R.locals) (hini : ini = true → meth.name = "<init>") (hcod : ∀ pc r, cod pc = some r → am_okB ini own cc pc r = true)
    (hE : am_Kw p l e R s m args below meth c c0 Qw D cA ad base L nL xs E) (hq : am_Qr p l e R s m args below meth c c0 Qw D cA ad base L xs cc rt Q) : am_Kw p l e R s m args below meth c c0 Qw D cA ad base L nL xs (am_X cp nL lim rt cod E Q) := by
  intro pc lv st h H locs ls hX hI hl
  refine hX (fun pc lv st h => ∀ H locs ls, am_Inv D cA ad base L xs s c0 h H locs → lv_has ls nL (am_cl2 ad lv) → W p l e R s m args below meth c H locs (am_ce c0 h) (am_sc c0 h) Qw (F0 m pc ls (st.map (am_cv ad)))) (fun pc lv st h he H locs ls hI hl => hE pc lv st h H locs ls he hI hl) ?_ H locs ls hI hl
  intro pc lv st h r K0 Q0 hc hs hK hQ H locs ls hI hl
  obtain ⟨i, nx, a, b', c', d⟩ := r
  exact am_sound1 F hC hcs hR1 hini hI hl (fun pc lv st h H locs ls k hI hl => hK pc lv st h k H locs ls hI hl) (fun v h H locs pc ls st q hI hr => hq v h H locs pc ls st (hQ v h q) hI hr) (hcod _ _ hc) hs
theorem am_sl_len (ad : Nat → Nat) (vs : List Value) : (lg_sl (vs.map (am_cv ad))).length = (lg_sl vs).length := by
  induction vs with
  | nil => rfl
  | cons v r ih =>
    simp only [lg_sl, List.map_cons, List.flatMap_cons, List.length_append, am_cv_cat] at ih ⊢
    rw [ih]
    by_cases hc : v.category = 2 <;> simp [hc]
theorem am_args_cl (ad : Nat → Nat) (vs : List Value) : ∀ i, lv_args i (vs.map (am_cv ad)) = am_cl2 ad (lv_args i vs) := by
  induction vs with
  | nil => intro i; rfl
  | cons v r ih =>
    intro i
    simp only [lv_args, List.map_cons, am_cv_cat, am_cl2]
    rw [ih]
    rfl
/-- String.checkIndex: its row of place 2 stands for a static whose value is told to a method that doesn't look at it -/
def am_47 : MethodName := ⟨"java/lang/String", "checkIndex", "(II)V"⟩
/-- rows of methods that are right -/
def am_Rok (cods : Nat → Nat → Option am_R) : Prop := ∀ n pc r, cods n pc = some r → plainFor (am_y n) = true ∧ ((am_y n = am_47 ∧ pc = 2) ∨ am_okB (decide ((am_y n).name = "<init>")) (am_y n).cls (am_by n) pc r = true)
theorem am_W_cod {cod : Nat → Option am_R} {Q : am_Q} {pc : Nat} {lv : am_V} {st : List Value} {h : am_H} (k : am_W cp nL lim rt cod Q pc lv st h) : ∃ r, cod pc = some r :=
  k (fun pc _ _ _ => ∃ r, cod pc = some r) (fun _ _ _ _ q => q.elim) (fun _ _ _ _ r _ _ hc _ _ _ => ⟨r, hc⟩)
def am_Mt (l : Launch) (D : va_G) (cA : Nat → ClassId) (ad : Nat → Nat) (base b L : Nat) (xs : Nat → Int32) (cods : Nat → Nat → Option am_R) (d : Nat) : Prop := ∀ n As h Q, am_call cods d n As h Q → ∃ d' : Nat, d' ≤ d ∧ Met l (am_y n) (am_ws n) (am_rm d' (am_al n) (am_ms n h)) (am_Pc D cA ad base b L xs As h) (am_Qc D cA ad base L xs (fun v h' => h'.2.2.2.2 = h.2.2.2.2 + am_al n ∧ Q v h')) (am_al n) (am_ms n h) (am_A base)
theorem am_Met7 {cods : Nat → Nat → Option am_R} (hrk : am_Rok cods) (hG : am_G ad base b L) (h47 : ∀ n, am_y n = am_47 → ∀ d, am_Mt l D cA ad base b L xs cods d → ∀ (As : List Value) (h : am_H) (Q : am_Q), (lg_sl As).length ≤ am_nL n → am_W (am_call cods d) (am_nL n) (h.2.2.2.2 + am_al n) (am_rt n) (cods n) (fun v h' => h'.2.2.2.2 = h.2.2.2.2 + am_al n ∧ Q v h') 0 (lv_args 0 As) [] h → Met l (am_y n) (am_ws n) (am_rm (d + 1) (am_al n) (am_ms n h)) (am_Pc D cA ad base b L xs As h) (am_Qc D cA ad base L xs (fun v h' => h'.2.2.2.2 = h.2.2.2.2 + am_al n ∧ Q v h')) (am_al n) (am_ms n h) (am_A base)) : ∀ d, am_Mt l D cA ad base b L xs cods d := by
  intro d
  induction d with
  | zero => intro n As h Q k; exact k.elim
  | succ d ih =>
    intro n As h Q k
    rcases k with k | ⟨hlen, hW⟩
    · obtain ⟨d', h1, h2⟩ := ih n As h Q k
      exact ⟨d', by omega, h2⟩
    · refine ⟨d + 1, Nat.le_refl _, ?_⟩
      by_cases hn47 : am_y n = am_47
      · exact h47 n hn47 d ih As h Q hlen hW
      obtain ⟨r0, hr0⟩ := am_W_cod hW
      have hy := (hrk n 0 r0 hr0).1
      refine va_MetF (cc := am_by n) (maxL := am_nL n) (ret := am_rt n) hy rfl ?_
      intro p e s m args below meth c s₁ B hml hv
      obtain ⟨rfl, hE, hbase, hP, hro, hwf⟩ := hv
      have hts := atoms_spec (ws := am_ws n) B.pre
      have hlen9 : h.2.2.2.2 ≤ 175 := by have := hwf.1; rw [am_shl_len] at this; exact this
      have hmod : h.2.2.2.2 % 1000 = h.2.2.2.2 := Nat.mod_eq_of_lt (by omega)
      have hdiv : h.2.2.2.2 / 1000 = 0 := Nat.div_eq_of_lt (by omega)
      have hnm : meth.name = (am_y n).name := (name_of_methodNamed B.named B.method).1
      have F : am_Fx p s m (As.map (am_cv ad)).toArray c D cA ad base b L xs (am_y n).cls (am_by n) (am_nL n) h.2.2.2.2 := ⟨B.exec, B.bytes, hml, findClass_of_methodNamed B.named, fun w hw => hts w (List.mem_cons_of_mem _ hw), hE, hbase, hG, by rw [hmod]; exact hwf.2⟩
      have hC : am_Cs l (am_rm (d + 1) (am_al n) (am_ms n h)) D cA ad base b L xs (am_call cods d) := by
        intro n' As' h' Q' k'
        obtain ⟨d', h1, h2⟩ := ih n' As' h' Q' k'
        exact ⟨d', h2, by show d' + 1 ≤ d + 1; omega, by show 40 + 40 * d' ≤ 40 * (d + 1); omega⟩
      have hl := lv_entry (As.map (am_cv ad)) (n := am_nL n) (by rw [am_sl_len]; exact hlen)
      rw [am_args_cl] at hl
      rw [lg_entry_eq]
      have key := am_X_sound (p := p) (e := e) (below := below) (meth := meth) (Qw := MQ below (am_Qc D cA ad base L xs (fun v h' => h'.2.2.2.2 = h.2.2.2.2 + am_al n ∧ Q v h')) (As.map (am_cv ad)).toArray s (am_al n) (am_ms n h) (am_A base)) (R := am_rm (d + 1) (am_al n) (am_ms n h)) (lim := h.2.2.2.2 + am_al n) (rt := am_rt n) (ini := decide ((am_y n).name = "<init>")) (E := fun _ _ _ _ => False) (Q := fun v h' => h'.2.2.2.2 = h.2.2.2.2 + am_al n ∧ Q v h') F hC ⟨by rw [hmod, hdiv]; show h.2.2.2.2 + am_al n - h.2.2.2.2 + 0 ≤ am_al n; omega, by rw [hmod, hdiv]; exact Nat.le_refl _⟩ ⟨by show 1 ≤ d + 1; omega, by show 20 ≤ 40 * (d + 1); omega⟩ (fun q => hnm.trans (of_decide_eq_true q)) (fun pc r hc => (hrk n pc r hc).2.resolve_left (fun z => hn47 z.1)) (fun _ _ _ _ _ _ _ q => q.elim) ?_ 0 (lv_args 0 As) [] h s.heap [] _ hW ⟨hP, va_S.rf, hro, hwf.1, by rw [hmod]; exact Nat.le_refl _, fun z => by omega⟩ hl
      · have z1 : am_ce h.2.2.2.2 h = 0 := by unfold am_ce; omega
        have z2 : am_sc h.2.2.2.2 h = 0 := by unfold am_sc; rw [hmod, hdiv]; omega
        rw [z1, z2] at key
        exact key
      · intro v h' H locs pc ls st hQ hI hrk'
        have z1 : am_ce h.2.2.2.2 h' = am_al n := by unfold am_ce; rw [hQ.1, hmod, hdiv]; omega
        have z2 : am_sc h.2.2.2.2 h' = am_ms n h := by unfold am_sc am_ms; rw [hQ.1, hmod, hdiv]; rfl
        rw [z1, z2]
        have hpost : ∀ t : State, t.heap = H → am_Qc D cA ad base L xs (fun v h' => h'.2.2.2.2 = h.2.2.2.2 + am_al n ∧ Q v h') (As.map (am_cv ad)).toArray s (.returned (v.map (am_cv ad))) t := fun t ht => ⟨⟨v, h', rfl, hQ, by rw [ht]; exact hI.1, hI.2.2.1, hI.2.2.2.1⟩, hI.2.1.F ht⟩
        rcases hrk' with ⟨x, rfl, rfl, hd, ty, h1, h2⟩ | ⟨x, rfl, rfl, hd, h1⟩ | ⟨rfl, rfl, hd, h1⟩
        · exact W.zret B.exec B.bytes (B.returns.trans h1) h2 (fun t ht _ => hpost t ht) hI.2.1.2.2 hd (hlocks := B.notSynchronized)
        · exact W.lret B.exec B.bytes (B.returns.trans h1) (fun t ht _ => hpost t ht) hI.2.1.2.2 hd (hlocks := B.notSynchronized)
        · exact W.vret B.exec B.bytes (B.returns.trans h1) (fun t ht _ => hpost t ht) hI.2.1.2.2 hd (hlocks := B.notSynchronized)
