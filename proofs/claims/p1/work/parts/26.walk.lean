/-! THE WALK FROM THE ENTRY -/
def ae_fin40 (_ : ae_e) (_ : Nat) (lv : ae_l) (st : List ae_v) (H : ae_H) : Bool := decide (lv = ae_lv0) && (decide (st = [.inr (.inr (.inl 174)), .inr (.inl 4), .inr (.inl 3), .inr (.inl 2), .inr (.inl 1), .inr (.inr (.inl 0))]) && decide (H = ae_H0))
theorem ae_o40 : ae_go 7 (fun _ _ _ => none) (fun pc => Nat.beq pc 1348) ae_fin40 (fun _ _ _ => false) 60000 (ae_env0.set 7 (40, 40)) 20 ae_H0 (am_rL, 7, some .boolean, 175, 23, ae_lv0, []) [] = true := by decide +kernel
/-- at the call of the law's own rests -/
def lw_E (xs : Nat → Int32) (pc : Nat) (lv : am_V) (st : List Value) (h : am_H) : Prop := pc = 1348 ∧ lv = ae_cl (lw_rho xs 0 0) ae_lv0 ∧ st = [.ref 174, .int (xs 4), .int (xs 3), .int (xs 2), .int (xs 1), .ref 0] ∧ ae_R (lw_rho xs 0 0) 7 ae_H0 h ∧ (xs 0 &&& 63).toInt = 40
theorem ae_R_rho {ρ ρ' : Nat → Int32} {LL : Nat} {h : am_H} (hL : LL ≤ 7) (hρ : ∀ j, j < 7 → ρ j = ρ' j) (hR : ae_R ρ LL ae_H0 h) : ae_R ρ' LL ae_H0 h := by
  obtain ⟨r1, r2, r3, r4, r5, r6, r7, r8⟩ := hR
  refine ⟨r1, r2, r3, fun o k ho => ?_, r5, fun j hj => by rw [← hρ j (by omega)]; exact r6 j hj, r7, r8⟩
  rw [r4 o k ho]
  have hk : ae_H0.1.all (fun q => match q.2.2 with
    | .inl _ => true
    | .inr _ => false) = true := by decide +kernel
  rcases ae_lk_cases ae_H0.1 o k (.inl 0) with ⟨v, h1, h2⟩ | ⟨h1, h2⟩
  · rw [h2]
    have h3 := List.all_eq_true.mp hk _ h1
    cases v with
    | inl n => rfl
    | inr n => cases h3
  · rw [h1]
    rfl
theorem lw_rho7 {xs : Nat → Int32} {u v u' v' : Int32} : ∀ j, j < 7 → lw_rho xs u v j = lw_rho xs u' v' j := by
  intro j hj
  unfold lw_rho
  rw [ae_bltd, decide_eq_true hj]
  rfl
theorem lw_23 {xs : Nat → Int32} {L : Nat} {h : am_H} (hL : L ≤ 7) (hR : ae_R (lw_rho xs 0 0) L ae_H0 h) : lw_X (lw_E xs) 23 (ae_cl (lw_rho xs 0 0) ae_lv0) [] h := by
  by_cases h7 : L < 7
  · have h1 := List.all_eq_true.mp ae_oL L (List.mem_range.mpr h7)
    exact lw_opA h1 lw_in0 hR (fun _ _ _ _ z => by cases z)
  · have e7 : L = 7 := by omega
    subst e7
    obtain ⟨j, hj, ej⟩ := lw_63 (xs 0)
    have ht : (xs 0 &&& 63).toInt = j := by rw [ej, nI_toInt (by omega)]
    by_cases h44 : j < 44
    · rcases ae_ops j h44 with rfl | rfl | rfl | rfl | hop
      · exact lw_opA (ρ := lw_rho xs (lw_vf xs) 0) ae_o0 (lw_in (by omega) (by omega)) (ae_R_rho (by decide) lw_rho7 hR) (lw_asF (xs := xs) (v9 := 0))
      · exact lw_opA (ρ := lw_rho xs (ae_vid (xs 1)) 0) ae_o15 (lw_in (by omega) (by omega)) (ae_R_rho (by decide) lw_rho7 hR) (lw_asI (xs := xs) (v9 := 0))
      · refine ae_go_ok (ρ := lw_rho xs 0 0) (LL := 7) (E := lw_E xs) (Q := lw_Qt) (fun _ _ _ _ z => by cases z) (fun env pc lv st H z1 z2 hi h' hr => ?_) (fun _ _ _ z => by cases z) _ _ _ _ _ _ _ _ _ _ _ _ ae_o40 (lw_in (by omega) (by omega)) h hR
        unfold ae_fin40 at z2
        simp only [Bool.and_eq_true, decide_eq_true_eq] at z2
        obtain ⟨q1, q2, q3⟩ := z2
        subst q1
        subst q2
        subst q3
        exact ⟨Nat.eq_of_beq_eq_true z1, rfl, rfl, hr, ht⟩
      · exact lw_opA (ρ := lw_rho xs (ae_vyr (xs 1) (xs 2) (xs 3)) 0) ae_o41 (lw_in (by omega) (by omega)) (ae_R_rho (by decide) lw_rho7 hR) (lw_asY (xs := xs) (v9 := 0))
      · exact lw_opA (asm := fun _ _ _ => none) hop (lw_in (by omega) (by omega)) hR (fun _ _ _ _ z => by cases z)
    · exact lw_opA ae_oD (lw_in (by omega) (by omega)) hR (fun _ _ _ _ z => by cases z)
/-- the law's start in the abstract machine -/
def lw_h0 (xs : Nat → Int32) (L : Nat) : am_H := (fun o j => if o = 3000000 then xs j else 0, fun _ _ => 0, fun _ _ => none, L, 0)
theorem lw_0 {xs : Nat → Int32} {L : Nat} (hL : L ≤ 7) : lw_X (lw_E xs) 0 [(0, .ref 3000000)] [] (lw_h0 xs L) := by
  have h1 := List.all_eq_true.mp ae_run1 L (List.mem_range.mpr (by omega))
  have hR : ae_R (lw_rho xs 0 0) L ([], [], 0, 0) (lw_h0 xs L) := by
    refine ⟨rfl, rfl, by decide, fun o k ho => by have : 0 ≤ o ∧ o < 0 := ho; omega, fun o k ho => by have : 0 ≤ o ∧ o < 0 := ho; omega, fun j hj => ?_, fun _ _ _ => rfl, fun _ _ _ => rfl⟩
    show (if 3000000 = 3000000 then xs j else 0) = _
    rw [if_pos rfl]
    unfold lw_rho
    rw [ae_bltd, decide_eq_true (by omega : j < 7)]
    rfl
  have w := ae_go_ok (ρ := lw_rho xs 0 0) (LL := L) (E := fun pc lv st h => pc = 23 ∧ lv = ae_cl (lw_rho xs 0 0) ae_lv0 ∧ st = [] ∧ ae_R (lw_rho xs 0 0) L ae_H0 h) (Q := lw_Qt) (fun _ _ _ _ z => by cases z) (fun env pc lv st H z1 z2 hi h' hr => by
    unfold ae_fin0 at z2
    simp only [Bool.and_eq_true, decide_eq_true_eq] at z2
    obtain ⟨q1, q2, q3, q4, q5⟩ := z2
    subst q1
    have e2 : st = [] := List.isEmpty_iff.mp q2
    subst e2
    exact ⟨Nat.eq_of_beq_eq_true z1, rfl, rfl, ae_R_same hr q3 q4 q5⟩) (fun _ _ _ z => by cases z) _ _ _ _ _ _ _ _ _ _ _ _ h1 lw_in0 (lw_h0 xs L) hR
  refine am_X.mono (fun pc lv st h q => ?_) (fun _ _ q => q) w
  obtain ⟨rfl, rfl, rfl, hr⟩ := q
  exact lw_23 hL hr
theorem am_nl_ok : am_nl.all (fun q => decide (Cond.methodLinkNest q.1 q.2.1 (am_y q.2.2) "MistCanton" ∈ lw_tbl)) = true := by decide +kernel
theorem am_ao_ok : Cond.arrayOver (.object "MistCanton$Mark") ∈ lw_tbl ∧ Cond.arrayOver (.object "MistCanton$State") ∈ lw_tbl := by decide +kernel
theorem lw_gw {args : Array Value} {s : State} (hts : ∀ w ∈ lw_tbl, w.before args s = true) : ∀ w ∈ am_gw, w.before args s = true := fun w hw => hts w (List.mem_filter.mp hw).1
theorem lw_arr {args : Array Value} {s : State} {ty : FieldType} (hp : ∀ C, ty ≠ .object C) (h : (Cond.arrayClass ty).before args s = true) : ∃ cA : ClassId, ArrOfT s cA ty ∧ va_RA s cA ty := by
  obtain ⟨cA, kA, comp, h1, h2, h3⟩ := Cond.arrayClass_spec h
  refine ⟨cA, fun n z => ⟨fun k h => (by cases h), kA, h2, comp, h3⟩, ?_⟩
  cases ty with
  | object C => exact absurd rfl (hp C)
  | _ => exact h1
theorem lw_arrO {args : Array Value} {s : State} {C : String} (h : (Cond.arrayOver (.object C)).before args s = true) : ∃ cA : ClassId, ArrOfT s cA (.object C) ∧ va_RA s cA (.object C) := by
  obtain ⟨comp, cA, kA, h1, h2, h3, h4, h5⟩ := Cond.arrayOver_spec h
  exact ⟨cA, fun n z => ⟨fun k h => (by cases h), kA, h3, comp, h4⟩, kA, comp, h3, h4, h1, h5⟩
set_option maxRecDepth 20000 in
/-- what stays, at the law's entry -/
theorem lw_EE {s : State} {b L : Nat} {xs : Nat → Int32} (hts : ∀ w ∈ lw_tbl, w.before #[Value.ref b] s = true) (hX : va_X b L xs s s.heap) : ∃ (D : va_G) (cA : Nat → ClassId), am_E D cA b L xs s := by
  have hgw := lw_gw hts
  have hk : ∀ ci : Nat, ∃ q : ClassId × (Nat → Nat), ∀ r : vw_C, vwCl[ci]? = some r → u_Kn s r.1 r.2.1 r.2.2 q.1 q.2 := by
    intro ci
    by_cases hci : ci < 12
    · obtain ⟨C, T, N, e1, e2, e3, e4, e5, -⟩ := am_ci_ok ci hci
      have q := List.all_eq_true.mp am_iaw_ok ci (List.mem_range.mpr hci)
      rw [e2, e3] at q
      obtain ⟨cC, iS, hK⟩ := u_known hgw e5 (hgw _ (am_gw_ia (of_decide_eq_true q)))
      refine ⟨(cC, iS), fun r hr => ?_⟩
      cases e1.symm.trans hr
      exact hK
    · refine ⟨(0, fun _ => 0), fun r hr => ?_⟩
      have := (List.getElem?_eq_some_iff.mp hr).1
      exact absurd this hci
  obtain ⟨f, hf⟩ := Classical.axiomOfChoice hk
  obtain ⟨a12, p12⟩ := lw_arr (by intro C h; cases h) (hts _ am_ac_char)
  obtain ⟨a13, p13⟩ := lw_arr (by intro C h; cases h) (hts _ am_ac_int)
  obtain ⟨a14, p14⟩ := lw_arr (by intro C h; cases h) (hts _ am_ac_long)
  obtain ⟨a15, p15⟩ := lw_arr (by intro C h; cases h) (hts _ am_ac_boolean)
  obtain ⟨a16, p16⟩ := lw_arrO (hts _ am_ao_ok.1)
  obtain ⟨a17, p17⟩ := lw_arrO (hts _ am_ao_ok.2)
  refine ⟨(fun ci => (f ci).1, fun ci => (f ci).2), fun t => if t = 12 then a12 else if t = 13 then a13 else if t = 14 then a14 else if t = 15 then a15 else if t = 16 then a16 else a17, ⟨fun c q hq => hf c q hq, fun k q hq => ?_⟩, fun k i n a hk => ?_, hX, va_AO.of (hts _ am_ao_ok.1), va_AO.of (hts _ am_ao_ok.2)⟩
  · match k, hq with
    | 0, hq => cases hq; exact p12
    | 1, hq => cases hq; exact p13
    | 2, hq => cases hq; exact p14
    | 3, hq => cases hq; exact p15
    | 4, hq => cases hq; exact p16
    | 5, hq => cases hq; exact p17
    | k + 6, hq => simp [am_tys] at hq
  · have q : decide (Cond.methodLinkNest a i (am_y n) "MistCanton" ∈ lw_tbl) = true := List.all_eq_true.mp am_nl_ok (a, i, n) (List.mem_of_getElem? hk)
    have q2 := of_decide_eq_true q
    have q3 := hts _ q2
    exact va_Nw.of rfl q3
set_option maxRecDepth 20000 in
theorem lw_ss : am_ss 175 ≤ 7302232 := by
  have h : Nat.ble (am_ss 175) 7302232 = true := by decide +kernel
  generalize am_ss 175 = x at h ⊢
  exact Nat.le_of_ble_eq_true h
