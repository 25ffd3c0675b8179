/-! emit: one code more is laid -/
def em_h (h : am_H) (c : Nat) (x a : Int32) : am_H := am_wI (am_wI (am_wI h 161 (1100 + c) x) 162 (1100 + c) a) 154 13 (nI (c + 1))
theorem em_we (h : am_H) (o k : Nat) (v : Int32) : (am_wI h o k v).1 o k = v := by
  show (if o = o ∧ k = k then v else h.1 o k) = v
  rw [if_pos ⟨rfl, rfl⟩]
theorem em_wn (h : am_H) {o k : Nat} (v : Int32) {o' k' : Nat} (hn : ¬ (o' = o ∧ k' = k)) : (am_wI h o k v).1 o' k' = h.1 o' k' := if_neg hn
theorem em_o (h : am_H) (c : Nat) (x a : Int32) {o k : Nat} (h1 : ¬ (o = 161 ∧ k = 1100 + c)) (h2 : ¬ (o = 162 ∧ k = 1100 + c)) (h3 : ¬ (o = 154 ∧ k = 13)) : (em_h h c x a).1 o k = h.1 o k := by
  unfold em_h
  rw [em_wn _ _ h3, em_wn _ _ h2, em_wn _ _ h1]
theorem em_n (h : am_H) (c : Nat) (x a : Int32) : (em_h h c x a).1 154 13 = nI (c + 1) := em_we _ _ _ _
theorem em_op (h : am_H) (c : Nat) (x a : Int32) : (em_h h c x a).1 161 (1100 + c) = x := by
  unfold em_h
  rw [em_wn _ _ (fun z => absurd z.1 (by decide)), em_wn _ _ (fun z => absurd z.1 (by decide)), em_we]
theorem em_ar (h : am_H) (c : Nat) (x a : Int32) : (em_h h c x a).1 162 (1100 + c) = a := by
  unfold em_h
  rw [em_wn _ _ (fun z => absurd z.1 (by decide)), em_we]
def em_S (Q : am_Q) : Nat → am_V → List Value → am_H → Prop := am_X (am_call am_cod 0) 3 175 none (am_find am_r216) (fun _ _ _ _ => False) Q
theorem em_1100 (c : Nat) : (Int16.ofInt 1100).toInt32 + nI c = nI (1100 + c) := by
  rw [show (Int16.ofInt 1100).toInt32 = nI 1100 by decide, nI_add]
theorem em_cod : am_cod 216 = am_find am_r216 := by
  funext pc
  rfl
theorem em_refs : ag_lk ag_reft 154 11 = some 161 ∧ ag_lk ag_reft 154 12 = some 162 := by decide +kernel
/-- what emit does -/
theorem em_call {h : am_H} {N : Int} (hW : ag_WH ag_DD N h) {c : Nat} (hc : h.1 154 13 = nI c) (hc2 : c < 1100) {x a : Int32} {Q : am_Q} (hQ : Q none (em_h h c x a)) : am_call am_cod 1 216 [.ref 154, .int x, .int a] h Q := by
  have hcnt : h.2.2.2.2 = 175 := hW.1
  have r11 : h.2.2.1 154 11 = some 161 := hW.2.1.2.2 154 11 161 em_refs.1
  have r12 : h.2.2.1 154 12 = some 162 := hW.2.1.2.2 154 12 162 em_refs.2
  have s154 : am_sh h 154 = some (11, 0) := (ag_so_ok (D := ag_DD) (h := h) (o := 154) (e := (11, 0)) ag_DD_sh hcnt (by decide +kernel)).2
  have s161 : am_so h 161 = some (13, 2200) := (ag_so_ok (D := ag_DD) (h := h) (o := 161) (e := (13, 2200)) ag_DD_sh hcnt (by decide +kernel)).1
  have s162 : am_so h 162 = some (13, 2200) := (ag_so_ok (D := ag_DD) (h := h) (o := 162) (e := (13, 2200)) ag_DD_sh hcnt (by decide +kernel)).1
  refine Or.inr ⟨show 3 ≤ am_nL 216 by decide +kernel, ?_⟩
  rw [em_cod]
  have e5 : h.2.2.2.2 + am_al 216 = 175 := by rw [hcnt]; decide
  rw [e5]
  have q1 : (am_wI h 161 (1100 + c) x).1 154 13 = nI c := by
    show (if (154 : Nat) = 161 ∧ (13 : Nat) = 1100 + c then x else h.1 154 13) = nI c
    rw [if_neg (fun z => absurd z.1 (by decide)), hc]
  have q2 : (am_wI (am_wI h 161 (1100 + c) x) 162 (1100 + c) a).1 154 13 = nI c := by
    show (if (154 : Nat) = 162 ∧ (13 : Nat) = 1100 + c then a else (am_wI h 161 (1100 + c) x).1 154 13) = nI c
    rw [if_neg (fun z => absurd z.1 (by decide)), q1]
  refine am_goX 2 (show am_sh h 154 = some (11, 0) ∧ em_S _ 4 [(0, .ref 154), (1, .int x), (2, .int a)] [am_rf (h.2.2.1 154 11)] h from ⟨s154, ?_⟩)
  rw [r11]
  refine am_goX 6 (show am_sh h 154 = some (11, 0) ∧ ∃ j n : Nat, am_so h 161 = some (13, n) ∧ j < n ∧ (Int16.ofInt 1100).toInt32 + h.1 154 13 = nI j ∧ em_S _ 14 [(0, .ref 154), (1, .int x), (2, .int a)] [] (am_wI h 161 j x) from ⟨s154, 1100 + c, 2200, s161, by omega, by rw [hc, em_1100], ?_⟩)
  refine am_goX 2 (show am_sh h 154 = some (11, 0) ∧ em_S _ 18 [(0, .ref 154), (1, .int x), (2, .int a)] [am_rf (h.2.2.1 154 12)] (am_wI h 161 (1100 + c) x) from ⟨s154, ?_⟩)
  rw [r12]
  refine am_goX 6 (show am_sh h 154 = some (11, 0) ∧ ∃ j n : Nat, am_so h 162 = some (13, n) ∧ j < n ∧ (Int16.ofInt 1100).toInt32 + (am_wI h 161 (1100 + c) x).1 154 13 = nI j ∧ em_S _ 28 [(0, .ref 154), (1, .int x), (2, .int a)] [] (am_wI (am_wI h 161 (1100 + c) x) 162 j a) from ⟨s154, 1100 + c, 2200, s162, by omega, by rw [q1, em_1100], ?_⟩)
  refine am_goX 7 (show (Value.ref 154).category = 1 ∧ am_sh h 154 = some (11, 0) ∧ am_sh h 154 = some (11, 0) ∧ narrow (am_fty 11 13) (.int ((am_wI (am_wI h 161 (1100 + c) x) 162 (1100 + c) a).1 154 13 + Int32.ofInt 1)) = .int ((am_wI (am_wI h 161 (1100 + c) x) 162 (1100 + c) a).1 154 13 + Int32.ofInt 1) ∧ fits (am_fty 11 13) (.int ((am_wI (am_wI h 161 (1100 + c) x) 162 (1100 + c) a).1 154 13 + Int32.ofInt 1)) = true ∧ none = none ∧ (am_wI (am_wI (am_wI h 161 (1100 + c) x) 162 (1100 + c) a) 154 13 ((am_wI (am_wI h 161 (1100 + c) x) 162 (1100 + c) a).1 154 13 + Int32.ofInt 1)).2.2.2.2 = 175 ∧ Q none (am_wI (am_wI (am_wI h 161 (1100 + c) x) 162 (1100 + c) a) 154 13 ((am_wI (am_wI h 161 (1100 + c) x) 162 (1100 + c) a).1 154 13 + Int32.ofInt 1)) from ⟨rfl, s154, s154, rfl, rfl, rfl, hcnt, ?_⟩)
  rw [q2, xw_i1]
  exact hQ
/-- the codes that are laid, one more -/
theorem em_fact {h : am_H} {κ : Int} (hp : xf_P 0 κ h) {c : Nat} (hc : h.1 154 13 = nI c) (hc2 : c < 1099) {x a : Int32} {d' : Nat}
    (hx : (x = 1 ∧ (d' : Int) = κ + 1) ∨ (x = 2 ∧ (∃ a0 : Nat, a0 < 4 ∧ a = nI a0) ∧ (d' : Int) = κ + 1) ∨ (x = 3 ∧ 1 ≤ κ ∧ (d' : Int) = κ) ∨ ((∃ k : Nat, 4 ≤ k ∧ k ≤ 10 ∧ x = nI k) ∧ 2 ≤ κ ∧ (d' : Int) + 1 = κ)) : xf_P 0 d' (em_h h c x a) := by
  obtain ⟨c1, dep, p1, p2, p3, p4, p5⟩ := (show ∃ (c : Nat) (dep : Nat → Nat), h.1 154 13 = nI c ∧ c ≤ 1099 ∧ dep 0 = 0 ∧ (∀ i, i < c → xf_st h 1100 dep i) ∧ (dep c : Int) = κ from hp)
  have ec : c1 = c := by
    rw [p1, nI_eq (by omega) (by omega)] at hc
    exact hc
  subst ec
  refine (show ∃ (c : Nat) (dep : Nat → Nat), (em_h h c1 x a).1 154 13 = nI c ∧ c ≤ 1099 ∧ dep 0 = 0 ∧ (∀ i, i < c → xf_st (em_h h c1 x a) 1100 dep i) ∧ (dep c : Int) = d' from ⟨c1 + 1, fun i => if i ≤ c1 then dep i else d', em_n h c1 x a, by omega, by dsimp only; rw [if_pos (Nat.zero_le _)]; exact p3, fun i hi => ?_, by dsimp only; rw [if_neg (by omega)]⟩)
  by_cases hic : i = c1
  · subst hic
    unfold xf_st
    dsimp only
    rw [em_op, em_ar, if_pos (Nat.le_refl _), if_neg (by omega)]
    rcases hx with ⟨y1, y2⟩ | ⟨y1, y3, y2⟩ | ⟨y1, y3, y2⟩ | ⟨y1, y3, y2⟩
    · exact Or.inl ⟨y1, by omega⟩
    · exact Or.inr (Or.inl ⟨y1, y3, by omega⟩)
    · exact Or.inr (Or.inr (Or.inl ⟨y1, by omega, by omega⟩))
    · exact Or.inr (Or.inr (Or.inr ⟨y1, by omega, by omega⟩))
  · have z := p4 i (by omega)
    unfold xf_st at z ⊢
    dsimp only
    rw [em_o h c1 x a (by omega) (by omega) (by omega), em_o h c1 x a (by omega) (by omega) (by omega), if_pos (show i + 1 ≤ c1 by omega), if_pos (show i ≤ c1 by omega)]
    exact z
/-- the end is laid -/
theorem em_last {h : am_H} {κ y : Int} (hp : xf_P 0 κ h) {c : Nat} (hc : h.1 154 13 = nI c) (hc2 : c < 1099) (h43 : h.1 160 43 = 0) {a : Int32} : xf_P 1 y (em_h h c 0 a) := by
  obtain ⟨c1, dep, p1, p2, p3, p4, p5⟩ := (show ∃ (c : Nat) (dep : Nat → Nat), h.1 154 13 = nI c ∧ c ≤ 1099 ∧ dep 0 = 0 ∧ (∀ i, i < c → xf_st h 1100 dep i) ∧ (dep c : Int) = κ from hp)
  have ec : c1 = c := by
    rw [p1, nI_eq (by omega) (by omega)] at hc
    exact hc
  subst ec
  refine (show ∃ (m : Nat) (dep : Nat → Nat), (em_h h c1 0 a).1 154 13 = nI (m + 1) ∧ m < 1099 ∧ (em_h h c1 0 a).1 160 43 = 0 ∧ (em_h h c1 0 a).1 161 (1100 + m) = 0 ∧ dep 0 = 0 ∧ ∀ i, i < m → xf_st (em_h h c1 0 a) 1100 dep i from ⟨c1, dep, em_n h c1 0 a, hc2, ?_, em_op h c1 0 a, p3, fun i hi => ?_⟩)
  · rw [em_o h c1 0 a (by omega) (by omega) (by omega)]
    exact h43
  · have z := p4 i hi
    unfold xf_st at z ⊢
    rw [em_o h c1 0 a (by omega) (by omega) (by omega), em_o h c1 0 a (by omega) (by omega) (by omega)]
    exact z
/-- with nothing laid -/
theorem em_none {h : am_H} (hc : h.1 154 13 = 0) : xf_P 0 0 h := (show ∃ (c : Nat) (dep : Nat → Nat), h.1 154 13 = nI c ∧ c ≤ 1099 ∧ dep 0 = 0 ∧ (∀ i, i < c → xf_st h 1100 dep i) ∧ (dep c : Int) = 0 from ⟨0, fun _ => 0, hc, by decide, rfl, fun i hi => absurd hi (Nat.not_lt_zero _), rfl⟩)
