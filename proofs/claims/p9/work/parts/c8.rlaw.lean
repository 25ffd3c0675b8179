/-! WALKS: the reference's law, and that both laws are worth the same -/
theorem drop_T {C : sp_C} {k : Nat} (hk : k < dM C) : (dTL C).drop k = dT C k :: (dTL C).drop (k + 1) := by
  unfold dTL
  have hl : k < ((List.range (dM C)).map (dT C)).length := by
    rw [List.length_map, List.length_range]
    exact hk
  rw [List.drop_eq_getElem_cons hl, List.getElem_map, List.getElem_range]
theorem wf_s {C : sp_C} {k n : Nat} (hk : k < dM C) (hw : lst ((dTL C).drop k) n = some 1) : ((-4 : Int32) ≤ dT C k ∧ n < 32 ∧ lst ((dTL C).drop (k + 1)) (n + 1) = some 1) ∨ (dT C k = -5 ∧ 0 < n ∧ lst ((dTL C).drop (k + 1)) n = some 1) ∨ (¬ (-4 : Int32) ≤ dT C k ∧ ¬ dT C k = -5 ∧ 1 < n ∧ lst ((dTL C).drop (k + 1)) (n - 1) = some 1) := by
  rw [drop_T hk] at hw
  have hw : (ls1 (dT C k) n).bind (lst ((dTL C).drop (k + 1))) = some 1 := hw
  unfold ls1 at hw
  by_cases h1 : (-4 : Int32) ≤ dT C k
  · rw [if_pos h1] at hw
    by_cases h2 : n < 32
    · rw [if_pos h2] at hw
      exact Or.inl ⟨h1, h2, hw⟩
    · rw [if_neg h2] at hw
      cases hw
  · rw [if_neg h1] at hw
    by_cases h3 : dT C k = -5
    · rw [if_pos h3] at hw
      by_cases h2 : 0 < n
      · rw [if_pos h2] at hw
        exact Or.inr (Or.inl ⟨h3, h2, hw⟩)
      · rw [if_neg h2] at hw
        cases hw
    · rw [if_neg h3] at hw
      by_cases h2 : 1 < n
      · rw [if_pos h2] at hw
        exact Or.inr (Or.inr ⟨h1, h3, h2, hw⟩)
      · rw [if_neg h2] at hw
        cases hw
theorem rbo_v {x : Int32} : (rb_o x = Int32.ofInt 1 ∨ rb_o x = Int32.ofInt 2) ↔ (-4 : Int32) ≤ x := by
  unfold rb_o
  by_cases h0 : 0 ≤ x
  · rw [decide_eq_true h0]
    exact ⟨fun _ => le_m4 h0, fun _ => Or.inl rfl⟩
  · rw [decide_eq_false h0]
    by_cases h1 : (-4 : Int32) ≤ x
    · rw [decide_eq_true h1]
      exact ⟨fun _ => h1, fun _ => Or.inr rfl⟩
    · rw [decide_eq_false h1]
      refine ⟨fun w => ?_, fun w => absurd w h1⟩
      dsimp only [cond] at w
      exfalso
      revert w
      cases decide (x = -5) <;> cases decide (x = -6) <;> cases decide (x = -7) <;> cases decide (x = -8) <;> cases decide (x = -9) <;> cases decide (x = -10) <;> cases decide (x = -11) <;> decide
theorem rbo_1 {x : Int32} : rb_o x = Int32.ofInt 1 ↔ 0 ≤ x := by
  unfold rb_o
  by_cases h0 : 0 ≤ x
  · rw [decide_eq_true h0]
    exact ⟨fun _ => h0, fun _ => rfl⟩
  · rw [decide_eq_false h0]
    refine ⟨fun w => ?_, fun w => absurd w h0⟩
    dsimp only [cond] at w
    exfalso
    revert w
    cases decide ((-4 : Int32) ≤ x) <;> cases decide (x = -5) <;> cases decide (x = -6) <;> cases decide (x = -7) <;> cases decide (x = -8) <;> cases decide (x = -9) <;> cases decide (x = -10) <;> cases decide (x = -11) <;> decide
theorem rbo_0 (x : Int32) : ¬ rb_o x = 0 := by
  unfold rb_o
  cases decide (0 ≤ x) <;> cases decide ((-4 : Int32) ≤ x) <;> cases decide (x = -5) <;> cases decide (x = -6) <;> cases decide (x = -7) <;> cases decide (x = -8) <;> cases decide (x = -9) <;> cases decide (x = -10) <;> cases decide (x = -11) <;> decide
theorem rbo_5 {x : Int32} (h1 : ¬ (-4 : Int32) ≤ x) : rb_o x = Int32.ofInt 3 ↔ x = -5 := by
  have h0 : ¬ (0 : Int32) ≤ x := fun w => h1 (le_m4 w)
  unfold rb_o
  rw [decide_eq_false h0, decide_eq_false h1]
  by_cases h5 : x = -5
  · rw [decide_eq_true h5]
    exact ⟨fun _ => h5, fun _ => rfl⟩
  · rw [decide_eq_false h5]
    refine ⟨fun w => ?_, fun w => absurd w h5⟩
    dsimp only [cond] at w
    exfalso
    revert w
    cases decide (x = -6) <;> cases decide (x = -7) <;> cases decide (x = -8) <;> cases decide (x = -9) <;> cases decide (x = -10) <;> cases decide (x = -11) <;> decide
/-- which fact -/
def fsel (x a b c d : Int32) : Int32 := if x = -1 then a else if x = -2 then b else if x = -3 then c else d
theorem neg4 {x : Int32} (h1 : (-4 : Int32) ≤ x) (h0 : ¬ 0 ≤ x) : x = -1 ∨ x = -2 ∨ x = -3 ∨ x = -4 := by
  have a := Int32.le_iff_toInt_le.mp h1
  have b := mt Int32.le_iff_toInt_le.mpr h0
  have e0 : (0 : Int32).toInt = 0 := rfl
  have e4 : (-4 : Int32).toInt = -4 := by decide
  have c : x.toInt = -1 ∨ x.toInt = -2 ∨ x.toInt = -3 ∨ x.toInt = -4 := by omega
  rcases c with c | c | c | c
  · exact Or.inl (Int32.toInt_inj.mp (c.trans (by decide)))
  · exact Or.inr (Or.inl (Int32.toInt_inj.mp (c.trans (by decide))))
  · exact Or.inr (Or.inr (Or.inl (Int32.toInt_inj.mp (c.trans (by decide)))))
  · exact Or.inr (Or.inr (Or.inr (Int32.toInt_inj.mp (c.trans (by decide)))))
theorem rba_n {x : Int32} (h : rb_o x = Int32.ofInt 2) : rb_a x = nI (rb_a x).toInt.toNat ∧ (rb_a x).toInt.toNat < 4 ∧ ∀ (g : Nat → Int32), g (rb_a x).toInt.toNat = fsel x (g 0) (g 1) (g 2) (g 3) := by
  have h1 : (-4 : Int32) ≤ x := rbo_v.mp (Or.inr h)
  have h0 : ¬ 0 ≤ x := fun w => by
    rw [rbo_1.mpr w] at h
    exact absurd h (by decide)
  rcases neg4 h1 h0 with rfl | rfl | rfl | rfl
  · exact ⟨by decide, by decide, fun g => rfl⟩
  · exact ⟨by decide, by decide, fun g => rfl⟩
  · exact ⟨by decide, by decide, fun g => rfl⟩
  · exact ⟨by decide, by decide, fun g => rfl⟩
theorem fc_w {k : Nat} {v a b c d : Int32} {h : am_H} (l : h.1 168 0 = a ∧ h.1 168 1 = b ∧ h.1 168 2 = c ∧ h.1 168 3 = d) : (am_wI h 169 k v).1 168 0 = a ∧ (am_wI h 169 k v).1 168 1 = b ∧ (am_wI h 169 k v).1 168 2 = c ∧ (am_wI h 169 k v).1 168 3 = d := by
  rw [em_wn _ _ (by omega), em_wn _ _ (by omega), em_wn _ _ (by omega), em_wn _ _ (by omega)]
  exact l
theorem wf_p {C : sp_C} {k n : Nat} (hk : k < dM C) (hw : lst ((dTL C).drop k) n = some 1) (h : rb_o (dT C k) = Int32.ofInt 1 ∨ rb_o (dT C k) = Int32.ofInt 2) : n < 32 ∧ lst ((dTL C).drop (k + 1)) (n + 1) = some 1 := by
  have h4 := rbo_v.mp h
  rcases wf_s hk hw with w | w | w
  · exact w.2
  · rw [w.1] at h4
    exact absurd h4 (by decide)
  · exact absurd h4 w.1
theorem wf_n {C : sp_C} {k n : Nat} (hk : k < dM C) (hw : lst ((dTL C).drop k) n = some 1) (h : rb_o (dT C k) = Int32.ofInt 3) : 0 < n ∧ lst ((dTL C).drop (k + 1)) n = some 1 := by
  have h4 : ¬ (-4 : Int32) ≤ dT C k := fun w => by
    rcases rbo_v.mpr w with z | z <;> (rw [h] at z; exact absurd z (by decide))
  rcases wf_s hk hw with w | w | w
  · exact absurd w.1 h4
  · exact w.2
  · exact absurd ((rbo_5 h4).mp h) w.2.1
theorem wf_b {C : sp_C} {k n : Nat} (hk : k < dM C) (hw : lst ((dTL C).drop k) n = some 1) (h1 : ¬ rb_o (dT C k) = Int32.ofInt 1) (h2 : ¬ rb_o (dT C k) = Int32.ofInt 2) (h3 : ¬ rb_o (dT C k) = Int32.ofInt 3) : 1 < n ∧ lst ((dTL C).drop (k + 1)) (n - 1) = some 1 := by
  have h4 : ¬ (-4 : Int32) ≤ dT C k := fun w => (rbo_v.mpr w).elim h1 h2
  rcases wf_s hk hw with w | w | w
  · exact absurd w.1 h4
  · exact absurd ((rbo_5 h4).mpr w.1) h3
  · exact w.2.2
theorem tR_l0 {C : sp_C} {h : am_H} (l : tR C h) (ht : C.2.2.2.1 = true) {k : Nat} (hk : k = dM C) : h.1 161 k = Int32.ofInt 0 := by
  rw [hk]
  exact l.2.2.2.2.2.2.1 ht
variable {h : am_H} {Q : am_Q} {C V : sp_C} {x y w a b c d : Int32} {p q e : Nat} {s u : dS} {h0 : am_H} {f : Nat → Int32}
theorem ex_168 {h : am_H} (hP : ex_P h) : am_sh h 168 = some (13, 4) := (ex_so hP (by decide +kernel)).2
theorem ex_w168 {h : am_H} (hP : ex_P h) : am_so h 168 = some (13, 4) := (ex_so hP (by decide +kernel)).1
theorem ex_169 {h : am_H} (hP : ex_P h) : am_sh h 169 = some (13, 1100) := (ex_so hP (by decide +kernel)).2
theorem ex_w169 {h : am_H} (hP : ex_P h) : am_so h 169 = some (13, 1100) := (ex_so hP (by decide +kernel)).1
theorem ex_r154_22 {h : am_H} (hP : ex_P h) : h.2.2.1 154 22 = some 168 := hP.2 154 22 168 (by decide +kernel)
theorem ex_r154_23 {h : am_H} (hP : ex_P h) : h.2.2.1 154 23 = some 169 := hP.2 154 23 169 (by decide +kernel)
theorem sv2_236 : am_r236.all (fun q => sv2_ok q.2) = true := by decide +kernel
theorem sv2_237 : am_r237.all (fun q => sv2_ok q.2) = true := by decide +kernel
def d_237 (x a b : Int32) : Int32 := (if x = Int32.ofInt 4 then a + b else (if x = Int32.ofInt 5 then a - b else (if x = Int32.ofInt 6 then a * b else (if x = Int32.ofInt 7 then (if b ≤ a then Int32.ofInt 0 else Int32.ofInt 1) else (if x = Int32.ofInt 8 then (if ¬ a = b then Int32.ofInt 0 else Int32.ofInt 1) else (if x = Int32.ofInt 9 then (if a = 0 then Int32.ofInt 0 else (if b = 0 then Int32.ofInt 0 else Int32.ofInt 1)) else (if ¬ a = 0 then Int32.ofInt 1 else (if b = 0 then Int32.ofInt 0 else Int32.ofInt 1))))))))
theorem d_237_w (hP : ex_P h)  (hQ : Q (some (.int (d_237 x a b))) h) : am_call am_cod 1 237 [.int x, .int a, .int b] h Q := by
  refine pz_call (n := 237) (nL := 3) (rt := (some .int)) (rows := am_r237) (d := 0) (by decide +kernel) (by decide +kernel) rfl (by funext pc; rfl) (ex_175 hP) (by exact Nat.le_of_ble_eq_true rfl) ?_
  refine am_goX 2 (show ((x.toInt < 4 ∨ 9 < x.toInt) → pz_S 3 (some .int) am_r237 0 Q 88 [(0, .int x), (1, .int a), (2, .int b)] [] h) ∧ (∀ j : Nat, x.toInt = 4 + (j : Int) → 4 + (j : Int) ≤ 9 → pz_S 3 (some .int) am_r237 0 Q ((1 : Int) + ((#[39, 43, 47, 51, 62, 73] : Array Int)[j]?).getD 0).toNat [(0, .int x), (1, .int a), (2, .int b)] [] h) from ⟨fun hd => ?_, fun j hj1 hj2 => ?_⟩)
  · have c1 : ¬ x = Int32.ofInt 4 := fun w => by rw [w] at hd; revert hd; decide
    have c2 : ¬ x = Int32.ofInt 5 := fun w => by rw [w] at hd; revert hd; decide
    have c3 : ¬ x = Int32.ofInt 6 := fun w => by rw [w] at hd; revert hd; decide
    have c4 : ¬ x = Int32.ofInt 7 := fun w => by rw [w] at hd; revert hd; decide
    have c5 : ¬ x = Int32.ofInt 8 := fun w => by rw [w] at hd; revert hd; decide
    have c6 : ¬ x = Int32.ofInt 9 := fun w => by rw [w] at hd; revert hd; decide
    suffices key : ∀ (v8 : Int32), v8 = (if ¬ a = 0 then Int32.ofInt 1 else (if b = 0 then Int32.ofInt 0 else Int32.ofInt 1)) → pz_S 3 (some .int) am_r237 0 Q 101 [] [.int v8] h by
      refine am_goX 2 (show (¬ a = 0 → pz_S 3 (some .int) am_r237 0 Q 96 [(0, .int x), (1, .int a), (2, .int b)] [] h) ∧ (¬ ¬ a = 0 → pz_S 3 (some .int) am_r237 0 Q 92 [(0, .int x), (1, .int a), (2, .int b)] [] h) from ⟨fun c7 => ?_, fun c7 => ?_⟩)
      · refine am_goX 2 (show pz_S 3 (some .int) am_r237 0 Q 101 [(0, .int x), (1, .int a), (2, .int b)] [.int (Int32.ofInt 1)] h from ?_)
        exact sv_S2 sv2_237 (fun q hq => absurd hq List.not_mem_nil) (key _ (if_pos c7).symm)
      · suffices key : ∀ (v10 : Int32), v10 = (if b = 0 then Int32.ofInt 0 else Int32.ofInt 1) → pz_S 3 (some .int) am_r237 0 Q 101 [] [.int v10] h by
          refine am_goX 2 (show (b = 0 → pz_S 3 (some .int) am_r237 0 Q 100 [(0, .int x), (1, .int a), (2, .int b)] [] h) ∧ (¬ (b = 0) → pz_S 3 (some .int) am_r237 0 Q 96 [(0, .int x), (1, .int a), (2, .int b)] [] h) from ⟨fun c9 => ?_, fun c9 => ?_⟩)
          · refine am_goX 1 (show pz_S 3 (some .int) am_r237 0 Q 101 [(0, .int x), (1, .int a), (2, .int b)] [.int (Int32.ofInt 0)] h from ?_)
            exact sv_S2 sv2_237 (fun q hq => absurd hq List.not_mem_nil) (key _ (if_pos c9).symm)
          · refine am_goX 2 (show pz_S 3 (some .int) am_r237 0 Q 101 [(0, .int x), (1, .int a), (2, .int b)] [.int (Int32.ofInt 1)] h from ?_)
            exact sv_S2 sv2_237 (fun q hq => absurd hq List.not_mem_nil) (key _ (if_neg c9).symm)
        intro v10 e11
        subst e11
        exact sv_S2 sv2_237 (fun q hq => absurd hq List.not_mem_nil) (key _ (if_neg c7).symm)
    intro v8 e12
    subst e12
    exact am_goX 1 (show (∃ ty, (some .int) = some ty ∧ narrow ty (.int (if ¬ a = 0 then Int32.ofInt 1 else (if b = 0 then Int32.ofInt 0 else Int32.ofInt 1))) = .int (if ¬ a = 0 then Int32.ofInt 1 else (if b = 0 then Int32.ofInt 0 else Int32.ofInt 1))) ∧ h.2.2.2.2 = 175 ∧ _ from ⟨⟨.int, rfl, rfl⟩, ex_175 hP, dn_q ((if_neg c1).trans ((if_neg c2).trans ((if_neg c3).trans ((if_neg c4).trans ((if_neg c5).trans (if_neg c6)))))) hQ⟩)
  · have hj : j = 0 ∨ j = 1 ∨ j = 2 ∨ j = 3 ∨ j = 4 ∨ j = 5 := by omega
    rcases hj with rfl | rfl | rfl | rfl | rfl | rfl
    · have c1 : x = Int32.ofInt 4 := Int32.toInt_inj.mp (hj1.trans (by decide))
      show pz_S 3 (some .int) am_r237 0 Q 40 [(0, .int x), (1, .int a), (2, .int b)] [] h
      exact am_goX 4 (show (∃ ty, (some .int) = some ty ∧ narrow ty (.int (a + b)) = .int (a + b)) ∧ h.2.2.2.2 = 175 ∧ _ from ⟨⟨.int, rfl, rfl⟩, ex_175 hP, dn_q (if_pos c1) hQ⟩)
    · have c2 : x = Int32.ofInt 5 := Int32.toInt_inj.mp (hj1.trans (by decide))
      have c1 : ¬ x = Int32.ofInt 4 := by rw [c2]; decide
      show pz_S 3 (some .int) am_r237 0 Q 44 [(0, .int x), (1, .int a), (2, .int b)] [] h
      exact am_goX 4 (show (∃ ty, (some .int) = some ty ∧ narrow ty (.int (a - b)) = .int (a - b)) ∧ h.2.2.2.2 = 175 ∧ _ from ⟨⟨.int, rfl, rfl⟩, ex_175 hP, dn_q ((if_neg c1).trans (if_pos c2)) hQ⟩)
    · have c3 : x = Int32.ofInt 6 := Int32.toInt_inj.mp (hj1.trans (by decide))
      have c1 : ¬ x = Int32.ofInt 4 := by rw [c3]; decide
      have c2 : ¬ x = Int32.ofInt 5 := by rw [c3]; decide
      show pz_S 3 (some .int) am_r237 0 Q 48 [(0, .int x), (1, .int a), (2, .int b)] [] h
      exact am_goX 4 (show (∃ ty, (some .int) = some ty ∧ narrow ty (.int (a * b)) = .int (a * b)) ∧ h.2.2.2.2 = 175 ∧ _ from ⟨⟨.int, rfl, rfl⟩, ex_175 hP, dn_q ((if_neg c1).trans ((if_neg c2).trans (if_pos c3))) hQ⟩)
    · have c4 : x = Int32.ofInt 7 := Int32.toInt_inj.mp (hj1.trans (by decide))
      have c1 : ¬ x = Int32.ofInt 4 := by rw [c4]; decide
      have c2 : ¬ x = Int32.ofInt 5 := by rw [c4]; decide
      have c3 : ¬ x = Int32.ofInt 6 := by rw [c4]; decide
      show pz_S 3 (some .int) am_r237 0 Q 52 [(0, .int x), (1, .int a), (2, .int b)] [] h
      suffices key : ∀ (v14 : Int32), v14 = (if b ≤ a then Int32.ofInt 0 else Int32.ofInt 1) → pz_S 3 (some .int) am_r237 0 Q 62 [] [.int v14] h by
        refine am_goX 3 (show (b ≤ a → pz_S 3 (some .int) am_r237 0 Q 61 [(0, .int x), (1, .int a), (2, .int b)] [] h) ∧ (¬ (b ≤ a) → pz_S 3 (some .int) am_r237 0 Q 57 [(0, .int x), (1, .int a), (2, .int b)] [] h) from ⟨fun c13 => ?_, fun c13 => ?_⟩)
        · refine am_goX 1 (show pz_S 3 (some .int) am_r237 0 Q 62 [(0, .int x), (1, .int a), (2, .int b)] [.int (Int32.ofInt 0)] h from ?_)
          exact sv_S2 sv2_237 (fun q hq => absurd hq List.not_mem_nil) (key _ (if_pos c13).symm)
        · refine am_goX 2 (show pz_S 3 (some .int) am_r237 0 Q 62 [(0, .int x), (1, .int a), (2, .int b)] [.int (Int32.ofInt 1)] h from ?_)
          exact sv_S2 sv2_237 (fun q hq => absurd hq List.not_mem_nil) (key _ (if_neg c13).symm)
      intro v14 e15
      subst e15
      exact am_goX 1 (show (∃ ty, (some .int) = some ty ∧ narrow ty (.int (if b ≤ a then Int32.ofInt 0 else Int32.ofInt 1)) = .int (if b ≤ a then Int32.ofInt 0 else Int32.ofInt 1)) ∧ h.2.2.2.2 = 175 ∧ _ from ⟨⟨.int, rfl, rfl⟩, ex_175 hP, dn_q ((if_neg c1).trans ((if_neg c2).trans ((if_neg c3).trans (if_pos c4)))) hQ⟩)
    · have c5 : x = Int32.ofInt 8 := Int32.toInt_inj.mp (hj1.trans (by decide))
      have c1 : ¬ x = Int32.ofInt 4 := by rw [c5]; decide
      have c2 : ¬ x = Int32.ofInt 5 := by rw [c5]; decide
      have c3 : ¬ x = Int32.ofInt 6 := by rw [c5]; decide
      have c4 : ¬ x = Int32.ofInt 7 := by rw [c5]; decide
      show pz_S 3 (some .int) am_r237 0 Q 63 [(0, .int x), (1, .int a), (2, .int b)] [] h
      suffices key : ∀ (v17 : Int32), v17 = (if ¬ a = b then Int32.ofInt 0 else Int32.ofInt 1) → pz_S 3 (some .int) am_r237 0 Q 73 [] [.int v17] h by
        refine am_goX 3 (show (¬ a = b → pz_S 3 (some .int) am_r237 0 Q 72 [(0, .int x), (1, .int a), (2, .int b)] [] h) ∧ (¬ ¬ a = b → pz_S 3 (some .int) am_r237 0 Q 68 [(0, .int x), (1, .int a), (2, .int b)] [] h) from ⟨fun c16 => ?_, fun c16 => ?_⟩)
        · refine am_goX 1 (show pz_S 3 (some .int) am_r237 0 Q 73 [(0, .int x), (1, .int a), (2, .int b)] [.int (Int32.ofInt 0)] h from ?_)
          exact sv_S2 sv2_237 (fun q hq => absurd hq List.not_mem_nil) (key _ (if_pos c16).symm)
        · refine am_goX 2 (show pz_S 3 (some .int) am_r237 0 Q 73 [(0, .int x), (1, .int a), (2, .int b)] [.int (Int32.ofInt 1)] h from ?_)
          exact sv_S2 sv2_237 (fun q hq => absurd hq List.not_mem_nil) (key _ (if_neg c16).symm)
      intro v17 e18
      subst e18
      exact am_goX 1 (show (∃ ty, (some .int) = some ty ∧ narrow ty (.int (if ¬ a = b then Int32.ofInt 0 else Int32.ofInt 1)) = .int (if ¬ a = b then Int32.ofInt 0 else Int32.ofInt 1)) ∧ h.2.2.2.2 = 175 ∧ _ from ⟨⟨.int, rfl, rfl⟩, ex_175 hP, dn_q ((if_neg c1).trans ((if_neg c2).trans ((if_neg c3).trans ((if_neg c4).trans (if_pos c5))))) hQ⟩)
    · have c6 : x = Int32.ofInt 9 := Int32.toInt_inj.mp (hj1.trans (by decide))
      have c1 : ¬ x = Int32.ofInt 4 := by rw [c6]; decide
      have c2 : ¬ x = Int32.ofInt 5 := by rw [c6]; decide
      have c3 : ¬ x = Int32.ofInt 6 := by rw [c6]; decide
      have c4 : ¬ x = Int32.ofInt 7 := by rw [c6]; decide
      have c5 : ¬ x = Int32.ofInt 8 := by rw [c6]; decide
      show pz_S 3 (some .int) am_r237 0 Q 74 [(0, .int x), (1, .int a), (2, .int b)] [] h
      suffices key : ∀ (v20 : Int32), v20 = (if a = 0 then Int32.ofInt 0 else (if b = 0 then Int32.ofInt 0 else Int32.ofInt 1)) → pz_S 3 (some .int) am_r237 0 Q 87 [] [.int v20] h by
        refine am_goX 2 (show (a = 0 → pz_S 3 (some .int) am_r237 0 Q 86 [(0, .int x), (1, .int a), (2, .int b)] [] h) ∧ (¬ (a = 0) → pz_S 3 (some .int) am_r237 0 Q 78 [(0, .int x), (1, .int a), (2, .int b)] [] h) from ⟨fun c19 => ?_, fun c19 => ?_⟩)
        · refine am_goX 1 (show pz_S 3 (some .int) am_r237 0 Q 87 [(0, .int x), (1, .int a), (2, .int b)] [.int (Int32.ofInt 0)] h from ?_)
          exact sv_S2 sv2_237 (fun q hq => absurd hq List.not_mem_nil) (key _ (if_pos c19).symm)
        · suffices key : ∀ (v22 : Int32), v22 = (if b = 0 then Int32.ofInt 0 else Int32.ofInt 1) → pz_S 3 (some .int) am_r237 0 Q 87 [] [.int v22] h by
            refine am_goX 2 (show (b = 0 → pz_S 3 (some .int) am_r237 0 Q 86 [(0, .int x), (1, .int a), (2, .int b)] [] h) ∧ (¬ (b = 0) → pz_S 3 (some .int) am_r237 0 Q 82 [(0, .int x), (1, .int a), (2, .int b)] [] h) from ⟨fun c21 => ?_, fun c21 => ?_⟩)
            · refine am_goX 1 (show pz_S 3 (some .int) am_r237 0 Q 87 [(0, .int x), (1, .int a), (2, .int b)] [.int (Int32.ofInt 0)] h from ?_)
              exact sv_S2 sv2_237 (fun q hq => absurd hq List.not_mem_nil) (key _ (if_pos c21).symm)
            · refine am_goX 2 (show pz_S 3 (some .int) am_r237 0 Q 87 [(0, .int x), (1, .int a), (2, .int b)] [.int (Int32.ofInt 1)] h from ?_)
              exact sv_S2 sv2_237 (fun q hq => absurd hq List.not_mem_nil) (key _ (if_neg c21).symm)
          intro v22 e23
          subst e23
          exact sv_S2 sv2_237 (fun q hq => absurd hq List.not_mem_nil) (key _ (if_neg c19).symm)
      intro v20 e24
      subst e24
      exact am_goX 1 (show (∃ ty, (some .int) = some ty ∧ narrow ty (.int (if a = 0 then Int32.ofInt 0 else (if b = 0 then Int32.ofInt 0 else Int32.ofInt 1))) = .int (if a = 0 then Int32.ofInt 0 else (if b = 0 then Int32.ofInt 0 else Int32.ofInt 1))) ∧ h.2.2.2.2 = 175 ∧ _ from ⟨⟨.int, rfl, rfl⟩, ex_175 hP, dn_q ((if_neg c1).trans ((if_neg c2).trans ((if_neg c3).trans ((if_neg c4).trans ((if_neg c5).trans (if_pos c6)))))) hQ⟩)
def d_236_4 (C : sp_C) (a b c d : Int32) : Nat → Nat → Nat → (Nat → Int32) → Nat × (Nat → Int32)
  | 0, _, a2, f => (a2, f)
  | m + 1, k, a2, f => (if (rb_o (dT C k)) = (Int32.ofInt 1) then (d_236_4 C a b c d m (k + 1) (a2 + 1) (sp_uI f a2 (rb_a (dT C k)))) else (if ¬ (rb_o (dT C k)) = (Int32.ofInt 2) then (if ¬ (rb_o (dT C k)) = (Int32.ofInt 3) then (d_236_4 C a b c d m (k + 1) (a2 - 1) (sp_uI f ((a2 - 1) - 1) (d_237 (rb_o (dT C k)) (f ((a2 - 1) - 1)) (f (a2 - 1))))) else (d_236_4 C a b c d m (k + 1) a2 (sp_uI f (a2 - 1) (if ¬ (f (a2 - 1)) = 0 then Int32.ofInt 0 else Int32.ofInt 1)))) else (d_236_4 C a b c d m (k + 1) (a2 + 1) (sp_uI f a2 (fsel (dT C k) a b c d)))))
theorem d_236_4_r (ht : C.2.2.2.1 = true) : ∀ (m k : Nat) (a2 : Nat) (f : (Nat → Int32)) (h : am_H), k + m = dM C → (ex_P h) → (tR C h) → (h.1 168 0 = a ∧ h.1 168 1 = b ∧ h.1 168 2 = c ∧ h.1 168 3 = d) → (lfr 169 h0 h) → (∀ j, j < 1100 → h.1 169 j = f j) → (a2 ≤ 32) → (lst ((dTL C).drop k) a2 = some 1) → (∀ h1, (ex_P h1) → (tR C h1) → (h1.1 168 0 = a ∧ h1.1 168 1 = b ∧ h1.1 168 2 = c ∧ h1.1 168 3 = d) → (lfr 169 h0 h1) → (∀ j, j < 1100 → h1.1 169 j = ((d_236_4 C a b c d m k a2 f).2) j) → pz_S 5 (some .int) am_r236 1 Q 140 [(0, .ref 154)] [] h1) → pz_S 5 (some .int) am_r236 1 Q 4 [(0, .ref 154), (2, .int (nI a2)), (3, .int (nI k))] [] h := by
  intro m
  induction m with
  | zero =>
    intro k a2 f h hk hP hT hA hF hK hn hw hZ
    have hM := hT.2.2.2.2.1
    refine am_goX 2 (show am_sh h 154 = some (11, 0) ∧ pz_S 5 (some .int) am_r236 1 Q 8 [(0, .ref 154), (2, .int (nI a2)), (3, .int (nI k))] [am_rf (h.2.2.1 154 11)] h from ⟨ex_154 hP, ?_⟩)
    rw [show am_rf (h.2.2.1 154 11) = .ref 161 from congrArg am_rf (ex_r154_11 hP)]
    refine am_goX 2 (show ∃ jj nn : Nat, am_sh h 161 = some (13, nn) ∧ jj < nn ∧ nI k = nI jj ∧ pz_S 5 (some .int) am_r236 1 Q 10 [(0, .ref 154), (2, .int (nI a2)), (3, .int (nI k))] [.int (h.1 161 jj)] h from ⟨k, 2200, ex_161 hP, (by omega), rfl, ?_⟩)
    rw [show h.1 161 k = Int32.ofInt 0 from tR_l0 hT ht (by omega)]
    refine am_goX 1 (show ((Int32.ofInt 0) = 0 → pz_S 5 (some .int) am_r236 1 Q 140 [(0, .ref 154), (2, .int (nI a2)), (3, .int (nI k))] [] h) ∧ (¬ ((Int32.ofInt 0) = 0) → pz_S 5 (some .int) am_r236 1 Q 13 [(0, .ref 154), (2, .int (nI a2)), (3, .int (nI k))] [] h) from ⟨fun _ => ?_, fun hz => absurd (by decide) hz⟩)
    exact sv_S2 sv2_236 (by intro q hq; simp only [List.mem_cons, List.not_mem_nil, or_false] at hq; rcases hq with rfl <;> rfl) (hZ _ hP hT hA hF hK)
  | succ m ih =>
    intro k a2 f h hk hP hT hA hF hK hn hw hZ
    have hM := hT.2.2.2.2.1
    refine am_goX 2 (show am_sh h 154 = some (11, 0) ∧ pz_S 5 (some .int) am_r236 1 Q 8 [(0, .ref 154), (2, .int (nI a2)), (3, .int (nI k))] [am_rf (h.2.2.1 154 11)] h from ⟨ex_154 hP, ?_⟩)
    rw [show am_rf (h.2.2.1 154 11) = .ref 161 from congrArg am_rf (ex_r154_11 hP)]
    refine am_goX 2 (show ∃ jj nn : Nat, am_sh h 161 = some (13, nn) ∧ jj < nn ∧ nI k = nI jj ∧ pz_S 5 (some .int) am_r236 1 Q 10 [(0, .ref 154), (2, .int (nI a2)), (3, .int (nI k))] [.int (h.1 161 jj)] h from ⟨k, 2200, ex_161 hP, (by omega), rfl, ?_⟩)
    rw [show h.1 161 k = rb_o (dT C k) from (hT.2.2.2.2.2.1 k (by omega)).1]
    refine am_goX 1 (show ((rb_o (dT C k)) = 0 → pz_S 5 (some .int) am_r236 1 Q 140 [(0, .ref 154), (2, .int (nI a2)), (3, .int (nI k))] [] h) ∧ (¬ ((rb_o (dT C k)) = 0) → pz_S 5 (some .int) am_r236 1 Q 13 [(0, .ref 154), (2, .int (nI a2)), (3, .int (nI k))] [] h) from ⟨fun hz => absurd hz (rbo_0 _), fun _ => ?_⟩)
    refine am_goX 2 (show am_sh h 154 = some (11, 0) ∧ pz_S 5 (some .int) am_r236 1 Q 17 [(0, .ref 154), (2, .int (nI a2)), (3, .int (nI k))] [am_rf (h.2.2.1 154 11)] h from ⟨ex_154 hP, ?_⟩)
    rw [show am_rf (h.2.2.1 154 11) = .ref 161 from congrArg am_rf (ex_r154_11 hP)]
    refine am_goX 2 (show ∃ jj nn : Nat, am_sh h 161 = some (13, nn) ∧ jj < nn ∧ nI k = nI jj ∧ pz_S 5 (some .int) am_r236 1 Q 19 [(0, .ref 154), (2, .int (nI a2)), (3, .int (nI k))] [.int (h.1 161 jj)] h from ⟨k, 2200, ex_161 hP, (by omega), rfl, ?_⟩)
    rw [show h.1 161 k = rb_o (dT C k) from (hT.2.2.2.2.2.1 k (by omega)).1]
    refine am_goX 4 (show 4 < 5 ∧ ((rb_o (dT C k)) = (Int32.ofInt 1) → pz_S 5 (some .int) am_r236 1 Q 33 [(4, .int (rb_o (dT C k))), (0, .ref 154), (2, .int (nI a2)), (3, .int (nI k))] [] h) ∧ (¬ ((rb_o (dT C k)) = (Int32.ofInt 1)) → pz_S 5 (some .int) am_r236 1 Q 27 [(4, .int (rb_o (dT C k))), (0, .ref 154), (2, .int (nI a2)), (3, .int (nI k))] [] h) from ⟨by decide, fun c25 => ?_, fun c25 => ?_⟩)
    · obtain ⟨w26l, w26⟩ := wf_p (by omega) hw (Or.inl c25)
      refine am_goX 2 (show am_sh h 154 = some (11, 0) ∧ pz_S 5 (some .int) am_r236 1 Q 37 [(4, .int (rb_o (dT C k))), (0, .ref 154), (2, .int (nI a2)), (3, .int (nI k))] [am_rf (h.2.2.1 154 23)] h from ⟨ex_154 hP, ?_⟩)
      rw [show am_rf (h.2.2.1 154 23) = .ref 169 from congrArg am_rf (ex_r154_23 hP)]
      refine am_goX 4 (show (¬ (rb_o (dT C k)) = (Int32.ofInt 1) → pz_S 5 (some .int) am_r236 1 Q 53 [(4, .int (rb_o (dT C k))), (0, .ref 154), (2, .int (nI a2)), (3, .int (nI k))] [.int (nI a2), .ref 169] h) ∧ (¬ ¬ (rb_o (dT C k)) = (Int32.ofInt 1) → pz_S 5 (some .int) am_r236 1 Q 44 [(4, .int (rb_o (dT C k))), (0, .ref 154), (2, .int (nI a2)), (3, .int (nI k))] [.int (nI a2), .ref 169] h) from ⟨fun hz => absurd hz (fun w => w c25), fun _ => ?_⟩)
      refine am_goX 2 (show am_sh h 154 = some (11, 0) ∧ pz_S 5 (some .int) am_r236 1 Q 48 [(4, .int (rb_o (dT C k))), (0, .ref 154), (2, .int (nI a2)), (3, .int (nI k))] [am_rf (h.2.2.1 154 12), .int (nI a2), .ref 169] h from ⟨ex_154 hP, ?_⟩)
      rw [show am_rf (h.2.2.1 154 12) = .ref 162 from congrArg am_rf (ex_r154_12 hP)]
      refine am_goX 2 (show ∃ jj nn : Nat, am_sh h 162 = some (13, nn) ∧ jj < nn ∧ nI k = nI jj ∧ pz_S 5 (some .int) am_r236 1 Q 50 [(4, .int (rb_o (dT C k))), (0, .ref 154), (2, .int (nI a2)), (3, .int (nI k))] [.int (h.1 162 jj), .int (nI a2), .ref 169] h from ⟨k, 2200, ex_162 hP, (by omega), rfl, ?_⟩)
      rw [show h.1 162 k = rb_a (dT C k) from (hT.2.2.2.2.2.1 k (by omega)).2]
      refine am_goX 2 (show ∃ jj nn : Nat, am_so h 169 = some (13, nn) ∧ jj < nn ∧ nI a2 = nI jj ∧ pz_S 5 (some .int) am_r236 1 Q 65 [(4, .int (rb_o (dT C k))), (0, .ref 154), (2, .int (nI a2)), (3, .int (nI k))] [] (am_wI h 169 jj (rb_a (dT C k))) from ⟨a2, 1100, ex_w169 hP, (by omega), rfl, ?_⟩)
      have f28 : ex_P (am_wI h 169 a2 (rb_a (dT C k))) := hP
      have f29 : tR C (am_wI h 169 a2 (rb_a (dT C k))) := tR_w (by omega) hT
      have f30 : (am_wI h 169 a2 (rb_a (dT C k))).1 168 0 = a ∧ (am_wI h 169 a2 (rb_a (dT C k))).1 168 1 = b ∧ (am_wI h 169 a2 (rb_a (dT C k))).1 168 2 = c ∧ (am_wI h 169 a2 (rb_a (dT C k))).1 168 3 = d := fc_w hA
      have f31 : lfr 169 h0 (am_wI h 169 a2 (rb_a (dT C k))) := lfr_w hF
      have f32 : ∀ j, j < 1100 → (am_wI h 169 a2 (rb_a (dT C k))).1 169 j = (sp_uI f a2 (rb_a (dT C k))) j := stk_w hK
      generalize am_wI h 169 a2 (rb_a (dT C k)) = h27 at f28 f29 f30 f31 f32 ⊢
      refine am_goX 4 (show 2 < 5 ∧ 3 < 5 ∧ pz_S 5 (some .int) am_r236 1 Q 4 [(3, .int ((nI k) + (Int32.ofInt 1))), (2, .int ((nI a2) + (Int32.ofInt 1))), (4, .int (rb_o (dT C k))), (0, .ref 154)] [] h27 from ⟨by decide, by decide, ?_⟩)
      rw [show d_236_4 C a b c d (m + 1) k a2 f = d_236_4 C a b c d m (k + 1) (a2 + 1) (sp_uI f a2 (rb_a (dT C k))) from if_pos c25] at hZ
      rw [show (nI k) + (Int32.ofInt 1) = nI (k + 1) from (dn_a rfl rfl)]
      rw [show (nI a2) + (Int32.ofInt 1) = nI (a2 + 1) from (dn_a rfl rfl)]
      exact sv_S2 sv2_236 (by intro q hq; simp only [List.mem_cons, List.not_mem_nil, or_false] at hq; rcases hq with rfl | rfl | rfl <;> rfl) (ih (k + 1) (a2 + 1) (sp_uI f a2 (rb_a (dT C k))) _ (by omega) f28 f29 f30 f31 f32 (by omega) w26 hZ)
    · refine am_goX 3 (show (¬ (rb_o (dT C k)) = (Int32.ofInt 2) → pz_S 5 (some .int) am_r236 1 Q 71 [(4, .int (rb_o (dT C k))), (0, .ref 154), (2, .int (nI a2)), (3, .int (nI k))] [] h) ∧ (¬ ¬ (rb_o (dT C k)) = (Int32.ofInt 2) → pz_S 5 (some .int) am_r236 1 Q 33 [(4, .int (rb_o (dT C k))), (0, .ref 154), (2, .int (nI a2)), (3, .int (nI k))] [] h) from ⟨fun c33 => ?_, fun c33 => ?_⟩)
      · refine am_goX 3 (show (¬ (rb_o (dT C k)) = (Int32.ofInt 3) → pz_S 5 (some .int) am_r236 1 Q 104 [(4, .int (rb_o (dT C k))), (0, .ref 154), (2, .int (nI a2)), (3, .int (nI k))] [] h) ∧ (¬ ¬ (rb_o (dT C k)) = (Int32.ofInt 3) → pz_S 5 (some .int) am_r236 1 Q 77 [(4, .int (rb_o (dT C k))), (0, .ref 154), (2, .int (nI a2)), (3, .int (nI k))] [] h) from ⟨fun c34 => ?_, fun c34 => ?_⟩)
        · obtain ⟨w35l, w35⟩ := wf_b (by omega) hw c25 c33 c34
          refine am_goX 3 (show 2 < 5 ∧ am_sh h 154 = some (11, 0) ∧ pz_S 5 (some .int) am_r236 1 Q 111 [(2, .int ((nI a2) + (Int32.ofInt (-1)))), (4, .int (rb_o (dT C k))), (0, .ref 154), (3, .int (nI k))] [am_rf (h.2.2.1 154 23)] h from ⟨by decide, ex_154 hP, ?_⟩)
          rw [show am_rf (h.2.2.1 154 23) = .ref 169 from congrArg am_rf (ex_r154_23 hP)]
          refine am_goX 6 (show am_sh h 154 = some (11, 0) ∧ pz_S 5 (some .int) am_r236 1 Q 120 [(2, .int ((nI a2) + (Int32.ofInt (-1)))), (4, .int (rb_o (dT C k))), (0, .ref 154), (3, .int (nI k))] [am_rf (h.2.2.1 154 23), .int (rb_o (dT C k)), .int (((nI a2) + (Int32.ofInt (-1))) - (Int32.ofInt 1)), .ref 169] h from ⟨ex_154 hP, ?_⟩)
          rw [show am_rf (h.2.2.1 154 23) = .ref 169 from congrArg am_rf (ex_r154_23 hP)]
          refine am_goX 4 (show ∃ jj nn : Nat, am_sh h 169 = some (13, nn) ∧ jj < nn ∧ ((nI a2) + (Int32.ofInt (-1))) - (Int32.ofInt 1) = nI jj ∧ pz_S 5 (some .int) am_r236 1 Q 124 [(2, .int ((nI a2) + (Int32.ofInt (-1)))), (4, .int (rb_o (dT C k))), (0, .ref 154), (3, .int (nI k))] [.int (h.1 169 jj), .int (rb_o (dT C k)), .int (((nI a2) + (Int32.ofInt (-1))) - (Int32.ofInt 1)), .ref 169] h from ⟨((a2 - 1) - 1), 1100, ex_169 hP, (by omega), (dn_s (by omega) (dn_d (by omega) rfl (by decide)) rfl), ?_⟩)
          rw [show h.1 169 ((a2 - 1) - 1) = f ((a2 - 1) - 1) from hK ((a2 - 1) - 1) (by omega)]
          refine am_goX 2 (show am_sh h 154 = some (11, 0) ∧ pz_S 5 (some .int) am_r236 1 Q 128 [(2, .int ((nI a2) + (Int32.ofInt (-1)))), (4, .int (rb_o (dT C k))), (0, .ref 154), (3, .int (nI k))] [am_rf (h.2.2.1 154 23), .int (f ((a2 - 1) - 1)), .int (rb_o (dT C k)), .int (((nI a2) + (Int32.ofInt (-1))) - (Int32.ofInt 1)), .ref 169] h from ⟨ex_154 hP, ?_⟩)
          rw [show am_rf (h.2.2.1 154 23) = .ref 169 from congrArg am_rf (ex_r154_23 hP)]
          refine am_goX 2 (show ∃ jj nn : Nat, am_sh h 169 = some (13, nn) ∧ jj < nn ∧ (nI a2) + (Int32.ofInt (-1)) = nI jj ∧ pz_S 5 (some .int) am_r236 1 Q 130 [(2, .int ((nI a2) + (Int32.ofInt (-1)))), (4, .int (rb_o (dT C k))), (0, .ref 154), (3, .int (nI k))] [.int (h.1 169 jj), .int (f ((a2 - 1) - 1)), .int (rb_o (dT C k)), .int (((nI a2) + (Int32.ofInt (-1))) - (Int32.ofInt 1)), .ref 169] h from ⟨(a2 - 1), 1100, ex_169 hP, (by omega), (dn_d (by omega) rfl (by decide)), ?_⟩)
          rw [show h.1 169 (a2 - 1) = f (a2 - 1) from hK (a2 - 1) (by omega)]
          refine am_goX 1 (show 2 ≤ 8 ∧ h.2.2.2.2 + am_al 237 ≤ 175 ∧ am_call am_cod 1 237 [.int (rb_o (dT C k)), .int (f ((a2 - 1) - 1)), .int (f (a2 - 1))] h (fun vv h' => pz_S 5 (some .int) am_r236 1 Q 133 [(2, .int ((nI a2) + (Int32.ofInt (-1)))), (4, .int (rb_o (dT C k))), (0, .ref 154), (3, .int (nI k))] (vv.toList ++ [.int (((nI a2) + (Int32.ofInt (-1))) - (Int32.ofInt 1)), .ref 169]) h') from ⟨by decide, ex_lim hP rfl, am_call.up (d_237_w hP ?_) (by decide)⟩)
          refine am_goX 1 (show ∃ jj nn : Nat, am_so h 169 = some (13, nn) ∧ jj < nn ∧ ((nI a2) + (Int32.ofInt (-1))) - (Int32.ofInt 1) = nI jj ∧ pz_S 5 (some .int) am_r236 1 Q 134 [(2, .int ((nI a2) + (Int32.ofInt (-1)))), (4, .int (rb_o (dT C k))), (0, .ref 154), (3, .int (nI k))] [] (am_wI h 169 jj (d_237 (rb_o (dT C k)) (f ((a2 - 1) - 1)) (f (a2 - 1)))) from ⟨((a2 - 1) - 1), 1100, ex_w169 hP, (by omega), (dn_s (by omega) (dn_d (by omega) rfl (by decide)) rfl), ?_⟩)
          have f37 : ex_P (am_wI h 169 ((a2 - 1) - 1) (d_237 (rb_o (dT C k)) (f ((a2 - 1) - 1)) (f (a2 - 1)))) := hP
          have f38 : tR C (am_wI h 169 ((a2 - 1) - 1) (d_237 (rb_o (dT C k)) (f ((a2 - 1) - 1)) (f (a2 - 1)))) := tR_w (by omega) hT
          have f39 : (am_wI h 169 ((a2 - 1) - 1) (d_237 (rb_o (dT C k)) (f ((a2 - 1) - 1)) (f (a2 - 1)))).1 168 0 = a ∧ (am_wI h 169 ((a2 - 1) - 1) (d_237 (rb_o (dT C k)) (f ((a2 - 1) - 1)) (f (a2 - 1)))).1 168 1 = b ∧ (am_wI h 169 ((a2 - 1) - 1) (d_237 (rb_o (dT C k)) (f ((a2 - 1) - 1)) (f (a2 - 1)))).1 168 2 = c ∧ (am_wI h 169 ((a2 - 1) - 1) (d_237 (rb_o (dT C k)) (f ((a2 - 1) - 1)) (f (a2 - 1)))).1 168 3 = d := fc_w hA
          have f40 : lfr 169 h0 (am_wI h 169 ((a2 - 1) - 1) (d_237 (rb_o (dT C k)) (f ((a2 - 1) - 1)) (f (a2 - 1)))) := lfr_w hF
          have f41 : ∀ j, j < 1100 → (am_wI h 169 ((a2 - 1) - 1) (d_237 (rb_o (dT C k)) (f ((a2 - 1) - 1)) (f (a2 - 1)))).1 169 j = (sp_uI f ((a2 - 1) - 1) (d_237 (rb_o (dT C k)) (f ((a2 - 1) - 1)) (f (a2 - 1)))) j := stk_w hK
          generalize am_wI h 169 ((a2 - 1) - 1) (d_237 (rb_o (dT C k)) (f ((a2 - 1) - 1)) (f (a2 - 1))) = h36 at f37 f38 f39 f40 f41 ⊢
          refine am_goX 2 (show 3 < 5 ∧ pz_S 5 (some .int) am_r236 1 Q 4 [(3, .int ((nI k) + (Int32.ofInt 1))), (2, .int ((nI a2) + (Int32.ofInt (-1)))), (4, .int (rb_o (dT C k))), (0, .ref 154)] [] h36 from ⟨by decide, ?_⟩)
          rw [show d_236_4 C a b c d (m + 1) k a2 f = d_236_4 C a b c d m (k + 1) (a2 - 1) (sp_uI f ((a2 - 1) - 1) (d_237 (rb_o (dT C k)) (f ((a2 - 1) - 1)) (f (a2 - 1)))) from (if_neg c25).trans ((if_pos c33).trans (if_pos c34))] at hZ
          rw [show (nI k) + (Int32.ofInt 1) = nI (k + 1) from (dn_a rfl rfl)]
          rw [show (nI a2) + (Int32.ofInt (-1)) = nI (a2 - 1) from (dn_d (by omega) rfl (by decide))]
          exact sv_S2 sv2_236 (by intro q hq; simp only [List.mem_cons, List.not_mem_nil, or_false] at hq; rcases hq with rfl | rfl | rfl <;> rfl) (ih (k + 1) (a2 - 1) (sp_uI f ((a2 - 1) - 1) (d_237 (rb_o (dT C k)) (f ((a2 - 1) - 1)) (f (a2 - 1)))) _ (by omega) f37 f38 f39 f40 f41 (by omega) w35 hZ)
        · obtain ⟨w42l, w42⟩ := wf_n (by omega) hw (Decidable.not_not.mp c34)
          refine am_goX 2 (show am_sh h 154 = some (11, 0) ∧ pz_S 5 (some .int) am_r236 1 Q 81 [(4, .int (rb_o (dT C k))), (0, .ref 154), (2, .int (nI a2)), (3, .int (nI k))] [am_rf (h.2.2.1 154 23)] h from ⟨ex_154 hP, ?_⟩)
          rw [show am_rf (h.2.2.1 154 23) = .ref 169 from congrArg am_rf (ex_r154_23 hP)]
          refine am_goX 5 (show am_sh h 154 = some (11, 0) ∧ pz_S 5 (some .int) am_r236 1 Q 88 [(4, .int (rb_o (dT C k))), (0, .ref 154), (2, .int (nI a2)), (3, .int (nI k))] [am_rf (h.2.2.1 154 23), .int ((nI a2) - (Int32.ofInt 1)), .ref 169] h from ⟨ex_154 hP, ?_⟩)
          rw [show am_rf (h.2.2.1 154 23) = .ref 169 from congrArg am_rf (ex_r154_23 hP)]
          refine am_goX 4 (show ∃ jj nn : Nat, am_sh h 169 = some (13, nn) ∧ jj < nn ∧ (nI a2) - (Int32.ofInt 1) = nI jj ∧ pz_S 5 (some .int) am_r236 1 Q 92 [(4, .int (rb_o (dT C k))), (0, .ref 154), (2, .int (nI a2)), (3, .int (nI k))] [.int (h.1 169 jj), .int ((nI a2) - (Int32.ofInt 1)), .ref 169] h from ⟨(a2 - 1), 1100, ex_169 hP, (by omega), (dn_s (by omega) rfl rfl), ?_⟩)
          rw [show h.1 169 (a2 - 1) = f (a2 - 1) from hK (a2 - 1) (by omega)]
          suffices key : ∀ (v44 : Int32), v44 = (if ¬ (f (a2 - 1)) = 0 then Int32.ofInt 0 else Int32.ofInt 1) → pz_S 5 (some .int) am_r236 1 Q 100 [(0, .ref 154), (2, .int (nI a2)), (3, .int (nI k))] [.int v44, .int ((nI a2) - (Int32.ofInt 1)), .ref 169] h by
            refine am_goX 1 (show (¬ (f (a2 - 1)) = 0 → pz_S 5 (some .int) am_r236 1 Q 99 [(4, .int (rb_o (dT C k))), (0, .ref 154), (2, .int (nI a2)), (3, .int (nI k))] [.int ((nI a2) - (Int32.ofInt 1)), .ref 169] h) ∧ (¬ ¬ (f (a2 - 1)) = 0 → pz_S 5 (some .int) am_r236 1 Q 95 [(4, .int (rb_o (dT C k))), (0, .ref 154), (2, .int (nI a2)), (3, .int (nI k))] [.int ((nI a2) - (Int32.ofInt 1)), .ref 169] h) from ⟨fun c43 => ?_, fun c43 => ?_⟩)
            · refine am_goX 1 (show pz_S 5 (some .int) am_r236 1 Q 100 [(4, .int (rb_o (dT C k))), (0, .ref 154), (2, .int (nI a2)), (3, .int (nI k))] [.int (Int32.ofInt 0), .int ((nI a2) - (Int32.ofInt 1)), .ref 169] h from ?_)
              exact sv_S2 sv2_236 (by intro q hq; simp only [List.mem_cons, List.not_mem_nil, or_false] at hq; rcases hq with rfl | rfl | rfl <;> rfl) (key _ (if_pos c43).symm)
            · refine am_goX 2 (show pz_S 5 (some .int) am_r236 1 Q 100 [(4, .int (rb_o (dT C k))), (0, .ref 154), (2, .int (nI a2)), (3, .int (nI k))] [.int (Int32.ofInt 1), .int ((nI a2) - (Int32.ofInt 1)), .ref 169] h from ?_)
              exact sv_S2 sv2_236 (by intro q hq; simp only [List.mem_cons, List.not_mem_nil, or_false] at hq; rcases hq with rfl | rfl | rfl <;> rfl) (key _ (if_neg c43).symm)
          intro v44 e45
          subst e45
          refine am_goX 1 (show ∃ jj nn : Nat, am_so h 169 = some (13, nn) ∧ jj < nn ∧ (nI a2) - (Int32.ofInt 1) = nI jj ∧ pz_S 5 (some .int) am_r236 1 Q 101 [(0, .ref 154), (2, .int (nI a2)), (3, .int (nI k))] [] (am_wI h 169 jj (if ¬ (f (a2 - 1)) = 0 then Int32.ofInt 0 else Int32.ofInt 1)) from ⟨(a2 - 1), 1100, ex_w169 hP, (by omega), (dn_s (by omega) rfl rfl), ?_⟩)
          have f47 : ex_P (am_wI h 169 (a2 - 1) (if ¬ (f (a2 - 1)) = 0 then Int32.ofInt 0 else Int32.ofInt 1)) := hP
          have f48 : tR C (am_wI h 169 (a2 - 1) (if ¬ (f (a2 - 1)) = 0 then Int32.ofInt 0 else Int32.ofInt 1)) := tR_w (by omega) hT
          have f49 : (am_wI h 169 (a2 - 1) (if ¬ (f (a2 - 1)) = 0 then Int32.ofInt 0 else Int32.ofInt 1)).1 168 0 = a ∧ (am_wI h 169 (a2 - 1) (if ¬ (f (a2 - 1)) = 0 then Int32.ofInt 0 else Int32.ofInt 1)).1 168 1 = b ∧ (am_wI h 169 (a2 - 1) (if ¬ (f (a2 - 1)) = 0 then Int32.ofInt 0 else Int32.ofInt 1)).1 168 2 = c ∧ (am_wI h 169 (a2 - 1) (if ¬ (f (a2 - 1)) = 0 then Int32.ofInt 0 else Int32.ofInt 1)).1 168 3 = d := fc_w hA
          have f50 : lfr 169 h0 (am_wI h 169 (a2 - 1) (if ¬ (f (a2 - 1)) = 0 then Int32.ofInt 0 else Int32.ofInt 1)) := lfr_w hF
          have f51 : ∀ j, j < 1100 → (am_wI h 169 (a2 - 1) (if ¬ (f (a2 - 1)) = 0 then Int32.ofInt 0 else Int32.ofInt 1)).1 169 j = (sp_uI f (a2 - 1) (if ¬ (f (a2 - 1)) = 0 then Int32.ofInt 0 else Int32.ofInt 1)) j := stk_w hK
          generalize am_wI h 169 (a2 - 1) (if ¬ (f (a2 - 1)) = 0 then Int32.ofInt 0 else Int32.ofInt 1) = h46 at f47 f48 f49 f50 f51 ⊢
          refine am_goX 3 (show 3 < 5 ∧ pz_S 5 (some .int) am_r236 1 Q 4 [(3, .int ((nI k) + (Int32.ofInt 1))), (0, .ref 154), (2, .int (nI a2))] [] h46 from ⟨by decide, ?_⟩)
          rw [show d_236_4 C a b c d (m + 1) k a2 f = d_236_4 C a b c d m (k + 1) a2 (sp_uI f (a2 - 1) (if ¬ (f (a2 - 1)) = 0 then Int32.ofInt 0 else Int32.ofInt 1)) from (if_neg c25).trans ((if_pos c33).trans (if_neg c34))] at hZ
          rw [show (nI k) + (Int32.ofInt 1) = nI (k + 1) from (dn_a rfl rfl)]
          exact sv_S2 sv2_236 (by intro q hq; simp only [List.mem_cons, List.not_mem_nil, or_false] at hq; rcases hq with rfl | rfl | rfl <;> rfl) (ih (k + 1) a2 (sp_uI f (a2 - 1) (if ¬ (f (a2 - 1)) = 0 then Int32.ofInt 0 else Int32.ofInt 1)) _ (by omega) f47 f48 f49 f50 f51 (by omega) w42 hZ)
      · obtain ⟨w52l, w52⟩ := wf_p (by omega) hw (Or.inr (Decidable.not_not.mp c33))
        refine am_goX 2 (show am_sh h 154 = some (11, 0) ∧ pz_S 5 (some .int) am_r236 1 Q 37 [(4, .int (rb_o (dT C k))), (0, .ref 154), (2, .int (nI a2)), (3, .int (nI k))] [am_rf (h.2.2.1 154 23)] h from ⟨ex_154 hP, ?_⟩)
        rw [show am_rf (h.2.2.1 154 23) = .ref 169 from congrArg am_rf (ex_r154_23 hP)]
        refine am_goX 4 (show (¬ (rb_o (dT C k)) = (Int32.ofInt 1) → pz_S 5 (some .int) am_r236 1 Q 53 [(4, .int (rb_o (dT C k))), (0, .ref 154), (2, .int (nI a2)), (3, .int (nI k))] [.int (nI a2), .ref 169] h) ∧ (¬ ¬ (rb_o (dT C k)) = (Int32.ofInt 1) → pz_S 5 (some .int) am_r236 1 Q 44 [(4, .int (rb_o (dT C k))), (0, .ref 154), (2, .int (nI a2)), (3, .int (nI k))] [.int (nI a2), .ref 169] h) from ⟨fun _ => ?_, fun hz => absurd c25 hz⟩)
        refine am_goX 2 (show am_sh h 154 = some (11, 0) ∧ pz_S 5 (some .int) am_r236 1 Q 57 [(4, .int (rb_o (dT C k))), (0, .ref 154), (2, .int (nI a2)), (3, .int (nI k))] [am_rf (h.2.2.1 154 22), .int (nI a2), .ref 169] h from ⟨ex_154 hP, ?_⟩)
        rw [show am_rf (h.2.2.1 154 22) = .ref 168 from congrArg am_rf (ex_r154_22 hP)]
        refine am_goX 2 (show am_sh h 154 = some (11, 0) ∧ pz_S 5 (some .int) am_r236 1 Q 61 [(4, .int (rb_o (dT C k))), (0, .ref 154), (2, .int (nI a2)), (3, .int (nI k))] [am_rf (h.2.2.1 154 12), .ref 168, .int (nI a2), .ref 169] h from ⟨ex_154 hP, ?_⟩)
        rw [show am_rf (h.2.2.1 154 12) = .ref 162 from congrArg am_rf (ex_r154_12 hP)]
        refine am_goX 2 (show ∃ jj nn : Nat, am_sh h 162 = some (13, nn) ∧ jj < nn ∧ nI k = nI jj ∧ pz_S 5 (some .int) am_r236 1 Q 63 [(4, .int (rb_o (dT C k))), (0, .ref 154), (2, .int (nI a2)), (3, .int (nI k))] [.int (h.1 162 jj), .ref 168, .int (nI a2), .ref 169] h from ⟨k, 2200, ex_162 hP, (by omega), rfl, ?_⟩)
        rw [show h.1 162 k = rb_a (dT C k) from (hT.2.2.2.2.2.1 k (by omega)).2]
        refine am_goX 1 (show ∃ jj nn : Nat, am_sh h 168 = some (13, nn) ∧ jj < nn ∧ rb_a (dT C k) = nI jj ∧ pz_S 5 (some .int) am_r236 1 Q 64 [(4, .int (rb_o (dT C k))), (0, .ref 154), (2, .int (nI a2)), (3, .int (nI k))] [.int (h.1 168 jj), .int (nI a2), .ref 169] h from ⟨(rb_a (dT C k)).toInt.toNat, 4, ex_168 hP, (rba_n (Decidable.not_not.mp c33)).2.1, (rba_n (Decidable.not_not.mp c33)).1, ?_⟩)
        rw [show h.1 168 ((rb_a (dT C k)).toInt.toNat) = fsel (dT C k) a b c d from (by rw [(rba_n (Decidable.not_not.mp c33)).2.2 (h.1 168), hA.1, hA.2.1, hA.2.2.1, hA.2.2.2])]
        refine am_goX 1 (show ∃ jj nn : Nat, am_so h 169 = some (13, nn) ∧ jj < nn ∧ nI a2 = nI jj ∧ pz_S 5 (some .int) am_r236 1 Q 65 [(4, .int (rb_o (dT C k))), (0, .ref 154), (2, .int (nI a2)), (3, .int (nI k))] [] (am_wI h 169 jj (fsel (dT C k) a b c d)) from ⟨a2, 1100, ex_w169 hP, (by omega), rfl, ?_⟩)
        have f54 : ex_P (am_wI h 169 a2 (fsel (dT C k) a b c d)) := hP
        have f55 : tR C (am_wI h 169 a2 (fsel (dT C k) a b c d)) := tR_w (by omega) hT
        have f56 : (am_wI h 169 a2 (fsel (dT C k) a b c d)).1 168 0 = a ∧ (am_wI h 169 a2 (fsel (dT C k) a b c d)).1 168 1 = b ∧ (am_wI h 169 a2 (fsel (dT C k) a b c d)).1 168 2 = c ∧ (am_wI h 169 a2 (fsel (dT C k) a b c d)).1 168 3 = d := fc_w hA
        have f57 : lfr 169 h0 (am_wI h 169 a2 (fsel (dT C k) a b c d)) := lfr_w hF
        have f58 : ∀ j, j < 1100 → (am_wI h 169 a2 (fsel (dT C k) a b c d)).1 169 j = (sp_uI f a2 (fsel (dT C k) a b c d)) j := stk_w hK
        generalize am_wI h 169 a2 (fsel (dT C k) a b c d) = h53 at f54 f55 f56 f57 f58 ⊢
        refine am_goX 4 (show 2 < 5 ∧ 3 < 5 ∧ pz_S 5 (some .int) am_r236 1 Q 4 [(3, .int ((nI k) + (Int32.ofInt 1))), (2, .int ((nI a2) + (Int32.ofInt 1))), (4, .int (rb_o (dT C k))), (0, .ref 154)] [] h53 from ⟨by decide, by decide, ?_⟩)
        rw [show d_236_4 C a b c d (m + 1) k a2 f = d_236_4 C a b c d m (k + 1) (a2 + 1) (sp_uI f a2 (fsel (dT C k) a b c d)) from (if_neg c25).trans (if_neg c33)] at hZ
        rw [show (nI k) + (Int32.ofInt 1) = nI (k + 1) from (dn_a rfl rfl)]
        rw [show (nI a2) + (Int32.ofInt 1) = nI (a2 + 1) from (dn_a rfl rfl)]
        exact sv_S2 sv2_236 (by intro q hq; simp only [List.mem_cons, List.not_mem_nil, or_false] at hq; rcases hq with rfl | rfl | rfl <;> rfl) (ih (k + 1) (a2 + 1) (sp_uI f a2 (fsel (dT C k) a b c d)) _ (by omega) f54 f55 f56 f57 f58 (by omega) w52 hZ)
def d_236_f (C : sp_C) (a b c d : Int32) (f : Nat → Int32) : Nat → Int32 := (d_236_4 C a b c d (dM C) 0 0 f).2
def d_236 (C : sp_C) (a b c d : Int32) (f : Nat → Int32) : Int32 := ((d_236_4 C a b c d (dM C) 0 0 f).2) 0
theorem d_236_r (hP : ex_P h) (hT : tR C h) (hA : h.1 168 0 = a ∧ h.1 168 1 = b ∧ h.1 168 2 = c ∧ h.1 168 3 = d) (hF : lfr 169 h0 h) (hK : ∀ j, j < 1100 → h.1 169 j = f j) (ht : C.2.2.2.1 = true) (hw0 : lst ((dTL C).drop 0) 0 = some 1) (hQ : ∀ h1, (ex_P h1) → (tR C h1) → (h1.1 168 0 = a ∧ h1.1 168 1 = b ∧ h1.1 168 2 = c ∧ h1.1 168 3 = d) → (lfr 169 h0 h1) → (∀ j, j < 1100 → h1.1 169 j = (d_236_f C a b c d f) j) → Q (some (.int (d_236 C a b c d f))) h1) : am_call am_cod 2 236 [.ref 154, .int (nI 0)] h Q := by
  refine pz_call (n := 236) (nL := 5) (rt := (some .int)) (rows := am_r236) (d := 1) (by decide +kernel) (by decide +kernel) rfl (by funext pc; rfl) (ex_175 hP) (by exact Nat.le_of_ble_eq_true rfl) ?_
  refine am_goX 4 (show 2 < 5 ∧ 3 < 5 ∧ pz_S 5 (some .int) am_r236 1 Q 4 [(3, .int (nI 0)), (2, .int (Int32.ofInt 0)), (0, .ref 154), (1, .int (nI 0))] [] h from ⟨by decide, by decide, ?_⟩)
  refine sv_S2 sv2_236 (by intro q hq; simp only [List.mem_cons, List.not_mem_nil, or_false] at hq; rcases hq with rfl | rfl | rfl <;> rfl) (d_236_4_r ht (dM C) 0 0 f _ (by omega) hP hT hA hF hK (by omega) hw0 (fun h59 f60 f61 f62 f63 f64 => ?_))
  refine am_goX 2 (show am_sh h59 154 = some (11, 0) ∧ pz_S 5 (some .int) am_r236 1 Q 144 [(0, .ref 154)] [am_rf (h59.2.2.1 154 23)] h59 from ⟨ex_154 f60, ?_⟩)
  rw [show am_rf (h59.2.2.1 154 23) = .ref 169 from congrArg am_rf (ex_r154_23 f60)]
  refine am_goX 2 (show ∃ jj nn : Nat, am_sh h59 169 = some (13, nn) ∧ jj < nn ∧ Int32.ofInt 0 = nI jj ∧ pz_S 5 (some .int) am_r236 1 Q 146 [(0, .ref 154)] [.int (h59.1 169 jj)] h59 from ⟨0, 1100, ex_169 f60, (by omega), rfl, ?_⟩)
  rw [show h59.1 169 0 = ((d_236_4 C a b c d (dM C) 0 0 f).2) 0 from f64 0 (by omega)]
  exact am_goX 1 (show (∃ ty, (some .int) = some ty ∧ narrow ty (.int (((d_236_4 C a b c d (dM C) 0 0 f).2) 0)) = .int (((d_236_4 C a b c d (dM C) 0 0 f).2) 0)) ∧ h59.2.2.2.2 = 175 ∧ _ from ⟨⟨.int, rfl, rfl⟩, ex_175 f60, hQ _ f60 f61 f62 f63 f64⟩)
theorem d_237_e {x : Int32} (h1 : ¬ (-4 : Int32) ≤ x) (h5 : ¬ x = -5) (a b : Int32) : d_237 (rb_o x) a b = d_107 x a b := by
  have h0 : ¬ (0 : Int32) ≤ x := fun w => h1 (le_m4 w)
  have e : rb_o x = (bif decide (x = -6) then 9 else bif decide (x = -7) then 10 else bif decide (x = -8) then 7 else bif decide (x = -9) then 8 else bif decide (x = -10) then 4 else bif decide (x = -11) then 5 else 6) := by
    unfold rb_o
    rw [decide_eq_false h0, decide_eq_false h1, decide_eq_false h5]
    rfl
  rw [e]
  unfold d_107
  by_cases h6 : x = -6
  · subst h6
    show d_237 9 a b = _
    rfl
  · by_cases h7 : x = -7
    · subst h7
      rfl
    · by_cases h8 : x = -8
      · subst h8
        rfl
      · by_cases h9 : x = -9
        · subst h9
          rfl
        · by_cases h10 : x = -10
          · subst h10
            rfl
          · by_cases h11 : x = -11
            · subst h11
              rfl
            · rw [decide_eq_false h6, decide_eq_false h7, decide_eq_false h8, decide_eq_false h9, decide_eq_false h10, decide_eq_false h11, if_neg (show ¬ x = Int32.ofInt (-11) from h11), if_neg (show ¬ x = Int32.ofInt (-10) from h10), if_neg (show ¬ x = Int32.ofInt (-9) from h9), if_neg (show ¬ x = Int32.ofInt (-8) from h8), if_neg (show ¬ x = Int32.ofInt (-7) from h7), if_neg (show ¬ x = Int32.ofInt (-6) from h6)]
              rfl
theorem fsel_e {x : Int32} (a b c d : Int32) : d_106 x a b c d = fsel x a b c d := by
  unfold d_106 fsel
  by_cases h1 : x = -1
  · subst h1; rfl
  · by_cases h2 : x = -2
    · subst h2; rfl
    · by_cases h3 : x = -3
      · subst h3; rfl
      · rw [if_neg (show ¬ x = Int32.ofInt (-3) from h3), if_neg (show ¬ x = Int32.ofInt (-2) from h2), if_neg (show ¬ x = Int32.ofInt (-1) from h1), if_neg h1, if_neg h2, if_neg h3]
