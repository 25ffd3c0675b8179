section
/-! THE TAKERS: what is written is the place and the fault alone -/
variable {N a c : Nat} {h : am_H}
def pz_F : ag_M := [(154, 7, 8)]
theorem pz_trF {h1 h2 : am_H} (f1 : ag_fr pz_F h h1) (f2 : ag_fr pz_F h1 h2) : ag_fr pz_F h h2 := f1.trans (by decide +kernel) f2
/-- one token taken, or a fault -/
def pk (N a c : Nat) (h : am_H) (a' : Nat) (h' : am_H) : Prop := pz_P N a' c h' ∧ ag_fr pz_F h h' ∧ ((¬ h'.1 154 8 = 0 ∧ a' = a) ∨ (h'.1 154 8 = 0 ∧ h.1 154 8 = 0 ∧ a' = a + 1))
theorem pk_f {h' : am_H} (q1 : pz_P N a c h') (q2 : ag_fr pz_F h h') (q3 : ¬ h'.1 154 8 = 0) : pk N a c h a h' := ⟨q1, q2, Or.inl ⟨q3, rfl⟩⟩
theorem pk_a (hP : pz_P N a c h) (hf : h.1 154 8 = 0) (hlt : a < N) : pk N a c h (a + 1) (am_wI h 154 7 (nI (a + 1))) := ⟨pz_at hP (by omega), pz_fr rfl, Or.inr ⟨by rw [em_wn h _ (by decide)]; exact hf, hf, rfl⟩⟩
theorem pz_wrongF {Q : am_Q} {x : Int32} (hP : pz_P N a c h) (hx : 1 ≤ x.toInt ∧ x.toInt ≤ 5) (hQ : ∀ h', pz_P N a c h' → ag_fr pz_F h h' → ¬ h'.1 154 8 = 0 → Q none h') : am_call am_cod 1 197 [.ref 154, .int x] h Q := by
  refine pz_call (n := 197) (nL := 2) (rt := none) (rows := am_r197) (d := 0) (by decide +kernel) (by decide +kernel) rfl (by funext pc; rfl) (pz_175 hP) (by exact Nat.le_of_ble_eq_true rfl) ?_
  refine am_goX 3 (show am_sh h 154 = some (11, 0) ∧ (¬ (h.1 154 8) = 0 → pz_S 2 none am_r197 0 Q 25 [(0, .ref 154), (1, .int x)] [] h) ∧ (¬ ¬ (h.1 154 8) = 0 → pz_S 2 none am_r197 0 Q 7 [(0, .ref 154), (1, .int x)] [] h) from ⟨pz_154 hP, fun hc => ?_, fun hc => ?_⟩)
  · exact am_goX 1 (show (none : Option FieldType) = none ∧ h.2.2.2.2 = 175 ∧ _ from ⟨rfl, pz_175 hP, hQ h hP (ag_fr.refl h) hc⟩)
  · refine am_goX 5 (show am_sh h 154 = some (11, 0) ∧ pz_S 2 none am_r197 0 Q 15 [(0, .ref 154), (1, .int x)] [am_rf (h.2.2.1 154 5), .int (Int8.ofInt 16).toInt32, .int x, .ref 154] h from ⟨pz_154 hP, ?_⟩)
    rw [pz_r5 hP]
    refine am_goX 3 (show am_sh h 154 = some (11, 0) ∧ ∃ j n : Nat, am_sh h 157 = some (13, n) ∧ j < n ∧ (h.1 154 7) = nI j ∧ pz_S 2 none am_r197 0 Q 20 [(0, .ref 154), (1, .int x)] [.int (h.1 157 j), .int (Int8.ofInt 16).toInt32, .int x, .ref 154] h from ⟨pz_154 hP, a, 1002, pz_157 hP, pz_al hP, hP.2.2.2.1, ?_⟩)
    refine am_goX 3 (show am_sh h 154 = some (11, 0) ∧ narrow (am_fty 11 8) (.int ((x + ((Int8.ofInt 16).toInt32 * (h.1 157 a))))) = .int ((x + ((Int8.ofInt 16).toInt32 * (h.1 157 a)))) ∧ fits (am_fty 11 8) (.int ((x + ((Int8.ofInt 16).toInt32 * (h.1 157 a))))) = true ∧ pz_S 2 none am_r197 0 Q 25 [(0, .ref 154), (1, .int x)] [] (am_wI h 154 8 ((x + ((Int8.ofInt 16).toInt32 * (h.1 157 a))))) from ⟨pz_154 hP, rfl, rfl, ?_⟩)
    have hv := pz_wv hx (pz_plr hP)
    have hf := pz_ft hP hv.1 hv.2
    exact am_goX 1 (show (none : Option FieldType) = none ∧ (am_wI h 154 8 ((x + ((Int8.ofInt 16).toInt32 * (h.1 157 a))))).2.2.2.2 = 175 ∧ _ from ⟨rfl, pz_175 hf.1, hQ _ hf.1 (pz_fr rfl) hf.2⟩)
theorem pz_tsignF {Q : am_Q} {x : Int32} (hP : pz_P N a c h) (hQ : ∀ a' h', pk N a c h a' h' → Q none h') : am_call am_cod 2 218 [.ref 154, .int x] h Q := by
  refine pz_call (n := 218) (nL := 2) (rt := none) (rows := am_r218) (d := 1) (by decide +kernel) (by decide +kernel) rfl (by funext pc; rfl) (pz_175 hP) (by exact Nat.le_of_ble_eq_true rfl) ?_
  refine am_goX 3 (show am_rc h 154 11 ∧ 0 ≤ 8 ∧ h.2.2.2.2 + am_al 215 ≤ 175 ∧ am_call am_cod 1 215 [.ref 154, .int x] h (fun vv h' => pz_S 2 none am_r218 1 Q 5 [(0, .ref 154), (1, .int x)] (vv.toList ++ []) h') from ⟨pz_rc hP, by decide, pz_lim hP rfl, pz_sign hP ?_⟩)
  cases e : pz_sg h a x with
  | true =>
    refine am_goX 1 (show ((pz_b true) = 0 → pz_S 2 none am_r218 1 Q 21 [(0, .ref 154), (1, .int x)] [] h) ∧ (¬ ((pz_b true) = 0) → pz_S 2 none am_r218 1 Q 8 [(0, .ref 154), (1, .int x)] [] h) from ⟨fun hz => absurd hz (by decide), fun _ => ?_⟩)
    refine am_goX 6 (show (Value.ref 154).category = 1 ∧ am_sh h 154 = some (11, 0) ∧ am_sh h 154 = some (11, 0) ∧ narrow (am_fty 11 7) (.int (((h.1 154 7) + (Int32.ofInt 1)))) = .int (((h.1 154 7) + (Int32.ofInt 1))) ∧ fits (am_fty 11 7) (.int (((h.1 154 7) + (Int32.ofInt 1)))) = true ∧ pz_S 2 none am_r218 1 Q 18 [(0, .ref 154), (1, .int x)] [] (am_wI h 154 7 (((h.1 154 7) + (Int32.ofInt 1)))) from ⟨rfl, pz_154 hP, pz_154 hP, rfl, rfl, ?_⟩)
    rw [hP.2.2.2.1, xw_i1]
    have hlt := pz_sg_lt hP e
    have hP1 := pz_at (a' := a + 1) hP (by omega)
    exact am_goX 2 (show (none : Option FieldType) = none ∧ (am_wI h 154 7 (nI (a + 1))).2.2.2.2 = 175 ∧ _ from ⟨rfl, pz_175 hP1, hQ _ _ (pk_a hP hlt.1 hlt.2)⟩)
  | false =>
    refine am_goX 1 (show ((pz_b false) = 0 → pz_S 2 none am_r218 1 Q 21 [(0, .ref 154), (1, .int x)] [] h) ∧ (¬ ((pz_b false) = 0) → pz_S 2 none am_r218 1 Q 8 [(0, .ref 154), (1, .int x)] [] h) from ⟨fun _ => ?_, fun hz => absurd rfl hz⟩)
    refine am_goX 3 (show am_rc h 154 11 ∧ 0 ≤ 8 ∧ h.2.2.2.2 + am_al 197 ≤ 175 ∧ am_call am_cod 1 197 [.ref 154, .int (Int32.ofInt 1)] h (fun vv h' => pz_S 2 none am_r218 1 Q 26 [(0, .ref 154), (1, .int x)] (vv.toList ++ []) h') from ⟨pz_rc hP, by decide, pz_lim hP rfl, pz_wrongF hP (by decide) (fun h' q1 q2 q3 => ?_)⟩)
    exact am_goX 1 (show (none : Option FieldType) = none ∧ h'.2.2.2.2 = 175 ∧ _ from ⟨rfl, pz_175 q1, hQ _ _ (pk_f q1 q2 q3)⟩)
theorem pz_tword {Q : am_Q} {w : Nat} (hP : pz_P N a c h) (hw : w < 21) (hQ : ∀ a' h', pk N a c h a' h' → Q none h') : am_call am_cod 3 203 [.ref 154, .int (nI w)] h Q := by
  refine pz_call (n := 203) (nL := 2) (rt := none) (rows := am_r203) (d := 2) (by decide +kernel) (by decide +kernel) rfl (by funext pc; rfl) (pz_175 hP) (by exact Nat.le_of_ble_eq_true rfl) ?_
  refine am_goX 3 (show am_rc h 154 11 ∧ 0 ≤ 8 ∧ h.2.2.2.2 + am_al 204 ≤ 175 ∧ am_call am_cod 2 204 [.ref 154, .int (nI w)] h (fun vv h' => pz_S 2 none am_r203 2 Q 5 [(0, .ref 154), (1, .int (nI w))] (vv.toList ++ []) h') from ⟨pz_rc hP, by decide, pz_lim hP rfl, pz_hword hP hw (fun e => ?_) (fun e => ?_)⟩)
  · have hlt := pz_wd_lt hP e
    have hP1 := pz_at (a' := a + 1) hP (by omega)
    refine am_goX 1 (show (¬ 1 = 0 → pz_S 2 none am_r203 2 Q 13 [(0, .ref 154), (1, .int (nI w))] [] (am_wI h 154 7 (nI (a + 1)))) ∧ (¬ ¬ 1 = 0 → pz_S 2 none am_r203 2 Q 8 [(0, .ref 154), (1, .int (nI w))] [] (am_wI h 154 7 (nI (a + 1)))) from ⟨fun _ => ?_, fun hz => absurd (by decide) hz⟩)
    exact am_goX 1 (show (none : Option FieldType) = none ∧ (am_wI h 154 7 (nI (a + 1))).2.2.2.2 = 175 ∧ _ from ⟨rfl, pz_175 hP1, hQ _ _ (pk_a hP hlt.1 hlt.2)⟩)
  · refine am_goX 1 (show (¬ 0 = 0 → pz_S 2 none am_r203 2 Q 13 [(0, .ref 154), (1, .int (nI w))] [] h) ∧ (¬ ¬ 0 = 0 → pz_S 2 none am_r203 2 Q 8 [(0, .ref 154), (1, .int (nI w))] [] h) from ⟨fun hz => absurd hz (fun z => z rfl), fun _ => ?_⟩)
    refine am_goX 3 (show am_rc h 154 11 ∧ 0 ≤ 8 ∧ h.2.2.2.2 + am_al 197 ≤ 175 ∧ am_call am_cod 2 197 [.ref 154, .int (Int32.ofInt 1)] h (fun vv h' => pz_S 2 none am_r203 2 Q 13 [(0, .ref 154), (1, .int (nI w))] (vv.toList ++ []) h') from ⟨pz_rc hP, by decide, pz_lim hP rfl, am_call.up (pz_wrongF hP (by decide) (fun h' q1 q2 q3 => ?_)) (by decide)⟩)
    exact am_goX 1 (show (none : Option FieldType) = none ∧ h'.2.2.2.2 = 175 ∧ _ from ⟨rfl, pz_175 q1, hQ _ _ (pk_f q1 q2 q3)⟩)
theorem pz_tnum {Q : am_Q} {x y : Int32} (hP : pz_P N a c h) (hQ : ∀ a' h' v, pk N a c h a' h' → Q (some (.int v)) h') : am_call am_cod 2 205 [.ref 154, .int x, .int y] h Q := by
  refine pz_call (n := 205) (nL := 3) (rt := (some .int)) (rows := am_r205) (d := 1) (by decide +kernel) (by decide +kernel) rfl (by funext pc; rfl) (pz_175 hP) (by exact Nat.le_of_ble_eq_true rfl) ?_
  have kf : ∀ h', pz_P N a c h' → ag_fr pz_F h h' → ¬ h'.1 154 8 = 0 → pz_S 3 (some .int) am_r205 1 Q 70 [(0, .ref 154), (1, .int x), (2, .int y)] [] h' := ?_
  rotate_left
  · intro h' q1 q2 q3
    refine am_goX 3 (show am_sh h' 154 = some (11, 0) ∧ ((h'.1 154 8) ≤ 0 → pz_S 3 (some .int) am_r205 1 Q 79 [(0, .ref 154), (1, .int x), (2, .int y)] [] h') ∧ (¬ ((h'.1 154 8) ≤ 0) → pz_S 3 (some .int) am_r205 1 Q 77 [(0, .ref 154), (1, .int x), (2, .int y)] [] h') from ⟨pz_154 q1, fun hz => absurd hz (fun w => q3 (pz_eq0 q1 w)), fun _ => ?_⟩)
    exact am_goX 2 (show (∃ ty, (some .int) = some ty ∧ narrow ty (.int ((Int32.ofInt 0))) = .int ((Int32.ofInt 0))) ∧ h'.2.2.2.2 = 175 ∧ _ from ⟨⟨.int, rfl, rfl⟩, pz_175 q1, hQ _ _ _ (pk_f q1 q2 q3)⟩)
  have kok : h.1 154 8 = 0 → a < N → pz_S 3 (some .int) am_r205 1 Q 70 [(0, .ref 154), (1, .int x), (2, .int y)] [] h := ?_
  rotate_left
  · intro hf hlt
    have hP1 := pz_at (a' := a + 1) hP (by omega)
    refine am_goX 3 (show am_sh h 154 = some (11, 0) ∧ ((h.1 154 8) ≤ 0 → pz_S 3 (some .int) am_r205 1 Q 79 [(0, .ref 154), (1, .int x), (2, .int y)] [] h) ∧ (¬ ((h.1 154 8) ≤ 0) → pz_S 3 (some .int) am_r205 1 Q 77 [(0, .ref 154), (1, .int x), (2, .int y)] [] h) from ⟨pz_154 hP, fun _ => ?_, fun hz => absurd (by rw [hf]; decide) hz⟩)
    refine am_goX 6 (show (Value.ref 154).category = 1 ∧ am_sh h 154 = some (11, 0) ∧ am_sh h 154 = some (11, 0) ∧ narrow (am_fty 11 7) (.int (((h.1 154 7) + (Int32.ofInt 1)))) = .int (((h.1 154 7) + (Int32.ofInt 1))) ∧ fits (am_fty 11 7) (.int (((h.1 154 7) + (Int32.ofInt 1)))) = true ∧ pz_S 3 (some .int) am_r205 1 Q 89 [(0, .ref 154), (1, .int x), (2, .int y)] [] (am_wI h 154 7 (((h.1 154 7) + (Int32.ofInt 1)))) from ⟨rfl, pz_154 hP, pz_154 hP, rfl, rfl, ?_⟩)
    rw [hP.2.2.2.1, xw_i1]
    refine am_goX 2 (show am_sh (am_wI h 154 7 (nI (a + 1))) 154 = some (11, 0) ∧ pz_S 3 (some .int) am_r205 1 Q 93 [(0, .ref 154), (1, .int x), (2, .int y)] [am_rf ((am_wI h 154 7 (nI (a + 1))).2.2.1 154 6)] (am_wI h 154 7 (nI (a + 1))) from ⟨pz_154 hP1, ?_⟩)
    rw [pz_r6 hP1]
    refine am_goX 5 (show am_sh (am_wI h 154 7 (nI (a + 1))) 154 = some (11, 0) ∧ ∃ j n : Nat, am_sh (am_wI h 154 7 (nI (a + 1))) 158 = some (14, n) ∧ j < n ∧ (((am_wI h 154 7 (nI (a + 1))).1 154 7) - (Int32.ofInt 1)) = nI j ∧ pz_S 3 (some .int) am_r205 1 Q 100 [(0, .ref 154), (1, .int x), (2, .int y)] [.long ((am_wI h 154 7 (nI (a + 1))).2.1 158 j)] (am_wI h 154 7 (nI (a + 1))) from ⟨pz_154 hP1, a, 1002, pz_158 hP1, pz_al hP, (by rw [hP1.2.2.2.1]; exact nI_pred a), ?_⟩)
    exact am_goX 2 (show (∃ ty, (some .int) = some ty ∧ narrow ty (.int ((((am_wI h 154 7 (nI (a + 1))).2.1 158 a)).toInt32)) = .int ((((am_wI h 154 7 (nI (a + 1))).2.1 158 a)).toInt32)) ∧ (am_wI h 154 7 (nI (a + 1))).2.2.2.2 = 175 ∧ _ from ⟨⟨.int, rfl, rfl⟩, pz_175 hP1, hQ _ _ _ (pk_a hP hf hlt)⟩)
  refine am_goX 3 (show am_sh h 154 = some (11, 0) ∧ (¬ (h.1 154 8) = 0 → pz_S 3 (some .int) am_r205 1 Q 28 [(0, .ref 154), (1, .int x), (2, .int y)] [] h) ∧ (¬ ¬ (h.1 154 8) = 0 → pz_S 3 (some .int) am_r205 1 Q 7 [(0, .ref 154), (1, .int x), (2, .int y)] [] h) from ⟨pz_154 hP, fun hc => ?_, fun hc => ?_⟩)
  · refine am_goX 3 (show am_sh h 154 = some (11, 0) ∧ (¬ (h.1 154 8) = 0 → pz_S 3 (some .int) am_r205 1 Q 70 [(0, .ref 154), (1, .int x), (2, .int y)] [] h) ∧ (¬ ¬ (h.1 154 8) = 0 → pz_S 3 (some .int) am_r205 1 Q 35 [(0, .ref 154), (1, .int x), (2, .int y)] [] h) from ⟨pz_154 hP, fun _ => ?_, fun hz => absurd hc hz⟩)
    exact kf h hP (ag_fr.refl h) hc
  · have hf : h.1 154 8 = 0 := Decidable.not_not.mp hc
    clear hc
    refine am_goX 2 (show am_sh h 154 = some (11, 0) ∧ pz_S 3 (some .int) am_r205 1 Q 11 [(0, .ref 154), (1, .int x), (2, .int y)] [am_rf (h.2.2.1 154 4)] h from ⟨pz_154 hP, ?_⟩)
    rw [pz_r4 hP]
    refine am_goX 3 (show am_sh h 154 = some (11, 0) ∧ ∃ j n : Nat, am_sh h 156 = some (13, n) ∧ j < n ∧ (h.1 154 7) = nI j ∧ pz_S 3 (some .int) am_r205 1 Q 16 [(0, .ref 154), (1, .int x), (2, .int y)] [.int (h.1 156 j)] h from ⟨pz_154 hP, a, 1002, pz_156 hP, pz_al hP, hP.2.2.2.1, ?_⟩)
    refine am_goX 2 (show ((h.1 156 a) = (Int32.ofInt 2) → pz_S 3 (some .int) am_r205 1 Q 28 [(0, .ref 154), (1, .int x), (2, .int y)] [] h) ∧ (¬ ((h.1 156 a) = (Int32.ofInt 2)) → pz_S 3 (some .int) am_r205 1 Q 20 [(0, .ref 154), (1, .int x), (2, .int y)] [] h) from ⟨fun hc => ?_, fun hc => ?_⟩)
    · have hlt : a < N := pz_lt hP (by rw [hc]; decide)
      refine am_goX 3 (show am_sh h 154 = some (11, 0) ∧ (¬ (h.1 154 8) = 0 → pz_S 3 (some .int) am_r205 1 Q 70 [(0, .ref 154), (1, .int x), (2, .int y)] [] h) ∧ (¬ ¬ (h.1 154 8) = 0 → pz_S 3 (some .int) am_r205 1 Q 35 [(0, .ref 154), (1, .int x), (2, .int y)] [] h) from ⟨pz_154 hP, fun hz => absurd hz (fun w => w hf), fun _ => ?_⟩)
      refine am_goX 2 (show am_sh h 154 = some (11, 0) ∧ pz_S 3 (some .int) am_r205 1 Q 39 [(0, .ref 154), (1, .int x), (2, .int y)] [am_rf (h.2.2.1 154 6)] h from ⟨pz_154 hP, ?_⟩)
      rw [pz_r6 hP]
      refine am_goX 3 (show am_sh h 154 = some (11, 0) ∧ ∃ j n : Nat, am_sh h 158 = some (14, n) ∧ j < n ∧ (h.1 154 7) = nI j ∧ pz_S 3 (some .int) am_r205 1 Q 44 [(0, .ref 154), (1, .int x), (2, .int y)] [.long (h.2.1 158 j)] h from ⟨pz_154 hP, a, 1002, pz_158 hP, pz_al hP, hP.2.2.2.1, ?_⟩)
      have kw : pz_S 3 (some .int) am_r205 1 Q 65 [(0, .ref 154), (1, .int x), (2, .int y)] [] h := ?_
      rotate_left
      · refine am_goX 3 (show am_rc h 154 11 ∧ 0 ≤ 8 ∧ h.2.2.2.2 + am_al 197 ≤ 175 ∧ am_call am_cod 1 197 [.ref 154, .int (Int32.ofInt 4)] h (fun vv h' => pz_S 3 (some .int) am_r205 1 Q 70 [(0, .ref 154), (1, .int x), (2, .int y)] (vv.toList ++ []) h') from ⟨pz_rc hP, by decide, pz_lim hP rfl, pz_wrongF hP (by decide) (fun h' q1 q2 q3 => ?_)⟩)
        exact kf h' q1 q2 q3
      refine am_goX 4 (show ((lg_cmp ((h.2.1 158 a)) ((x).toInt64)) < 0 → pz_S 3 (some .int) am_r205 1 Q 65 [(0, .ref 154), (1, .int x), (2, .int y)] [] h) ∧ (¬ ((lg_cmp ((h.2.1 158 a)) ((x).toInt64)) < 0) → pz_S 3 (some .int) am_r205 1 Q 50 [(0, .ref 154), (1, .int x), (2, .int y)] [] h) from ⟨fun hc => ?_, fun hc => ?_⟩)
      · exact kw
      · refine am_goX 2 (show am_sh h 154 = some (11, 0) ∧ pz_S 3 (some .int) am_r205 1 Q 54 [(0, .ref 154), (1, .int x), (2, .int y)] [am_rf (h.2.2.1 154 6)] h from ⟨pz_154 hP, ?_⟩)
        rw [pz_r6 hP]
        refine am_goX 3 (show am_sh h 154 = some (11, 0) ∧ ∃ j n : Nat, am_sh h 158 = some (14, n) ∧ j < n ∧ (h.1 154 7) = nI j ∧ pz_S 3 (some .int) am_r205 1 Q 59 [(0, .ref 154), (1, .int x), (2, .int y)] [.long (h.2.1 158 j)] h from ⟨pz_154 hP, a, 1002, pz_158 hP, pz_al hP, hP.2.2.2.1, ?_⟩)
        refine am_goX 4 (show ((lg_cmp ((h.2.1 158 a)) ((y).toInt64)) ≤ 0 → pz_S 3 (some .int) am_r205 1 Q 70 [(0, .ref 154), (1, .int x), (2, .int y)] [] h) ∧ (¬ ((lg_cmp ((h.2.1 158 a)) ((y).toInt64)) ≤ 0) → pz_S 3 (some .int) am_r205 1 Q 65 [(0, .ref 154), (1, .int x), (2, .int y)] [] h) from ⟨fun hc => ?_, fun hc => ?_⟩)
        · exact kok hf hlt
        · exact kw
    · refine am_goX 3 (show am_rc h 154 11 ∧ 0 ≤ 8 ∧ h.2.2.2.2 + am_al 197 ≤ 175 ∧ am_call am_cod 1 197 [.ref 154, .int (Int32.ofInt 1)] h (fun vv h' => pz_S 3 (some .int) am_r205 1 Q 25 [(0, .ref 154), (1, .int x), (2, .int y)] (vv.toList ++ []) h') from ⟨pz_rc hP, by decide, pz_lim hP rfl, pz_wrongF hP (by decide) (fun h' q1 q2 q3 => ?_)⟩)
      exact am_goX 1 (kf h' q1 q2 q3)
/-- some tokens taken, or a fault -/
def pq (N a c : Nat) (h : am_H) (a' : Nat) (h' : am_H) : Prop := pz_P N a' c h' ∧ ag_fr pz_F h h' ∧ a ≤ a' ∧ (h'.1 154 8 = 0 → h.1 154 8 = 0)
theorem pk_q {a' : Nat} {h' : am_H} (q : pk N a c h a' h') : pq N a c h a' h' := by
  obtain ⟨q1, q2, q3⟩ := q
  refine ⟨q1, q2, ?_, fun z => ?_⟩
  · rcases q3 with z | z <;> omega
  · rcases q3 with w | w
    · exact absurd z w.1
    · exact w.2.1
theorem pq_t {a1 a2 : Nat} {h1 h2 : am_H} (p1 : pq N a c h a1 h1) (p2 : pq N a1 c h1 a2 h2) : pq N a c h a2 h2 := ⟨p2.1, pz_trF p1.2.1 p2.2.1, Nat.le_trans p1.2.2.1 p2.2.2.1, fun z => p1.2.2.2 (p2.2.2.2 z)⟩
theorem pz_tafter {Q : am_Q} {w : Nat} {x y : Int32} (hP : pz_P N a c h) (hw : w < 21) (hQ : ∀ a' h' v, pq N a c h a' h' → Q (some (.int v)) h') : am_call am_cod 4 202 [.ref 154, .int (nI w), .int x, .int y] h Q := by
  refine pz_call (n := 202) (nL := 4) (rt := (some .int)) (rows := am_r202) (d := 3) (by decide +kernel) (by decide +kernel) rfl (by funext pc; rfl) (pz_175 hP) (by exact Nat.le_of_ble_eq_true rfl) ?_
  refine am_goX 3 (show am_rc h 154 11 ∧ 0 ≤ 8 ∧ h.2.2.2.2 + am_al 203 ≤ 175 ∧ am_call am_cod 3 203 [.ref 154, .int (nI w)] h (fun vv h' => pz_S 4 (some .int) am_r202 3 Q 5 [(0, .ref 154), (1, .int (nI w)), (2, .int x), (3, .int y)] (vv.toList ++ []) h') from ⟨pz_rc hP, by decide, pz_lim hP rfl, pz_tword hP hw (fun a1 h1 q1 => ?_)⟩)
  refine am_goX 4 (show am_rc h1 154 11 ∧ 0 ≤ 8 ∧ h1.2.2.2.2 + am_al 205 ≤ 175 ∧ am_call am_cod 3 205 [.ref 154, .int x, .int y] h1 (fun vv h' => pz_S 4 (some .int) am_r202 3 Q 11 [(0, .ref 154), (1, .int (nI w)), (2, .int x), (3, .int y)] (vv.toList ++ []) h') from ⟨pz_rc q1.1, by decide, pz_lim q1.1 rfl, am_call.up (pz_tnum q1.1 (fun a2 h2 v q2 => ?_)) (by decide)⟩)
  exact am_goX 1 (show (∃ ty, (some .int) = some ty ∧ narrow ty (.int (v)) = .int (v)) ∧ h2.2.2.2.2 = 175 ∧ _ from ⟨⟨.int, rfl, rfl⟩, pz_175 q2.1, hQ _ _ _ (pq_t (pk_q q1) (pk_q q2))⟩)
theorem pz_tone {Q : am_Q} {f m : Nat} (hP : pz_P N a c h) (hfm : f + m ≤ 21) (hQ : ∀ a' h' v, pk N a c h a' h' → Q (some (.int v)) h') : am_call am_cod 3 201 [.ref 154, .int (nI f), .int (nI m)] h Q := by
  refine pz_call (n := 201) (nL := 4) (rt := (some .int)) (rows := am_r201) (d := 2) (by decide +kernel) (by decide +kernel) rfl (by funext pc; rfl) (pz_175 hP) (by exact Nat.le_of_ble_eq_true rfl) ?_
  have kf : ∀ h' r, pz_P N a c h' → ag_fr pz_F h h' → ¬ h'.1 154 8 = 0 → pz_S 4 (some .int) am_r201 2 Q 34 [(3, .int r), (0, .ref 154), (1, .int (nI f)), (2, .int (nI m))] [] h' := ?_
  rotate_left
  · intro h' r q1 q2 q3
    refine am_goX 6 (show (Value.ref 154).category = 1 ∧ am_sh h' 154 = some (11, 0) ∧ am_sh h' 154 = some (11, 0) ∧ ((h'.1 154 8) ≤ 0 → pz_S 4 (some .int) am_r201 2 Q 50 [(3, .int r), (0, .ref 154), (1, .int (nI f)), (2, .int (nI m))] [.int (h'.1 154 7), .ref 154] h') ∧ (¬ ((h'.1 154 8) ≤ 0) → pz_S 4 (some .int) am_r201 2 Q 46 [(3, .int r), (0, .ref 154), (1, .int (nI f)), (2, .int (nI m))] [.int (h'.1 154 7), .ref 154] h') from ⟨rfl, pz_154 q1, pz_154 q1, fun hz => absurd hz (fun w => q3 (pz_eq0 q1 w)), fun _ => ?_⟩)
    refine am_goX 4 (show am_sh h' 154 = some (11, 0) ∧ narrow (am_fty 11 7) (.int (((h'.1 154 7) + (Int32.ofInt 0)))) = .int (((h'.1 154 7) + (Int32.ofInt 0))) ∧ fits (am_fty 11 7) (.int (((h'.1 154 7) + (Int32.ofInt 0)))) = true ∧ pz_S 4 (some .int) am_r201 2 Q 55 [(3, .int r), (0, .ref 154), (1, .int (nI f)), (2, .int (nI m))] [] (am_wI h' 154 7 (((h'.1 154 7) + (Int32.ofInt 0)))) from ⟨pz_154 q1, rfl, rfl, ?_⟩)
    rw [pz_same (show h'.1 154 7 = h'.1 154 7 + Int32.ofInt 0 from (Int32.add_zero _).symm)]
    refine am_goX 3 (show am_sh h' 154 = some (11, 0) ∧ ((h'.1 154 8) ≤ 0 → pz_S 4 (some .int) am_r201 2 Q 66 [(3, .int r), (0, .ref 154), (1, .int (nI f)), (2, .int (nI m))] [] h') ∧ (¬ ((h'.1 154 8) ≤ 0) → pz_S 4 (some .int) am_r201 2 Q 62 [(3, .int r), (0, .ref 154), (1, .int (nI f)), (2, .int (nI m))] [] h') from ⟨pz_154 q1, fun hz => absurd hz (fun w => q3 (pz_eq0 q1 w)), fun _ => ?_⟩)
    exact am_goX 3 (show (∃ ty, (some .int) = some ty ∧ narrow ty (.int ((Int32.ofInt 0))) = .int ((Int32.ofInt 0))) ∧ h'.2.2.2.2 = 175 ∧ _ from ⟨⟨.int, rfl, rfl⟩, pz_175 q1, hQ _ _ _ (pk_f q1 q2 q3)⟩)
  have kok : ∀ r, h.1 154 8 = 0 → a < N → pz_S 4 (some .int) am_r201 2 Q 34 [(3, .int r), (0, .ref 154), (1, .int (nI f)), (2, .int (nI m))] [] h := ?_
  rotate_left
  · intro r hf hlt
    have hP1 := pz_at (a' := a + 1) hP (by omega)
    refine am_goX 6 (show (Value.ref 154).category = 1 ∧ am_sh h 154 = some (11, 0) ∧ am_sh h 154 = some (11, 0) ∧ ((h.1 154 8) ≤ 0 → pz_S 4 (some .int) am_r201 2 Q 50 [(3, .int r), (0, .ref 154), (1, .int (nI f)), (2, .int (nI m))] [.int (h.1 154 7), .ref 154] h) ∧ (¬ ((h.1 154 8) ≤ 0) → pz_S 4 (some .int) am_r201 2 Q 46 [(3, .int r), (0, .ref 154), (1, .int (nI f)), (2, .int (nI m))] [.int (h.1 154 7), .ref 154] h) from ⟨rfl, pz_154 hP, pz_154 hP, fun _ => ?_, fun hz => absurd (by rw [hf]; decide) hz⟩)
    refine am_goX 3 (show am_sh h 154 = some (11, 0) ∧ narrow (am_fty 11 7) (.int (((h.1 154 7) + (Int32.ofInt 1)))) = .int (((h.1 154 7) + (Int32.ofInt 1))) ∧ fits (am_fty 11 7) (.int (((h.1 154 7) + (Int32.ofInt 1)))) = true ∧ pz_S 4 (some .int) am_r201 2 Q 55 [(3, .int r), (0, .ref 154), (1, .int (nI f)), (2, .int (nI m))] [] (am_wI h 154 7 (((h.1 154 7) + (Int32.ofInt 1)))) from ⟨pz_154 hP, rfl, rfl, ?_⟩)
    rw [hP.2.2.2.1, xw_i1]
    have hf1 : (am_wI h 154 7 (nI (a + 1))).1 154 8 = 0 := by rw [em_wn h _ (by decide)]; exact hf
    refine am_goX 3 (show am_sh (am_wI h 154 7 (nI (a + 1))) 154 = some (11, 0) ∧ (((am_wI h 154 7 (nI (a + 1))).1 154 8) ≤ 0 → pz_S 4 (some .int) am_r201 2 Q 66 [(3, .int r), (0, .ref 154), (1, .int (nI f)), (2, .int (nI m))] [] (am_wI h 154 7 (nI (a + 1)))) ∧ (¬ (((am_wI h 154 7 (nI (a + 1))).1 154 8) ≤ 0) → pz_S 4 (some .int) am_r201 2 Q 62 [(3, .int r), (0, .ref 154), (1, .int (nI f)), (2, .int (nI m))] [] (am_wI h 154 7 (nI (a + 1)))) from ⟨pz_154 hP1, fun _ => ?_, fun hz => absurd (by rw [hf1]; decide) hz⟩)
    exact am_goX 2 (show (∃ ty, (some .int) = some ty ∧ narrow ty (.int (r)) = .int (r)) ∧ (am_wI h 154 7 (nI (a + 1))).2.2.2.2 = 175 ∧ _ from ⟨⟨.int, rfl, rfl⟩, pz_175 hP1, hQ _ _ _ (pk_a hP hf hlt)⟩)
  refine am_goX 3 (show am_sh h 154 = some (11, 0) ∧ ((h.1 154 8) ≤ 0 → pz_S 4 (some .int) am_r201 2 Q 11 [(0, .ref 154), (1, .int (nI f)), (2, .int (nI m))] [] h) ∧ (¬ ((h.1 154 8) ≤ 0) → pz_S 4 (some .int) am_r201 2 Q 7 [(0, .ref 154), (1, .int (nI f)), (2, .int (nI m))] [] h) from ⟨pz_154 hP, fun hc => ?_, fun hc => ?_⟩)
  · have hf : h.1 154 8 = 0 := pz_eq0 hP hc
    clear hc
    refine am_goX 4 (show am_rc h 154 11 ∧ 0 ≤ 8 ∧ h.2.2.2.2 + am_al 199 ≤ 175 ∧ am_call am_cod 2 199 [.ref 154, .int (nI f), .int (nI m)] h (fun vv h' => pz_S 4 (some .int) am_r201 2 Q 17 [(0, .ref 154), (1, .int (nI f)), (2, .int (nI m))] (vv.toList ++ []) h') from ⟨pz_rc hP, by decide, pz_lim hP rfl, pz_here hP hfm (fun r hr => ?_)⟩)
    refine am_goX 4 (show 3 < 4 ∧ am_sh h 154 = some (11, 0) ∧ (¬ (h.1 154 8) = 0 → pz_S 4 (some .int) am_r201 2 Q 34 [(3, .int r), (0, .ref 154), (1, .int (nI f)), (2, .int (nI m))] [] h) ∧ (¬ ¬ (h.1 154 8) = 0 → pz_S 4 (some .int) am_r201 2 Q 25 [(3, .int r), (0, .ref 154), (1, .int (nI f)), (2, .int (nI m))] [] h) from ⟨by decide, pz_154 hP, fun hz => absurd hz (fun w => w hf), fun _ => ?_⟩)
    refine am_goX 2 (show (0 ≤ r → pz_S 4 (some .int) am_r201 2 Q 34 [(3, .int r), (0, .ref 154), (1, .int (nI f)), (2, .int (nI m))] [] h) ∧ (¬ (0 ≤ r) → pz_S 4 (some .int) am_r201 2 Q 29 [(3, .int r), (0, .ref 154), (1, .int (nI f)), (2, .int (nI m))] [] h) from ⟨fun hc => ?_, fun hc => ?_⟩)
    · refine kok r hf ?_
      rcases hr with z | ⟨k, _, _, z⟩
      · rw [z] at hc
        exact absurd hc (by decide)
      · exact (pz_wd_lt hP z).2
    · refine am_goX 3 (show am_rc h 154 11 ∧ 0 ≤ 8 ∧ h.2.2.2.2 + am_al 197 ≤ 175 ∧ am_call am_cod 2 197 [.ref 154, .int (Int32.ofInt 1)] h (fun vv h' => pz_S 4 (some .int) am_r201 2 Q 34 [(3, .int r), (0, .ref 154), (1, .int (nI f)), (2, .int (nI m))] (vv.toList ++ []) h') from ⟨pz_rc hP, by decide, pz_lim hP rfl, am_call.up (pz_wrongF hP (by decide) (fun h' q1 q2 q3 => ?_)) (by decide)⟩)
      exact kf h' r q1 q2 q3
  · refine am_goX 6 (show 3 < 4 ∧ am_sh h 154 = some (11, 0) ∧ (¬ (h.1 154 8) = 0 → pz_S 4 (some .int) am_r201 2 Q 34 [(3, .int (Int32.ofInt (-1))), (0, .ref 154), (1, .int (nI f)), (2, .int (nI m))] [] h) ∧ (¬ ¬ (h.1 154 8) = 0 → pz_S 4 (some .int) am_r201 2 Q 25 [(3, .int (Int32.ofInt (-1))), (0, .ref 154), (1, .int (nI f)), (2, .int (nI m))] [] h) from ⟨by decide, pz_154 hP, fun _ => ?_, fun hz => absurd (pz_le0 hP hc) hz⟩)
    exact kf h _ hP (ag_fr.refl h) (pz_le0 hP hc)
theorem pz_isn {Q : am_Q} (hP : pz_P N a c h) (h1 : h.1 154 8 = 0 → a < N → Q (some (.int 1)) h) (h0 : Q (some (.int 0)) h) : am_call am_cod 3 198 [.ref 154] h Q := by
  refine pz_call (n := 198) (nL := 1) (rt := (some .boolean)) (rows := am_r198) (d := 2) (by decide +kernel) (by decide +kernel) rfl (by funext pc; rfl) (pz_175 hP) (by exact Nat.le_of_ble_eq_true rfl) ?_
  have k0 : pz_S 1 (some .boolean) am_r198 2 Q 34 [(0, .ref 154)] [] h := ?_
  rotate_left
  · exact am_goX 2 (show (∃ ty, (some .boolean) = some ty ∧ narrow ty (.int ((Int32.ofInt 0))) = .int ((Int32.ofInt 0))) ∧ h.2.2.2.2 = 175 ∧ _ from ⟨⟨.boolean, rfl, rfl⟩, pz_175 hP, h0⟩)
  refine am_goX 3 (show am_sh h 154 = some (11, 0) ∧ (¬ (h.1 154 8) = 0 → pz_S 1 (some .boolean) am_r198 2 Q 34 [(0, .ref 154)] [] h) ∧ (¬ ¬ (h.1 154 8) = 0 → pz_S 1 (some .boolean) am_r198 2 Q 7 [(0, .ref 154)] [] h) from ⟨pz_154 hP, fun hc => ?_, fun hc => ?_⟩)
  · exact k0
  · refine am_goX 2 (show am_sh h 154 = some (11, 0) ∧ pz_S 1 (some .boolean) am_r198 2 Q 11 [(0, .ref 154)] [am_rf (h.2.2.1 154 4)] h from ⟨pz_154 hP, ?_⟩)
    rw [pz_r4 hP]
    refine am_goX 3 (show am_sh h 154 = some (11, 0) ∧ ∃ j n : Nat, am_sh h 156 = some (13, n) ∧ j < n ∧ (h.1 154 7) = nI j ∧ pz_S 1 (some .boolean) am_r198 2 Q 16 [(0, .ref 154)] [.int (h.1 156 j)] h from ⟨pz_154 hP, a, 1002, pz_156 hP, pz_al hP, hP.2.2.2.1, ?_⟩)
    refine am_goX 2 (show (¬ (h.1 156 a) = (Int32.ofInt 1) → pz_S 1 (some .boolean) am_r198 2 Q 34 [(0, .ref 154)] [] h) ∧ (¬ ¬ (h.1 156 a) = (Int32.ofInt 1) → pz_S 1 (some .boolean) am_r198 2 Q 20 [(0, .ref 154)] [] h) from ⟨fun hc => ?_, fun hc => ?_⟩)
    · exact k0
    · have hs : h.1 156 a = 1 := Decidable.not_not.mp hc
      clear hc
      refine am_goX 4 (show am_rc h 154 11 ∧ 0 ≤ 8 ∧ h.2.2.2.2 + am_al 199 ≤ 175 ∧ am_call am_cod 2 199 [.ref 154, .int (Int32.ofInt 0), .int (Int8.ofInt 17).toInt32] h (fun vv h' => pz_S 1 (some .boolean) am_r198 2 Q 27 [(0, .ref 154)] (vv.toList ++ []) h') from ⟨pz_rc hP, by decide, pz_lim hP rfl, pz_here (f := 0) (m := 17) hP (by decide) (fun r hr => ?_)⟩)
      refine am_goX 1 (show (0 ≤ r → pz_S 1 (some .boolean) am_r198 2 Q 34 [(0, .ref 154)] [] h) ∧ (¬ (0 ≤ r) → pz_S 1 (some .boolean) am_r198 2 Q 30 [(0, .ref 154)] [] h) from ⟨fun hc => ?_, fun hc => ?_⟩)
      · exact k0
      · exact am_goX 3 (show (∃ ty, (some .boolean) = some ty ∧ narrow ty (.int ((Int32.ofInt 1))) = .int ((Int32.ofInt 1))) ∧ h.2.2.2.2 = 175 ∧ _ from ⟨⟨.boolean, rfl, rfl⟩, pz_175 hP, h1 (Decidable.not_not.mp ‹_›) (pz_lt hP (by rw [hs]; decide))⟩)
theorem pz_rg (hP : pz_P N a c h) : (0 ≤ (h.1 154 18).toInt ∧ (h.1 154 18).toInt ≤ 11) ∧ (0 ≤ (h.1 154 19).toInt ∧ (h.1 154 19).toInt ≤ 11) := ⟨hP.1.2.1.1 154 (18, 18, 1, 0, 0, 11) (iv_sgm (o := 154) (s := (18, 18, 1, 0, 0, 11)) (by decide +kernel)) 18 (by decide) (by decide) (by decide), hP.1.2.1.1 154 (19, 19, 1, 0, 0, 11) (iv_sgm (o := 154) (s := (19, 19, 1, 0, 0, 11)) (by decide +kernel)) 19 (by decide) (by decide) (by decide)⟩
theorem pz_k11 {k : Nat} {x : Int32} (hx : x.toInt ≤ 11) (hk : k ≤ 11) (hc : ¬ x ≤ nI k) : k < 11 := by
  rw [Int32.le_iff_toInt_le, nI_toInt (by omega)] at hc
  omega
theorem pz_nof (hP : pz_P N a c h) {k : Nat} (hk : k < 11) : (0 ≤ (h.1 165 k).toInt ∧ (h.1 165 k).toInt ≤ 24) ∧ (0 ≤ (h.1 166 k).toInt ∧ (h.1 166 k).toInt ≤ 24) := ⟨hP.1.2.1.1 165 (0, 10, 1, 0, 0, 24) (iv_sgm (o := 165) (s := (0, 10, 1, 0, 0, 24)) (by decide +kernel)) k (Nat.zero_le _) (Nat.le_of_lt_succ hk) (Nat.mod_one _), hP.1.2.1.1 166 (0, 10, 1, 0, 0, 24) (iv_sgm (o := 166) (s := (0, 10, 1, 0, 0, 24)) (by decide +kernel)) k (Nat.zero_le _) (Nat.le_of_lt_succ hk) (Nat.mod_one _)⟩
theorem pz_nml1 {Q : am_Q} (hP : pz_P N a c h) (hQ : ∀ r : Int32, -1 ≤ r.toInt ∧ r.toInt ≤ 24 → Q (some (.int r)) h) : ∀ n k : Nat, k + n = 11 → pz_S 3 (some .int) am_r200 0 Q 2 [(2, .int (nI k)), (0, .ref 154), (1, .int (Int32.ofInt 1))] [] h := by
  intro n
  induction n with
  | zero =>
    intro k hk
    refine am_goX 3 (show ((Int32.ofInt 1) = 0 → pz_S 3 (some .int) am_r200 0 Q 14 [(2, .int (nI k)), (0, .ref 154), (1, .int (Int32.ofInt 1))] [.int (nI k)] h) ∧ (¬ ((Int32.ofInt 1) = 0) → pz_S 3 (some .int) am_r200 0 Q 7 [(2, .int (nI k)), (0, .ref 154), (1, .int (Int32.ofInt 1))] [.int (nI k)] h) from ⟨fun hz => absurd hz (by decide), fun _ => ?_⟩)
    refine am_goX 4 (show am_sh h 154 = some (11, 0) ∧ ((h.1 154 19) ≤ (nI k) → pz_S 3 (some .int) am_r200 0 Q 79 [(2, .int (nI k)), (0, .ref 154), (1, .int (Int32.ofInt 1))] [] h) ∧ (¬ ((h.1 154 19) ≤ (nI k)) → pz_S 3 (some .int) am_r200 0 Q 21 [(2, .int (nI k)), (0, .ref 154), (1, .int (Int32.ofInt 1))] [] h) from ⟨pz_154 hP, fun hc => ?_, fun hc => ?_⟩)
    · exact am_goX 2 (show (∃ ty, (some .int) = some ty ∧ narrow ty (.int ((Int32.ofInt (-1)))) = .int ((Int32.ofInt (-1)))) ∧ h.2.2.2.2 = 175 ∧ _ from ⟨⟨.int, rfl, rfl⟩, pz_175 hP, hQ _ (by decide)⟩)
    · exact absurd (pz_k11 (pz_rg hP).2.2 (by omega) hc) (by omega)
  | succ n ih =>
    intro k hk
    refine am_goX 3 (show ((Int32.ofInt 1) = 0 → pz_S 3 (some .int) am_r200 0 Q 14 [(2, .int (nI k)), (0, .ref 154), (1, .int (Int32.ofInt 1))] [.int (nI k)] h) ∧ (¬ ((Int32.ofInt 1) = 0) → pz_S 3 (some .int) am_r200 0 Q 7 [(2, .int (nI k)), (0, .ref 154), (1, .int (Int32.ofInt 1))] [.int (nI k)] h) from ⟨fun hz => absurd hz (by decide), fun _ => ?_⟩)
    refine am_goX 4 (show am_sh h 154 = some (11, 0) ∧ ((h.1 154 19) ≤ (nI k) → pz_S 3 (some .int) am_r200 0 Q 79 [(2, .int (nI k)), (0, .ref 154), (1, .int (Int32.ofInt 1))] [] h) ∧ (¬ ((h.1 154 19) ≤ (nI k)) → pz_S 3 (some .int) am_r200 0 Q 21 [(2, .int (nI k)), (0, .ref 154), (1, .int (Int32.ofInt 1))] [] h) from ⟨pz_154 hP, fun hc => ?_, fun hc => ?_⟩)
    · exact am_goX 2 (show (∃ ty, (some .int) = some ty ∧ narrow ty (.int ((Int32.ofInt (-1)))) = .int ((Int32.ofInt (-1)))) ∧ h.2.2.2.2 = 175 ∧ _ from ⟨⟨.int, rfl, rfl⟩, pz_175 hP, hQ _ (by decide)⟩)
    · have hk1 : k < 11 := by omega
      refine am_goX 2 (show ((Int32.ofInt 1) = 0 → pz_S 3 (some .int) am_r200 0 Q 34 [(2, .int (nI k)), (0, .ref 154), (1, .int (Int32.ofInt 1))] [] h) ∧ (¬ ((Int32.ofInt 1) = 0) → pz_S 3 (some .int) am_r200 0 Q 25 [(2, .int (nI k)), (0, .ref 154), (1, .int (Int32.ofInt 1))] [] h) from ⟨fun hz => absurd hz (by decide), fun _ => ?_⟩)
      refine am_goX 2 (show am_sh h 154 = some (11, 0) ∧ pz_S 3 (some .int) am_r200 0 Q 29 [(2, .int (nI k)), (0, .ref 154), (1, .int (Int32.ofInt 1))] [am_rf (h.2.2.1 154 15)] h from ⟨pz_154 hP, ?_⟩)
      rw [pz_r15 hP]
      refine am_goX 2 (show ∃ j n : Nat, am_sh h 164 = some (14, n) ∧ j < n ∧ (nI k) = nI j ∧ pz_S 3 (some .int) am_r200 0 Q 31 [(2, .int (nI k)), (0, .ref 154), (1, .int (Int32.ofInt 1))] [.long (h.2.1 164 j)] h from ⟨k, 11, pz_164 hP, hk1, rfl, ?_⟩)
      refine am_goX 3 (show am_sh h 154 = some (11, 0) ∧ pz_S 3 (some .int) am_r200 0 Q 44 [(2, .int (nI k)), (0, .ref 154), (1, .int (Int32.ofInt 1))] [am_rf (h.2.2.1 154 6), .long (h.2.1 164 k)] h from ⟨pz_154 hP, ?_⟩)
      rw [pz_r6 hP]
      refine am_goX 3 (show am_sh h 154 = some (11, 0) ∧ ∃ j n : Nat, am_sh h 158 = some (14, n) ∧ j < n ∧ (h.1 154 7) = nI j ∧ pz_S 3 (some .int) am_r200 0 Q 49 [(2, .int (nI k)), (0, .ref 154), (1, .int (Int32.ofInt 1))] [.long (h.2.1 158 j), .long (h.2.1 164 k)] h from ⟨pz_154 hP, a, 1002, pz_158 hP, pz_al hP, hP.2.2.2.1, ?_⟩)
      clear hc
      refine am_goX 2 (show (¬ (lg_cmp ((h.2.1 164 k)) ((h.2.1 158 a))) = 0 → pz_S 3 (some .int) am_r200 0 Q 73 [(2, .int (nI k)), (0, .ref 154), (1, .int (Int32.ofInt 1))] [] h) ∧ (¬ ¬ (lg_cmp ((h.2.1 164 k)) ((h.2.1 158 a))) = 0 → pz_S 3 (some .int) am_r200 0 Q 53 [(2, .int (nI k)), (0, .ref 154), (1, .int (Int32.ofInt 1))] [] h) from ⟨fun hc => ?_, fun hc => ?_⟩)
      · refine am_goX 2 (show 2 < 3 ∧ pz_S 3 (some .int) am_r200 0 Q 2 [(2, .int ((nI k) + Int32.ofInt 1)), (0, .ref 154), (1, .int (Int32.ofInt 1))] [] h from ⟨by decide, ?_⟩)
        rw [xw_i1]
        exact ih (k + 1) (by omega)
      · refine am_goX 2 (show ((Int32.ofInt 1) = 0 → pz_S 3 (some .int) am_r200 0 Q 66 [(2, .int (nI k)), (0, .ref 154), (1, .int (Int32.ofInt 1))] [] h) ∧ (¬ ((Int32.ofInt 1) = 0) → pz_S 3 (some .int) am_r200 0 Q 57 [(2, .int (nI k)), (0, .ref 154), (1, .int (Int32.ofInt 1))] [] h) from ⟨fun hz => absurd hz (by decide), fun _ => ?_⟩)
        refine am_goX 2 (show am_sh h 154 = some (11, 0) ∧ pz_S 3 (some .int) am_r200 0 Q 61 [(2, .int (nI k)), (0, .ref 154), (1, .int (Int32.ofInt 1))] [am_rf (h.2.2.1 154 17)] h from ⟨pz_154 hP, ?_⟩)
        rw [pz_r17 hP]
        refine am_goX 2 (show ∃ j n : Nat, am_sh h 166 = some (13, n) ∧ j < n ∧ (nI k) = nI j ∧ pz_S 3 (some .int) am_r200 0 Q 63 [(2, .int (nI k)), (0, .ref 154), (1, .int (Int32.ofInt 1))] [.int (h.1 166 j)] h from ⟨k, 11, pz_166 hP, hk1, rfl, ?_⟩)
        exact am_goX 2 (show (∃ ty, (some .int) = some ty ∧ narrow ty (.int ((h.1 166 k))) = .int ((h.1 166 k))) ∧ h.2.2.2.2 = 175 ∧ _ from ⟨⟨.int, rfl, rfl⟩, pz_175 hP, hQ _ ⟨by have := (pz_nof hP hk1).2.1; omega, (pz_nof hP hk1).2.2⟩⟩)
theorem pz_nm1 {Q : am_Q} (hP : pz_P N a c h) (hQ : ∀ r : Int32, -1 ≤ r.toInt ∧ r.toInt ≤ 24 → Q (some (.int r)) h) : am_call am_cod 1 200 [.ref 154, .int (Int32.ofInt 1)] h Q := by
  refine pz_call (n := 200) (nL := 3) (rt := (some .int)) (rows := am_r200) (d := 0) (by decide +kernel) (by decide +kernel) rfl (by funext pc; rfl) (pz_175 hP) (by exact Nat.le_of_ble_eq_true rfl) ?_
  refine am_goX 2 (show 2 < 3 ∧ pz_S 3 (some .int) am_r200 0 Q 2 [(2, .int (Int32.ofInt 0)), (0, .ref 154), (1, .int (Int32.ofInt 1))] [] h from ⟨by decide, ?_⟩)
  exact pz_nml1 hP hQ 11 0 rfl
theorem pz_nml0 {Q : am_Q} (hP : pz_P N a c h) (hQ : ∀ r : Int32, -1 ≤ r.toInt ∧ r.toInt ≤ 24 → Q (some (.int r)) h) : ∀ n k : Nat, k + n = 11 → pz_S 3 (some .int) am_r200 0 Q 2 [(2, .int (nI k)), (0, .ref 154), (1, .int (Int32.ofInt 0))] [] h := by
  intro n
  induction n with
  | zero =>
    intro k hk
    refine am_goX 3 (show ((Int32.ofInt 0) = 0 → pz_S 3 (some .int) am_r200 0 Q 14 [(2, .int (nI k)), (0, .ref 154), (1, .int (Int32.ofInt 0))] [.int (nI k)] h) ∧ (¬ ((Int32.ofInt 0) = 0) → pz_S 3 (some .int) am_r200 0 Q 7 [(2, .int (nI k)), (0, .ref 154), (1, .int (Int32.ofInt 0))] [.int (nI k)] h) from ⟨fun _ => ?_, fun hz => absurd rfl hz⟩)
    refine am_goX 3 (show am_sh h 154 = some (11, 0) ∧ ((h.1 154 18) ≤ (nI k) → pz_S 3 (some .int) am_r200 0 Q 79 [(2, .int (nI k)), (0, .ref 154), (1, .int (Int32.ofInt 0))] [] h) ∧ (¬ ((h.1 154 18) ≤ (nI k)) → pz_S 3 (some .int) am_r200 0 Q 21 [(2, .int (nI k)), (0, .ref 154), (1, .int (Int32.ofInt 0))] [] h) from ⟨pz_154 hP, fun hc => ?_, fun hc => ?_⟩)
    · exact am_goX 2 (show (∃ ty, (some .int) = some ty ∧ narrow ty (.int ((Int32.ofInt (-1)))) = .int ((Int32.ofInt (-1)))) ∧ h.2.2.2.2 = 175 ∧ _ from ⟨⟨.int, rfl, rfl⟩, pz_175 hP, hQ _ (by decide)⟩)
    · exact absurd (pz_k11 (pz_rg hP).1.2 (by omega) hc) (by omega)
  | succ n ih =>
    intro k hk
    refine am_goX 3 (show ((Int32.ofInt 0) = 0 → pz_S 3 (some .int) am_r200 0 Q 14 [(2, .int (nI k)), (0, .ref 154), (1, .int (Int32.ofInt 0))] [.int (nI k)] h) ∧ (¬ ((Int32.ofInt 0) = 0) → pz_S 3 (some .int) am_r200 0 Q 7 [(2, .int (nI k)), (0, .ref 154), (1, .int (Int32.ofInt 0))] [.int (nI k)] h) from ⟨fun _ => ?_, fun hz => absurd rfl hz⟩)
    refine am_goX 3 (show am_sh h 154 = some (11, 0) ∧ ((h.1 154 18) ≤ (nI k) → pz_S 3 (some .int) am_r200 0 Q 79 [(2, .int (nI k)), (0, .ref 154), (1, .int (Int32.ofInt 0))] [] h) ∧ (¬ ((h.1 154 18) ≤ (nI k)) → pz_S 3 (some .int) am_r200 0 Q 21 [(2, .int (nI k)), (0, .ref 154), (1, .int (Int32.ofInt 0))] [] h) from ⟨pz_154 hP, fun hc => ?_, fun hc => ?_⟩)
    · exact am_goX 2 (show (∃ ty, (some .int) = some ty ∧ narrow ty (.int ((Int32.ofInt (-1)))) = .int ((Int32.ofInt (-1)))) ∧ h.2.2.2.2 = 175 ∧ _ from ⟨⟨.int, rfl, rfl⟩, pz_175 hP, hQ _ (by decide)⟩)
    · have hk1 : k < 11 := by omega
      refine am_goX 2 (show ((Int32.ofInt 0) = 0 → pz_S 3 (some .int) am_r200 0 Q 34 [(2, .int (nI k)), (0, .ref 154), (1, .int (Int32.ofInt 0))] [] h) ∧ (¬ ((Int32.ofInt 0) = 0) → pz_S 3 (some .int) am_r200 0 Q 25 [(2, .int (nI k)), (0, .ref 154), (1, .int (Int32.ofInt 0))] [] h) from ⟨fun _ => ?_, fun hz => absurd rfl hz⟩)
      refine am_goX 2 (show am_sh h 154 = some (11, 0) ∧ pz_S 3 (some .int) am_r200 0 Q 38 [(2, .int (nI k)), (0, .ref 154), (1, .int (Int32.ofInt 0))] [am_rf (h.2.2.1 154 14)] h from ⟨pz_154 hP, ?_⟩)
      rw [pz_r14 hP]
      refine am_goX 2 (show ∃ j n : Nat, am_sh h 163 = some (14, n) ∧ j < n ∧ (nI k) = nI j ∧ pz_S 3 (some .int) am_r200 0 Q 40 [(2, .int (nI k)), (0, .ref 154), (1, .int (Int32.ofInt 0))] [.long (h.2.1 163 j)] h from ⟨k, 11, pz_163 hP, hk1, rfl, ?_⟩)
      refine am_goX 2 (show am_sh h 154 = some (11, 0) ∧ pz_S 3 (some .int) am_r200 0 Q 44 [(2, .int (nI k)), (0, .ref 154), (1, .int (Int32.ofInt 0))] [am_rf (h.2.2.1 154 6), .long (h.2.1 163 k)] h from ⟨pz_154 hP, ?_⟩)
      rw [pz_r6 hP]
      refine am_goX 3 (show am_sh h 154 = some (11, 0) ∧ ∃ j n : Nat, am_sh h 158 = some (14, n) ∧ j < n ∧ (h.1 154 7) = nI j ∧ pz_S 3 (some .int) am_r200 0 Q 49 [(2, .int (nI k)), (0, .ref 154), (1, .int (Int32.ofInt 0))] [.long (h.2.1 158 j), .long (h.2.1 163 k)] h from ⟨pz_154 hP, a, 1002, pz_158 hP, pz_al hP, hP.2.2.2.1, ?_⟩)
      clear hc
      refine am_goX 2 (show (¬ (lg_cmp ((h.2.1 163 k)) ((h.2.1 158 a))) = 0 → pz_S 3 (some .int) am_r200 0 Q 73 [(2, .int (nI k)), (0, .ref 154), (1, .int (Int32.ofInt 0))] [] h) ∧ (¬ ¬ (lg_cmp ((h.2.1 163 k)) ((h.2.1 158 a))) = 0 → pz_S 3 (some .int) am_r200 0 Q 53 [(2, .int (nI k)), (0, .ref 154), (1, .int (Int32.ofInt 0))] [] h) from ⟨fun hc => ?_, fun hc => ?_⟩)
      · refine am_goX 2 (show 2 < 3 ∧ pz_S 3 (some .int) am_r200 0 Q 2 [(2, .int ((nI k) + Int32.ofInt 1)), (0, .ref 154), (1, .int (Int32.ofInt 0))] [] h from ⟨by decide, ?_⟩)
        rw [xw_i1]
        exact ih (k + 1) (by omega)
      · refine am_goX 2 (show ((Int32.ofInt 0) = 0 → pz_S 3 (some .int) am_r200 0 Q 66 [(2, .int (nI k)), (0, .ref 154), (1, .int (Int32.ofInt 0))] [] h) ∧ (¬ ((Int32.ofInt 0) = 0) → pz_S 3 (some .int) am_r200 0 Q 57 [(2, .int (nI k)), (0, .ref 154), (1, .int (Int32.ofInt 0))] [] h) from ⟨fun _ => ?_, fun hz => absurd rfl hz⟩)
        refine am_goX 2 (show am_sh h 154 = some (11, 0) ∧ pz_S 3 (some .int) am_r200 0 Q 70 [(2, .int (nI k)), (0, .ref 154), (1, .int (Int32.ofInt 0))] [am_rf (h.2.2.1 154 16)] h from ⟨pz_154 hP, ?_⟩)
        rw [pz_r16 hP]
        refine am_goX 2 (show ∃ j n : Nat, am_sh h 165 = some (13, n) ∧ j < n ∧ (nI k) = nI j ∧ pz_S 3 (some .int) am_r200 0 Q 72 [(2, .int (nI k)), (0, .ref 154), (1, .int (Int32.ofInt 0))] [.int (h.1 165 j)] h from ⟨k, 11, pz_165 hP, hk1, rfl, ?_⟩)
        exact am_goX 1 (show (∃ ty, (some .int) = some ty ∧ narrow ty (.int ((h.1 165 k))) = .int ((h.1 165 k))) ∧ h.2.2.2.2 = 175 ∧ _ from ⟨⟨.int, rfl, rfl⟩, pz_175 hP, hQ _ ⟨by have := (pz_nof hP hk1).1.1; omega, (pz_nof hP hk1).1.2⟩⟩)
theorem pz_nm0 {Q : am_Q} (hP : pz_P N a c h) (hQ : ∀ r : Int32, -1 ≤ r.toInt ∧ r.toInt ≤ 24 → Q (some (.int r)) h) : am_call am_cod 1 200 [.ref 154, .int (Int32.ofInt 0)] h Q := by
  refine pz_call (n := 200) (nL := 3) (rt := (some .int)) (rows := am_r200) (d := 0) (by decide +kernel) (by decide +kernel) rfl (by funext pc; rfl) (pz_175 hP) (by exact Nat.le_of_ble_eq_true rfl) ?_
  refine am_goX 2 (show 2 < 3 ∧ pz_S 3 (some .int) am_r200 0 Q 2 [(2, .int (Int32.ofInt 0)), (0, .ref 154), (1, .int (Int32.ofInt 0))] [] h from ⟨by decide, ?_⟩)
  exact pz_nml0 hP hQ 11 0 rfl
theorem pz_in05 {Q : am_Q} {x : Int32} (hP : pz_P N a c h) (h1 : ∀ k : Nat, k ≤ 5 → x = nI k → Q (some (.int 1)) h) (h0 : Q (some (.int 0)) h) : am_call am_cod 1 207 [.int x, .int (Int32.ofInt 0), .int (Int32.ofInt 5)] h Q := by
  refine pz_call (n := 207) (nL := 3) (rt := (some .boolean)) (rows := am_r207) (d := 0) (by decide +kernel) (by decide +kernel) rfl (by funext pc; rfl) (pz_175 hP) (by exact Nat.le_of_ble_eq_true rfl) ?_
  have k0 : pz_S 3 (some .boolean) am_r207 0 Q 14 [(0, .int x), (1, .int (Int32.ofInt 0)), (2, .int (Int32.ofInt 5))] [] h := ?_
  rotate_left
  · exact am_goX 2 (show (∃ ty, (some .boolean) = some ty ∧ narrow ty (.int ((Int32.ofInt 0))) = .int ((Int32.ofInt 0))) ∧ h.2.2.2.2 = 175 ∧ _ from ⟨⟨.boolean, rfl, rfl⟩, pz_175 hP, h0⟩)
  refine am_goX 3 (show (x < (Int32.ofInt 0) → pz_S 3 (some .boolean) am_r207 0 Q 14 [(0, .int x), (1, .int (Int32.ofInt 0)), (2, .int (Int32.ofInt 5))] [] h) ∧ (¬ (x < (Int32.ofInt 0)) → pz_S 3 (some .boolean) am_r207 0 Q 5 [(0, .int x), (1, .int (Int32.ofInt 0)), (2, .int (Int32.ofInt 5))] [] h) from ⟨fun hc => ?_, fun hc => ?_⟩)
  · exact k0
  · have hx0 : 0 ≤ x.toInt := by
      rw [Int32.lt_iff_toInt_lt] at hc
      have hc : ¬ x.toInt < 0 := hc
      omega
    clear hc
    refine am_goX 3 (show ((Int32.ofInt 5) < x → pz_S 3 (some .boolean) am_r207 0 Q 14 [(0, .int x), (1, .int (Int32.ofInt 0)), (2, .int (Int32.ofInt 5))] [] h) ∧ (¬ ((Int32.ofInt 5) < x) → pz_S 3 (some .boolean) am_r207 0 Q 10 [(0, .int x), (1, .int (Int32.ofInt 0)), (2, .int (Int32.ofInt 5))] [] h) from ⟨fun hc => ?_, fun hc => ?_⟩)
    · exact k0
    · exact am_goX 3 (show (∃ ty, (some .boolean) = some ty ∧ narrow ty (.int ((Int32.ofInt 1))) = .int ((Int32.ofInt 1))) ∧ h.2.2.2.2 = 175 ∧ _ from ⟨⟨.boolean, rfl, rfl⟩, pz_175 hP, (by
      rw [Int32.lt_iff_toInt_lt] at hc
      have hc : ¬ 5 < x.toInt := hc
      refine h1 x.toInt.toNat (by omega) (Int32.toInt_inj.mp ?_)
      rw [nI_toInt (by omega)]
      omega)⟩)
theorem pz_told1 {Q : am_Q} {x b : Int32} (hP : pz_P N a c h) (hQ : ∀ a' h' k, k ≤ 5 → pk N a c h a' h' → Q (some (.int (nI k))) h') : am_call am_cod 4 206 [.ref 154, .int (Int32.ofInt 1), .int x, .int b] h Q := by
  refine pz_call (n := 206) (nL := 5) (rt := (some .int)) (rows := am_r206) (d := 3) (by decide +kernel) (by decide +kernel) rfl (by funext pc; rfl) (pz_175 hP) (by exact Nat.le_of_ble_eq_true rfl) ?_
  have kf : ∀ h' r, pz_P N a c h' → ag_fr pz_F h h' → ¬ h'.1 154 8 = 0 → pz_S 5 (some .int) am_r206 3 Q 86 [(4, .int r), (0, .ref 154), (1, .int (Int32.ofInt 1)), (2, .int x), (3, .int b)] [] h' := ?_
  rotate_left
  · intro h' r q1 q2 q3
    refine am_goX 6 (show (Value.ref 154).category = 1 ∧ am_sh h' 154 = some (11, 0) ∧ am_sh h' 154 = some (11, 0) ∧ ((h'.1 154 8) ≤ 0 → pz_S 5 (some .int) am_r206 3 Q 102 [(4, .int r), (0, .ref 154), (1, .int (Int32.ofInt 1)), (2, .int x), (3, .int b)] [.int (h'.1 154 7), .ref 154] h') ∧ (¬ ((h'.1 154 8) ≤ 0) → pz_S 5 (some .int) am_r206 3 Q 98 [(4, .int r), (0, .ref 154), (1, .int (Int32.ofInt 1)), (2, .int x), (3, .int b)] [.int (h'.1 154 7), .ref 154] h') from ⟨rfl, pz_154 q1, pz_154 q1, fun hz => absurd hz (fun w => q3 (pz_eq0 q1 w)), fun _ => ?_⟩)
    refine am_goX 4 (show am_sh h' 154 = some (11, 0) ∧ narrow (am_fty 11 7) (.int (((h'.1 154 7) + (Int32.ofInt 0)))) = .int (((h'.1 154 7) + (Int32.ofInt 0))) ∧ fits (am_fty 11 7) (.int (((h'.1 154 7) + (Int32.ofInt 0)))) = true ∧ pz_S 5 (some .int) am_r206 3 Q 107 [(4, .int r), (0, .ref 154), (1, .int (Int32.ofInt 1)), (2, .int x), (3, .int b)] [] (am_wI h' 154 7 (((h'.1 154 7) + (Int32.ofInt 0)))) from ⟨pz_154 q1, rfl, rfl, ?_⟩)
    rw [pz_same (show h'.1 154 7 = h'.1 154 7 + Int32.ofInt 0 from (Int32.add_zero _).symm)]
    refine am_goX 3 (show am_sh h' 154 = some (11, 0) ∧ ((h'.1 154 8) ≤ 0 → pz_S 5 (some .int) am_r206 3 Q 118 [(4, .int r), (0, .ref 154), (1, .int (Int32.ofInt 1)), (2, .int x), (3, .int b)] [] h') ∧ (¬ ((h'.1 154 8) ≤ 0) → pz_S 5 (some .int) am_r206 3 Q 114 [(4, .int r), (0, .ref 154), (1, .int (Int32.ofInt 1)), (2, .int x), (3, .int b)] [] h') from ⟨pz_154 q1, fun hz => absurd hz (fun w => q3 (pz_eq0 q1 w)), fun _ => ?_⟩)
    exact am_goX 3 (show (∃ ty, (some .int) = some ty ∧ narrow ty (.int ((Int32.ofInt 0))) = .int ((Int32.ofInt 0))) ∧ h'.2.2.2.2 = 175 ∧ _ from ⟨⟨.int, rfl, rfl⟩, pz_175 q1, hQ _ _ 0 (by decide) (pk_f q1 q2 q3)⟩)
  have kok : ∀ r, h.1 154 8 = 0 → a < N → ∀ k5 : Nat, k5 ≤ 5 → r = nI k5 → pz_S 5 (some .int) am_r206 3 Q 86 [(4, .int r), (0, .ref 154), (1, .int (Int32.ofInt 1)), (2, .int x), (3, .int b)] [] h := ?_
  rotate_left
  · intro r hf hlt k5 hk5 hr5
    have hP1 := pz_at (a' := a + 1) hP (by omega)
    refine am_goX 6 (show (Value.ref 154).category = 1 ∧ am_sh h 154 = some (11, 0) ∧ am_sh h 154 = some (11, 0) ∧ ((h.1 154 8) ≤ 0 → pz_S 5 (some .int) am_r206 3 Q 102 [(4, .int r), (0, .ref 154), (1, .int (Int32.ofInt 1)), (2, .int x), (3, .int b)] [.int (h.1 154 7), .ref 154] h) ∧ (¬ ((h.1 154 8) ≤ 0) → pz_S 5 (some .int) am_r206 3 Q 98 [(4, .int r), (0, .ref 154), (1, .int (Int32.ofInt 1)), (2, .int x), (3, .int b)] [.int (h.1 154 7), .ref 154] h) from ⟨rfl, pz_154 hP, pz_154 hP, fun _ => ?_, fun hz => absurd (by rw [hf]; decide) hz⟩)
    refine am_goX 3 (show am_sh h 154 = some (11, 0) ∧ narrow (am_fty 11 7) (.int (((h.1 154 7) + (Int32.ofInt 1)))) = .int (((h.1 154 7) + (Int32.ofInt 1))) ∧ fits (am_fty 11 7) (.int (((h.1 154 7) + (Int32.ofInt 1)))) = true ∧ pz_S 5 (some .int) am_r206 3 Q 107 [(4, .int r), (0, .ref 154), (1, .int (Int32.ofInt 1)), (2, .int x), (3, .int b)] [] (am_wI h 154 7 (((h.1 154 7) + (Int32.ofInt 1)))) from ⟨pz_154 hP, rfl, rfl, ?_⟩)
    rw [hP.2.2.2.1, xw_i1]
    have hf1 : (am_wI h 154 7 (nI (a + 1))).1 154 8 = 0 := by rw [em_wn h _ (by decide)]; exact hf
    refine am_goX 3 (show am_sh (am_wI h 154 7 (nI (a + 1))) 154 = some (11, 0) ∧ (((am_wI h 154 7 (nI (a + 1))).1 154 8) ≤ 0 → pz_S 5 (some .int) am_r206 3 Q 118 [(4, .int r), (0, .ref 154), (1, .int (Int32.ofInt 1)), (2, .int x), (3, .int b)] [] (am_wI h 154 7 (nI (a + 1)))) ∧ (¬ (((am_wI h 154 7 (nI (a + 1))).1 154 8) ≤ 0) → pz_S 5 (some .int) am_r206 3 Q 114 [(4, .int r), (0, .ref 154), (1, .int (Int32.ofInt 1)), (2, .int x), (3, .int b)] [] (am_wI h 154 7 (nI (a + 1)))) from ⟨pz_154 hP1, fun _ => ?_, fun hz => absurd (by rw [hf1]; decide) hz⟩)
    exact am_goX 2 (show (∃ ty, (some .int) = some ty ∧ narrow ty (.int (r)) = .int (r)) ∧ (am_wI h 154 7 (nI (a + 1))).2.2.2.2 = 175 ∧ _ from ⟨⟨.int, rfl, rfl⟩, pz_175 hP1, (by rw [hr5]; exact hQ _ _ k5 hk5 (pk_a hP hf hlt))⟩)
  have kg : ∀ h', pz_P N a c h' → ag_fr pz_F h h' → ¬ h'.1 154 8 = 0 → pz_S 5 (some .int) am_r206 3 Q 19 [(0, .ref 154), (1, .int (Int32.ofInt 1)), (2, .int x), (3, .int b)] [] h' := ?_
  rotate_left
  · intro h' q1 q2 q3
    refine am_goX 3 (show am_sh h' 154 = some (11, 0) ∧ ((h'.1 154 8) ≤ 0 → pz_S 5 (some .int) am_r206 3 Q 30 [(0, .ref 154), (1, .int (Int32.ofInt 1)), (2, .int x), (3, .int b)] [] h') ∧ (¬ ((h'.1 154 8) ≤ 0) → pz_S 5 (some .int) am_r206 3 Q 26 [(0, .ref 154), (1, .int (Int32.ofInt 1)), (2, .int x), (3, .int b)] [] h') from ⟨pz_154 q1, fun hz => absurd hz (fun w => q3 (pz_eq0 q1 w)), fun _ => ?_⟩)
    refine am_goX 6 (show 4 < 5 ∧ am_sh h' 154 = some (11, 0) ∧ (¬ (h'.1 154 8) = 0 → pz_S 5 (some .int) am_r206 3 Q 64 [(4, .int (Int32.ofInt (-1))), (0, .ref 154), (1, .int (Int32.ofInt 1)), (2, .int x), (3, .int b)] [] h') ∧ (¬ ¬ (h'.1 154 8) = 0 → pz_S 5 (some .int) am_r206 3 Q 46 [(4, .int (Int32.ofInt (-1))), (0, .ref 154), (1, .int (Int32.ofInt 1)), (2, .int x), (3, .int b)] [] h') from ⟨by decide, pz_154 q1, fun _ => ?_, fun hz => absurd q3 hz⟩)
    refine am_goX 3 (show am_sh h' 154 = some (11, 0) ∧ (¬ (h'.1 154 8) = 0 → pz_S 5 (some .int) am_r206 3 Q 86 [(4, .int (Int32.ofInt (-1))), (0, .ref 154), (1, .int (Int32.ofInt 1)), (2, .int x), (3, .int b)] [] h') ∧ (¬ ¬ (h'.1 154 8) = 0 → pz_S 5 (some .int) am_r206 3 Q 71 [(4, .int (Int32.ofInt (-1))), (0, .ref 154), (1, .int (Int32.ofInt 1)), (2, .int x), (3, .int b)] [] h') from ⟨pz_154 q1, fun _ => ?_, fun hz => absurd q3 hz⟩)
    exact kf h' _ q1 q2 q3
  refine am_goX 3 (show am_sh h 154 = some (11, 0) ∧ (¬ (h.1 154 8) = 0 → pz_S 5 (some .int) am_r206 3 Q 19 [(0, .ref 154), (1, .int (Int32.ofInt 1)), (2, .int x), (3, .int b)] [] h) ∧ (¬ ¬ (h.1 154 8) = 0 → pz_S 5 (some .int) am_r206 3 Q 7 [(0, .ref 154), (1, .int (Int32.ofInt 1)), (2, .int x), (3, .int b)] [] h) from ⟨pz_154 hP, fun hc => ?_, fun hc => ?_⟩)
  · exact kg h hP (ag_fr.refl h) hc
  · refine am_goX 2 (show am_rc h 154 11 ∧ 0 ≤ 8 ∧ h.2.2.2.2 + am_al 198 ≤ 175 ∧ am_call am_cod 3 198 [.ref 154] h (fun vv h' => pz_S 5 (some .int) am_r206 3 Q 11 [(0, .ref 154), (1, .int (Int32.ofInt 1)), (2, .int x), (3, .int b)] (vv.toList ++ []) h') from ⟨pz_rc hP, by decide, pz_lim hP rfl, pz_isn hP (fun hf hlt => ?_) ?_⟩)
    · refine am_goX 1 (show (¬ 1 = 0 → pz_S 5 (some .int) am_r206 3 Q 19 [(0, .ref 154), (1, .int (Int32.ofInt 1)), (2, .int x), (3, .int b)] [] h) ∧ (¬ ¬ 1 = 0 → pz_S 5 (some .int) am_r206 3 Q 14 [(0, .ref 154), (1, .int (Int32.ofInt 1)), (2, .int x), (3, .int b)] [] h) from ⟨fun _ => ?_, fun hz => absurd (by decide) hz⟩)
      refine am_goX 3 (show am_sh h 154 = some (11, 0) ∧ ((h.1 154 8) ≤ 0 → pz_S 5 (some .int) am_r206 3 Q 30 [(0, .ref 154), (1, .int (Int32.ofInt 1)), (2, .int x), (3, .int b)] [] h) ∧ (¬ ((h.1 154 8) ≤ 0) → pz_S 5 (some .int) am_r206 3 Q 26 [(0, .ref 154), (1, .int (Int32.ofInt 1)), (2, .int x), (3, .int b)] [] h) from ⟨pz_154 hP, fun _ => ?_, fun hz => absurd (by rw [hf]; decide) hz⟩)
      refine am_goX 3 (show am_rc h 154 11 ∧ 0 ≤ 8 ∧ h.2.2.2.2 + am_al 200 ≤ 175 ∧ am_call am_cod 3 200 [.ref 154, .int (Int32.ofInt 1)] h (fun vv h' => pz_S 5 (some .int) am_r206 3 Q 35 [(0, .ref 154), (1, .int (Int32.ofInt 1)), (2, .int x), (3, .int b)] (vv.toList ++ []) h') from ⟨pz_rc hP, by decide, pz_lim hP rfl, am_call.up (pz_nm1 hP (fun r hr => ?_)) (by decide)⟩)
      refine am_goX 6 (show 4 < 5 ∧ am_sh h 154 = some (11, 0) ∧ (¬ (h.1 154 8) = 0 → pz_S 5 (some .int) am_r206 3 Q 64 [(4, .int (r - x)), (0, .ref 154), (1, .int (Int32.ofInt 1)), (2, .int x), (3, .int b)] [] h) ∧ (¬ ¬ (h.1 154 8) = 0 → pz_S 5 (some .int) am_r206 3 Q 46 [(4, .int (r - x)), (0, .ref 154), (1, .int (Int32.ofInt 1)), (2, .int x), (3, .int b)] [] h) from ⟨by decide, pz_154 hP, fun hz => absurd hz (fun w => w hf), fun _ => ?_⟩)
      generalize r - x = r1
      refine am_goX 4 (show 0 ≤ 8 ∧ h.2.2.2.2 + am_al 207 ≤ 175 ∧ am_call am_cod 3 207 [.int r1, .int (Int32.ofInt 0), .int (Int32.ofInt 5)] h (fun vv h' => pz_S 5 (some .int) am_r206 3 Q 53 [(4, .int r1), (0, .ref 154), (1, .int (Int32.ofInt 1)), (2, .int x), (3, .int b)] (vv.toList ++ []) h') from ⟨by decide, pz_lim hP rfl, am_call.up (pz_in05 hP (fun k5 hk5 hr5 => ?_) ?_) (by decide)⟩)
      · refine am_goX 1 (show (¬ 1 = 0 → pz_S 5 (some .int) am_r206 3 Q 64 [(4, .int r1), (0, .ref 154), (1, .int (Int32.ofInt 1)), (2, .int x), (3, .int b)] [] h) ∧ (¬ ¬ 1 = 0 → pz_S 5 (some .int) am_r206 3 Q 56 [(4, .int r1), (0, .ref 154), (1, .int (Int32.ofInt 1)), (2, .int x), (3, .int b)] [] h) from ⟨fun _ => ?_, fun hz => absurd (by decide) hz⟩)
        refine am_goX 3 (show am_sh h 154 = some (11, 0) ∧ (¬ (h.1 154 8) = 0 → pz_S 5 (some .int) am_r206 3 Q 86 [(4, .int r1), (0, .ref 154), (1, .int (Int32.ofInt 1)), (2, .int x), (3, .int b)] [] h) ∧ (¬ ¬ (h.1 154 8) = 0 → pz_S 5 (some .int) am_r206 3 Q 71 [(4, .int r1), (0, .ref 154), (1, .int (Int32.ofInt 1)), (2, .int x), (3, .int b)] [] h) from ⟨pz_154 hP, fun hz => absurd hz (fun w => w hf), fun _ => ?_⟩)
        refine am_goX 7 (show (¬ ((b >>> (r1 &&& 31)) &&& (Int32.ofInt 1)) = (Int32.ofInt 1) → pz_S 5 (some .int) am_r206 3 Q 86 [(4, .int r1), (0, .ref 154), (1, .int (Int32.ofInt 1)), (2, .int x), (3, .int b)] [] h) ∧ (¬ ¬ ((b >>> (r1 &&& 31)) &&& (Int32.ofInt 1)) = (Int32.ofInt 1) → pz_S 5 (some .int) am_r206 3 Q 81 [(4, .int r1), (0, .ref 154), (1, .int (Int32.ofInt 1)), (2, .int x), (3, .int b)] [] h) from ⟨fun hc => ?_, fun hc => ?_⟩)
        · exact kok r1 hf hlt k5 hk5 hr5
        · refine am_goX 3 (show am_rc h 154 11 ∧ 0 ≤ 8 ∧ h.2.2.2.2 + am_al 197 ≤ 175 ∧ am_call am_cod 3 197 [.ref 154, .int (Int32.ofInt 3)] h (fun vv h' => pz_S 5 (some .int) am_r206 3 Q 86 [(4, .int r1), (0, .ref 154), (1, .int (Int32.ofInt 1)), (2, .int x), (3, .int b)] (vv.toList ++ []) h') from ⟨pz_rc hP, by decide, pz_lim hP rfl, am_call.up (pz_wrongF hP (by decide) (fun h' q1 q2 q3 => ?_)) (by decide)⟩)
          exact kf h' r1 q1 q2 q3
      · refine am_goX 1 (show (¬ 0 = 0 → pz_S 5 (some .int) am_r206 3 Q 64 [(4, .int r1), (0, .ref 154), (1, .int (Int32.ofInt 1)), (2, .int x), (3, .int b)] [] h) ∧ (¬ ¬ 0 = 0 → pz_S 5 (some .int) am_r206 3 Q 56 [(4, .int r1), (0, .ref 154), (1, .int (Int32.ofInt 1)), (2, .int x), (3, .int b)] [] h) from ⟨fun hz => absurd hz (fun w => w rfl), fun _ => ?_⟩)
        refine am_goX 3 (show am_rc h 154 11 ∧ 0 ≤ 8 ∧ h.2.2.2.2 + am_al 197 ≤ 175 ∧ am_call am_cod 3 197 [.ref 154, .int (Int32.ofInt 2)] h (fun vv h' => pz_S 5 (some .int) am_r206 3 Q 61 [(4, .int r1), (0, .ref 154), (1, .int (Int32.ofInt 1)), (2, .int x), (3, .int b)] (vv.toList ++ []) h') from ⟨pz_rc hP, by decide, pz_lim hP rfl, am_call.up (pz_wrongF hP (by decide) (fun h' q1 q2 q3 => ?_)) (by decide)⟩)
        exact am_goX 1 (kf h' r1 q1 q2 q3)
    · refine am_goX 1 (show (¬ 0 = 0 → pz_S 5 (some .int) am_r206 3 Q 19 [(0, .ref 154), (1, .int (Int32.ofInt 1)), (2, .int x), (3, .int b)] [] h) ∧ (¬ ¬ 0 = 0 → pz_S 5 (some .int) am_r206 3 Q 14 [(0, .ref 154), (1, .int (Int32.ofInt 1)), (2, .int x), (3, .int b)] [] h) from ⟨fun hz => absurd hz (fun w => w rfl), fun _ => ?_⟩)
      refine am_goX 3 (show am_rc h 154 11 ∧ 0 ≤ 8 ∧ h.2.2.2.2 + am_al 197 ≤ 175 ∧ am_call am_cod 3 197 [.ref 154, .int (Int32.ofInt 1)] h (fun vv h' => pz_S 5 (some .int) am_r206 3 Q 19 [(0, .ref 154), (1, .int (Int32.ofInt 1)), (2, .int x), (3, .int b)] (vv.toList ++ []) h') from ⟨pz_rc hP, by decide, pz_lim hP rfl, am_call.up (pz_wrongF hP (by decide) (fun h' q1 q2 q3 => ?_)) (by decide)⟩)
      exact kg h' q1 q2 q3
theorem pz_told0 {Q : am_Q} {x b : Int32} (hP : pz_P N a c h) (hQ : ∀ a' h' k, k ≤ 5 → pk N a c h a' h' → Q (some (.int (nI k))) h') : am_call am_cod 4 206 [.ref 154, .int (Int32.ofInt 0), .int x, .int b] h Q := by
  refine pz_call (n := 206) (nL := 5) (rt := (some .int)) (rows := am_r206) (d := 3) (by decide +kernel) (by decide +kernel) rfl (by funext pc; rfl) (pz_175 hP) (by exact Nat.le_of_ble_eq_true rfl) ?_
  have kf : ∀ h' r, pz_P N a c h' → ag_fr pz_F h h' → ¬ h'.1 154 8 = 0 → pz_S 5 (some .int) am_r206 3 Q 86 [(4, .int r), (0, .ref 154), (1, .int (Int32.ofInt 0)), (2, .int x), (3, .int b)] [] h' := ?_
  rotate_left
  · intro h' r q1 q2 q3
    refine am_goX 6 (show (Value.ref 154).category = 1 ∧ am_sh h' 154 = some (11, 0) ∧ am_sh h' 154 = some (11, 0) ∧ ((h'.1 154 8) ≤ 0 → pz_S 5 (some .int) am_r206 3 Q 102 [(4, .int r), (0, .ref 154), (1, .int (Int32.ofInt 0)), (2, .int x), (3, .int b)] [.int (h'.1 154 7), .ref 154] h') ∧ (¬ ((h'.1 154 8) ≤ 0) → pz_S 5 (some .int) am_r206 3 Q 98 [(4, .int r), (0, .ref 154), (1, .int (Int32.ofInt 0)), (2, .int x), (3, .int b)] [.int (h'.1 154 7), .ref 154] h') from ⟨rfl, pz_154 q1, pz_154 q1, fun hz => absurd hz (fun w => q3 (pz_eq0 q1 w)), fun _ => ?_⟩)
    refine am_goX 4 (show am_sh h' 154 = some (11, 0) ∧ narrow (am_fty 11 7) (.int (((h'.1 154 7) + (Int32.ofInt 0)))) = .int (((h'.1 154 7) + (Int32.ofInt 0))) ∧ fits (am_fty 11 7) (.int (((h'.1 154 7) + (Int32.ofInt 0)))) = true ∧ pz_S 5 (some .int) am_r206 3 Q 107 [(4, .int r), (0, .ref 154), (1, .int (Int32.ofInt 0)), (2, .int x), (3, .int b)] [] (am_wI h' 154 7 (((h'.1 154 7) + (Int32.ofInt 0)))) from ⟨pz_154 q1, rfl, rfl, ?_⟩)
    rw [pz_same (show h'.1 154 7 = h'.1 154 7 + Int32.ofInt 0 from (Int32.add_zero _).symm)]
    refine am_goX 3 (show am_sh h' 154 = some (11, 0) ∧ ((h'.1 154 8) ≤ 0 → pz_S 5 (some .int) am_r206 3 Q 118 [(4, .int r), (0, .ref 154), (1, .int (Int32.ofInt 0)), (2, .int x), (3, .int b)] [] h') ∧ (¬ ((h'.1 154 8) ≤ 0) → pz_S 5 (some .int) am_r206 3 Q 114 [(4, .int r), (0, .ref 154), (1, .int (Int32.ofInt 0)), (2, .int x), (3, .int b)] [] h') from ⟨pz_154 q1, fun hz => absurd hz (fun w => q3 (pz_eq0 q1 w)), fun _ => ?_⟩)
    exact am_goX 3 (show (∃ ty, (some .int) = some ty ∧ narrow ty (.int ((Int32.ofInt 0))) = .int ((Int32.ofInt 0))) ∧ h'.2.2.2.2 = 175 ∧ _ from ⟨⟨.int, rfl, rfl⟩, pz_175 q1, hQ _ _ 0 (by decide) (pk_f q1 q2 q3)⟩)
  have kok : ∀ r, h.1 154 8 = 0 → a < N → ∀ k5 : Nat, k5 ≤ 5 → r = nI k5 → pz_S 5 (some .int) am_r206 3 Q 86 [(4, .int r), (0, .ref 154), (1, .int (Int32.ofInt 0)), (2, .int x), (3, .int b)] [] h := ?_
  rotate_left
  · intro r hf hlt k5 hk5 hr5
    have hP1 := pz_at (a' := a + 1) hP (by omega)
    refine am_goX 6 (show (Value.ref 154).category = 1 ∧ am_sh h 154 = some (11, 0) ∧ am_sh h 154 = some (11, 0) ∧ ((h.1 154 8) ≤ 0 → pz_S 5 (some .int) am_r206 3 Q 102 [(4, .int r), (0, .ref 154), (1, .int (Int32.ofInt 0)), (2, .int x), (3, .int b)] [.int (h.1 154 7), .ref 154] h) ∧ (¬ ((h.1 154 8) ≤ 0) → pz_S 5 (some .int) am_r206 3 Q 98 [(4, .int r), (0, .ref 154), (1, .int (Int32.ofInt 0)), (2, .int x), (3, .int b)] [.int (h.1 154 7), .ref 154] h) from ⟨rfl, pz_154 hP, pz_154 hP, fun _ => ?_, fun hz => absurd (by rw [hf]; decide) hz⟩)
    refine am_goX 3 (show am_sh h 154 = some (11, 0) ∧ narrow (am_fty 11 7) (.int (((h.1 154 7) + (Int32.ofInt 1)))) = .int (((h.1 154 7) + (Int32.ofInt 1))) ∧ fits (am_fty 11 7) (.int (((h.1 154 7) + (Int32.ofInt 1)))) = true ∧ pz_S 5 (some .int) am_r206 3 Q 107 [(4, .int r), (0, .ref 154), (1, .int (Int32.ofInt 0)), (2, .int x), (3, .int b)] [] (am_wI h 154 7 (((h.1 154 7) + (Int32.ofInt 1)))) from ⟨pz_154 hP, rfl, rfl, ?_⟩)
    rw [hP.2.2.2.1, xw_i1]
    have hf1 : (am_wI h 154 7 (nI (a + 1))).1 154 8 = 0 := by rw [em_wn h _ (by decide)]; exact hf
    refine am_goX 3 (show am_sh (am_wI h 154 7 (nI (a + 1))) 154 = some (11, 0) ∧ (((am_wI h 154 7 (nI (a + 1))).1 154 8) ≤ 0 → pz_S 5 (some .int) am_r206 3 Q 118 [(4, .int r), (0, .ref 154), (1, .int (Int32.ofInt 0)), (2, .int x), (3, .int b)] [] (am_wI h 154 7 (nI (a + 1)))) ∧ (¬ (((am_wI h 154 7 (nI (a + 1))).1 154 8) ≤ 0) → pz_S 5 (some .int) am_r206 3 Q 114 [(4, .int r), (0, .ref 154), (1, .int (Int32.ofInt 0)), (2, .int x), (3, .int b)] [] (am_wI h 154 7 (nI (a + 1)))) from ⟨pz_154 hP1, fun _ => ?_, fun hz => absurd (by rw [hf1]; decide) hz⟩)
    exact am_goX 2 (show (∃ ty, (some .int) = some ty ∧ narrow ty (.int (r)) = .int (r)) ∧ (am_wI h 154 7 (nI (a + 1))).2.2.2.2 = 175 ∧ _ from ⟨⟨.int, rfl, rfl⟩, pz_175 hP1, (by rw [hr5]; exact hQ _ _ k5 hk5 (pk_a hP hf hlt))⟩)
  have kg : ∀ h', pz_P N a c h' → ag_fr pz_F h h' → ¬ h'.1 154 8 = 0 → pz_S 5 (some .int) am_r206 3 Q 19 [(0, .ref 154), (1, .int (Int32.ofInt 0)), (2, .int x), (3, .int b)] [] h' := ?_
  rotate_left
  · intro h' q1 q2 q3
    refine am_goX 3 (show am_sh h' 154 = some (11, 0) ∧ ((h'.1 154 8) ≤ 0 → pz_S 5 (some .int) am_r206 3 Q 30 [(0, .ref 154), (1, .int (Int32.ofInt 0)), (2, .int x), (3, .int b)] [] h') ∧ (¬ ((h'.1 154 8) ≤ 0) → pz_S 5 (some .int) am_r206 3 Q 26 [(0, .ref 154), (1, .int (Int32.ofInt 0)), (2, .int x), (3, .int b)] [] h') from ⟨pz_154 q1, fun hz => absurd hz (fun w => q3 (pz_eq0 q1 w)), fun _ => ?_⟩)
    refine am_goX 6 (show 4 < 5 ∧ am_sh h' 154 = some (11, 0) ∧ (¬ (h'.1 154 8) = 0 → pz_S 5 (some .int) am_r206 3 Q 64 [(4, .int (Int32.ofInt (-1))), (0, .ref 154), (1, .int (Int32.ofInt 0)), (2, .int x), (3, .int b)] [] h') ∧ (¬ ¬ (h'.1 154 8) = 0 → pz_S 5 (some .int) am_r206 3 Q 46 [(4, .int (Int32.ofInt (-1))), (0, .ref 154), (1, .int (Int32.ofInt 0)), (2, .int x), (3, .int b)] [] h') from ⟨by decide, pz_154 q1, fun _ => ?_, fun hz => absurd q3 hz⟩)
    refine am_goX 3 (show am_sh h' 154 = some (11, 0) ∧ (¬ (h'.1 154 8) = 0 → pz_S 5 (some .int) am_r206 3 Q 86 [(4, .int (Int32.ofInt (-1))), (0, .ref 154), (1, .int (Int32.ofInt 0)), (2, .int x), (3, .int b)] [] h') ∧ (¬ ¬ (h'.1 154 8) = 0 → pz_S 5 (some .int) am_r206 3 Q 71 [(4, .int (Int32.ofInt (-1))), (0, .ref 154), (1, .int (Int32.ofInt 0)), (2, .int x), (3, .int b)] [] h') from ⟨pz_154 q1, fun _ => ?_, fun hz => absurd q3 hz⟩)
    exact kf h' _ q1 q2 q3
  refine am_goX 3 (show am_sh h 154 = some (11, 0) ∧ (¬ (h.1 154 8) = 0 → pz_S 5 (some .int) am_r206 3 Q 19 [(0, .ref 154), (1, .int (Int32.ofInt 0)), (2, .int x), (3, .int b)] [] h) ∧ (¬ ¬ (h.1 154 8) = 0 → pz_S 5 (some .int) am_r206 3 Q 7 [(0, .ref 154), (1, .int (Int32.ofInt 0)), (2, .int x), (3, .int b)] [] h) from ⟨pz_154 hP, fun hc => ?_, fun hc => ?_⟩)
  · exact kg h hP (ag_fr.refl h) hc
  · refine am_goX 2 (show am_rc h 154 11 ∧ 0 ≤ 8 ∧ h.2.2.2.2 + am_al 198 ≤ 175 ∧ am_call am_cod 3 198 [.ref 154] h (fun vv h' => pz_S 5 (some .int) am_r206 3 Q 11 [(0, .ref 154), (1, .int (Int32.ofInt 0)), (2, .int x), (3, .int b)] (vv.toList ++ []) h') from ⟨pz_rc hP, by decide, pz_lim hP rfl, pz_isn hP (fun hf hlt => ?_) ?_⟩)
    · refine am_goX 1 (show (¬ 1 = 0 → pz_S 5 (some .int) am_r206 3 Q 19 [(0, .ref 154), (1, .int (Int32.ofInt 0)), (2, .int x), (3, .int b)] [] h) ∧ (¬ ¬ 1 = 0 → pz_S 5 (some .int) am_r206 3 Q 14 [(0, .ref 154), (1, .int (Int32.ofInt 0)), (2, .int x), (3, .int b)] [] h) from ⟨fun _ => ?_, fun hz => absurd (by decide) hz⟩)
      refine am_goX 3 (show am_sh h 154 = some (11, 0) ∧ ((h.1 154 8) ≤ 0 → pz_S 5 (some .int) am_r206 3 Q 30 [(0, .ref 154), (1, .int (Int32.ofInt 0)), (2, .int x), (3, .int b)] [] h) ∧ (¬ ((h.1 154 8) ≤ 0) → pz_S 5 (some .int) am_r206 3 Q 26 [(0, .ref 154), (1, .int (Int32.ofInt 0)), (2, .int x), (3, .int b)] [] h) from ⟨pz_154 hP, fun _ => ?_, fun hz => absurd (by rw [hf]; decide) hz⟩)
      refine am_goX 3 (show am_rc h 154 11 ∧ 0 ≤ 8 ∧ h.2.2.2.2 + am_al 200 ≤ 175 ∧ am_call am_cod 3 200 [.ref 154, .int (Int32.ofInt 0)] h (fun vv h' => pz_S 5 (some .int) am_r206 3 Q 35 [(0, .ref 154), (1, .int (Int32.ofInt 0)), (2, .int x), (3, .int b)] (vv.toList ++ []) h') from ⟨pz_rc hP, by decide, pz_lim hP rfl, am_call.up (pz_nm0 hP (fun r hr => ?_)) (by decide)⟩)
      refine am_goX 6 (show 4 < 5 ∧ am_sh h 154 = some (11, 0) ∧ (¬ (h.1 154 8) = 0 → pz_S 5 (some .int) am_r206 3 Q 64 [(4, .int (r - x)), (0, .ref 154), (1, .int (Int32.ofInt 0)), (2, .int x), (3, .int b)] [] h) ∧ (¬ ¬ (h.1 154 8) = 0 → pz_S 5 (some .int) am_r206 3 Q 46 [(4, .int (r - x)), (0, .ref 154), (1, .int (Int32.ofInt 0)), (2, .int x), (3, .int b)] [] h) from ⟨by decide, pz_154 hP, fun hz => absurd hz (fun w => w hf), fun _ => ?_⟩)
      generalize r - x = r1
      refine am_goX 4 (show 0 ≤ 8 ∧ h.2.2.2.2 + am_al 207 ≤ 175 ∧ am_call am_cod 3 207 [.int r1, .int (Int32.ofInt 0), .int (Int32.ofInt 5)] h (fun vv h' => pz_S 5 (some .int) am_r206 3 Q 53 [(4, .int r1), (0, .ref 154), (1, .int (Int32.ofInt 0)), (2, .int x), (3, .int b)] (vv.toList ++ []) h') from ⟨by decide, pz_lim hP rfl, am_call.up (pz_in05 hP (fun k5 hk5 hr5 => ?_) ?_) (by decide)⟩)
      · refine am_goX 1 (show (¬ 1 = 0 → pz_S 5 (some .int) am_r206 3 Q 64 [(4, .int r1), (0, .ref 154), (1, .int (Int32.ofInt 0)), (2, .int x), (3, .int b)] [] h) ∧ (¬ ¬ 1 = 0 → pz_S 5 (some .int) am_r206 3 Q 56 [(4, .int r1), (0, .ref 154), (1, .int (Int32.ofInt 0)), (2, .int x), (3, .int b)] [] h) from ⟨fun _ => ?_, fun hz => absurd (by decide) hz⟩)
        refine am_goX 3 (show am_sh h 154 = some (11, 0) ∧ (¬ (h.1 154 8) = 0 → pz_S 5 (some .int) am_r206 3 Q 86 [(4, .int r1), (0, .ref 154), (1, .int (Int32.ofInt 0)), (2, .int x), (3, .int b)] [] h) ∧ (¬ ¬ (h.1 154 8) = 0 → pz_S 5 (some .int) am_r206 3 Q 71 [(4, .int r1), (0, .ref 154), (1, .int (Int32.ofInt 0)), (2, .int x), (3, .int b)] [] h) from ⟨pz_154 hP, fun hz => absurd hz (fun w => w hf), fun _ => ?_⟩)
        refine am_goX 7 (show (¬ ((b >>> (r1 &&& 31)) &&& (Int32.ofInt 1)) = (Int32.ofInt 1) → pz_S 5 (some .int) am_r206 3 Q 86 [(4, .int r1), (0, .ref 154), (1, .int (Int32.ofInt 0)), (2, .int x), (3, .int b)] [] h) ∧ (¬ ¬ ((b >>> (r1 &&& 31)) &&& (Int32.ofInt 1)) = (Int32.ofInt 1) → pz_S 5 (some .int) am_r206 3 Q 81 [(4, .int r1), (0, .ref 154), (1, .int (Int32.ofInt 0)), (2, .int x), (3, .int b)] [] h) from ⟨fun hc => ?_, fun hc => ?_⟩)
        · exact kok r1 hf hlt k5 hk5 hr5
        · refine am_goX 3 (show am_rc h 154 11 ∧ 0 ≤ 8 ∧ h.2.2.2.2 + am_al 197 ≤ 175 ∧ am_call am_cod 3 197 [.ref 154, .int (Int32.ofInt 3)] h (fun vv h' => pz_S 5 (some .int) am_r206 3 Q 86 [(4, .int r1), (0, .ref 154), (1, .int (Int32.ofInt 0)), (2, .int x), (3, .int b)] (vv.toList ++ []) h') from ⟨pz_rc hP, by decide, pz_lim hP rfl, am_call.up (pz_wrongF hP (by decide) (fun h' q1 q2 q3 => ?_)) (by decide)⟩)
          exact kf h' r1 q1 q2 q3
      · refine am_goX 1 (show (¬ 0 = 0 → pz_S 5 (some .int) am_r206 3 Q 64 [(4, .int r1), (0, .ref 154), (1, .int (Int32.ofInt 0)), (2, .int x), (3, .int b)] [] h) ∧ (¬ ¬ 0 = 0 → pz_S 5 (some .int) am_r206 3 Q 56 [(4, .int r1), (0, .ref 154), (1, .int (Int32.ofInt 0)), (2, .int x), (3, .int b)] [] h) from ⟨fun hz => absurd hz (fun w => w rfl), fun _ => ?_⟩)
        refine am_goX 3 (show am_rc h 154 11 ∧ 0 ≤ 8 ∧ h.2.2.2.2 + am_al 197 ≤ 175 ∧ am_call am_cod 3 197 [.ref 154, .int (Int32.ofInt 2)] h (fun vv h' => pz_S 5 (some .int) am_r206 3 Q 61 [(4, .int r1), (0, .ref 154), (1, .int (Int32.ofInt 0)), (2, .int x), (3, .int b)] (vv.toList ++ []) h') from ⟨pz_rc hP, by decide, pz_lim hP rfl, am_call.up (pz_wrongF hP (by decide) (fun h' q1 q2 q3 => ?_)) (by decide)⟩)
        exact am_goX 1 (kf h' r1 q1 q2 q3)
    · refine am_goX 1 (show (¬ 0 = 0 → pz_S 5 (some .int) am_r206 3 Q 19 [(0, .ref 154), (1, .int (Int32.ofInt 0)), (2, .int x), (3, .int b)] [] h) ∧ (¬ ¬ 0 = 0 → pz_S 5 (some .int) am_r206 3 Q 14 [(0, .ref 154), (1, .int (Int32.ofInt 0)), (2, .int x), (3, .int b)] [] h) from ⟨fun hz => absurd hz (fun w => w rfl), fun _ => ?_⟩)
      refine am_goX 3 (show am_rc h 154 11 ∧ 0 ≤ 8 ∧ h.2.2.2.2 + am_al 197 ≤ 175 ∧ am_call am_cod 3 197 [.ref 154, .int (Int32.ofInt 1)] h (fun vv h' => pz_S 5 (some .int) am_r206 3 Q 19 [(0, .ref 154), (1, .int (Int32.ofInt 0)), (2, .int x), (3, .int b)] (vv.toList ++ []) h') from ⟨pz_rc hP, by decide, pz_lim hP rfl, am_call.up (pz_wrongF hP (by decide) (fun h' q1 q2 q3 => ?_)) (by decide)⟩)
      exact kg h' q1 q2 q3
end
section
/-! BETWEEN TWO LINES OF A CANTON -/
def pz_Mc : ag_M := [(154, 7, 8), (154, 13, 13), (154, 19, 20), (160, 40, 79), (161, 1100, 2199), (162, 1100, 2199), (164, 0, 10), (166, 0, 10)]
/-- no law yet, or a law laid -/
def plg (c : Nat) (h : am_H) : Prop := (h.1 160 43 = -1 ∧ c = 0 ∧ (h.1 154 20 = 0 ∨ h.1 154 20 = 1)) ∨ ((h.1 154 20 = 2 ∨ h.1 154 20 = 3) ∧ xf_P 1 0 h)
def pz_sup (o k : Nat) : Prop := (o = 160 ∧ k = 43) ∨ (o = 154 ∧ (k = 20 ∨ k = 13)) ∨ o = 161 ∨ o = 162
theorem plg_same {c : Nat} {h h' : am_H} (e : ∀ o k, pz_sup o k → h'.1 o k = h.1 o k) (q : plg c h) : plg c h' := by
  have e1 := e 160 43 (Or.inl ⟨rfl, rfl⟩)
  have e2 := e 154 20 (Or.inr (Or.inl ⟨rfl, Or.inl rfl⟩))
  unfold plg at q ⊢
  rw [e1, e2]
  rcases q with q | ⟨q1, q2⟩
  · exact Or.inl q
  · refine Or.inr ⟨q1, xf_keep (fun s hs j j1 j2 => ?_) q2⟩
    have hs : s ∈ ([(161, 1100, 2199), (162, 1100, 2199), (154, 13, 13), (160, 43, 43)] : ag_M) := hs
    simp only [List.mem_cons, List.not_mem_nil, or_false] at hs
    rcases hs with rfl | rfl | rfl | rfl
    · exact e 161 j (Or.inr (Or.inr (Or.inl rfl)))
    · exact e 162 j (Or.inr (Or.inr (Or.inr rfl)))
    · have j1 : 13 ≤ j := j1
      have j2 : j ≤ 13 := j2
      have : j = 13 := by omega
      subst this
      exact e 154 13 (Or.inr (Or.inl ⟨rfl, Or.inr rfl⟩))
    · have j1 : 43 ≤ j := j1
      have j2 : j ≤ 43 := j2
      have : j = 43 := by omega
      subst this
      exact e1
def ln (N a c : Nat) (h0 : am_H) (p e z : Nat) (h : am_H) : Prop := pz_P N a c h ∧ ag_fr pz_Mc h0 h ∧ h.1 154 8 = 0 ∧ h.1 160 40 = nI p ∧ h.1 160 41 = nI e ∧ h.1 154 19 = nI z ∧ plg c h
/-- a fault -/
def fl (N : Nat) (h0 h : am_H) : Prop := (∃ a c, pz_P N a c h) ∧ ag_fr pz_Mc h0 h ∧ ¬ h.1 154 8 = 0
variable {N a c p e z : Nat} {h h0 : am_H}
theorem pz_trc {h1 h2 : am_H} (f1 : ag_fr pz_Mc h h1) (f2 : ag_fr pz_Mc h1 h2) : ag_fr pz_Mc h h2 := f1.trans (by decide +kernel) f2
theorem pz_Fc {h1 h2 : am_H} (f1 : ag_fr pz_Mc h h1) (f2 : ag_fr pz_F h1 h2) : ag_fr pz_Mc h h2 := f1.trans (by decide +kernel) f2
theorem pz_Fs {h' : am_H} (f : ag_fr pz_F h h') : ∀ o k, ¬ (o = 154 ∧ (k = 7 ∨ k = 8)) → h'.1 o k = h.1 o k := by
  intro o k hn
  refine (f.2 o k ?_).1
  unfold ag_atM pz_F
  simp only [List.any, Bool.or_false]
  cases hb : Nat.beq 154 o && (Nat.ble 7 k && Nat.ble k 8) with
  | false => rfl
  | true =>
    rw [Bool.and_eq_true, Bool.and_eq_true] at hb
    have b1 := Nat.eq_of_beq_eq_true hb.1
    have b2 := Nat.le_of_ble_eq_true hb.2.1
    have b3 := Nat.le_of_ble_eq_true hb.2.2
    exact absurd ⟨b1.symm, by omega⟩ hn
/-- behind a taker -/
theorem ln_F {a' : Nat} {h' : am_H} (q : ln N a c h0 p e z h) (f : pq N a c h a' h') : fl N h0 h' ∨ ln N a' c h0 p e z h' := by
  obtain ⟨q1, q2, q3, q4, q5, q6, q7⟩ := q
  obtain ⟨f1, f2, f3, f4⟩ := f
  by_cases hf : h'.1 154 8 = 0
  · refine Or.inr ⟨f1, pz_Fc q2 f2, hf, ?_, ?_, ?_, plg_same (fun o k hs => pz_Fs f2 o k ?_) q7⟩
    · rw [pz_Fs f2 160 40 (by omega)]
      exact q4
    · rw [pz_Fs f2 160 41 (by omega)]
      exact q5
    · rw [pz_Fs f2 154 19 (by omega)]
      exact q6
    · unfold pz_sup at hs
      omega
  · exact Or.inl ⟨⟨a', c, f1⟩, pz_Fc q2 f2, hf⟩
theorem fl_F {a' : Nat} {h' : am_H} (q : ag_fr pz_Mc h0 h) (hf : ¬ h.1 154 8 = 0) (f : pq N a c h a' h') : fl N h0 h' := ⟨⟨a', c, f.1⟩, pz_Fc q f.2.1, fun w => hf (f.2.2.2 w)⟩
/-- an int is written that no other part speaks of -/
theorem pz_w {o k : Nat} {v : Int32} (hP : pz_P N a c h) (h7 : ¬ (o = 154 ∧ (k = 7 ∨ k = 13))) (hkp : ¬ ag_kp o k) (hv : ∀ s ∈ ag_sg o, ag_seg s k v) : pz_P N a c (am_wI h o k v) := by
  obtain ⟨p1, p2, p3, p4, p5, p6, p7⟩ := hP
  refine ⟨pz_wW p1 (fun w => hkp (Or.inl w)) hv, pz_wX p2 hkp, p3, ?_, p5, ?_, p7⟩
  · rw [em_wn h _ (by omega)]
    exact p4
  · rw [em_wn h _ (by omega)]
    exact p6
theorem pz_wl {o k : Nat} {v : Int64} (hP : pz_P N a c h) (ho : ¬ o = 154) : pz_P N a c (am_wL h o k v) := by
  obtain ⟨⟨w1, ⟨g1, g2, g3⟩, w3⟩, p2, p3, p4, p5, p6, p7⟩ := hP
  refine ⟨⟨w1, ⟨g1, fun o' k' => ?_, g3⟩, w3⟩, p2, p3, p4, p5, p6, p7⟩
  by_cases z : o' = o
  · subst z
    rw [ag_DD_lg o' k' ho]
    exact ag_i64r _
  · have e9 : (am_wL h o k v).2.1 o' k' = h.2.1 o' k' := if_neg (fun w => z w.1)
    rw [e9]
    exact g2 o' k'
theorem pz_frL {o k : Nat} {v : Int64} {M : ag_M} (hm : ag_atM M o k = true) : ag_fr M h (am_wL h o k v) := by
  refine ⟨rfl, fun o' k' hk => ⟨rfl, ?_, rfl⟩⟩
  show (if o' = o ∧ k' = k then v else h.2.1 o' k') = h.2.1 o' k'
  rw [if_neg (fun z => by rw [z.1, z.2, hm] at hk; cases hk)]
theorem ln_w {o k : Nat} {v : Int32} (q : ln N a c h0 p e z h) (hm : ag_atM pz_Mc o k = true) (h1 : ¬ o = 154 ∧ ¬ o = 156 ∧ ¬ o = 161 ∧ ¬ o = 162) (h2 : o = 160 → k = 42 ∨ 44 ≤ k) (hv : ∀ s ∈ ag_sg o, ag_seg s k v) : ln N a c h0 p e z (am_wI h o k v) := by
  obtain ⟨q1, q2, q3, q4, q5, q6, q7⟩ := q
  refine ⟨pz_w q1 (by omega) (by unfold ag_kp; omega) hv, pz_trc q2 (pz_fr hm), ?_, ?_, ?_, ?_, plg_same (fun o' k' hs => em_wn h _ ?_) q7⟩
  · rw [em_wn h _ (by omega)]
    exact q3
  · rw [em_wn h _ (by omega)]
    exact q4
  · rw [em_wn h _ (by omega)]
    exact q5
  · rw [em_wn h _ (by omega)]
    exact q6
  · unfold pz_sup at hs
    omega
theorem ln_wl {k : Nat} {v : Int64} (q : ln N a c h0 p e z h) (hm : ag_atM pz_Mc 164 k = true) : ln N a c h0 p e z (am_wL h 164 k v) := by
  obtain ⟨q1, q2, q3, q4, q5, q6, q7⟩ := q
  exact ⟨pz_wl q1 (by decide), pz_trc q2 (pz_frL hm), q3, q4, q5, q6, plg_same (fun _ _ _ => rfl) q7⟩
theorem ln_at {a' : Nat} (q : ln N a c h0 p e z h) (ha : a' ≤ N) : ln N a' c h0 p e z (am_wI h 154 7 (nI a')) := by
  obtain ⟨q1, q2, q3, q4, q5, q6, q7⟩ := q
  refine ⟨pz_at q1 ha, pz_trc q2 (pz_fr rfl), ?_, ?_, ?_, ?_, plg_same (fun o' k' hs => em_wn h _ ?_) q7⟩
  · rw [em_wn h _ (by omega)]
    exact q3
  · rw [em_wn h _ (by omega)]
    exact q4
  · rw [em_wn h _ (by omega)]
    exact q5
  · rw [em_wn h _ (by omega)]
    exact q6
  · unfold pz_sup at hs
    omega
theorem pz_sg19 : (ag_sg 154).all (fun s => !(Nat.ble s.1 19 && Nat.ble 19 s.2.1) || (decide (s.2.2.2.2.1 ≤ 0) && decide (11 ≤ s.2.2.2.2.2))) = true := by decide +kernel
theorem pz_sg40 : (ag_sg 160).all (fun s => !(Nat.ble s.1 40 && Nat.ble 40 s.2.1) || (decide (s.2.2.2.2.1 ≤ 0) && decide (6 ≤ s.2.2.2.2.2))) = true := by decide +kernel
theorem pz_sg41 : (ag_sg 160).all (fun s => !(Nat.ble s.1 41 && Nat.ble 41 s.2.1) || (decide (s.2.2.2.2.1 ≤ 0) && decide (5 ≤ s.2.2.2.2.2))) = true := by decide +kernel
theorem pz_sg166 : (ag_sg 166).all (fun s => decide (s.2.2.2.2.1 ≤ 0) && decide (24 ≤ s.2.2.2.2.2)) = true := by decide +kernel
theorem pz_s166 {k v : Nat} (hv : v ≤ 24) : ∀ s ∈ ag_sg 166, ag_seg s k (nI v) := by
  intro s hs _ _ _
  have w := List.all_eq_true.mp pz_sg166 s hs
  rw [Bool.and_eq_true, decide_eq_true_eq, decide_eq_true_eq] at w
  rw [nI_toInt (by omega)]
  omega
theorem pz_sg160 : (ag_sg 160).all (fun s => Nat.beq s.1 s.2.1 && (Nat.ble s.1 3 || (Nat.beq s.1 40 || (Nat.beq s.1 41 || Nat.beq s.1 43)))) = true := by decide +kernel
theorem pz_s160 {k : Nat} {v : Int32} (hk : k = 42 ∨ 44 ≤ k) : ∀ s ∈ ag_sg 160, ag_seg s k v := by
  intro s hs k1 k2 _
  have w := List.all_eq_true.mp pz_sg160 s hs
  rw [Bool.and_eq_true, Bool.or_eq_true, Bool.or_eq_true, Bool.or_eq_true] at w
  have w1 := Nat.eq_of_beq_eq_true w.1
  exfalso
  rcases w.2 with z | z | z | z
  · have := Nat.le_of_ble_eq_true z
    omega
  · have := Nat.eq_of_beq_eq_true z
    omega
  · have := Nat.eq_of_beq_eq_true z
    omega
  · have := Nat.eq_of_beq_eq_true z
    omega
theorem ln_19 (q : ln N a c h0 p e z h) (hz : z + 1 ≤ 11) : ln N a c h0 p e (z + 1) (am_wI h 154 19 (nI (z + 1))) := by
  obtain ⟨q1, q2, q3, q4, q5, q6, q7⟩ := q
  have ht : (nI (z + 1)).toInt = (z + 1 : Nat) := nI_toInt (by omega)
  refine ⟨pz_w q1 (by omega) (by unfold ag_kp; omega) (pz_sgv pz_sg19 (by omega) (by omega)), pz_trc q2 (pz_fr rfl), ?_, ?_, ?_, em_we h 154 19 _, plg_same (fun o' k' hs => em_wn h _ ?_) q7⟩
  · rw [em_wn h _ (by omega)]
    exact q3
  · rw [em_wn h _ (by omega)]
    exact q4
  · rw [em_wn h _ (by omega)]
    exact q5
  · unfold pz_sup at hs
    omega
theorem ln_40 (q : ln N a c h0 p e z h) (hz : p + 1 ≤ 6) : ln N a c h0 (p + 1) e z (am_wI h 160 40 (nI (p + 1))) := by
  obtain ⟨q1, q2, q3, q4, q5, q6, q7⟩ := q
  have ht : (nI (p + 1)).toInt = (p + 1 : Nat) := nI_toInt (by omega)
  refine ⟨pz_w q1 (by omega) (by unfold ag_kp; omega) (pz_sgv pz_sg40 (by omega) (by omega)), pz_trc q2 (pz_fr rfl), ?_, em_we h 160 40 _, ?_, ?_, plg_same (fun o' k' hs => em_wn h _ ?_) q7⟩
  · rw [em_wn h _ (by omega)]
    exact q3
  · rw [em_wn h _ (by omega)]
    exact q5
  · rw [em_wn h _ (by omega)]
    exact q6
  · unfold pz_sup at hs
    omega
theorem ln_41 (q : ln N a c h0 p e z h) (hz : e + 1 ≤ 5) : ln N a c h0 p (e + 1) z (am_wI h 160 41 (nI (e + 1))) := by
  obtain ⟨q1, q2, q3, q4, q5, q6, q7⟩ := q
  have ht : (nI (e + 1)).toInt = (e + 1 : Nat) := nI_toInt (by omega)
  refine ⟨pz_w q1 (by omega) (by unfold ag_kp; omega) (pz_sgv pz_sg41 (by omega) (by omega)), pz_trc q2 (pz_fr rfl), ?_, ?_, em_we h 160 41 _, ?_, plg_same (fun o' k' hs => em_wn h _ ?_) q7⟩
  · rw [em_wn h _ (by omega)]
    exact q3
  · rw [em_wn h _ (by omega)]
    exact q4
  · rw [em_wn h _ (by omega)]
    exact q6
  · unfold pz_sup at hs
    omega
theorem pz_Mc10 {o k : Nat} (ho : o = 164 ∨ o = 166) (hk : k ≤ 10) : ag_atM pz_Mc o k = true := by
  have e1 : Nat.ble k 10 = true := Nat.ble_eq_true_of_le hk
  unfold ag_atM pz_Mc
  rcases ho with rfl | rfl
  · simp [List.any, e1]
  · simp [List.any, e1]
theorem pz_Mc160 {k : Nat} (h1 : 40 ≤ k) (h2 : k ≤ 79) : ag_atM pz_Mc 160 k = true := by
  have e1 : Nat.ble 40 k = true := Nat.ble_eq_true_of_le h1
  have e2 : Nat.ble k 79 = true := Nat.ble_eq_true_of_le h2
  unfold ag_atM pz_Mc
  simp [List.any, e1, e2]
theorem pz_rname0 {Q : am_Q} (hl : ln N a c h0 p e (p + e) h) (hp6 : p ≤ 6) (he5 : e ≤ 5) (hlt : a < N) (hQ : ∀ a' h', a ≤ a' → fl N h0 h' ∨ (ln N a' c h0 (p + 1) (e) (p + 1 + (e)) h' ∧ p + 1 ≤ 6) → Q none h') : am_call am_cod 4 196 [.ref 154, .int (Int32.ofInt 0), .int (Int8.ofInt 6).toInt32, .int (Int32.ofInt 0)] h Q := by
  have hP := hl.1
  refine pz_call (n := 196) (nL := 5) (rt := none) (rows := am_r196) (d := 3) (by decide +kernel) (by decide +kernel) rfl (by funext pc; rfl) (pz_175 hP) (by exact Nat.le_of_ble_eq_true rfl) ?_
  refine am_goX 2 (show am_sh h 154 = some (11, 0) ∧ pz_S 5 none am_r196 3 Q 4 [(0, .ref 154), (1, .int (Int32.ofInt 0)), (2, .int (Int8.ofInt 6).toInt32), (3, .int (Int32.ofInt 0))] [am_rf (h.2.2.1 154 10)] h from ⟨pz_154 hP, ?_⟩)
  rw [pz_r10 hP]
  refine am_goX 4 (show ∃ jj nn : Nat, am_sh h 160 = some (13, nn) ∧ jj < nn ∧ ((Int8.ofInt 40).toInt32 + (Int32.ofInt 0)) = nI jj ∧ pz_S 5 none am_r196 3 Q 9 [(0, .ref 154), (1, .int (Int32.ofInt 0)), (2, .int (Int8.ofInt 6).toInt32), (3, .int (Int32.ofInt 0))] [.int (h.1 160 jj)] h from ⟨40, 80, pz_160 hP, by decide, by decide, ?_⟩)
  rw [hl.2.2.2.1]
  refine am_goX 4 (show 4 < 5 ∧ (¬ (nI p) = (Int8.ofInt 6).toInt32 → pz_S 5 none am_r196 3 Q 23 [(4, .int (nI p)), (0, .ref 154), (1, .int (Int32.ofInt 0)), (2, .int (Int8.ofInt 6).toInt32), (3, .int (Int32.ofInt 0))] [] h) ∧ (¬ ¬ (nI p) = (Int8.ofInt 6).toInt32 → pz_S 5 none am_r196 3 Q 17 [(4, .int (nI p)), (0, .ref 154), (1, .int (Int32.ofInt 0)), (2, .int (Int8.ofInt 6).toInt32), (3, .int (Int32.ofInt 0))] [] h) from ⟨by decide, fun hc => ?_, fun hc => ?_⟩)
  rotate_left
  · refine am_goX 3 (show am_rc h 154 11 ∧ 0 ≤ 8 ∧ h.2.2.2.2 + am_al 197 ≤ 175 ∧ am_call am_cod 3 197 [.ref 154, .int (Int32.ofInt 5)] h (fun vv h' => pz_S 5 none am_r196 3 Q 22 [(4, .int (nI p)), (0, .ref 154), (1, .int (Int32.ofInt 0)), (2, .int (Int8.ofInt 6).toInt32), (3, .int (Int32.ofInt 0))] (vv.toList ++ []) h') from ⟨pz_rc hP, by decide, pz_lim hP rfl, am_call.up (pz_wrongF hP (by decide) (fun h' q1 q2 q3 => ?_)) (by decide)⟩)
    exact am_goX 1 (show (none : Option FieldType) = none ∧ h'.2.2.2.2 = 175 ∧ _ from ⟨rfl, pz_175 q1, hQ a h' (Nat.le_refl _) (Or.inl ⟨⟨a, c, q1⟩, pz_Fc hl.2.1 q2, q3⟩)⟩)
  have hs1 : p + 1 ≤ 6 := by
    rcases Nat.lt_or_ge p 6 with w | w
    · omega
    · exact absurd (by rw [show p = 6 by omega]; rfl) hc
  clear hc
  refine am_goX 6 (show (Value.ref 154).category = 1 ∧ am_sh h 154 = some (11, 0) ∧ am_sh h 154 = some (11, 0) ∧ narrow (am_fty 11 7) (.int (((h.1 154 7) + (Int32.ofInt 1)))) = .int (((h.1 154 7) + (Int32.ofInt 1))) ∧ fits (am_fty 11 7) (.int (((h.1 154 7) + (Int32.ofInt 1)))) = true ∧ pz_S 5 none am_r196 3 Q 33 [(4, .int (nI p)), (0, .ref 154), (1, .int (Int32.ofInt 0)), (2, .int (Int8.ofInt 6).toInt32), (3, .int (Int32.ofInt 0))] [] (am_wI h 154 7 (((h.1 154 7) + (Int32.ofInt 1)))) from ⟨rfl, pz_154 hP, pz_154 hP, rfl, rfl, ?_⟩)
  rw [hP.2.2.2.1, xw_i1]
  have l1 := ln_at (a' := a + 1) hl (by omega)
  generalize am_wI h 154 7 (nI (a + 1)) = h1 at l1 ⊢
  have hP1 := l1.1
  have kf : ∀ h', pz_P N (a + 1) c h' → ag_fr pz_F h1 h' → ¬ h'.1 154 8 = 0 → pz_S 5 none am_r196 3 Q 61 [(4, .int (nI p)), (0, .ref 154), (1, .int (Int32.ofInt 0)), (2, .int (Int8.ofInt 6).toInt32), (3, .int (Int32.ofInt 0))] [] h' := ?_
  rotate_left
  · intro h' q1 q2 q3
    refine am_goX 3 (show am_sh h' 154 = some (11, 0) ∧ (¬ (h'.1 154 8) = 0 → pz_S 5 none am_r196 3 Q 132 [(4, .int (nI p)), (0, .ref 154), (1, .int (Int32.ofInt 0)), (2, .int (Int8.ofInt 6).toInt32), (3, .int (Int32.ofInt 0))] [] h') ∧ (¬ ¬ (h'.1 154 8) = 0 → pz_S 5 none am_r196 3 Q 68 [(4, .int (nI p)), (0, .ref 154), (1, .int (Int32.ofInt 0)), (2, .int (Int8.ofInt 6).toInt32), (3, .int (Int32.ofInt 0))] [] h') from ⟨pz_154 q1, fun _ => ?_, fun hz => absurd q3 hz⟩)
    exact am_goX 1 (show (none : Option FieldType) = none ∧ h'.2.2.2.2 = 175 ∧ _ from ⟨rfl, pz_175 q1, hQ (a + 1) h' (by omega) (Or.inl ⟨⟨_, _, q1⟩, pz_Fc l1.2.1 q2, q3⟩)⟩)
  refine am_goX 2 (show am_rc h1 154 11 ∧ 0 ≤ 8 ∧ h1.2.2.2.2 + am_al 198 ≤ 175 ∧ am_call am_cod 3 198 [.ref 154] h1 (fun vv h' => pz_S 5 none am_r196 3 Q 37 [(4, .int (nI p)), (0, .ref 154), (1, .int (Int32.ofInt 0)), (2, .int (Int8.ofInt 6).toInt32), (3, .int (Int32.ofInt 0))] (vv.toList ++ []) h') from ⟨pz_rc hP1, by decide, pz_lim hP1 rfl, pz_isn hP1 (fun hf1 hlt1 => ?_) ?_⟩)
  rotate_left
  · refine am_goX 1 (show (¬ 0 = 0 → pz_S 5 none am_r196 3 Q 48 [(4, .int (nI p)), (0, .ref 154), (1, .int (Int32.ofInt 0)), (2, .int (Int8.ofInt 6).toInt32), (3, .int (Int32.ofInt 0))] [] h1) ∧ (¬ ¬ 0 = 0 → pz_S 5 none am_r196 3 Q 40 [(4, .int (nI p)), (0, .ref 154), (1, .int (Int32.ofInt 0)), (2, .int (Int8.ofInt 6).toInt32), (3, .int (Int32.ofInt 0))] [] h1) from ⟨fun hz => absurd hz (fun w => w rfl), fun _ => ?_⟩)
    refine am_goX 3 (show am_rc h1 154 11 ∧ 0 ≤ 8 ∧ h1.2.2.2.2 + am_al 197 ≤ 175 ∧ am_call am_cod 3 197 [.ref 154, .int (Int32.ofInt 1)] h1 (fun vv h' => pz_S 5 none am_r196 3 Q 45 [(4, .int (nI p)), (0, .ref 154), (1, .int (Int32.ofInt 0)), (2, .int (Int8.ofInt 6).toInt32), (3, .int (Int32.ofInt 0))] (vv.toList ++ []) h') from ⟨pz_rc hP1, by decide, pz_lim hP1 rfl, am_call.up (pz_wrongF hP1 (by decide) (fun h' q1 q2 q3 => ?_)) (by decide)⟩)
    exact am_goX 1 (kf h' q1 q2 q3)
  refine am_goX 1 (show (¬ 1 = 0 → pz_S 5 none am_r196 3 Q 48 [(4, .int (nI p)), (0, .ref 154), (1, .int (Int32.ofInt 0)), (2, .int (Int8.ofInt 6).toInt32), (3, .int (Int32.ofInt 0))] [] h1) ∧ (¬ ¬ 1 = 0 → pz_S 5 none am_r196 3 Q 40 [(4, .int (nI p)), (0, .ref 154), (1, .int (Int32.ofInt 0)), (2, .int (Int8.ofInt 6).toInt32), (3, .int (Int32.ofInt 0))] [] h1) from ⟨fun _ => ?_, fun hz => absurd (by decide) hz⟩)
  refine am_goX 3 (show am_rc h1 154 11 ∧ 0 ≤ 8 ∧ h1.2.2.2.2 + am_al 200 ≤ 175 ∧ am_call am_cod 3 200 [.ref 154, .int (Int32.ofInt 1)] h1 (fun vv h' => pz_S 5 none am_r196 3 Q 53 [(4, .int (nI p)), (0, .ref 154), (1, .int (Int32.ofInt 0)), (2, .int (Int8.ofInt 6).toInt32), (3, .int (Int32.ofInt 0))] (vv.toList ++ []) h') from ⟨pz_rc hP1, by decide, pz_lim hP1 rfl, am_call.up (pz_nm1 hP1 (fun r hr => ?_)) (by decide)⟩)
  refine am_goX 1 (show (r < 0 → pz_S 5 none am_r196 3 Q 61 [(4, .int (nI p)), (0, .ref 154), (1, .int (Int32.ofInt 0)), (2, .int (Int8.ofInt 6).toInt32), (3, .int (Int32.ofInt 0))] [] h1) ∧ (¬ (r < 0) → pz_S 5 none am_r196 3 Q 56 [(4, .int (nI p)), (0, .ref 154), (1, .int (Int32.ofInt 0)), (2, .int (Int8.ofInt 6).toInt32), (3, .int (Int32.ofInt 0))] [] h1) from ⟨fun hc => ?_, fun hc => ?_⟩)
  rotate_left
  · refine am_goX 3 (show am_rc h1 154 11 ∧ 0 ≤ 8 ∧ h1.2.2.2.2 + am_al 197 ≤ 175 ∧ am_call am_cod 3 197 [.ref 154, .int (Int32.ofInt 3)] h1 (fun vv h' => pz_S 5 none am_r196 3 Q 61 [(4, .int (nI p)), (0, .ref 154), (1, .int (Int32.ofInt 0)), (2, .int (Int8.ofInt 6).toInt32), (3, .int (Int32.ofInt 0))] (vv.toList ++ []) h') from ⟨pz_rc hP1, by decide, pz_lim hP1 rfl, am_call.up (pz_wrongF hP1 (by decide) (fun h' q1 q2 q3 => ?_)) (by decide)⟩)
    exact kf h' q1 q2 q3
  clear hc
  refine am_goX 3 (show am_sh h1 154 = some (11, 0) ∧ (¬ (h1.1 154 8) = 0 → pz_S 5 none am_r196 3 Q 132 [(4, .int (nI p)), (0, .ref 154), (1, .int (Int32.ofInt 0)), (2, .int (Int8.ofInt 6).toInt32), (3, .int (Int32.ofInt 0))] [] h1) ∧ (¬ ¬ (h1.1 154 8) = 0 → pz_S 5 none am_r196 3 Q 68 [(4, .int (nI p)), (0, .ref 154), (1, .int (Int32.ofInt 0)), (2, .int (Int8.ofInt 6).toInt32), (3, .int (Int32.ofInt 0))] [] h1) from ⟨pz_154 hP1, fun hz => absurd hz (fun w => w hf1), fun _ => ?_⟩)
  refine am_goX 2 (show am_sh h1 154 = some (11, 0) ∧ pz_S 5 none am_r196 3 Q 72 [(4, .int (nI p)), (0, .ref 154), (1, .int (Int32.ofInt 0)), (2, .int (Int8.ofInt 6).toInt32), (3, .int (Int32.ofInt 0))] [am_rf (h1.2.2.1 154 15)] h1 from ⟨pz_154 hP1, ?_⟩)
  rw [pz_r15 hP1]
  refine am_goX 4 (show am_sh h1 154 = some (11, 0) ∧ am_sh h1 154 = some (11, 0) ∧ pz_S 5 none am_r196 3 Q 80 [(4, .int (nI p)), (0, .ref 154), (1, .int (Int32.ofInt 0)), (2, .int (Int8.ofInt 6).toInt32), (3, .int (Int32.ofInt 0))] [am_rf (h1.2.2.1 154 6), .int (h1.1 154 19), .ref 164] h1 from ⟨pz_154 hP1, pz_154 hP1, ?_⟩)
  rw [pz_r6 hP1]
  refine am_goX 3 (show am_sh h1 154 = some (11, 0) ∧ ∃ jj nn : Nat, am_sh h1 158 = some (14, nn) ∧ jj < nn ∧ (h1.1 154 7) = nI jj ∧ pz_S 5 none am_r196 3 Q 85 [(4, .int (nI p)), (0, .ref 154), (1, .int (Int32.ofInt 0)), (2, .int (Int8.ofInt 6).toInt32), (3, .int (Int32.ofInt 0))] [.long (h1.2.1 158 jj), .int (h1.1 154 19), .ref 164] h1 from ⟨pz_154 hP1, (a + 1), 1002, pz_158 hP1, pz_al hP1, hP1.2.2.2.1, ?_⟩)
  refine am_goX 1 (show ∃ jj nn : Nat, am_so h1 164 = some (14, nn) ∧ jj < nn ∧ (h1.1 154 19) = nI jj ∧ pz_S 5 none am_r196 3 Q 86 [(4, .int (nI p)), (0, .ref 154), (1, .int (Int32.ofInt 0)), (2, .int (Int8.ofInt 6).toInt32), (3, .int (Int32.ofInt 0))] [] (am_wL h1 164 jj ((h1.2.1 158 (a + 1)))) from ⟨(p + e), 11, pz_w164 hP1, by omega, l1.2.2.2.2.2.1, ?_⟩)
  have l2 := ln_wl (k := p + e) (v := h1.2.1 158 (a + 1)) l1 (pz_Mc10 (Or.inl rfl) (by omega))
  generalize am_wL h1 164 (p + e) (h1.2.1 158 (a + 1)) = h2 at l2 ⊢
  have hP2 := l2.1
  refine am_goX 2 (show am_sh h2 154 = some (11, 0) ∧ pz_S 5 none am_r196 3 Q 90 [(4, .int (nI p)), (0, .ref 154), (1, .int (Int32.ofInt 0)), (2, .int (Int8.ofInt 6).toInt32), (3, .int (Int32.ofInt 0))] [am_rf (h2.2.2.1 154 17)] h2 from ⟨pz_154 hP2, ?_⟩)
  rw [pz_r17 hP2]
  refine am_goX 6 (show am_sh h2 154 = some (11, 0) ∧ ∃ jj nn : Nat, am_so h2 166 = some (13, nn) ∧ jj < nn ∧ (h2.1 154 19) = nI jj ∧ pz_S 5 none am_r196 3 Q 99 [(4, .int (nI p)), (0, .ref 154), (1, .int (Int32.ofInt 0)), (2, .int (Int8.ofInt 6).toInt32), (3, .int (Int32.ofInt 0))] [] (am_wI h2 166 jj (((Int32.ofInt 0) + (nI p)))) from ⟨pz_154 hP2, (p + e), 11, pz_w166 hP2, by omega, l2.2.2.2.2.2.1, ?_⟩)
  rw [show (Int32.ofInt 0 + nI p) = nI (0 + p) from nI_add 0 p]
  have l3 := ln_w (o := 166) (k := p + e) (v := nI (0 + p)) l2 (pz_Mc10 (Or.inr rfl) (by omega)) (by decide) (fun w => absurd w (by decide)) (pz_s166 (by omega))
  generalize am_wI h2 166 (p + e) (nI (0 + p)) = h3 at l3 ⊢
  have hP3 := l3.1
  refine am_goX 6 (show (Value.ref 154).category = 1 ∧ am_sh h3 154 = some (11, 0) ∧ am_sh h3 154 = some (11, 0) ∧ narrow (am_fty 11 19) (.int (((h3.1 154 19) + (Int32.ofInt 1)))) = .int (((h3.1 154 19) + (Int32.ofInt 1))) ∧ fits (am_fty 11 19) (.int (((h3.1 154 19) + (Int32.ofInt 1)))) = true ∧ pz_S 5 none am_r196 3 Q 109 [(4, .int (nI p)), (0, .ref 154), (1, .int (Int32.ofInt 0)), (2, .int (Int8.ofInt 6).toInt32), (3, .int (Int32.ofInt 0))] [] (am_wI h3 154 19 (((h3.1 154 19) + (Int32.ofInt 1)))) from ⟨rfl, pz_154 hP3, pz_154 hP3, rfl, rfl, ?_⟩)
  rw [l3.2.2.2.2.2.1, xw_i1]
  have l4 := ln_19 l3 (by omega)
  generalize am_wI h3 154 19 (nI (p + e + 1)) = h4 at l4 ⊢
  have hP4 := l4.1
  refine am_goX 6 (show (Value.ref 154).category = 1 ∧ am_sh h4 154 = some (11, 0) ∧ am_sh h4 154 = some (11, 0) ∧ narrow (am_fty 11 7) (.int (((h4.1 154 7) + (Int32.ofInt 1)))) = .int (((h4.1 154 7) + (Int32.ofInt 1))) ∧ fits (am_fty 11 7) (.int (((h4.1 154 7) + (Int32.ofInt 1)))) = true ∧ pz_S 5 none am_r196 3 Q 119 [(4, .int (nI p)), (0, .ref 154), (1, .int (Int32.ofInt 0)), (2, .int (Int8.ofInt 6).toInt32), (3, .int (Int32.ofInt 0))] [] (am_wI h4 154 7 (((h4.1 154 7) + (Int32.ofInt 1)))) from ⟨rfl, pz_154 hP4, pz_154 hP4, rfl, rfl, ?_⟩)
  rw [hP4.2.2.2.1, xw_i1]
  have l5 := ln_at (a' := a + 1 + 1) l4 (by omega)
  generalize am_wI h4 154 7 (nI (a + 1 + 1)) = h5 at l5 ⊢
  have hP5 := l5.1
  refine am_goX 2 (show am_sh h5 154 = some (11, 0) ∧ pz_S 5 none am_r196 3 Q 123 [(4, .int (nI p)), (0, .ref 154), (1, .int (Int32.ofInt 0)), (2, .int (Int8.ofInt 6).toInt32), (3, .int (Int32.ofInt 0))] [am_rf (h5.2.2.1 154 10)] h5 from ⟨pz_154 hP5, ?_⟩)
  rw [pz_r10 hP5]
  refine am_goX 5 (show (Value.int ((Int8.ofInt 40).toInt32 + (Int32.ofInt 0))).category = 1 ∧ (Value.ref 160).category = 1 ∧ ∃ jj nn : Nat, am_sh h5 160 = some (13, nn) ∧ jj < nn ∧ ((Int8.ofInt 40).toInt32 + (Int32.ofInt 0)) = nI jj ∧ pz_S 5 none am_r196 3 Q 129 [(4, .int (nI p)), (0, .ref 154), (1, .int (Int32.ofInt 0)), (2, .int (Int8.ofInt 6).toInt32), (3, .int (Int32.ofInt 0))] [.int (h5.1 160 jj), .int ((Int8.ofInt 40).toInt32 + (Int32.ofInt 0)), .ref 160] h5 from ⟨rfl, rfl, 40, 80, pz_160 hP5, by decide, by decide, ?_⟩)
  rw [l5.2.2.2.1]
  refine am_goX 3 (show ∃ jj nn : Nat, am_so h5 160 = some (13, nn) ∧ jj < nn ∧ ((Int8.ofInt 40).toInt32 + (Int32.ofInt 0)) = nI jj ∧ pz_S 5 none am_r196 3 Q 132 [(4, .int (nI p)), (0, .ref 154), (1, .int (Int32.ofInt 0)), (2, .int (Int8.ofInt 6).toInt32), (3, .int (Int32.ofInt 0))] [] (am_wI h5 160 jj (((nI p) + (Int32.ofInt 1)))) from ⟨40, 80, pz_w160 hP5, by decide, by decide, ?_⟩)
  rw [xw_i1]
  have l6 := ln_40 l5 (by omega)
  generalize am_wI h5 160 40 (nI (p + 1)) = h6 at l6 ⊢
  have hP6 := l6.1
  exact am_goX 1 (show (none : Option FieldType) = none ∧ h6.2.2.2.2 = 175 ∧ _ from ⟨rfl, pz_175 hP6, hQ (a + 1 + 1) h6 (by omega) (Or.inr ⟨by rw [show p + 1 + (e) = p + e + 1 by omega]; exact l6, hs1⟩)⟩)
theorem pz_rname1 {Q : am_Q} (hl : ln N a c h0 p e (p + e) h) (hp6 : p ≤ 6) (he5 : e ≤ 5) (hlt : a < N) (hQ : ∀ a' h', a ≤ a' → fl N h0 h' ∨ (ln N a' c h0 (p) (e + 1) (p + (e + 1)) h' ∧ e + 1 ≤ 5) → Q none h') : am_call am_cod 4 196 [.ref 154, .int (Int32.ofInt 1), .int (Int32.ofInt 5), .int (Int8.ofInt 20).toInt32] h Q := by
  have hP := hl.1
  refine pz_call (n := 196) (nL := 5) (rt := none) (rows := am_r196) (d := 3) (by decide +kernel) (by decide +kernel) rfl (by funext pc; rfl) (pz_175 hP) (by exact Nat.le_of_ble_eq_true rfl) ?_
  refine am_goX 2 (show am_sh h 154 = some (11, 0) ∧ pz_S 5 none am_r196 3 Q 4 [(0, .ref 154), (1, .int (Int32.ofInt 1)), (2, .int (Int32.ofInt 5)), (3, .int (Int8.ofInt 20).toInt32)] [am_rf (h.2.2.1 154 10)] h from ⟨pz_154 hP, ?_⟩)
  rw [pz_r10 hP]
  refine am_goX 4 (show ∃ jj nn : Nat, am_sh h 160 = some (13, nn) ∧ jj < nn ∧ ((Int8.ofInt 40).toInt32 + (Int32.ofInt 1)) = nI jj ∧ pz_S 5 none am_r196 3 Q 9 [(0, .ref 154), (1, .int (Int32.ofInt 1)), (2, .int (Int32.ofInt 5)), (3, .int (Int8.ofInt 20).toInt32)] [.int (h.1 160 jj)] h from ⟨41, 80, pz_160 hP, by decide, by decide, ?_⟩)
  rw [hl.2.2.2.2.1]
  refine am_goX 4 (show 4 < 5 ∧ (¬ (nI e) = (Int32.ofInt 5) → pz_S 5 none am_r196 3 Q 23 [(4, .int (nI e)), (0, .ref 154), (1, .int (Int32.ofInt 1)), (2, .int (Int32.ofInt 5)), (3, .int (Int8.ofInt 20).toInt32)] [] h) ∧ (¬ ¬ (nI e) = (Int32.ofInt 5) → pz_S 5 none am_r196 3 Q 17 [(4, .int (nI e)), (0, .ref 154), (1, .int (Int32.ofInt 1)), (2, .int (Int32.ofInt 5)), (3, .int (Int8.ofInt 20).toInt32)] [] h) from ⟨by decide, fun hc => ?_, fun hc => ?_⟩)
  rotate_left
  · refine am_goX 3 (show am_rc h 154 11 ∧ 0 ≤ 8 ∧ h.2.2.2.2 + am_al 197 ≤ 175 ∧ am_call am_cod 3 197 [.ref 154, .int (Int32.ofInt 5)] h (fun vv h' => pz_S 5 none am_r196 3 Q 22 [(4, .int (nI e)), (0, .ref 154), (1, .int (Int32.ofInt 1)), (2, .int (Int32.ofInt 5)), (3, .int (Int8.ofInt 20).toInt32)] (vv.toList ++ []) h') from ⟨pz_rc hP, by decide, pz_lim hP rfl, am_call.up (pz_wrongF hP (by decide) (fun h' q1 q2 q3 => ?_)) (by decide)⟩)
    exact am_goX 1 (show (none : Option FieldType) = none ∧ h'.2.2.2.2 = 175 ∧ _ from ⟨rfl, pz_175 q1, hQ a h' (Nat.le_refl _) (Or.inl ⟨⟨a, c, q1⟩, pz_Fc hl.2.1 q2, q3⟩)⟩)
  have hs1 : e + 1 ≤ 5 := by
    rcases Nat.lt_or_ge e 5 with w | w
    · omega
    · exact absurd (by rw [show e = 5 by omega]; rfl) hc
  clear hc
  refine am_goX 6 (show (Value.ref 154).category = 1 ∧ am_sh h 154 = some (11, 0) ∧ am_sh h 154 = some (11, 0) ∧ narrow (am_fty 11 7) (.int (((h.1 154 7) + (Int32.ofInt 1)))) = .int (((h.1 154 7) + (Int32.ofInt 1))) ∧ fits (am_fty 11 7) (.int (((h.1 154 7) + (Int32.ofInt 1)))) = true ∧ pz_S 5 none am_r196 3 Q 33 [(4, .int (nI e)), (0, .ref 154), (1, .int (Int32.ofInt 1)), (2, .int (Int32.ofInt 5)), (3, .int (Int8.ofInt 20).toInt32)] [] (am_wI h 154 7 (((h.1 154 7) + (Int32.ofInt 1)))) from ⟨rfl, pz_154 hP, pz_154 hP, rfl, rfl, ?_⟩)
  rw [hP.2.2.2.1, xw_i1]
  have l1 := ln_at (a' := a + 1) hl (by omega)
  generalize am_wI h 154 7 (nI (a + 1)) = h1 at l1 ⊢
  have hP1 := l1.1
  have kf : ∀ h', pz_P N (a + 1) c h' → ag_fr pz_F h1 h' → ¬ h'.1 154 8 = 0 → pz_S 5 none am_r196 3 Q 61 [(4, .int (nI e)), (0, .ref 154), (1, .int (Int32.ofInt 1)), (2, .int (Int32.ofInt 5)), (3, .int (Int8.ofInt 20).toInt32)] [] h' := ?_
  rotate_left
  · intro h' q1 q2 q3
    refine am_goX 3 (show am_sh h' 154 = some (11, 0) ∧ (¬ (h'.1 154 8) = 0 → pz_S 5 none am_r196 3 Q 132 [(4, .int (nI e)), (0, .ref 154), (1, .int (Int32.ofInt 1)), (2, .int (Int32.ofInt 5)), (3, .int (Int8.ofInt 20).toInt32)] [] h') ∧ (¬ ¬ (h'.1 154 8) = 0 → pz_S 5 none am_r196 3 Q 68 [(4, .int (nI e)), (0, .ref 154), (1, .int (Int32.ofInt 1)), (2, .int (Int32.ofInt 5)), (3, .int (Int8.ofInt 20).toInt32)] [] h') from ⟨pz_154 q1, fun _ => ?_, fun hz => absurd q3 hz⟩)
    exact am_goX 1 (show (none : Option FieldType) = none ∧ h'.2.2.2.2 = 175 ∧ _ from ⟨rfl, pz_175 q1, hQ (a + 1) h' (by omega) (Or.inl ⟨⟨_, _, q1⟩, pz_Fc l1.2.1 q2, q3⟩)⟩)
  refine am_goX 2 (show am_rc h1 154 11 ∧ 0 ≤ 8 ∧ h1.2.2.2.2 + am_al 198 ≤ 175 ∧ am_call am_cod 3 198 [.ref 154] h1 (fun vv h' => pz_S 5 none am_r196 3 Q 37 [(4, .int (nI e)), (0, .ref 154), (1, .int (Int32.ofInt 1)), (2, .int (Int32.ofInt 5)), (3, .int (Int8.ofInt 20).toInt32)] (vv.toList ++ []) h') from ⟨pz_rc hP1, by decide, pz_lim hP1 rfl, pz_isn hP1 (fun hf1 hlt1 => ?_) ?_⟩)
  rotate_left
  · refine am_goX 1 (show (¬ 0 = 0 → pz_S 5 none am_r196 3 Q 48 [(4, .int (nI e)), (0, .ref 154), (1, .int (Int32.ofInt 1)), (2, .int (Int32.ofInt 5)), (3, .int (Int8.ofInt 20).toInt32)] [] h1) ∧ (¬ ¬ 0 = 0 → pz_S 5 none am_r196 3 Q 40 [(4, .int (nI e)), (0, .ref 154), (1, .int (Int32.ofInt 1)), (2, .int (Int32.ofInt 5)), (3, .int (Int8.ofInt 20).toInt32)] [] h1) from ⟨fun hz => absurd hz (fun w => w rfl), fun _ => ?_⟩)
    refine am_goX 3 (show am_rc h1 154 11 ∧ 0 ≤ 8 ∧ h1.2.2.2.2 + am_al 197 ≤ 175 ∧ am_call am_cod 3 197 [.ref 154, .int (Int32.ofInt 1)] h1 (fun vv h' => pz_S 5 none am_r196 3 Q 45 [(4, .int (nI e)), (0, .ref 154), (1, .int (Int32.ofInt 1)), (2, .int (Int32.ofInt 5)), (3, .int (Int8.ofInt 20).toInt32)] (vv.toList ++ []) h') from ⟨pz_rc hP1, by decide, pz_lim hP1 rfl, am_call.up (pz_wrongF hP1 (by decide) (fun h' q1 q2 q3 => ?_)) (by decide)⟩)
    exact am_goX 1 (kf h' q1 q2 q3)
  refine am_goX 1 (show (¬ 1 = 0 → pz_S 5 none am_r196 3 Q 48 [(4, .int (nI e)), (0, .ref 154), (1, .int (Int32.ofInt 1)), (2, .int (Int32.ofInt 5)), (3, .int (Int8.ofInt 20).toInt32)] [] h1) ∧ (¬ ¬ 1 = 0 → pz_S 5 none am_r196 3 Q 40 [(4, .int (nI e)), (0, .ref 154), (1, .int (Int32.ofInt 1)), (2, .int (Int32.ofInt 5)), (3, .int (Int8.ofInt 20).toInt32)] [] h1) from ⟨fun _ => ?_, fun hz => absurd (by decide) hz⟩)
  refine am_goX 3 (show am_rc h1 154 11 ∧ 0 ≤ 8 ∧ h1.2.2.2.2 + am_al 200 ≤ 175 ∧ am_call am_cod 3 200 [.ref 154, .int (Int32.ofInt 1)] h1 (fun vv h' => pz_S 5 none am_r196 3 Q 53 [(4, .int (nI e)), (0, .ref 154), (1, .int (Int32.ofInt 1)), (2, .int (Int32.ofInt 5)), (3, .int (Int8.ofInt 20).toInt32)] (vv.toList ++ []) h') from ⟨pz_rc hP1, by decide, pz_lim hP1 rfl, am_call.up (pz_nm1 hP1 (fun r hr => ?_)) (by decide)⟩)
  refine am_goX 1 (show (r < 0 → pz_S 5 none am_r196 3 Q 61 [(4, .int (nI e)), (0, .ref 154), (1, .int (Int32.ofInt 1)), (2, .int (Int32.ofInt 5)), (3, .int (Int8.ofInt 20).toInt32)] [] h1) ∧ (¬ (r < 0) → pz_S 5 none am_r196 3 Q 56 [(4, .int (nI e)), (0, .ref 154), (1, .int (Int32.ofInt 1)), (2, .int (Int32.ofInt 5)), (3, .int (Int8.ofInt 20).toInt32)] [] h1) from ⟨fun hc => ?_, fun hc => ?_⟩)
  rotate_left
  · refine am_goX 3 (show am_rc h1 154 11 ∧ 0 ≤ 8 ∧ h1.2.2.2.2 + am_al 197 ≤ 175 ∧ am_call am_cod 3 197 [.ref 154, .int (Int32.ofInt 3)] h1 (fun vv h' => pz_S 5 none am_r196 3 Q 61 [(4, .int (nI e)), (0, .ref 154), (1, .int (Int32.ofInt 1)), (2, .int (Int32.ofInt 5)), (3, .int (Int8.ofInt 20).toInt32)] (vv.toList ++ []) h') from ⟨pz_rc hP1, by decide, pz_lim hP1 rfl, am_call.up (pz_wrongF hP1 (by decide) (fun h' q1 q2 q3 => ?_)) (by decide)⟩)
    exact kf h' q1 q2 q3
  clear hc
  refine am_goX 3 (show am_sh h1 154 = some (11, 0) ∧ (¬ (h1.1 154 8) = 0 → pz_S 5 none am_r196 3 Q 132 [(4, .int (nI e)), (0, .ref 154), (1, .int (Int32.ofInt 1)), (2, .int (Int32.ofInt 5)), (3, .int (Int8.ofInt 20).toInt32)] [] h1) ∧ (¬ ¬ (h1.1 154 8) = 0 → pz_S 5 none am_r196 3 Q 68 [(4, .int (nI e)), (0, .ref 154), (1, .int (Int32.ofInt 1)), (2, .int (Int32.ofInt 5)), (3, .int (Int8.ofInt 20).toInt32)] [] h1) from ⟨pz_154 hP1, fun hz => absurd hz (fun w => w hf1), fun _ => ?_⟩)
  refine am_goX 2 (show am_sh h1 154 = some (11, 0) ∧ pz_S 5 none am_r196 3 Q 72 [(4, .int (nI e)), (0, .ref 154), (1, .int (Int32.ofInt 1)), (2, .int (Int32.ofInt 5)), (3, .int (Int8.ofInt 20).toInt32)] [am_rf (h1.2.2.1 154 15)] h1 from ⟨pz_154 hP1, ?_⟩)
  rw [pz_r15 hP1]
  refine am_goX 4 (show am_sh h1 154 = some (11, 0) ∧ am_sh h1 154 = some (11, 0) ∧ pz_S 5 none am_r196 3 Q 80 [(4, .int (nI e)), (0, .ref 154), (1, .int (Int32.ofInt 1)), (2, .int (Int32.ofInt 5)), (3, .int (Int8.ofInt 20).toInt32)] [am_rf (h1.2.2.1 154 6), .int (h1.1 154 19), .ref 164] h1 from ⟨pz_154 hP1, pz_154 hP1, ?_⟩)
  rw [pz_r6 hP1]
  refine am_goX 3 (show am_sh h1 154 = some (11, 0) ∧ ∃ jj nn : Nat, am_sh h1 158 = some (14, nn) ∧ jj < nn ∧ (h1.1 154 7) = nI jj ∧ pz_S 5 none am_r196 3 Q 85 [(4, .int (nI e)), (0, .ref 154), (1, .int (Int32.ofInt 1)), (2, .int (Int32.ofInt 5)), (3, .int (Int8.ofInt 20).toInt32)] [.long (h1.2.1 158 jj), .int (h1.1 154 19), .ref 164] h1 from ⟨pz_154 hP1, (a + 1), 1002, pz_158 hP1, pz_al hP1, hP1.2.2.2.1, ?_⟩)
  refine am_goX 1 (show ∃ jj nn : Nat, am_so h1 164 = some (14, nn) ∧ jj < nn ∧ (h1.1 154 19) = nI jj ∧ pz_S 5 none am_r196 3 Q 86 [(4, .int (nI e)), (0, .ref 154), (1, .int (Int32.ofInt 1)), (2, .int (Int32.ofInt 5)), (3, .int (Int8.ofInt 20).toInt32)] [] (am_wL h1 164 jj ((h1.2.1 158 (a + 1)))) from ⟨(p + e), 11, pz_w164 hP1, by omega, l1.2.2.2.2.2.1, ?_⟩)
  have l2 := ln_wl (k := p + e) (v := h1.2.1 158 (a + 1)) l1 (pz_Mc10 (Or.inl rfl) (by omega))
  generalize am_wL h1 164 (p + e) (h1.2.1 158 (a + 1)) = h2 at l2 ⊢
  have hP2 := l2.1
  refine am_goX 2 (show am_sh h2 154 = some (11, 0) ∧ pz_S 5 none am_r196 3 Q 90 [(4, .int (nI e)), (0, .ref 154), (1, .int (Int32.ofInt 1)), (2, .int (Int32.ofInt 5)), (3, .int (Int8.ofInt 20).toInt32)] [am_rf (h2.2.2.1 154 17)] h2 from ⟨pz_154 hP2, ?_⟩)
  rw [pz_r17 hP2]
  refine am_goX 6 (show am_sh h2 154 = some (11, 0) ∧ ∃ jj nn : Nat, am_so h2 166 = some (13, nn) ∧ jj < nn ∧ (h2.1 154 19) = nI jj ∧ pz_S 5 none am_r196 3 Q 99 [(4, .int (nI e)), (0, .ref 154), (1, .int (Int32.ofInt 1)), (2, .int (Int32.ofInt 5)), (3, .int (Int8.ofInt 20).toInt32)] [] (am_wI h2 166 jj (((Int8.ofInt 20).toInt32 + (nI e)))) from ⟨pz_154 hP2, (p + e), 11, pz_w166 hP2, by omega, l2.2.2.2.2.2.1, ?_⟩)
  rw [show ((Int8.ofInt 20).toInt32 + nI e) = nI (20 + e) from nI_add 20 e]
  have l3 := ln_w (o := 166) (k := p + e) (v := nI (20 + e)) l2 (pz_Mc10 (Or.inr rfl) (by omega)) (by decide) (fun w => absurd w (by decide)) (pz_s166 (by omega))
  generalize am_wI h2 166 (p + e) (nI (20 + e)) = h3 at l3 ⊢
  have hP3 := l3.1
  refine am_goX 6 (show (Value.ref 154).category = 1 ∧ am_sh h3 154 = some (11, 0) ∧ am_sh h3 154 = some (11, 0) ∧ narrow (am_fty 11 19) (.int (((h3.1 154 19) + (Int32.ofInt 1)))) = .int (((h3.1 154 19) + (Int32.ofInt 1))) ∧ fits (am_fty 11 19) (.int (((h3.1 154 19) + (Int32.ofInt 1)))) = true ∧ pz_S 5 none am_r196 3 Q 109 [(4, .int (nI e)), (0, .ref 154), (1, .int (Int32.ofInt 1)), (2, .int (Int32.ofInt 5)), (3, .int (Int8.ofInt 20).toInt32)] [] (am_wI h3 154 19 (((h3.1 154 19) + (Int32.ofInt 1)))) from ⟨rfl, pz_154 hP3, pz_154 hP3, rfl, rfl, ?_⟩)
  rw [l3.2.2.2.2.2.1, xw_i1]
  have l4 := ln_19 l3 (by omega)
  generalize am_wI h3 154 19 (nI (p + e + 1)) = h4 at l4 ⊢
  have hP4 := l4.1
  refine am_goX 6 (show (Value.ref 154).category = 1 ∧ am_sh h4 154 = some (11, 0) ∧ am_sh h4 154 = some (11, 0) ∧ narrow (am_fty 11 7) (.int (((h4.1 154 7) + (Int32.ofInt 1)))) = .int (((h4.1 154 7) + (Int32.ofInt 1))) ∧ fits (am_fty 11 7) (.int (((h4.1 154 7) + (Int32.ofInt 1)))) = true ∧ pz_S 5 none am_r196 3 Q 119 [(4, .int (nI e)), (0, .ref 154), (1, .int (Int32.ofInt 1)), (2, .int (Int32.ofInt 5)), (3, .int (Int8.ofInt 20).toInt32)] [] (am_wI h4 154 7 (((h4.1 154 7) + (Int32.ofInt 1)))) from ⟨rfl, pz_154 hP4, pz_154 hP4, rfl, rfl, ?_⟩)
  rw [hP4.2.2.2.1, xw_i1]
  have l5 := ln_at (a' := a + 1 + 1) l4 (by omega)
  generalize am_wI h4 154 7 (nI (a + 1 + 1)) = h5 at l5 ⊢
  have hP5 := l5.1
  refine am_goX 2 (show am_sh h5 154 = some (11, 0) ∧ pz_S 5 none am_r196 3 Q 123 [(4, .int (nI e)), (0, .ref 154), (1, .int (Int32.ofInt 1)), (2, .int (Int32.ofInt 5)), (3, .int (Int8.ofInt 20).toInt32)] [am_rf (h5.2.2.1 154 10)] h5 from ⟨pz_154 hP5, ?_⟩)
  rw [pz_r10 hP5]
  refine am_goX 5 (show (Value.int ((Int8.ofInt 40).toInt32 + (Int32.ofInt 1))).category = 1 ∧ (Value.ref 160).category = 1 ∧ ∃ jj nn : Nat, am_sh h5 160 = some (13, nn) ∧ jj < nn ∧ ((Int8.ofInt 40).toInt32 + (Int32.ofInt 1)) = nI jj ∧ pz_S 5 none am_r196 3 Q 129 [(4, .int (nI e)), (0, .ref 154), (1, .int (Int32.ofInt 1)), (2, .int (Int32.ofInt 5)), (3, .int (Int8.ofInt 20).toInt32)] [.int (h5.1 160 jj), .int ((Int8.ofInt 40).toInt32 + (Int32.ofInt 1)), .ref 160] h5 from ⟨rfl, rfl, 41, 80, pz_160 hP5, by decide, by decide, ?_⟩)
  rw [l5.2.2.2.2.1]
  refine am_goX 3 (show ∃ jj nn : Nat, am_so h5 160 = some (13, nn) ∧ jj < nn ∧ ((Int8.ofInt 40).toInt32 + (Int32.ofInt 1)) = nI jj ∧ pz_S 5 none am_r196 3 Q 132 [(4, .int (nI e)), (0, .ref 154), (1, .int (Int32.ofInt 1)), (2, .int (Int32.ofInt 5)), (3, .int (Int8.ofInt 20).toInt32)] [] (am_wI h5 160 jj (((nI e) + (Int32.ofInt 1)))) from ⟨41, 80, pz_w160 hP5, by decide, by decide, ?_⟩)
  rw [xw_i1]
  have l6 := ln_41 l5 (by omega)
  generalize am_wI h5 160 41 (nI (e + 1)) = h6 at l6 ⊢
  have hP6 := l6.1
  exact am_goX 1 (show (none : Option FieldType) = none ∧ h6.2.2.2.2 = 175 ∧ _ from ⟨rfl, pz_175 hP6, hQ (a + 1 + 1) h6 (by omega) (Or.inr ⟨by rw [show p + (e + 1) = p + e + 1 by omega]; exact l6, hs1⟩)⟩)
theorem pz_snl {Q : am_Q} (hQ : ∀ a' h', a ≤ a' → fl N h0 h' ∨ ln N a' c h0 p e z h' → Q none h') : ∀ (m a1 n : Nat) (v : Int32) (h1 : am_H), n + m = 8 → a ≤ a1 → ln N a1 c h0 p e z h1 → pz_S 3 none am_r209 2 Q 2 [(1, .int (nI n)), (2, .int v), (0, .ref 154)] [] h1 := by
  intro m
  induction m with
  | zero =>
    intro a1 n v0 h1 hn haa l1
    have hP1 := l1.1
    have hf1 := l1.2.2.1
    refine am_goX 3 (show am_sh h1 154 = some (11, 0) ∧ (¬ (h1.1 154 8) = 0 → pz_S 3 none am_r209 2 Q 125 [(1, .int (nI n)), (2, .int v0), (0, .ref 154)] [] h1) ∧ (¬ ¬ (h1.1 154 8) = 0 → pz_S 3 none am_r209 2 Q 9 [(1, .int (nI n)), (2, .int v0), (0, .ref 154)] [] h1) from ⟨pz_154 hP1, fun hz => absurd hz (fun w => w hf1), fun _ => ?_⟩)
    have k26 : pz_S 3 none am_r209 2 Q 26 [(1, .int (nI n)), (2, .int v0), (0, .ref 154)] [] h1 := ?_
    rotate_left
    · refine am_goX 4 (show am_rc h1 154 11 ∧ 0 ≤ 8 ∧ h1.2.2.2.2 + am_al 205 ≤ 175 ∧ am_call am_cod 2 205 [.ref 154, .int (Int32.ofInt 0), .int (Int8.ofInt 27).toInt32] h1 (fun vv h' => pz_S 3 none am_r209 2 Q 33 [(1, .int (nI n)), (2, .int v0), (0, .ref 154)] (vv.toList ++ []) h') from ⟨pz_rc hP1, by decide, pz_lim hP1 rfl, pz_tnum hP1 (fun a2 h2 v q => ?_)⟩)
      have kf : ∀ h', fl N h0 h' → pz_S 3 none am_r209 2 Q 89 [(2, .int v), (1, .int (nI n)), (0, .ref 154)] [] h' := ?_
      rotate_left
      · intro h' q1
        obtain ⟨⟨a', c', q4⟩, q2, q3⟩ := id q1
        refine am_goX 3 (show am_sh h' 154 = some (11, 0) ∧ (¬ (h'.1 154 8) = 0 → pz_S 3 none am_r209 2 Q 122 [(2, .int v), (1, .int (nI n)), (0, .ref 154)] [] h') ∧ (¬ ¬ (h'.1 154 8) = 0 → pz_S 3 none am_r209 2 Q 96 [(2, .int v), (1, .int (nI n)), (0, .ref 154)] [] h') from ⟨pz_154 q4, fun _ => ?_, fun hz => absurd q3 hz⟩)
        refine am_goX 4 (show am_sh h' 154 = some (11, 0) ∧ (¬ (h'.1 154 8) = 0 → pz_S 3 none am_r209 2 Q 125 [(2, .int v), (1, .int (nI n)), (0, .ref 154)] [] h') ∧ (¬ ¬ (h'.1 154 8) = 0 → pz_S 3 none am_r209 2 Q 9 [(2, .int v), (1, .int (nI n)), (0, .ref 154)] [] h') from ⟨pz_154 q4, fun _ => ?_, fun hz => absurd q3 hz⟩)
        exact am_goX 1 (show (none : Option FieldType) = none ∧ h'.2.2.2.2 = 175 ∧ _ from ⟨rfl, pz_175 q4, hQ a h' (Nat.le_refl _) (Or.inl q1)⟩)
      rcases q with ⟨w1, w2, ⟨w3, w4⟩ | ⟨w3, w5, w4⟩⟩
      · have hfl : fl N h0 h2 := ⟨⟨_, _, w1⟩, pz_Fc l1.2.1 w2, w3⟩
        refine am_goX 7 (show 2 < 3 ∧ (Value.ref 154).category = 1 ∧ am_sh h2 154 = some (11, 0) ∧ am_sh h2 154 = some (11, 0) ∧ ((h2.1 154 8) ≤ 0 → pz_S 3 none am_r209 2 Q 50 [(2, .int v), (1, .int (nI n)), (0, .ref 154)] [.int (h2.1 154 7), .ref 154] h2) ∧ (¬ ((h2.1 154 8) ≤ 0) → pz_S 3 none am_r209 2 Q 46 [(2, .int v), (1, .int (nI n)), (0, .ref 154)] [.int (h2.1 154 7), .ref 154] h2) from ⟨by decide, rfl, pz_154 w1, pz_154 w1, fun hz => absurd hz (fun w => w3 (pz_eq0 w1 w)), fun _ => ?_⟩)
        refine am_goX 4 (show am_sh h2 154 = some (11, 0) ∧ narrow (am_fty 11 7) (.int (((h2.1 154 7) - (Int32.ofInt 0)))) = .int (((h2.1 154 7) - (Int32.ofInt 0))) ∧ fits (am_fty 11 7) (.int (((h2.1 154 7) - (Int32.ofInt 0)))) = true ∧ pz_S 3 none am_r209 2 Q 55 [(2, .int v), (1, .int (nI n)), (0, .ref 154)] [] (am_wI h2 154 7 (((h2.1 154 7) - (Int32.ofInt 0)))) from ⟨pz_154 w1, rfl, rfl, ?_⟩)
        rw [pz_same (show h2.1 154 7 = h2.1 154 7 - Int32.ofInt 0 from (by rw [show (Int32.ofInt 0 : Int32) = 0 from rfl, Int32.sub_zero]))]
        refine am_goX 2 (show am_sh h2 154 = some (11, 0) ∧ pz_S 3 none am_r209 2 Q 59 [(2, .int v), (1, .int (nI n)), (0, .ref 154)] [am_rf (h2.2.2.1 154 10)] h2 from ⟨pz_154 w1, ?_⟩)
        rw [pz_r10 w1]
        refine am_goX 2 (show ∃ jj nn : Nat, am_sh h2 160 = some (13, nn) ∧ jj < nn ∧ (Int8.ofInt 42).toInt32 = nI jj ∧ pz_S 3 none am_r209 2 Q 62 [(2, .int v), (1, .int (nI n)), (0, .ref 154)] [.int (h2.1 160 jj)] h2 from ⟨42, 80, pz_160 w1, by decide, by decide, ?_⟩)
        refine am_goX 6 (show (¬ (((h2.1 160 42) >>> (v &&& 31)) &&& (Int32.ofInt 1)) = (Int32.ofInt 1) → pz_S 3 none am_r209 2 Q 78 [(2, .int v), (1, .int (nI n)), (0, .ref 154)] [] h2) ∧ (¬ ¬ (((h2.1 160 42) >>> (v &&& 31)) &&& (Int32.ofInt 1)) = (Int32.ofInt 1) → pz_S 3 none am_r209 2 Q 70 [(2, .int v), (1, .int (nI n)), (0, .ref 154)] [] h2) from ⟨fun hc => ?_, fun hc => ?_⟩)
        · refine am_goX 3 (show (¬ (nI n) = (Int8.ofInt 8).toInt32 → pz_S 3 none am_r209 2 Q 89 [(2, .int v), (1, .int (nI n)), (0, .ref 154)] [] h2) ∧ (¬ ¬ (nI n) = (Int8.ofInt 8).toInt32 → pz_S 3 none am_r209 2 Q 84 [(2, .int v), (1, .int (nI n)), (0, .ref 154)] [] h2) from ⟨fun hc => ?_, fun hc => ?_⟩)
          · exact kf h2 hfl
          · refine am_goX 3 (show am_rc h2 154 11 ∧ 0 ≤ 8 ∧ h2.2.2.2.2 + am_al 197 ≤ 175 ∧ am_call am_cod 2 197 [.ref 154, .int (Int32.ofInt 5)] h2 (fun vv h' => pz_S 3 none am_r209 2 Q 89 [(2, .int v), (1, .int (nI n)), (0, .ref 154)] (vv.toList ++ []) h') from ⟨pz_rc w1, by decide, pz_lim w1 rfl, am_call.up (pz_wrongF w1 (by decide) (fun h' q1 q2 q3 => ?_)) (by decide)⟩)
            exact kf h' ⟨⟨_, _, q1⟩, pz_Fc hfl.2.1 q2, q3⟩
        · refine am_goX 3 (show am_rc h2 154 11 ∧ 0 ≤ 8 ∧ h2.2.2.2.2 + am_al 197 ≤ 175 ∧ am_call am_cod 2 197 [.ref 154, .int (Int32.ofInt 3)] h2 (fun vv h' => pz_S 3 none am_r209 2 Q 75 [(2, .int v), (1, .int (nI n)), (0, .ref 154)] (vv.toList ++ []) h') from ⟨pz_rc w1, by decide, pz_lim w1 rfl, am_call.up (pz_wrongF w1 (by decide) (fun h' q1 q2 q3 => ?_)) (by decide)⟩)
          exact am_goX 1 (kf h' ⟨⟨_, _, q1⟩, pz_Fc hfl.2.1 q2, q3⟩)
      · have l2 : ln N a2 c h0 p e z h2 := (ln_F l1 (pk_q ⟨w1, w2, Or.inr ⟨w3, w5, w4⟩⟩)).resolve_left (fun w => w.2.2 w3)
        have w6 : a2 ≤ N := w1.2.2.2.2.1
        refine am_goX 7 (show 2 < 3 ∧ (Value.ref 154).category = 1 ∧ am_sh h2 154 = some (11, 0) ∧ am_sh h2 154 = some (11, 0) ∧ ((h2.1 154 8) ≤ 0 → pz_S 3 none am_r209 2 Q 50 [(2, .int v), (1, .int (nI n)), (0, .ref 154)] [.int (h2.1 154 7), .ref 154] h2) ∧ (¬ ((h2.1 154 8) ≤ 0) → pz_S 3 none am_r209 2 Q 46 [(2, .int v), (1, .int (nI n)), (0, .ref 154)] [.int (h2.1 154 7), .ref 154] h2) from ⟨by decide, rfl, pz_154 w1, pz_154 w1, fun _ => ?_, fun hz => absurd (by rw [w3]; decide) hz⟩)
        refine am_goX 3 (show am_sh h2 154 = some (11, 0) ∧ narrow (am_fty 11 7) (.int (((h2.1 154 7) - (Int32.ofInt 1)))) = .int (((h2.1 154 7) - (Int32.ofInt 1))) ∧ fits (am_fty 11 7) (.int (((h2.1 154 7) - (Int32.ofInt 1)))) = true ∧ pz_S 3 none am_r209 2 Q 55 [(2, .int v), (1, .int (nI n)), (0, .ref 154)] [] (am_wI h2 154 7 (((h2.1 154 7) - (Int32.ofInt 1)))) from ⟨pz_154 w1, rfl, rfl, ?_⟩)
        rw [w1.2.2.2.1, w4, show nI (a1 + 1) - Int32.ofInt 1 = nI a1 from nI_pred a1]
        have l3 := ln_at (a' := a1) l2 (by omega)
        generalize am_wI h2 154 7 (nI a1) = h3 at l3 ⊢
        have hP3 := l3.1
        refine am_goX 2 (show am_sh h3 154 = some (11, 0) ∧ pz_S 3 none am_r209 2 Q 59 [(2, .int v), (1, .int (nI n)), (0, .ref 154)] [am_rf (h3.2.2.1 154 10)] h3 from ⟨pz_154 hP3, ?_⟩)
        rw [pz_r10 hP3]
        refine am_goX 2 (show ∃ jj nn : Nat, am_sh h3 160 = some (13, nn) ∧ jj < nn ∧ (Int8.ofInt 42).toInt32 = nI jj ∧ pz_S 3 none am_r209 2 Q 62 [(2, .int v), (1, .int (nI n)), (0, .ref 154)] [.int (h3.1 160 jj)] h3 from ⟨42, 80, pz_160 hP3, by decide, by decide, ?_⟩)
        refine am_goX 6 (show (¬ (((h3.1 160 42) >>> (v &&& 31)) &&& (Int32.ofInt 1)) = (Int32.ofInt 1) → pz_S 3 none am_r209 2 Q 78 [(2, .int v), (1, .int (nI n)), (0, .ref 154)] [] h3) ∧ (¬ ¬ (((h3.1 160 42) >>> (v &&& 31)) &&& (Int32.ofInt 1)) = (Int32.ofInt 1) → pz_S 3 none am_r209 2 Q 70 [(2, .int v), (1, .int (nI n)), (0, .ref 154)] [] h3) from ⟨fun hc => ?_, fun hc => ?_⟩)
        rotate_left
        · refine am_goX 3 (show am_rc h3 154 11 ∧ 0 ≤ 8 ∧ h3.2.2.2.2 + am_al 197 ≤ 175 ∧ am_call am_cod 2 197 [.ref 154, .int (Int32.ofInt 3)] h3 (fun vv h' => pz_S 3 none am_r209 2 Q 75 [(2, .int v), (1, .int (nI n)), (0, .ref 154)] (vv.toList ++ []) h') from ⟨pz_rc hP3, by decide, pz_lim hP3 rfl, am_call.up (pz_wrongF hP3 (by decide) (fun h' q1 q2 q3 => ?_)) (by decide)⟩)
          exact am_goX 1 (kf h' ⟨⟨_, _, q1⟩, pz_Fc l3.2.1 q2, q3⟩)
        clear hc
        refine am_goX 3 (show (¬ (nI n) = (Int8.ofInt 8).toInt32 → pz_S 3 none am_r209 2 Q 89 [(2, .int v), (1, .int (nI n)), (0, .ref 154)] [] h3) ∧ (¬ ¬ (nI n) = (Int8.ofInt 8).toInt32 → pz_S 3 none am_r209 2 Q 84 [(2, .int v), (1, .int (nI n)), (0, .ref 154)] [] h3) from ⟨fun hc => ?_, fun hc => ?_⟩)
        rotate_left
        · refine am_goX 3 (show am_rc h3 154 11 ∧ 0 ≤ 8 ∧ h3.2.2.2.2 + am_al 197 ≤ 175 ∧ am_call am_cod 2 197 [.ref 154, .int (Int32.ofInt 5)] h3 (fun vv h' => pz_S 3 none am_r209 2 Q 89 [(2, .int v), (1, .int (nI n)), (0, .ref 154)] (vv.toList ++ []) h') from ⟨pz_rc hP3, by decide, pz_lim hP3 rfl, am_call.up (pz_wrongF hP3 (by decide) (fun h' q1 q2 q3 => ?_)) (by decide)⟩)
          exact kf h' ⟨⟨_, _, q1⟩, pz_Fc l3.2.1 q2, q3⟩
        have hn8 : ¬ n = 8 := fun w => hc (by rw [w]; rfl)
        clear hc
        refine am_goX 3 (show am_sh h3 154 = some (11, 0) ∧ (¬ (h3.1 154 8) = 0 → pz_S 3 none am_r209 2 Q 122 [(2, .int v), (1, .int (nI n)), (0, .ref 154)] [] h3) ∧ (¬ ¬ (h3.1 154 8) = 0 → pz_S 3 none am_r209 2 Q 96 [(2, .int v), (1, .int (nI n)), (0, .ref 154)] [] h3) from ⟨pz_154 hP3, fun hz => absurd hz (fun w => w l3.2.2.1), fun _ => ?_⟩)
        refine am_goX 2 (show am_sh h3 154 = some (11, 0) ∧ pz_S 3 none am_r209 2 Q 100 [(2, .int v), (1, .int (nI n)), (0, .ref 154)] [am_rf (h3.2.2.1 154 10)] h3 from ⟨pz_154 hP3, ?_⟩)
        rw [pz_r10 hP3]
        refine am_goX 3 (show (Value.int (Int8.ofInt 42).toInt32).category = 1 ∧ (Value.ref 160).category = 1 ∧ ∃ jj nn : Nat, am_sh h3 160 = some (13, nn) ∧ jj < nn ∧ (Int8.ofInt 42).toInt32 = nI jj ∧ pz_S 3 none am_r209 2 Q 104 [(2, .int v), (1, .int (nI n)), (0, .ref 154)] [.int (h3.1 160 jj), .int (Int8.ofInt 42).toInt32, .ref 160] h3 from ⟨rfl, rfl, 42, 80, pz_160 hP3, by decide, by decide, ?_⟩)
        refine am_goX 5 (show ∃ jj nn : Nat, am_so h3 160 = some (13, nn) ∧ jj < nn ∧ (Int8.ofInt 42).toInt32 = nI jj ∧ pz_S 3 none am_r209 2 Q 109 [(2, .int v), (1, .int (nI n)), (0, .ref 154)] [] (am_wI h3 160 jj (((h3.1 160 42) ||| ((Int32.ofInt 1) <<< (v &&& 31))))) from ⟨42, 80, pz_w160 hP3, by decide, by decide, ?_⟩)
        generalize ((h3.1 160 42) ||| ((Int32.ofInt 1) <<< (v &&& 31))) = vv
        have l4 := ln_w (o := 160) (k := 42) (v := vv) l3 rfl (by decide) (fun _ => Or.inl rfl) (pz_s160 (Or.inl rfl))
        generalize am_wI h3 160 42 vv = h4 at l4 ⊢
        have hP4 := l4.1
        refine am_goX 6 (show (Value.ref 154).category = 1 ∧ am_sh h4 154 = some (11, 0) ∧ am_sh h4 154 = some (11, 0) ∧ narrow (am_fty 11 7) (.int (((h4.1 154 7) + (Int32.ofInt 1)))) = .int (((h4.1 154 7) + (Int32.ofInt 1))) ∧ fits (am_fty 11 7) (.int (((h4.1 154 7) + (Int32.ofInt 1)))) = true ∧ pz_S 3 none am_r209 2 Q 119 [(2, .int v), (1, .int (nI n)), (0, .ref 154)] [] (am_wI h4 154 7 (((h4.1 154 7) + (Int32.ofInt 1)))) from ⟨rfl, pz_154 hP4, pz_154 hP4, rfl, rfl, ?_⟩)
        rw [hP4.2.2.2.1, xw_i1]
        have l5 := ln_at (a' := a1 + 1) l4 (by omega)
        generalize am_wI h4 154 7 (nI (a1 + 1)) = h5 at l5 ⊢
        have hP5 := l5.1
        refine am_goX 2 (show 1 < 3 ∧ pz_S 3 none am_r209 2 Q 2 [(1, .int ((nI n) + Int32.ofInt 1)), (2, .int v), (0, .ref 154)] [] h5 from ⟨by decide, ?_⟩)
        rw [xw_i1]
        exact absurd hn8 (by omega)
    refine am_goX 2 (show ((nI n) = 0 → pz_S 3 none am_r209 2 Q 26 [(1, .int (nI n)), (2, .int v0), (0, .ref 154)] [] h1) ∧ (¬ ((nI n) = 0) → pz_S 3 none am_r209 2 Q 13 [(1, .int (nI n)), (2, .int v0), (0, .ref 154)] [] h1) from ⟨fun hc => ?_, fun hc => ?_⟩)
    · exact k26
    · refine am_goX 2 (show am_sh h1 154 = some (11, 0) ∧ pz_S 3 none am_r209 2 Q 17 [(1, .int (nI n)), (2, .int v0), (0, .ref 154)] [am_rf (h1.2.2.1 154 4)] h1 from ⟨pz_154 hP1, ?_⟩)
      rw [pz_r4 hP1]
      refine am_goX 3 (show am_sh h1 154 = some (11, 0) ∧ ∃ jj nn : Nat, am_sh h1 156 = some (13, nn) ∧ jj < nn ∧ (h1.1 154 7) = nI jj ∧ pz_S 3 none am_r209 2 Q 22 [(1, .int (nI n)), (2, .int v0), (0, .ref 154)] [.int (h1.1 156 jj)] h1 from ⟨pz_154 hP1, a1, 1002, pz_156 hP1, pz_al hP1, hP1.2.2.2.1, ?_⟩)
      refine am_goX 2 (show (¬ (h1.1 156 a1) = (Int32.ofInt 2) → pz_S 3 none am_r209 2 Q 125 [(1, .int (nI n)), (2, .int v0), (0, .ref 154)] [] h1) ∧ (¬ ¬ (h1.1 156 a1) = (Int32.ofInt 2) → pz_S 3 none am_r209 2 Q 26 [(1, .int (nI n)), (2, .int v0), (0, .ref 154)] [] h1) from ⟨fun hc => ?_, fun hc => ?_⟩)
      · exact am_goX 1 (show (none : Option FieldType) = none ∧ h1.2.2.2.2 = 175 ∧ _ from ⟨rfl, pz_175 hP1, hQ a1 h1 haa (Or.inr l1)⟩)
      · exact k26
  | succ m ih =>
    intro a1 n v0 h1 hn haa l1
    have hP1 := l1.1
    have hf1 := l1.2.2.1
    refine am_goX 3 (show am_sh h1 154 = some (11, 0) ∧ (¬ (h1.1 154 8) = 0 → pz_S 3 none am_r209 2 Q 125 [(1, .int (nI n)), (2, .int v0), (0, .ref 154)] [] h1) ∧ (¬ ¬ (h1.1 154 8) = 0 → pz_S 3 none am_r209 2 Q 9 [(1, .int (nI n)), (2, .int v0), (0, .ref 154)] [] h1) from ⟨pz_154 hP1, fun hz => absurd hz (fun w => w hf1), fun _ => ?_⟩)
    have k26 : pz_S 3 none am_r209 2 Q 26 [(1, .int (nI n)), (2, .int v0), (0, .ref 154)] [] h1 := ?_
    rotate_left
    · refine am_goX 4 (show am_rc h1 154 11 ∧ 0 ≤ 8 ∧ h1.2.2.2.2 + am_al 205 ≤ 175 ∧ am_call am_cod 2 205 [.ref 154, .int (Int32.ofInt 0), .int (Int8.ofInt 27).toInt32] h1 (fun vv h' => pz_S 3 none am_r209 2 Q 33 [(1, .int (nI n)), (2, .int v0), (0, .ref 154)] (vv.toList ++ []) h') from ⟨pz_rc hP1, by decide, pz_lim hP1 rfl, pz_tnum hP1 (fun a2 h2 v q => ?_)⟩)
      have kf : ∀ h', fl N h0 h' → pz_S 3 none am_r209 2 Q 89 [(2, .int v), (1, .int (nI n)), (0, .ref 154)] [] h' := ?_
      rotate_left
      · intro h' q1
        obtain ⟨⟨a', c', q4⟩, q2, q3⟩ := id q1
        refine am_goX 3 (show am_sh h' 154 = some (11, 0) ∧ (¬ (h'.1 154 8) = 0 → pz_S 3 none am_r209 2 Q 122 [(2, .int v), (1, .int (nI n)), (0, .ref 154)] [] h') ∧ (¬ ¬ (h'.1 154 8) = 0 → pz_S 3 none am_r209 2 Q 96 [(2, .int v), (1, .int (nI n)), (0, .ref 154)] [] h') from ⟨pz_154 q4, fun _ => ?_, fun hz => absurd q3 hz⟩)
        refine am_goX 4 (show am_sh h' 154 = some (11, 0) ∧ (¬ (h'.1 154 8) = 0 → pz_S 3 none am_r209 2 Q 125 [(2, .int v), (1, .int (nI n)), (0, .ref 154)] [] h') ∧ (¬ ¬ (h'.1 154 8) = 0 → pz_S 3 none am_r209 2 Q 9 [(2, .int v), (1, .int (nI n)), (0, .ref 154)] [] h') from ⟨pz_154 q4, fun _ => ?_, fun hz => absurd q3 hz⟩)
        exact am_goX 1 (show (none : Option FieldType) = none ∧ h'.2.2.2.2 = 175 ∧ _ from ⟨rfl, pz_175 q4, hQ a h' (Nat.le_refl _) (Or.inl q1)⟩)
      rcases q with ⟨w1, w2, ⟨w3, w4⟩ | ⟨w3, w5, w4⟩⟩
      · have hfl : fl N h0 h2 := ⟨⟨_, _, w1⟩, pz_Fc l1.2.1 w2, w3⟩
        refine am_goX 7 (show 2 < 3 ∧ (Value.ref 154).category = 1 ∧ am_sh h2 154 = some (11, 0) ∧ am_sh h2 154 = some (11, 0) ∧ ((h2.1 154 8) ≤ 0 → pz_S 3 none am_r209 2 Q 50 [(2, .int v), (1, .int (nI n)), (0, .ref 154)] [.int (h2.1 154 7), .ref 154] h2) ∧ (¬ ((h2.1 154 8) ≤ 0) → pz_S 3 none am_r209 2 Q 46 [(2, .int v), (1, .int (nI n)), (0, .ref 154)] [.int (h2.1 154 7), .ref 154] h2) from ⟨by decide, rfl, pz_154 w1, pz_154 w1, fun hz => absurd hz (fun w => w3 (pz_eq0 w1 w)), fun _ => ?_⟩)
        refine am_goX 4 (show am_sh h2 154 = some (11, 0) ∧ narrow (am_fty 11 7) (.int (((h2.1 154 7) - (Int32.ofInt 0)))) = .int (((h2.1 154 7) - (Int32.ofInt 0))) ∧ fits (am_fty 11 7) (.int (((h2.1 154 7) - (Int32.ofInt 0)))) = true ∧ pz_S 3 none am_r209 2 Q 55 [(2, .int v), (1, .int (nI n)), (0, .ref 154)] [] (am_wI h2 154 7 (((h2.1 154 7) - (Int32.ofInt 0)))) from ⟨pz_154 w1, rfl, rfl, ?_⟩)
        rw [pz_same (show h2.1 154 7 = h2.1 154 7 - Int32.ofInt 0 from (by rw [show (Int32.ofInt 0 : Int32) = 0 from rfl, Int32.sub_zero]))]
        refine am_goX 2 (show am_sh h2 154 = some (11, 0) ∧ pz_S 3 none am_r209 2 Q 59 [(2, .int v), (1, .int (nI n)), (0, .ref 154)] [am_rf (h2.2.2.1 154 10)] h2 from ⟨pz_154 w1, ?_⟩)
        rw [pz_r10 w1]
        refine am_goX 2 (show ∃ jj nn : Nat, am_sh h2 160 = some (13, nn) ∧ jj < nn ∧ (Int8.ofInt 42).toInt32 = nI jj ∧ pz_S 3 none am_r209 2 Q 62 [(2, .int v), (1, .int (nI n)), (0, .ref 154)] [.int (h2.1 160 jj)] h2 from ⟨42, 80, pz_160 w1, by decide, by decide, ?_⟩)
        refine am_goX 6 (show (¬ (((h2.1 160 42) >>> (v &&& 31)) &&& (Int32.ofInt 1)) = (Int32.ofInt 1) → pz_S 3 none am_r209 2 Q 78 [(2, .int v), (1, .int (nI n)), (0, .ref 154)] [] h2) ∧ (¬ ¬ (((h2.1 160 42) >>> (v &&& 31)) &&& (Int32.ofInt 1)) = (Int32.ofInt 1) → pz_S 3 none am_r209 2 Q 70 [(2, .int v), (1, .int (nI n)), (0, .ref 154)] [] h2) from ⟨fun hc => ?_, fun hc => ?_⟩)
        · refine am_goX 3 (show (¬ (nI n) = (Int8.ofInt 8).toInt32 → pz_S 3 none am_r209 2 Q 89 [(2, .int v), (1, .int (nI n)), (0, .ref 154)] [] h2) ∧ (¬ ¬ (nI n) = (Int8.ofInt 8).toInt32 → pz_S 3 none am_r209 2 Q 84 [(2, .int v), (1, .int (nI n)), (0, .ref 154)] [] h2) from ⟨fun hc => ?_, fun hc => ?_⟩)
          · exact kf h2 hfl
          · refine am_goX 3 (show am_rc h2 154 11 ∧ 0 ≤ 8 ∧ h2.2.2.2.2 + am_al 197 ≤ 175 ∧ am_call am_cod 2 197 [.ref 154, .int (Int32.ofInt 5)] h2 (fun vv h' => pz_S 3 none am_r209 2 Q 89 [(2, .int v), (1, .int (nI n)), (0, .ref 154)] (vv.toList ++ []) h') from ⟨pz_rc w1, by decide, pz_lim w1 rfl, am_call.up (pz_wrongF w1 (by decide) (fun h' q1 q2 q3 => ?_)) (by decide)⟩)
            exact kf h' ⟨⟨_, _, q1⟩, pz_Fc hfl.2.1 q2, q3⟩
        · refine am_goX 3 (show am_rc h2 154 11 ∧ 0 ≤ 8 ∧ h2.2.2.2.2 + am_al 197 ≤ 175 ∧ am_call am_cod 2 197 [.ref 154, .int (Int32.ofInt 3)] h2 (fun vv h' => pz_S 3 none am_r209 2 Q 75 [(2, .int v), (1, .int (nI n)), (0, .ref 154)] (vv.toList ++ []) h') from ⟨pz_rc w1, by decide, pz_lim w1 rfl, am_call.up (pz_wrongF w1 (by decide) (fun h' q1 q2 q3 => ?_)) (by decide)⟩)
          exact am_goX 1 (kf h' ⟨⟨_, _, q1⟩, pz_Fc hfl.2.1 q2, q3⟩)
      · have l2 : ln N a2 c h0 p e z h2 := (ln_F l1 (pk_q ⟨w1, w2, Or.inr ⟨w3, w5, w4⟩⟩)).resolve_left (fun w => w.2.2 w3)
        have w6 : a2 ≤ N := w1.2.2.2.2.1
        refine am_goX 7 (show 2 < 3 ∧ (Value.ref 154).category = 1 ∧ am_sh h2 154 = some (11, 0) ∧ am_sh h2 154 = some (11, 0) ∧ ((h2.1 154 8) ≤ 0 → pz_S 3 none am_r209 2 Q 50 [(2, .int v), (1, .int (nI n)), (0, .ref 154)] [.int (h2.1 154 7), .ref 154] h2) ∧ (¬ ((h2.1 154 8) ≤ 0) → pz_S 3 none am_r209 2 Q 46 [(2, .int v), (1, .int (nI n)), (0, .ref 154)] [.int (h2.1 154 7), .ref 154] h2) from ⟨by decide, rfl, pz_154 w1, pz_154 w1, fun _ => ?_, fun hz => absurd (by rw [w3]; decide) hz⟩)
        refine am_goX 3 (show am_sh h2 154 = some (11, 0) ∧ narrow (am_fty 11 7) (.int (((h2.1 154 7) - (Int32.ofInt 1)))) = .int (((h2.1 154 7) - (Int32.ofInt 1))) ∧ fits (am_fty 11 7) (.int (((h2.1 154 7) - (Int32.ofInt 1)))) = true ∧ pz_S 3 none am_r209 2 Q 55 [(2, .int v), (1, .int (nI n)), (0, .ref 154)] [] (am_wI h2 154 7 (((h2.1 154 7) - (Int32.ofInt 1)))) from ⟨pz_154 w1, rfl, rfl, ?_⟩)
        rw [w1.2.2.2.1, w4, show nI (a1 + 1) - Int32.ofInt 1 = nI a1 from nI_pred a1]
        have l3 := ln_at (a' := a1) l2 (by omega)
        generalize am_wI h2 154 7 (nI a1) = h3 at l3 ⊢
        have hP3 := l3.1
        refine am_goX 2 (show am_sh h3 154 = some (11, 0) ∧ pz_S 3 none am_r209 2 Q 59 [(2, .int v), (1, .int (nI n)), (0, .ref 154)] [am_rf (h3.2.2.1 154 10)] h3 from ⟨pz_154 hP3, ?_⟩)
        rw [pz_r10 hP3]
        refine am_goX 2 (show ∃ jj nn : Nat, am_sh h3 160 = some (13, nn) ∧ jj < nn ∧ (Int8.ofInt 42).toInt32 = nI jj ∧ pz_S 3 none am_r209 2 Q 62 [(2, .int v), (1, .int (nI n)), (0, .ref 154)] [.int (h3.1 160 jj)] h3 from ⟨42, 80, pz_160 hP3, by decide, by decide, ?_⟩)
        refine am_goX 6 (show (¬ (((h3.1 160 42) >>> (v &&& 31)) &&& (Int32.ofInt 1)) = (Int32.ofInt 1) → pz_S 3 none am_r209 2 Q 78 [(2, .int v), (1, .int (nI n)), (0, .ref 154)] [] h3) ∧ (¬ ¬ (((h3.1 160 42) >>> (v &&& 31)) &&& (Int32.ofInt 1)) = (Int32.ofInt 1) → pz_S 3 none am_r209 2 Q 70 [(2, .int v), (1, .int (nI n)), (0, .ref 154)] [] h3) from ⟨fun hc => ?_, fun hc => ?_⟩)
        rotate_left
        · refine am_goX 3 (show am_rc h3 154 11 ∧ 0 ≤ 8 ∧ h3.2.2.2.2 + am_al 197 ≤ 175 ∧ am_call am_cod 2 197 [.ref 154, .int (Int32.ofInt 3)] h3 (fun vv h' => pz_S 3 none am_r209 2 Q 75 [(2, .int v), (1, .int (nI n)), (0, .ref 154)] (vv.toList ++ []) h') from ⟨pz_rc hP3, by decide, pz_lim hP3 rfl, am_call.up (pz_wrongF hP3 (by decide) (fun h' q1 q2 q3 => ?_)) (by decide)⟩)
          exact am_goX 1 (kf h' ⟨⟨_, _, q1⟩, pz_Fc l3.2.1 q2, q3⟩)
        clear hc
        refine am_goX 3 (show (¬ (nI n) = (Int8.ofInt 8).toInt32 → pz_S 3 none am_r209 2 Q 89 [(2, .int v), (1, .int (nI n)), (0, .ref 154)] [] h3) ∧ (¬ ¬ (nI n) = (Int8.ofInt 8).toInt32 → pz_S 3 none am_r209 2 Q 84 [(2, .int v), (1, .int (nI n)), (0, .ref 154)] [] h3) from ⟨fun hc => ?_, fun hc => ?_⟩)
        rotate_left
        · refine am_goX 3 (show am_rc h3 154 11 ∧ 0 ≤ 8 ∧ h3.2.2.2.2 + am_al 197 ≤ 175 ∧ am_call am_cod 2 197 [.ref 154, .int (Int32.ofInt 5)] h3 (fun vv h' => pz_S 3 none am_r209 2 Q 89 [(2, .int v), (1, .int (nI n)), (0, .ref 154)] (vv.toList ++ []) h') from ⟨pz_rc hP3, by decide, pz_lim hP3 rfl, am_call.up (pz_wrongF hP3 (by decide) (fun h' q1 q2 q3 => ?_)) (by decide)⟩)
          exact kf h' ⟨⟨_, _, q1⟩, pz_Fc l3.2.1 q2, q3⟩
        have hn8 : ¬ n = 8 := fun w => hc (by rw [w]; rfl)
        clear hc
        refine am_goX 3 (show am_sh h3 154 = some (11, 0) ∧ (¬ (h3.1 154 8) = 0 → pz_S 3 none am_r209 2 Q 122 [(2, .int v), (1, .int (nI n)), (0, .ref 154)] [] h3) ∧ (¬ ¬ (h3.1 154 8) = 0 → pz_S 3 none am_r209 2 Q 96 [(2, .int v), (1, .int (nI n)), (0, .ref 154)] [] h3) from ⟨pz_154 hP3, fun hz => absurd hz (fun w => w l3.2.2.1), fun _ => ?_⟩)
        refine am_goX 2 (show am_sh h3 154 = some (11, 0) ∧ pz_S 3 none am_r209 2 Q 100 [(2, .int v), (1, .int (nI n)), (0, .ref 154)] [am_rf (h3.2.2.1 154 10)] h3 from ⟨pz_154 hP3, ?_⟩)
        rw [pz_r10 hP3]
        refine am_goX 3 (show (Value.int (Int8.ofInt 42).toInt32).category = 1 ∧ (Value.ref 160).category = 1 ∧ ∃ jj nn : Nat, am_sh h3 160 = some (13, nn) ∧ jj < nn ∧ (Int8.ofInt 42).toInt32 = nI jj ∧ pz_S 3 none am_r209 2 Q 104 [(2, .int v), (1, .int (nI n)), (0, .ref 154)] [.int (h3.1 160 jj), .int (Int8.ofInt 42).toInt32, .ref 160] h3 from ⟨rfl, rfl, 42, 80, pz_160 hP3, by decide, by decide, ?_⟩)
        refine am_goX 5 (show ∃ jj nn : Nat, am_so h3 160 = some (13, nn) ∧ jj < nn ∧ (Int8.ofInt 42).toInt32 = nI jj ∧ pz_S 3 none am_r209 2 Q 109 [(2, .int v), (1, .int (nI n)), (0, .ref 154)] [] (am_wI h3 160 jj (((h3.1 160 42) ||| ((Int32.ofInt 1) <<< (v &&& 31))))) from ⟨42, 80, pz_w160 hP3, by decide, by decide, ?_⟩)
        generalize ((h3.1 160 42) ||| ((Int32.ofInt 1) <<< (v &&& 31))) = vv
        have l4 := ln_w (o := 160) (k := 42) (v := vv) l3 rfl (by decide) (fun _ => Or.inl rfl) (pz_s160 (Or.inl rfl))
        generalize am_wI h3 160 42 vv = h4 at l4 ⊢
        have hP4 := l4.1
        refine am_goX 6 (show (Value.ref 154).category = 1 ∧ am_sh h4 154 = some (11, 0) ∧ am_sh h4 154 = some (11, 0) ∧ narrow (am_fty 11 7) (.int (((h4.1 154 7) + (Int32.ofInt 1)))) = .int (((h4.1 154 7) + (Int32.ofInt 1))) ∧ fits (am_fty 11 7) (.int (((h4.1 154 7) + (Int32.ofInt 1)))) = true ∧ pz_S 3 none am_r209 2 Q 119 [(2, .int v), (1, .int (nI n)), (0, .ref 154)] [] (am_wI h4 154 7 (((h4.1 154 7) + (Int32.ofInt 1)))) from ⟨rfl, pz_154 hP4, pz_154 hP4, rfl, rfl, ?_⟩)
        rw [hP4.2.2.2.1, xw_i1]
        have l5 := ln_at (a' := a1 + 1) l4 (by omega)
        generalize am_wI h4 154 7 (nI (a1 + 1)) = h5 at l5 ⊢
        have hP5 := l5.1
        refine am_goX 2 (show 1 < 3 ∧ pz_S 3 none am_r209 2 Q 2 [(1, .int ((nI n) + Int32.ofInt 1)), (2, .int v), (0, .ref 154)] [] h5 from ⟨by decide, ?_⟩)
        rw [xw_i1]
        exact ih (a1 + 1) (n + 1) v h5 (by omega) (by omega) l5
    refine am_goX 2 (show ((nI n) = 0 → pz_S 3 none am_r209 2 Q 26 [(1, .int (nI n)), (2, .int v0), (0, .ref 154)] [] h1) ∧ (¬ ((nI n) = 0) → pz_S 3 none am_r209 2 Q 13 [(1, .int (nI n)), (2, .int v0), (0, .ref 154)] [] h1) from ⟨fun hc => ?_, fun hc => ?_⟩)
    · exact k26
    · refine am_goX 2 (show am_sh h1 154 = some (11, 0) ∧ pz_S 3 none am_r209 2 Q 17 [(1, .int (nI n)), (2, .int v0), (0, .ref 154)] [am_rf (h1.2.2.1 154 4)] h1 from ⟨pz_154 hP1, ?_⟩)
      rw [pz_r4 hP1]
      refine am_goX 3 (show am_sh h1 154 = some (11, 0) ∧ ∃ jj nn : Nat, am_sh h1 156 = some (13, nn) ∧ jj < nn ∧ (h1.1 154 7) = nI jj ∧ pz_S 3 none am_r209 2 Q 22 [(1, .int (nI n)), (2, .int v0), (0, .ref 154)] [.int (h1.1 156 jj)] h1 from ⟨pz_154 hP1, a1, 1002, pz_156 hP1, pz_al hP1, hP1.2.2.2.1, ?_⟩)
      refine am_goX 2 (show (¬ (h1.1 156 a1) = (Int32.ofInt 2) → pz_S 3 none am_r209 2 Q 125 [(1, .int (nI n)), (2, .int v0), (0, .ref 154)] [] h1) ∧ (¬ ¬ (h1.1 156 a1) = (Int32.ofInt 2) → pz_S 3 none am_r209 2 Q 26 [(1, .int (nI n)), (2, .int v0), (0, .ref 154)] [] h1) from ⟨fun hc => ?_, fun hc => ?_⟩)
      · exact am_goX 1 (show (none : Option FieldType) = none ∧ h1.2.2.2.2 = 175 ∧ _ from ⟨rfl, pz_175 hP1, hQ a1 h1 haa (Or.inr l1)⟩)
      · exact k26
theorem pz_rsnow {Q : am_Q} (l : ln N a c h0 p e z h) (hQ : ∀ a' h', a ≤ a' → fl N h0 h' ∨ ln N a' c h0 p e z h' → Q none h') : am_call am_cod 3 209 [.ref 154] h Q := by
  have hP := l.1
  refine pz_call (n := 209) (nL := 3) (rt := none) (rows := am_r209) (d := 2) (by decide +kernel) (by decide +kernel) rfl (by funext pc; rfl) (pz_175 hP) (by exact Nat.le_of_ble_eq_true rfl) ?_
  have main : ∀ (a1 n : Nat) (h1 : am_H), n ≤ 8 → a ≤ a1 → ln N a1 c h0 p e z h1 → pz_S 3 none am_r209 2 Q 2 [(1, .int (nI n)), (0, .ref 154)] [] h1 := by
    intro a1 n h1 hn haa l1
    have hP1 := l1.1
    have hf1 := l1.2.2.1
    refine am_goX 3 (show am_sh h1 154 = some (11, 0) ∧ (¬ (h1.1 154 8) = 0 → pz_S 3 none am_r209 2 Q 125 [(1, .int (nI n)), (0, .ref 154)] [] h1) ∧ (¬ ¬ (h1.1 154 8) = 0 → pz_S 3 none am_r209 2 Q 9 [(1, .int (nI n)), (0, .ref 154)] [] h1) from ⟨pz_154 hP1, fun hz => absurd hz (fun w => w hf1), fun _ => ?_⟩)
    have k26 : pz_S 3 none am_r209 2 Q 26 [(1, .int (nI n)), (0, .ref 154)] [] h1 := ?_
    rotate_left
    · refine am_goX 4 (show am_rc h1 154 11 ∧ 0 ≤ 8 ∧ h1.2.2.2.2 + am_al 205 ≤ 175 ∧ am_call am_cod 2 205 [.ref 154, .int (Int32.ofInt 0), .int (Int8.ofInt 27).toInt32] h1 (fun vv h' => pz_S 3 none am_r209 2 Q 33 [(1, .int (nI n)), (0, .ref 154)] (vv.toList ++ []) h') from ⟨pz_rc hP1, by decide, pz_lim hP1 rfl, pz_tnum hP1 (fun a2 h2 v q => ?_)⟩)
      have kf : ∀ h', fl N h0 h' → pz_S 3 none am_r209 2 Q 89 [(2, .int v), (1, .int (nI n)), (0, .ref 154)] [] h' := ?_
      rotate_left
      · intro h' q1
        obtain ⟨⟨a', c', q4⟩, q2, q3⟩ := id q1
        refine am_goX 3 (show am_sh h' 154 = some (11, 0) ∧ (¬ (h'.1 154 8) = 0 → pz_S 3 none am_r209 2 Q 122 [(2, .int v), (1, .int (nI n)), (0, .ref 154)] [] h') ∧ (¬ ¬ (h'.1 154 8) = 0 → pz_S 3 none am_r209 2 Q 96 [(2, .int v), (1, .int (nI n)), (0, .ref 154)] [] h') from ⟨pz_154 q4, fun _ => ?_, fun hz => absurd q3 hz⟩)
        refine am_goX 4 (show am_sh h' 154 = some (11, 0) ∧ (¬ (h'.1 154 8) = 0 → pz_S 3 none am_r209 2 Q 125 [(2, .int v), (1, .int (nI n)), (0, .ref 154)] [] h') ∧ (¬ ¬ (h'.1 154 8) = 0 → pz_S 3 none am_r209 2 Q 9 [(2, .int v), (1, .int (nI n)), (0, .ref 154)] [] h') from ⟨pz_154 q4, fun _ => ?_, fun hz => absurd q3 hz⟩)
        exact am_goX 1 (show (none : Option FieldType) = none ∧ h'.2.2.2.2 = 175 ∧ _ from ⟨rfl, pz_175 q4, hQ a h' (Nat.le_refl _) (Or.inl q1)⟩)
      rcases q with ⟨w1, w2, ⟨w3, w4⟩ | ⟨w3, w5, w4⟩⟩
      · have hfl : fl N h0 h2 := ⟨⟨_, _, w1⟩, pz_Fc l1.2.1 w2, w3⟩
        refine am_goX 7 (show 2 < 3 ∧ (Value.ref 154).category = 1 ∧ am_sh h2 154 = some (11, 0) ∧ am_sh h2 154 = some (11, 0) ∧ ((h2.1 154 8) ≤ 0 → pz_S 3 none am_r209 2 Q 50 [(2, .int v), (1, .int (nI n)), (0, .ref 154)] [.int (h2.1 154 7), .ref 154] h2) ∧ (¬ ((h2.1 154 8) ≤ 0) → pz_S 3 none am_r209 2 Q 46 [(2, .int v), (1, .int (nI n)), (0, .ref 154)] [.int (h2.1 154 7), .ref 154] h2) from ⟨by decide, rfl, pz_154 w1, pz_154 w1, fun hz => absurd hz (fun w => w3 (pz_eq0 w1 w)), fun _ => ?_⟩)
        refine am_goX 4 (show am_sh h2 154 = some (11, 0) ∧ narrow (am_fty 11 7) (.int (((h2.1 154 7) - (Int32.ofInt 0)))) = .int (((h2.1 154 7) - (Int32.ofInt 0))) ∧ fits (am_fty 11 7) (.int (((h2.1 154 7) - (Int32.ofInt 0)))) = true ∧ pz_S 3 none am_r209 2 Q 55 [(2, .int v), (1, .int (nI n)), (0, .ref 154)] [] (am_wI h2 154 7 (((h2.1 154 7) - (Int32.ofInt 0)))) from ⟨pz_154 w1, rfl, rfl, ?_⟩)
        rw [pz_same (show h2.1 154 7 = h2.1 154 7 - Int32.ofInt 0 from (by rw [show (Int32.ofInt 0 : Int32) = 0 from rfl, Int32.sub_zero]))]
        refine am_goX 2 (show am_sh h2 154 = some (11, 0) ∧ pz_S 3 none am_r209 2 Q 59 [(2, .int v), (1, .int (nI n)), (0, .ref 154)] [am_rf (h2.2.2.1 154 10)] h2 from ⟨pz_154 w1, ?_⟩)
        rw [pz_r10 w1]
        refine am_goX 2 (show ∃ jj nn : Nat, am_sh h2 160 = some (13, nn) ∧ jj < nn ∧ (Int8.ofInt 42).toInt32 = nI jj ∧ pz_S 3 none am_r209 2 Q 62 [(2, .int v), (1, .int (nI n)), (0, .ref 154)] [.int (h2.1 160 jj)] h2 from ⟨42, 80, pz_160 w1, by decide, by decide, ?_⟩)
        refine am_goX 6 (show (¬ (((h2.1 160 42) >>> (v &&& 31)) &&& (Int32.ofInt 1)) = (Int32.ofInt 1) → pz_S 3 none am_r209 2 Q 78 [(2, .int v), (1, .int (nI n)), (0, .ref 154)] [] h2) ∧ (¬ ¬ (((h2.1 160 42) >>> (v &&& 31)) &&& (Int32.ofInt 1)) = (Int32.ofInt 1) → pz_S 3 none am_r209 2 Q 70 [(2, .int v), (1, .int (nI n)), (0, .ref 154)] [] h2) from ⟨fun hc => ?_, fun hc => ?_⟩)
        · refine am_goX 3 (show (¬ (nI n) = (Int8.ofInt 8).toInt32 → pz_S 3 none am_r209 2 Q 89 [(2, .int v), (1, .int (nI n)), (0, .ref 154)] [] h2) ∧ (¬ ¬ (nI n) = (Int8.ofInt 8).toInt32 → pz_S 3 none am_r209 2 Q 84 [(2, .int v), (1, .int (nI n)), (0, .ref 154)] [] h2) from ⟨fun hc => ?_, fun hc => ?_⟩)
          · exact kf h2 hfl
          · refine am_goX 3 (show am_rc h2 154 11 ∧ 0 ≤ 8 ∧ h2.2.2.2.2 + am_al 197 ≤ 175 ∧ am_call am_cod 2 197 [.ref 154, .int (Int32.ofInt 5)] h2 (fun vv h' => pz_S 3 none am_r209 2 Q 89 [(2, .int v), (1, .int (nI n)), (0, .ref 154)] (vv.toList ++ []) h') from ⟨pz_rc w1, by decide, pz_lim w1 rfl, am_call.up (pz_wrongF w1 (by decide) (fun h' q1 q2 q3 => ?_)) (by decide)⟩)
            exact kf h' ⟨⟨_, _, q1⟩, pz_Fc hfl.2.1 q2, q3⟩
        · refine am_goX 3 (show am_rc h2 154 11 ∧ 0 ≤ 8 ∧ h2.2.2.2.2 + am_al 197 ≤ 175 ∧ am_call am_cod 2 197 [.ref 154, .int (Int32.ofInt 3)] h2 (fun vv h' => pz_S 3 none am_r209 2 Q 75 [(2, .int v), (1, .int (nI n)), (0, .ref 154)] (vv.toList ++ []) h') from ⟨pz_rc w1, by decide, pz_lim w1 rfl, am_call.up (pz_wrongF w1 (by decide) (fun h' q1 q2 q3 => ?_)) (by decide)⟩)
          exact am_goX 1 (kf h' ⟨⟨_, _, q1⟩, pz_Fc hfl.2.1 q2, q3⟩)
      · have l2 : ln N a2 c h0 p e z h2 := (ln_F l1 (pk_q ⟨w1, w2, Or.inr ⟨w3, w5, w4⟩⟩)).resolve_left (fun w => w.2.2 w3)
        have w6 : a2 ≤ N := w1.2.2.2.2.1
        refine am_goX 7 (show 2 < 3 ∧ (Value.ref 154).category = 1 ∧ am_sh h2 154 = some (11, 0) ∧ am_sh h2 154 = some (11, 0) ∧ ((h2.1 154 8) ≤ 0 → pz_S 3 none am_r209 2 Q 50 [(2, .int v), (1, .int (nI n)), (0, .ref 154)] [.int (h2.1 154 7), .ref 154] h2) ∧ (¬ ((h2.1 154 8) ≤ 0) → pz_S 3 none am_r209 2 Q 46 [(2, .int v), (1, .int (nI n)), (0, .ref 154)] [.int (h2.1 154 7), .ref 154] h2) from ⟨by decide, rfl, pz_154 w1, pz_154 w1, fun _ => ?_, fun hz => absurd (by rw [w3]; decide) hz⟩)
        refine am_goX 3 (show am_sh h2 154 = some (11, 0) ∧ narrow (am_fty 11 7) (.int (((h2.1 154 7) - (Int32.ofInt 1)))) = .int (((h2.1 154 7) - (Int32.ofInt 1))) ∧ fits (am_fty 11 7) (.int (((h2.1 154 7) - (Int32.ofInt 1)))) = true ∧ pz_S 3 none am_r209 2 Q 55 [(2, .int v), (1, .int (nI n)), (0, .ref 154)] [] (am_wI h2 154 7 (((h2.1 154 7) - (Int32.ofInt 1)))) from ⟨pz_154 w1, rfl, rfl, ?_⟩)
        rw [w1.2.2.2.1, w4, show nI (a1 + 1) - Int32.ofInt 1 = nI a1 from nI_pred a1]
        have l3 := ln_at (a' := a1) l2 (by omega)
        generalize am_wI h2 154 7 (nI a1) = h3 at l3 ⊢
        have hP3 := l3.1
        refine am_goX 2 (show am_sh h3 154 = some (11, 0) ∧ pz_S 3 none am_r209 2 Q 59 [(2, .int v), (1, .int (nI n)), (0, .ref 154)] [am_rf (h3.2.2.1 154 10)] h3 from ⟨pz_154 hP3, ?_⟩)
        rw [pz_r10 hP3]
        refine am_goX 2 (show ∃ jj nn : Nat, am_sh h3 160 = some (13, nn) ∧ jj < nn ∧ (Int8.ofInt 42).toInt32 = nI jj ∧ pz_S 3 none am_r209 2 Q 62 [(2, .int v), (1, .int (nI n)), (0, .ref 154)] [.int (h3.1 160 jj)] h3 from ⟨42, 80, pz_160 hP3, by decide, by decide, ?_⟩)
        refine am_goX 6 (show (¬ (((h3.1 160 42) >>> (v &&& 31)) &&& (Int32.ofInt 1)) = (Int32.ofInt 1) → pz_S 3 none am_r209 2 Q 78 [(2, .int v), (1, .int (nI n)), (0, .ref 154)] [] h3) ∧ (¬ ¬ (((h3.1 160 42) >>> (v &&& 31)) &&& (Int32.ofInt 1)) = (Int32.ofInt 1) → pz_S 3 none am_r209 2 Q 70 [(2, .int v), (1, .int (nI n)), (0, .ref 154)] [] h3) from ⟨fun hc => ?_, fun hc => ?_⟩)
        rotate_left
        · refine am_goX 3 (show am_rc h3 154 11 ∧ 0 ≤ 8 ∧ h3.2.2.2.2 + am_al 197 ≤ 175 ∧ am_call am_cod 2 197 [.ref 154, .int (Int32.ofInt 3)] h3 (fun vv h' => pz_S 3 none am_r209 2 Q 75 [(2, .int v), (1, .int (nI n)), (0, .ref 154)] (vv.toList ++ []) h') from ⟨pz_rc hP3, by decide, pz_lim hP3 rfl, am_call.up (pz_wrongF hP3 (by decide) (fun h' q1 q2 q3 => ?_)) (by decide)⟩)
          exact am_goX 1 (kf h' ⟨⟨_, _, q1⟩, pz_Fc l3.2.1 q2, q3⟩)
        clear hc
        refine am_goX 3 (show (¬ (nI n) = (Int8.ofInt 8).toInt32 → pz_S 3 none am_r209 2 Q 89 [(2, .int v), (1, .int (nI n)), (0, .ref 154)] [] h3) ∧ (¬ ¬ (nI n) = (Int8.ofInt 8).toInt32 → pz_S 3 none am_r209 2 Q 84 [(2, .int v), (1, .int (nI n)), (0, .ref 154)] [] h3) from ⟨fun hc => ?_, fun hc => ?_⟩)
        rotate_left
        · refine am_goX 3 (show am_rc h3 154 11 ∧ 0 ≤ 8 ∧ h3.2.2.2.2 + am_al 197 ≤ 175 ∧ am_call am_cod 2 197 [.ref 154, .int (Int32.ofInt 5)] h3 (fun vv h' => pz_S 3 none am_r209 2 Q 89 [(2, .int v), (1, .int (nI n)), (0, .ref 154)] (vv.toList ++ []) h') from ⟨pz_rc hP3, by decide, pz_lim hP3 rfl, am_call.up (pz_wrongF hP3 (by decide) (fun h' q1 q2 q3 => ?_)) (by decide)⟩)
          exact kf h' ⟨⟨_, _, q1⟩, pz_Fc l3.2.1 q2, q3⟩
        have hn8 : ¬ n = 8 := fun w => hc (by rw [w]; rfl)
        clear hc
        refine am_goX 3 (show am_sh h3 154 = some (11, 0) ∧ (¬ (h3.1 154 8) = 0 → pz_S 3 none am_r209 2 Q 122 [(2, .int v), (1, .int (nI n)), (0, .ref 154)] [] h3) ∧ (¬ ¬ (h3.1 154 8) = 0 → pz_S 3 none am_r209 2 Q 96 [(2, .int v), (1, .int (nI n)), (0, .ref 154)] [] h3) from ⟨pz_154 hP3, fun hz => absurd hz (fun w => w l3.2.2.1), fun _ => ?_⟩)
        refine am_goX 2 (show am_sh h3 154 = some (11, 0) ∧ pz_S 3 none am_r209 2 Q 100 [(2, .int v), (1, .int (nI n)), (0, .ref 154)] [am_rf (h3.2.2.1 154 10)] h3 from ⟨pz_154 hP3, ?_⟩)
        rw [pz_r10 hP3]
        refine am_goX 3 (show (Value.int (Int8.ofInt 42).toInt32).category = 1 ∧ (Value.ref 160).category = 1 ∧ ∃ jj nn : Nat, am_sh h3 160 = some (13, nn) ∧ jj < nn ∧ (Int8.ofInt 42).toInt32 = nI jj ∧ pz_S 3 none am_r209 2 Q 104 [(2, .int v), (1, .int (nI n)), (0, .ref 154)] [.int (h3.1 160 jj), .int (Int8.ofInt 42).toInt32, .ref 160] h3 from ⟨rfl, rfl, 42, 80, pz_160 hP3, by decide, by decide, ?_⟩)
        refine am_goX 5 (show ∃ jj nn : Nat, am_so h3 160 = some (13, nn) ∧ jj < nn ∧ (Int8.ofInt 42).toInt32 = nI jj ∧ pz_S 3 none am_r209 2 Q 109 [(2, .int v), (1, .int (nI n)), (0, .ref 154)] [] (am_wI h3 160 jj (((h3.1 160 42) ||| ((Int32.ofInt 1) <<< (v &&& 31))))) from ⟨42, 80, pz_w160 hP3, by decide, by decide, ?_⟩)
        generalize ((h3.1 160 42) ||| ((Int32.ofInt 1) <<< (v &&& 31))) = vv
        have l4 := ln_w (o := 160) (k := 42) (v := vv) l3 rfl (by decide) (fun _ => Or.inl rfl) (pz_s160 (Or.inl rfl))
        generalize am_wI h3 160 42 vv = h4 at l4 ⊢
        have hP4 := l4.1
        refine am_goX 6 (show (Value.ref 154).category = 1 ∧ am_sh h4 154 = some (11, 0) ∧ am_sh h4 154 = some (11, 0) ∧ narrow (am_fty 11 7) (.int (((h4.1 154 7) + (Int32.ofInt 1)))) = .int (((h4.1 154 7) + (Int32.ofInt 1))) ∧ fits (am_fty 11 7) (.int (((h4.1 154 7) + (Int32.ofInt 1)))) = true ∧ pz_S 3 none am_r209 2 Q 119 [(2, .int v), (1, .int (nI n)), (0, .ref 154)] [] (am_wI h4 154 7 (((h4.1 154 7) + (Int32.ofInt 1)))) from ⟨rfl, pz_154 hP4, pz_154 hP4, rfl, rfl, ?_⟩)
        rw [hP4.2.2.2.1, xw_i1]
        have l5 := ln_at (a' := a1 + 1) l4 (by omega)
        generalize am_wI h4 154 7 (nI (a1 + 1)) = h5 at l5 ⊢
        have hP5 := l5.1
        refine am_goX 2 (show 1 < 3 ∧ pz_S 3 none am_r209 2 Q 2 [(1, .int ((nI n) + Int32.ofInt 1)), (2, .int v), (0, .ref 154)] [] h5 from ⟨by decide, ?_⟩)
        rw [xw_i1]
        exact pz_snl hQ (7 - n) (a1 + 1) (n + 1) v h5 (by omega) (by omega) l5
    refine am_goX 2 (show ((nI n) = 0 → pz_S 3 none am_r209 2 Q 26 [(1, .int (nI n)), (0, .ref 154)] [] h1) ∧ (¬ ((nI n) = 0) → pz_S 3 none am_r209 2 Q 13 [(1, .int (nI n)), (0, .ref 154)] [] h1) from ⟨fun hc => ?_, fun hc => ?_⟩)
    · exact k26
    · refine am_goX 2 (show am_sh h1 154 = some (11, 0) ∧ pz_S 3 none am_r209 2 Q 17 [(1, .int (nI n)), (0, .ref 154)] [am_rf (h1.2.2.1 154 4)] h1 from ⟨pz_154 hP1, ?_⟩)
      rw [pz_r4 hP1]
      refine am_goX 3 (show am_sh h1 154 = some (11, 0) ∧ ∃ jj nn : Nat, am_sh h1 156 = some (13, nn) ∧ jj < nn ∧ (h1.1 154 7) = nI jj ∧ pz_S 3 none am_r209 2 Q 22 [(1, .int (nI n)), (0, .ref 154)] [.int (h1.1 156 jj)] h1 from ⟨pz_154 hP1, a1, 1002, pz_156 hP1, pz_al hP1, hP1.2.2.2.1, ?_⟩)
      refine am_goX 2 (show (¬ (h1.1 156 a1) = (Int32.ofInt 2) → pz_S 3 none am_r209 2 Q 125 [(1, .int (nI n)), (0, .ref 154)] [] h1) ∧ (¬ ¬ (h1.1 156 a1) = (Int32.ofInt 2) → pz_S 3 none am_r209 2 Q 26 [(1, .int (nI n)), (0, .ref 154)] [] h1) from ⟨fun hc => ?_, fun hc => ?_⟩)
      · exact am_goX 1 (show (none : Option FieldType) = none ∧ h1.2.2.2.2 = 175 ∧ _ from ⟨rfl, pz_175 hP1, hQ a1 h1 haa (Or.inr l1)⟩)
      · exact k26
  refine am_goX 2 (show 1 < 3 ∧ pz_S 3 none am_r209 2 Q 2 [(1, .int (Int32.ofInt 0)), (0, .ref 154)] [] h from ⟨by decide, ?_⟩)
  exact main a 0 h (by decide) (Nat.le_refl _) l
end
section
/-! readOnce AND readLine -/
variable {N a c p e z : Nat} {h h0 : am_H}
/-- as ln, but for the law -/
def ls (N a c : Nat) (h0 : am_H) (p e z : Nat) (h : am_H) : Prop := pz_P N a c h ∧ ag_fr pz_Mc h0 h ∧ h.1 154 8 = 0 ∧ h.1 160 40 = nI p ∧ h.1 160 41 = nI e ∧ h.1 154 19 = nI z
theorem ls_ln (q : ls N a c h0 p e z h) (g : plg c h) : ln N a c h0 p e z h := ⟨q.1, q.2.1, q.2.2.1, q.2.2.2.1, q.2.2.2.2.1, q.2.2.2.2.2, g⟩
theorem ln_ls (q : ln N a c h0 p e z h) : ls N a c h0 p e z h := ⟨q.1, q.2.1, q.2.2.1, q.2.2.2.1, q.2.2.2.2.1, q.2.2.2.2.2.1⟩
theorem ls_w {o k : Nat} {v : Int32} (q : ls N a c h0 p e z h) (hm : ag_atM pz_Mc o k = true) (h1 : ¬ (o = 154 ∧ (k = 7 ∨ k = 8 ∨ k = 13 ∨ k = 19))) (h2 : ¬ (o = 160 ∧ (k = 40 ∨ k = 41))) (hkp : ¬ ag_kp o k) (hv : ∀ s ∈ ag_sg o, ag_seg s k v) : ls N a c h0 p e z (am_wI h o k v) := by
  obtain ⟨q1, q2, q3, q4, q5, q6⟩ := q
  refine ⟨pz_w q1 (by omega) hkp hv, pz_trc q2 (pz_fr hm), ?_, ?_, ?_, ?_⟩
  · rw [em_wn h _ (by omega)]
    exact q3
  · rw [em_wn h _ (by omega)]
    exact q4
  · rw [em_wn h _ (by omega)]
    exact q5
  · rw [em_wn h _ (by omega)]
    exact q6
theorem ls_at {a' : Nat} (q : ls N a c h0 p e z h) (ha : a' ≤ N) : ls N a' c h0 p e z (am_wI h 154 7 (nI a')) := by
  obtain ⟨q1, q2, q3, q4, q5, q6⟩ := q
  refine ⟨pz_at q1 ha, pz_trc q2 (pz_fr rfl), ?_, ?_, ?_, ?_⟩
  · rw [em_wn h _ (by omega)]
    exact q3
  · rw [em_wn h _ (by omega)]
    exact q4
  · rw [em_wn h _ (by omega)]
    exact q5
  · rw [em_wn h _ (by omega)]
    exact q6
theorem pz_Msc {h1 h2 : am_H} (f1 : ag_fr pz_Mc h h1) (f2 : ag_fr pz_M h1 h2) : ag_fr pz_Mc h h2 := f1.trans (by decide +kernel) f2
theorem pz_Mk {h' : am_H} (f : ag_fr pz_M h h') : h'.1 160 40 = h.1 160 40 ∧ h'.1 160 41 = h.1 160 41 ∧ h'.1 160 43 = h.1 160 43 ∧ h'.1 154 19 = h.1 154 19 ∧ h'.1 154 20 = h.1 154 20 := ⟨(f.2 160 40 (by decide)).1, (f.2 160 41 (by decide)).1, (f.2 160 43 (by decide)).1, (f.2 154 19 (by decide)).1, (f.2 154 20 (by decide)).1⟩
theorem ls_M {a' c' : Nat} {h' : am_H} (q : ls N a c h0 p e z h) (hP : pz_P N a' c' h') (f : ag_fr pz_M h h') (hf : h'.1 154 8 = 0) : ls N a' c' h0 p e z h' := by
  obtain ⟨q1, q2, q3, q4, q5, q6⟩ := q
  obtain ⟨f1, f2, f3, f4, f5⟩ := pz_Mk f
  exact ⟨hP, pz_Msc q2 f, hf, f1.trans q4, f2.trans q5, f4.trans q6⟩
theorem pz_sg20 : (ag_sg 154).all (fun s => !(Nat.ble s.1 20 && Nat.ble 20 s.2.1)) = true := by decide +kernel
theorem pz_s20 {v : Int32} : ∀ s ∈ ag_sg 154, ag_seg s 20 v := by
  intro s hs k1 k2 _
  have w := List.all_eq_true.mp pz_sg20 s hs
  rw [Nat.ble_eq_true_of_le k1, Nat.ble_eq_true_of_le k2] at w
  cases w
theorem pz_sg43 : (ag_sg 160).all (fun s => !(Nat.ble s.1 43 && Nat.ble 43 s.2.1) || (decide (s.2.2.2.2.1 ≤ 0) && decide (1000 ≤ s.2.2.2.2.2))) = true := by decide +kernel
theorem pz_ronce {Q : am_Q} (l : ln N a c h0 p e z h) (hQ : ∀ a' c' h', a ≤ a' → fl N h0 h' ∨ ln N a' c' h0 p e z h' → Q none h') : am_call am_cod 33 208 [.ref 154] h Q := by
  have hP := l.1
  refine pz_call (n := 208) (nL := 2) (rt := none) (rows := am_r208) (d := 32) (by decide +kernel) (by decide +kernel) rfl (by funext pc; rfl) (pz_175 hP) (by exact Nat.le_of_ble_eq_true rfl) ?_
  refine am_goX 4 (show am_rc h 154 11 ∧ 0 ≤ 8 ∧ h.2.2.2.2 + am_al 199 ≤ 175 ∧ am_call am_cod 32 199 [.ref 154, .int (Int8.ofInt 6).toInt32, .int (Int32.ofInt 2)] h (fun vv h' => pz_S 2 none am_r208 32 Q 7 [(0, .ref 154)] (vv.toList ++ []) h') from ⟨pz_rc hP, by decide, pz_lim hP rfl, am_call.up (pz_here (f := 6) (m := 2) hP (by decide) (fun r hr => ?_)) (by decide)⟩)
  have kf : ∀ h', fl N h0 h' → pz_S 2 none am_r208 32 Q 37 [(1, .int r), (0, .ref 154)] [] h' := ?_
  rotate_left
  · intro h' q1
    obtain ⟨⟨a', c', q4⟩, q2, q3⟩ := id q1
    refine am_goX 3 (show am_sh h' 154 = some (11, 0) ∧ ((h'.1 154 8) ≤ 0 → pz_S 2 none am_r208 32 Q 45 [(1, .int r), (0, .ref 154)] [] h') ∧ (¬ ((h'.1 154 8) ≤ 0) → pz_S 2 none am_r208 32 Q 44 [(1, .int r), (0, .ref 154)] [] h') from ⟨pz_154 q4, fun hz => absurd hz (fun w => q3 (pz_eq0 q4 w)), fun _ => ?_⟩)
    exact am_goX 1 (show (none : Option FieldType) = none ∧ h'.2.2.2.2 = 175 ∧ _ from ⟨rfl, pz_175 q4, hQ a c h' (Nat.le_refl _) (Or.inl q1)⟩)
  refine am_goX 3 (show 1 < 2 ∧ (0 ≤ r → pz_S 2 none am_r208 32 Q 20 [(1, .int r), (0, .ref 154)] [] h) ∧ (¬ (0 ≤ r) → pz_S 2 none am_r208 32 Q 12 [(1, .int r), (0, .ref 154)] [] h) from ⟨by decide, fun hc => ?_, fun hc => ?_⟩)
  rotate_left
  · refine am_goX 3 (show am_rc h 154 11 ∧ 0 ≤ 8 ∧ h.2.2.2.2 + am_al 197 ≤ 175 ∧ am_call am_cod 32 197 [.ref 154, .int (Int32.ofInt 1)] h (fun vv h' => pz_S 2 none am_r208 32 Q 17 [(1, .int r), (0, .ref 154)] (vv.toList ++ []) h') from ⟨pz_rc hP, by decide, pz_lim hP rfl, am_call.up (pz_wrongF hP (by decide) (fun h' q1 q2 q3 => ?_)) (by decide)⟩)
    exact am_goX 1 (kf h' ⟨⟨_, _, q1⟩, pz_Fc l.2.1 q2, q3⟩)
  have hrk : ∃ k, k < 2 ∧ r = nI k ∧ pz_wd h a (6 + k) = true := by
    rcases hr with w | w
    · rw [w] at hc
      exact absurd hc (by decide)
    · exact w
  clear hc hr
  obtain ⟨k, hk, hrk, hwd⟩ := hrk
  obtain ⟨hf, hlt⟩ := pz_wd_lt hP hwd
  refine am_goX 8 (show am_sh h 154 = some (11, 0) ∧ (¬ (((h.1 154 20) >>> (r &&& 31)) &&& (Int32.ofInt 1)) = (Int32.ofInt 1) → pz_S 2 none am_r208 32 Q 37 [(1, .int r), (0, .ref 154)] [] h) ∧ (¬ ¬ (((h.1 154 20) >>> (r &&& 31)) &&& (Int32.ofInt 1)) = (Int32.ofInt 1) → pz_S 2 none am_r208 32 Q 32 [(1, .int r), (0, .ref 154)] [] h) from ⟨pz_154 hP, fun hc => ?_, fun hc => ?_⟩)
  rotate_left
  · refine am_goX 3 (show am_rc h 154 11 ∧ 0 ≤ 8 ∧ h.2.2.2.2 + am_al 197 ≤ 175 ∧ am_call am_cod 32 197 [.ref 154, .int (Int32.ofInt 3)] h (fun vv h' => pz_S 2 none am_r208 32 Q 37 [(1, .int r), (0, .ref 154)] (vv.toList ++ []) h') from ⟨pz_rc hP, by decide, pz_lim hP rfl, am_call.up (pz_wrongF hP (by decide) (fun h' q1 q2 q3 => ?_)) (by decide)⟩)
    exact kf h' ⟨⟨_, _, q1⟩, pz_Fc l.2.1 q2, q3⟩
  refine am_goX 3 (show am_sh h 154 = some (11, 0) ∧ ((h.1 154 8) ≤ 0 → pz_S 2 none am_r208 32 Q 45 [(1, .int r), (0, .ref 154)] [] h) ∧ (¬ ((h.1 154 8) ≤ 0) → pz_S 2 none am_r208 32 Q 44 [(1, .int r), (0, .ref 154)] [] h) from ⟨pz_154 hP, fun _ => ?_, fun hz => absurd (by rw [hf]; decide) hz⟩)
  refine am_goX 8 (show (Value.ref 154).category = 1 ∧ am_sh h 154 = some (11, 0) ∧ am_sh h 154 = some (11, 0) ∧ narrow (am_fty 11 20) (.int (((h.1 154 20) ||| ((Int32.ofInt 1) <<< (r &&& 31))))) = .int (((h.1 154 20) ||| ((Int32.ofInt 1) <<< (r &&& 31)))) ∧ fits (am_fty 11 20) (.int (((h.1 154 20) ||| ((Int32.ofInt 1) <<< (r &&& 31))))) = true ∧ pz_S 2 none am_r208 32 Q 57 [(1, .int r), (0, .ref 154)] [] (am_wI h 154 20 (((h.1 154 20) ||| ((Int32.ofInt 1) <<< (r &&& 31))))) from ⟨rfl, pz_154 hP, pz_154 hP, rfl, rfl, ?_⟩)
  have hk2 : k = 0 ∨ k = 1 := by omega
  have s0 := ln_ls l
  rcases l.2.2.2.2.2.2 with ⟨g43, gc, g20⟩ | ⟨g20, gx⟩
  · rcases g20 with g20 | g20
    · rcases hk2 with rfl | rfl
      · rw [g20, hrk, show (0 : Int32) ||| Int32.ofInt 1 <<< (nI 0 &&& 31) = 1 by decide, ← hrk]
        clear hc
        have s1 := ls_w (o := 154) (k := 20) (v := 1) s0 rfl (by decide) (by decide) (by unfold ag_kp; omega) pz_s20
        have l1 := ls_ln s1 (Or.inl ⟨by rw [em_wn h _ (by decide)]; exact g43, gc, Or.inr (em_we h 154 20 1)⟩)
        clear s1
        generalize am_wI h 154 20 1 = h1 at l1 ⊢
        have hP1 := l1.1
        refine am_goX 6 (show (Value.ref 154).category = 1 ∧ am_sh h1 154 = some (11, 0) ∧ am_sh h1 154 = some (11, 0) ∧ narrow (am_fty 11 7) (.int (((h1.1 154 7) + (Int32.ofInt 1)))) = .int (((h1.1 154 7) + (Int32.ofInt 1))) ∧ fits (am_fty 11 7) (.int (((h1.1 154 7) + (Int32.ofInt 1)))) = true ∧ pz_S 2 none am_r208 32 Q 67 [(1, .int r), (0, .ref 154)] [] (am_wI h1 154 7 (((h1.1 154 7) + (Int32.ofInt 1)))) from ⟨rfl, pz_154 hP1, pz_154 hP1, rfl, rfl, ?_⟩)
        rw [hP1.2.2.2.1, xw_i1]
        have l2 := ln_at (a' := a + 1) l1 (by omega)
        generalize am_wI h1 154 7 (nI (a + 1)) = h2 at l2 ⊢
        have hP2 := l2.1
        refine am_goX 2 (show (¬ r = 0 → pz_S 2 none am_r208 32 Q 78 [(1, .int r), (0, .ref 154)] [] h2) ∧ (¬ ¬ r = 0 → pz_S 2 none am_r208 32 Q 71 [(1, .int r), (0, .ref 154)] [] h2) from ⟨fun hz => absurd hz (fun w => w (by rw [hrk]; rfl)), fun _ => ?_⟩)
        refine am_goX 2 (show am_rc h2 154 11 ∧ 0 ≤ 8 ∧ h2.2.2.2.2 + am_al 209 ≤ 175 ∧ am_call am_cod 32 209 [.ref 154] h2 (fun vv h' => pz_S 2 none am_r208 32 Q 75 [(1, .int r), (0, .ref 154)] (vv.toList ++ []) h') from ⟨pz_rc hP2, by decide, pz_lim hP2 rfl, am_call.up (pz_rsnow l2 (fun a3 h3 ha3 hq3 => ?_)) (by decide)⟩)
        rcases hq3 with hq3 | hq3
        · obtain ⟨a9, c9, w1⟩ := hq3.1
          exact am_goX 2 (show (none : Option FieldType) = none ∧ h3.2.2.2.2 = 175 ∧ _ from ⟨rfl, pz_175 w1, hQ a3 c h3 (by omega) (Or.inl hq3)⟩)
        · have w1 := hq3.1
          exact am_goX 2 (show (none : Option FieldType) = none ∧ h3.2.2.2.2 = 175 ∧ _ from ⟨rfl, pz_175 w1, hQ a3 c h3 (by omega) (Or.inr hq3)⟩)
      · rw [g20, hrk, show (0 : Int32) ||| Int32.ofInt 1 <<< (nI 1 &&& 31) = 2 by decide, ← hrk]
        clear hc
        have s1 := ls_w (o := 154) (k := 20) (v := 2) s0 rfl (by decide) (by decide) (by unfold ag_kp; omega) pz_s20
        have e20 : (am_wI h 154 20 2).1 154 20 = 2 := em_we h 154 20 _
        generalize am_wI h 154 20 2 = h1 at s1 e20 ⊢
        have hP1 := s1.1
        refine am_goX 6 (show (Value.ref 154).category = 1 ∧ am_sh h1 154 = some (11, 0) ∧ am_sh h1 154 = some (11, 0) ∧ narrow (am_fty 11 7) (.int (((h1.1 154 7) + (Int32.ofInt 1)))) = .int (((h1.1 154 7) + (Int32.ofInt 1))) ∧ fits (am_fty 11 7) (.int (((h1.1 154 7) + (Int32.ofInt 1)))) = true ∧ pz_S 2 none am_r208 32 Q 67 [(1, .int r), (0, .ref 154)] [] (am_wI h1 154 7 (((h1.1 154 7) + (Int32.ofInt 1)))) from ⟨rfl, pz_154 hP1, pz_154 hP1, rfl, rfl, ?_⟩)
        rw [hP1.2.2.2.1, xw_i1]
        have s2 := ls_at (a' := a + 1) s1 (by omega)
        have f20 : (am_wI h1 154 7 (nI (a + 1))).1 154 20 = 2 := by rw [em_wn h1 _ (by decide)]; exact e20
        generalize am_wI h1 154 7 (nI (a + 1)) = h2 at s2 f20 ⊢
        have hP2 := s2.1
        refine am_goX 2 (show (¬ r = 0 → pz_S 2 none am_r208 32 Q 78 [(1, .int r), (0, .ref 154)] [] h2) ∧ (¬ ¬ r = 0 → pz_S 2 none am_r208 32 Q 71 [(1, .int r), (0, .ref 154)] [] h2) from ⟨fun _ => ?_, fun hz => absurd (by rw [hrk]; decide) hz⟩)
        refine am_goX 2 (show am_sh h2 154 = some (11, 0) ∧ pz_S 2 none am_r208 32 Q 82 [(1, .int r), (0, .ref 154)] [am_rf (h2.2.2.1 154 10)] h2 from ⟨pz_154 hP2, ?_⟩)
        rw [pz_r10 hP2]
        refine am_goX 4 (show am_sh h2 154 = some (11, 0) ∧ ∃ jj nn : Nat, am_so h2 160 = some (13, nn) ∧ jj < nn ∧ (Int8.ofInt 43).toInt32 = nI jj ∧ pz_S 2 none am_r208 32 Q 89 [(1, .int r), (0, .ref 154)] [] (am_wI h2 160 jj ((h2.1 154 13))) from ⟨pz_154 hP2, 43, 80, pz_w160 hP2, by decide, by decide, ?_⟩)
        subst gc
        rw [hP2.2.2.2.2.2.1]
        have s3 := ls_w (o := 160) (k := 43) (v := nI 0) s2 rfl (by decide) (by decide) (by unfold ag_kp; omega) (pz_sgv pz_sg43 (by decide) (by decide))
        have g20 : (am_wI h2 160 43 (nI 0)).1 154 20 = 2 := by rw [em_wn h2 _ (by decide)]; exact f20
        have k43 : (am_wI h2 160 43 (nI 0)).1 160 43 = 0 := em_we h2 160 43 _
        generalize am_wI h2 160 43 (nI 0) = h3 at s3 g20 k43 ⊢
        have hP3 := s3.1
        refine am_goX 3 (show am_rc h3 154 11 ∧ 0 ≤ 8 ∧ h3.2.2.2.2 + am_al 210 ≤ 175 ∧ am_call am_cod 32 210 [.ref 154, .int (Int32.ofInt 0)] h3 (fun vv h' => pz_S 2 none am_r208 32 Q 94 [(1, .int r), (0, .ref 154)] (vv.toList ++ []) h') from ⟨pz_rc hP3, by decide, pz_lim hP3 rfl, pz_whole0 N (a + 1) 0 0 h3 _ hP3 (Nat.zero_le _) (Or.inr (em_none hP3.2.2.2.2.2.1)) (fun a4 c4 h4 q1 q2 q3 q4 q5 => ?_)⟩)
        have hc4 : c4 ≤ 1000 := by
          have := q1.2.2.1
          have := q1.2.2.2.2.1
          omega
        refine am_goX 4 (show am_rc h4 154 11 ∧ 0 ≤ 8 ∧ h4.2.2.2.2 + am_al 216 ≤ 175 ∧ am_call am_cod 32 216 [.ref 154, .int (Int32.ofInt 0), .int (Int32.ofInt 0)] h4 (fun vv h' => pz_S 2 none am_r208 32 Q 100 [(1, .int r), (0, .ref 154)] (vv.toList ++ []) h') from ⟨pz_rc q1, by decide, pz_lim q1 rfl, am_call.up (em_call q1.1 q1.2.2.2.2.2.1 (by omega) ?_) (by decide)⟩)
        have hP5 : pz_P N a4 (c4 + 1) (em_h h4 c4 (Int32.ofInt 0) (Int32.ofInt 0)) := pz_emP q1 hc4
        have f5 : ag_fr pz_M h4 (em_h h4 c4 (Int32.ofInt 0) (Int32.ofInt 0)) := pz_emf hc4
        have h58 : (em_h h4 c4 (Int32.ofInt 0) (Int32.ofInt 0)).1 154 8 = h4.1 154 8 := em_o h4 c4 _ _ (by omega) (by omega) (by omega)
        refine am_goX 1 (show (none : Option FieldType) = none ∧ (em_h h4 c4 (Int32.ofInt 0) (Int32.ofInt 0)).2.2.2.2 = 175 ∧ _ from ⟨rfl, pz_175 hP5, hQ a4 (c4 + 1) _ (by omega) ?_⟩)
        by_cases h48 : h4.1 154 8 = 0
        · right
          have s5 := ls_M s3 hP5 (pz_tr q2 f5) (h58.trans h48)
          refine ls_ln s5 (Or.inr ⟨Or.inl ?_, ?_⟩)
          · rw [(pz_Mk (pz_tr q2 f5)).2.2.2.2]
            exact g20
          · exact em_last (q5.resolve_left (fun w => w h48)) q1.2.2.2.2.2.1 (by omega) (((pz_Mk q2).2.2.1).trans k43)
        · left
          exact ⟨⟨_, _, hP5⟩, pz_Msc s3.2.1 (pz_tr q2 f5), fun w => h48 (h58.symm.trans w)⟩
    · rcases hk2 with rfl | rfl
      · exact absurd (by rw [g20, hrk]; decide) hc
      · rw [g20, hrk, show (1 : Int32) ||| Int32.ofInt 1 <<< (nI 1 &&& 31) = 3 by decide, ← hrk]
        clear hc
        have s1 := ls_w (o := 154) (k := 20) (v := 3) s0 rfl (by decide) (by decide) (by unfold ag_kp; omega) pz_s20
        have e20 : (am_wI h 154 20 3).1 154 20 = 3 := em_we h 154 20 _
        generalize am_wI h 154 20 3 = h1 at s1 e20 ⊢
        have hP1 := s1.1
        refine am_goX 6 (show (Value.ref 154).category = 1 ∧ am_sh h1 154 = some (11, 0) ∧ am_sh h1 154 = some (11, 0) ∧ narrow (am_fty 11 7) (.int (((h1.1 154 7) + (Int32.ofInt 1)))) = .int (((h1.1 154 7) + (Int32.ofInt 1))) ∧ fits (am_fty 11 7) (.int (((h1.1 154 7) + (Int32.ofInt 1)))) = true ∧ pz_S 2 none am_r208 32 Q 67 [(1, .int r), (0, .ref 154)] [] (am_wI h1 154 7 (((h1.1 154 7) + (Int32.ofInt 1)))) from ⟨rfl, pz_154 hP1, pz_154 hP1, rfl, rfl, ?_⟩)
        rw [hP1.2.2.2.1, xw_i1]
        have s2 := ls_at (a' := a + 1) s1 (by omega)
        have f20 : (am_wI h1 154 7 (nI (a + 1))).1 154 20 = 3 := by rw [em_wn h1 _ (by decide)]; exact e20
        generalize am_wI h1 154 7 (nI (a + 1)) = h2 at s2 f20 ⊢
        have hP2 := s2.1
        refine am_goX 2 (show (¬ r = 0 → pz_S 2 none am_r208 32 Q 78 [(1, .int r), (0, .ref 154)] [] h2) ∧ (¬ ¬ r = 0 → pz_S 2 none am_r208 32 Q 71 [(1, .int r), (0, .ref 154)] [] h2) from ⟨fun _ => ?_, fun hz => absurd (by rw [hrk]; decide) hz⟩)
        refine am_goX 2 (show am_sh h2 154 = some (11, 0) ∧ pz_S 2 none am_r208 32 Q 82 [(1, .int r), (0, .ref 154)] [am_rf (h2.2.2.1 154 10)] h2 from ⟨pz_154 hP2, ?_⟩)
        rw [pz_r10 hP2]
        refine am_goX 4 (show am_sh h2 154 = some (11, 0) ∧ ∃ jj nn : Nat, am_so h2 160 = some (13, nn) ∧ jj < nn ∧ (Int8.ofInt 43).toInt32 = nI jj ∧ pz_S 2 none am_r208 32 Q 89 [(1, .int r), (0, .ref 154)] [] (am_wI h2 160 jj ((h2.1 154 13))) from ⟨pz_154 hP2, 43, 80, pz_w160 hP2, by decide, by decide, ?_⟩)
        subst gc
        rw [hP2.2.2.2.2.2.1]
        have s3 := ls_w (o := 160) (k := 43) (v := nI 0) s2 rfl (by decide) (by decide) (by unfold ag_kp; omega) (pz_sgv pz_sg43 (by decide) (by decide))
        have g20 : (am_wI h2 160 43 (nI 0)).1 154 20 = 3 := by rw [em_wn h2 _ (by decide)]; exact f20
        have k43 : (am_wI h2 160 43 (nI 0)).1 160 43 = 0 := em_we h2 160 43 _
        generalize am_wI h2 160 43 (nI 0) = h3 at s3 g20 k43 ⊢
        have hP3 := s3.1
        refine am_goX 3 (show am_rc h3 154 11 ∧ 0 ≤ 8 ∧ h3.2.2.2.2 + am_al 210 ≤ 175 ∧ am_call am_cod 32 210 [.ref 154, .int (Int32.ofInt 0)] h3 (fun vv h' => pz_S 2 none am_r208 32 Q 94 [(1, .int r), (0, .ref 154)] (vv.toList ++ []) h') from ⟨pz_rc hP3, by decide, pz_lim hP3 rfl, pz_whole0 N (a + 1) 0 0 h3 _ hP3 (Nat.zero_le _) (Or.inr (em_none hP3.2.2.2.2.2.1)) (fun a4 c4 h4 q1 q2 q3 q4 q5 => ?_)⟩)
        have hc4 : c4 ≤ 1000 := by
          have := q1.2.2.1
          have := q1.2.2.2.2.1
          omega
        refine am_goX 4 (show am_rc h4 154 11 ∧ 0 ≤ 8 ∧ h4.2.2.2.2 + am_al 216 ≤ 175 ∧ am_call am_cod 32 216 [.ref 154, .int (Int32.ofInt 0), .int (Int32.ofInt 0)] h4 (fun vv h' => pz_S 2 none am_r208 32 Q 100 [(1, .int r), (0, .ref 154)] (vv.toList ++ []) h') from ⟨pz_rc q1, by decide, pz_lim q1 rfl, am_call.up (em_call q1.1 q1.2.2.2.2.2.1 (by omega) ?_) (by decide)⟩)
        have hP5 : pz_P N a4 (c4 + 1) (em_h h4 c4 (Int32.ofInt 0) (Int32.ofInt 0)) := pz_emP q1 hc4
        have f5 : ag_fr pz_M h4 (em_h h4 c4 (Int32.ofInt 0) (Int32.ofInt 0)) := pz_emf hc4
        have h58 : (em_h h4 c4 (Int32.ofInt 0) (Int32.ofInt 0)).1 154 8 = h4.1 154 8 := em_o h4 c4 _ _ (by omega) (by omega) (by omega)
        refine am_goX 1 (show (none : Option FieldType) = none ∧ (em_h h4 c4 (Int32.ofInt 0) (Int32.ofInt 0)).2.2.2.2 = 175 ∧ _ from ⟨rfl, pz_175 hP5, hQ a4 (c4 + 1) _ (by omega) ?_⟩)
        by_cases h48 : h4.1 154 8 = 0
        · right
          have s5 := ls_M s3 hP5 (pz_tr q2 f5) (h58.trans h48)
          refine ls_ln s5 (Or.inr ⟨Or.inr ?_, ?_⟩)
          · rw [(pz_Mk (pz_tr q2 f5)).2.2.2.2]
            exact g20
          · exact em_last (q5.resolve_left (fun w => w h48)) q1.2.2.2.2.2.1 (by omega) (((pz_Mk q2).2.2.1).trans k43)
        · left
          exact ⟨⟨_, _, hP5⟩, pz_Msc s3.2.1 (pz_tr q2 f5), fun w => h48 (h58.symm.trans w)⟩
  · rcases g20 with g20 | g20
    · rcases hk2 with rfl | rfl
      · rw [g20, hrk, show (2 : Int32) ||| Int32.ofInt 1 <<< (nI 0 &&& 31) = 3 by decide, ← hrk]
        clear hc
        have s1 := ls_w (o := 154) (k := 20) (v := 3) s0 rfl (by decide) (by decide) (by unfold ag_kp; omega) pz_s20
        have gx1 : xf_P 1 0 (am_wI h 154 20 3) := by
          refine xf_keep (fun s hs j j1 j2 => em_wn h _ (fun w => ?_)) gx
          have hs : s ∈ ([(161, 1100, 2199), (162, 1100, 2199), (154, 13, 13), (160, 43, 43)] : ag_M) := hs
          simp only [List.mem_cons, List.not_mem_nil, or_false] at hs
          rcases hs with rfl | rfl | rfl | rfl
          · exact absurd w.1 (by decide)
          · exact absurd w.1 (by decide)
          · have j2 : j ≤ 13 := j2
            omega
          · exact absurd w.1 (by decide)
        have l1 := ls_ln s1 (Or.inr ⟨Or.inr (em_we h 154 20 3), gx1⟩)
        clear s1
        generalize am_wI h 154 20 3 = h1 at l1 ⊢
        have hP1 := l1.1
        refine am_goX 6 (show (Value.ref 154).category = 1 ∧ am_sh h1 154 = some (11, 0) ∧ am_sh h1 154 = some (11, 0) ∧ narrow (am_fty 11 7) (.int (((h1.1 154 7) + (Int32.ofInt 1)))) = .int (((h1.1 154 7) + (Int32.ofInt 1))) ∧ fits (am_fty 11 7) (.int (((h1.1 154 7) + (Int32.ofInt 1)))) = true ∧ pz_S 2 none am_r208 32 Q 67 [(1, .int r), (0, .ref 154)] [] (am_wI h1 154 7 (((h1.1 154 7) + (Int32.ofInt 1)))) from ⟨rfl, pz_154 hP1, pz_154 hP1, rfl, rfl, ?_⟩)
        rw [hP1.2.2.2.1, xw_i1]
        have l2 := ln_at (a' := a + 1) l1 (by omega)
        generalize am_wI h1 154 7 (nI (a + 1)) = h2 at l2 ⊢
        have hP2 := l2.1
        refine am_goX 2 (show (¬ r = 0 → pz_S 2 none am_r208 32 Q 78 [(1, .int r), (0, .ref 154)] [] h2) ∧ (¬ ¬ r = 0 → pz_S 2 none am_r208 32 Q 71 [(1, .int r), (0, .ref 154)] [] h2) from ⟨fun hz => absurd hz (fun w => w (by rw [hrk]; rfl)), fun _ => ?_⟩)
        refine am_goX 2 (show am_rc h2 154 11 ∧ 0 ≤ 8 ∧ h2.2.2.2.2 + am_al 209 ≤ 175 ∧ am_call am_cod 32 209 [.ref 154] h2 (fun vv h' => pz_S 2 none am_r208 32 Q 75 [(1, .int r), (0, .ref 154)] (vv.toList ++ []) h') from ⟨pz_rc hP2, by decide, pz_lim hP2 rfl, am_call.up (pz_rsnow l2 (fun a3 h3 ha3 hq3 => ?_)) (by decide)⟩)
        rcases hq3 with hq3 | hq3
        · obtain ⟨a9, c9, w1⟩ := hq3.1
          exact am_goX 2 (show (none : Option FieldType) = none ∧ h3.2.2.2.2 = 175 ∧ _ from ⟨rfl, pz_175 w1, hQ a3 c h3 (by omega) (Or.inl hq3)⟩)
        · have w1 := hq3.1
          exact am_goX 2 (show (none : Option FieldType) = none ∧ h3.2.2.2.2 = 175 ∧ _ from ⟨rfl, pz_175 w1, hQ a3 c h3 (by omega) (Or.inr hq3)⟩)
      · exact absurd (by rw [g20, hrk]; decide) hc
    · rcases hk2 with rfl | rfl
      · exact absurd (by rw [g20, hrk]; decide) hc
      · exact absurd (by rw [g20, hrk]; decide) hc
theorem pz_i3 {p : Nat} (hp : p ≤ 6) : (Int8.ofInt 44).toInt32 + Int32.ofInt 3 * nI p = nI (44 + 3 * p) := by
  have : p = 0 ∨ p = 1 ∨ p = 2 ∨ p = 3 ∨ p = 4 ∨ p = 5 ∨ p = 6 := by omega
  rcases this with rfl | rfl | rfl | rfl | rfl | rfl | rfl <;> rfl
theorem pz_i2 {p : Nat} (hp : p ≤ 5) : (Int8.ofInt 62).toInt32 + Int32.ofInt 2 * nI p = nI (62 + 2 * p) := by
  have : p = 0 ∨ p = 1 ∨ p = 2 ∨ p = 3 ∨ p = 4 ∨ p = 5 := by omega
  rcases this with rfl | rfl | rfl | rfl | rfl | rfl <;> rfl
theorem pz_i4 {p : Nat} (hp : p ≤ 5) : (Int8.ofInt 44).toInt32 + Int32.ofInt 3 * nI p + Int32.ofInt 2 = nI (46 + 3 * p) := by
  have : p = 0 ∨ p = 1 ∨ p = 2 ∨ p = 3 ∨ p = 4 ∨ p = 5 := by omega
  rcases this with rfl | rfl | rfl | rfl | rfl | rfl <;> rfl
/-- a fault, or all well -/
def us (N a0 a c : Nat) (h0 : am_H) (p e : Nat) (h : am_H) : Prop := pz_P N a c h ∧ ag_fr pz_Mc h0 h ∧ (¬ h.1 154 8 = 0 ∨ (ln N a c h0 p e (p + e) h ∧ a0 ≤ a))
theorem us_q {a0 a' : Nat} {h' : am_H} (u : us N a0 a c h0 p e h) (q : pq N a c h a' h') : us N a0 a' c h0 p e h' := by
  refine ⟨q.1, pz_Fc u.2.1 q.2.1, ?_⟩
  by_cases hf : h'.1 154 8 = 0
  · right
    rcases u.2.2 with w | ⟨w1, w2⟩
    · exact absurd (q.2.2.2 hf) w
    · exact ⟨(ln_F w1 q).resolve_left (fun w => w.2.2 hf), Nat.le_trans w2 q.2.2.1⟩
  · exact Or.inl hf
theorem us_w {a0 k : Nat} {v : Int32} (u : us N a0 a c h0 p e h) (k1 : 44 ≤ k) (k2 : k ≤ 79) : us N a0 a c h0 p e (am_wI h 160 k v) := by
  refine ⟨pz_w u.1 (by omega) (by unfold ag_kp; omega) (pz_s160 (Or.inr k1)), pz_trc u.2.1 (pz_fr (pz_Mc160 (by omega) k2)), ?_⟩
  rcases u.2.2 with w | ⟨w1, w2⟩
  · left
    rw [em_wn h _ (by omega)]
    exact w
  · exact Or.inr ⟨ln_w w1 (pz_Mc160 (by omega) k2) (by decide) (fun _ => Or.inr k1) (pz_s160 (Or.inr k1)), w2⟩
theorem us_f {a0 : Nat} (u : us N a0 a c h0 p e h) (hf : ¬ h.1 154 8 = 0) : fl N h0 h := ⟨⟨_, _, u.1⟩, u.2.1, hf⟩
/-- what a line leaves behind -/
def lo (N a0 : Nat) (h0 h' : am_H) : Prop := fl N h0 h' ∨ ∃ a' c' p' e', a0 ≤ a' ∧ ln N a' c' h0 p' e' (p' + e') h' ∧ p' ≤ 6 ∧ e' ≤ 5
theorem us_lo {a0 : Nat} (u : us N a0 a c h0 p e h) (hp : p ≤ 6) (he : e ≤ 5) : lo N a0 h0 h := by
  rcases u.2.2 with w | ⟨w1, w2⟩
  · exact Or.inl (us_f u w)
  · exact Or.inr ⟨a, c, p, e, w2, w1, hp, he⟩
theorem pz_rline {Q : am_Q} (l : ln N a c h0 p e (p + e) h) (hp : p ≤ 6) (he : e ≤ 5) (hQ : ∀ h', lo N a h0 h' → Q none h') : am_call am_cod 34 194 [.ref 154] h Q := by
  have hP := l.1
  refine pz_call (n := 194) (nL := 4) (rt := none) (rows := am_r194) (d := 33) (by decide +kernel) (by decide +kernel) rfl (by funext pc; rfl) (pz_175 hP) (by exact Nat.le_of_ble_eq_true rfl) ?_
  refine am_goX 3 (show am_rc h 154 11 ∧ 0 ≤ 8 ∧ h.2.2.2.2 + am_al 195 ≤ 175 ∧ am_call am_cod 33 195 [.ref 154, .int (Int32.ofInt 0)] h (fun vv h' => pz_S 4 none am_r194 33 Q 5 [(0, .ref 154)] (vv.toList ++ []) h') from ⟨pz_rc hP, by decide, pz_lim hP rfl, am_call.up (pz_word (w := 0) hP (by decide) ?_) (by decide)⟩)
  cases w0 : pz_wd h a 0 with
  | true =>
    have hlt := (pz_wd_lt hP w0).2
    refine am_goX 1 (show ((pz_b true) = 0 → pz_S 4 none am_r194 33 Q 71 [(0, .ref 154)] [] h) ∧ (¬ ((pz_b true) = 0) → pz_S 4 none am_r194 33 Q 8 [(0, .ref 154)] [] h) from ⟨fun hz => absurd hz (by decide), fun _ => ?_⟩)
    refine am_goX 4 (show am_sh h 154 = some (11, 0) ∧ pz_S 4 none am_r194 33 Q 15 [(0, .ref 154)] [am_rf (h.2.2.1 154 10), .int (Int32.ofInt 3), .int (Int8.ofInt 44).toInt32] h from ⟨pz_154 hP, ?_⟩)
    rw [pz_r10 hP]
    refine am_goX 2 (show ∃ jj nn : Nat, am_sh h 160 = some (13, nn) ∧ jj < nn ∧ (Int8.ofInt 40).toInt32 = nI jj ∧ pz_S 4 none am_r194 33 Q 18 [(0, .ref 154)] [.int (h.1 160 jj), .int (Int32.ofInt 3), .int (Int8.ofInt 44).toInt32] h from ⟨40, 80, pz_160 hP, by decide, by decide, ?_⟩)
    rw [l.2.2.2.1]
    refine am_goX 3 (show 1 < 4 ∧ pz_S 4 none am_r194 33 Q 21 [(1, .int ((Int8.ofInt 44).toInt32 + ((Int32.ofInt 3) * (nI p)))), (0, .ref 154)] [] h from ⟨by decide, ?_⟩)
    rw [pz_i3 hp]
    refine am_goX 5 (show am_rc h 154 11 ∧ 0 ≤ 8 ∧ h.2.2.2.2 + am_al 196 ≤ 175 ∧ am_call am_cod 33 196 [.ref 154, .int (Int32.ofInt 0), .int (Int8.ofInt 6).toInt32, .int (Int32.ofInt 0)] h (fun vv h' => pz_S 4 none am_r194 33 Q 29 [(1, .int (nI (44 + 3 * p))), (0, .ref 154)] (vv.toList ++ []) h') from ⟨pz_rc hP, by decide, pz_lim hP rfl, am_call.up (pz_rname0 l hp he hlt (fun a1 h1 ha1 hq => ?_)) (by decide)⟩)
    have u1 : ∃ a1 c1, us N a a1 c1 h0 (p + 1) (e) h1 := by
      rcases hq with w | ⟨w, -⟩
      · obtain ⟨⟨a9, c9, w1⟩, w2, w3⟩ := w
        exact ⟨a9, c9, w1, w2, Or.inl w3⟩
      · exact ⟨a1, c, w.1, w.2.1, Or.inr ⟨w, ha1⟩⟩
    have hpe : (p + 1) ≤ 6 ∧ (e) ≤ 5 ∨ fl N h0 h1 := by
      rcases hq with w | ⟨-, w⟩
      · exact Or.inr w
      · exact Or.inl ⟨by omega, by omega⟩
    clear hq
    obtain ⟨a2, c2, u1⟩ := u1
    refine am_goX 4 (show am_rc h1 154 11 ∧ 0 ≤ 8 ∧ h1.2.2.2.2 + am_al 201 ≤ 175 ∧ am_call am_cod 33 201 [.ref 154, .int (Int8.ofInt 10).toInt32, .int (Int32.ofInt 4)] h1 (fun vv h' => pz_S 4 none am_r194 33 Q 36 [(1, .int (nI (44 + 3 * p))), (0, .ref 154)] (vv.toList ++ []) h') from ⟨pz_rc u1.1, by decide, pz_lim u1.1 rfl, am_call.up (pz_tone (f := 10) (m := 4) u1.1 (by decide) (fun a3 h2 v2 q2 => ?_)) (by decide)⟩)
    have u2 := us_q u1 (pk_q q2)
    refine am_goX 6 (show 2 < 4 ∧ am_rc h2 154 11 ∧ 0 ≤ 8 ∧ h2.2.2.2.2 + am_al 202 ≤ 175 ∧ am_call am_cod 33 202 [.ref 154, .int (Int32.ofInt 1), .int (Int32.ofInt 0), .int (Int32.ofInt 4)] h2 (fun vv h' => pz_S 4 none am_r194 33 Q 44 [(2, .int v2), (1, .int (nI (44 + 3 * p))), (0, .ref 154)] (vv.toList ++ []) h') from ⟨by decide, pz_rc u2.1, by decide, pz_lim u2.1 rfl, am_call.up (pz_tafter (w := 1) u2.1 (by decide) (fun a4 h3 v3 q3 => ?_)) (by decide)⟩)
    have u3 := us_q u2 q3
    refine am_goX 4 (show 3 < 4 ∧ am_sh h3 154 = some (11, 0) ∧ (¬ (h3.1 154 8) = 0 → pz_S 4 none am_r194 33 Q 68 [(3, .int v3), (2, .int v2), (1, .int (nI (44 + 3 * p))), (0, .ref 154)] [] h3) ∧ (¬ ¬ (h3.1 154 8) = 0 → pz_S 4 none am_r194 33 Q 52 [(3, .int v3), (2, .int v2), (1, .int (nI (44 + 3 * p))), (0, .ref 154)] [] h3) from ⟨by decide, pz_154 u3.1, fun hc => ?_, fun hc => ?_⟩)
    · exact am_goX 2 (show (none : Option FieldType) = none ∧ h3.2.2.2.2 = 175 ∧ _ from ⟨rfl, pz_175 u3.1, hQ _ (Or.inl (us_f u3 hc))⟩)
    · refine am_goX 2 (show am_sh h3 154 = some (11, 0) ∧ pz_S 4 none am_r194 33 Q 56 [(3, .int v3), (2, .int v2), (1, .int (nI (44 + 3 * p))), (0, .ref 154)] [am_rf (h3.2.2.1 154 10)] h3 from ⟨pz_154 u3.1, ?_⟩)
      rw [pz_r10 u3.1]
      refine am_goX 3 (show ∃ jj nn : Nat, am_so h3 160 = some (13, nn) ∧ jj < nn ∧ (nI (44 + 3 * p)) = nI jj ∧ pz_S 4 none am_r194 33 Q 59 [(3, .int v3), (2, .int v2), (1, .int (nI (44 + 3 * p))), (0, .ref 154)] [] (am_wI h3 160 jj (v2)) from ⟨(44 + 3 * p), 80, pz_w160 u3.1, by omega, rfl, ?_⟩)
      have x1 := us_w (k := 44 + 3 * p) (v := v2) u3 (by omega) (by omega)
      have f1 : (am_wI h3 160 (44 + 3 * p) v2).1 154 8 = 0 := by rw [em_wn h3 _ (by omega)]; exact Decidable.not_not.mp hc
      generalize am_wI h3 160 (44 + 3 * p) v2 = g1 at x1 f1 ⊢
      refine am_goX 2 (show am_sh g1 154 = some (11, 0) ∧ pz_S 4 none am_r194 33 Q 63 [(3, .int v3), (2, .int v2), (1, .int (nI (44 + 3 * p))), (0, .ref 154)] [am_rf (g1.2.2.1 154 10)] g1 from ⟨pz_154 x1.1, ?_⟩)
      rw [pz_r10 x1.1]
      refine am_goX 5 (show ∃ jj nn : Nat, am_so g1 160 = some (13, nn) ∧ jj < nn ∧ ((nI (44 + 3 * p)) + (Int32.ofInt 1)) = nI jj ∧ pz_S 4 none am_r194 33 Q 68 [(3, .int v3), (2, .int v2), (1, .int (nI (44 + 3 * p))), (0, .ref 154)] [] (am_wI g1 160 jj (v3)) from ⟨(44 + 3 * p + 1), 80, pz_w160 x1.1, by omega, xw_i1 _, ?_⟩)
      have x2 := us_w (k := 44 + 3 * p + 1) (v := v3) x1 (by omega) (by omega)
      have f2 : (am_wI g1 160 (44 + 3 * p + 1) v3).1 154 8 = 0 := by rw [em_wn g1 _ (by omega)]; exact f1
      generalize am_wI g1 160 (44 + 3 * p + 1) v3 = g2 at x2 f2 ⊢
      have hpe2 : (p + 1) ≤ 6 ∧ (e) ≤ 5 := by
        rcases hpe with w | w
        · exact w
        · exfalso
          have b0 := Decidable.not_not.mp hc
          have b1 := q3.2.2.2 b0
          have b2 := (pk_q q2).2.2.2 b1
          exact w.2.2 b2
      exact am_goX 2 (show (none : Option FieldType) = none ∧ g2.2.2.2.2 = 175 ∧ _ from ⟨rfl, pz_175 x2.1, hQ _ (us_lo x2 hpe2.1 hpe2.2)⟩)
  | false =>
    refine am_goX 1 (show ((pz_b false) = 0 → pz_S 4 none am_r194 33 Q 71 [(0, .ref 154)] [] h) ∧ (¬ ((pz_b false) = 0) → pz_S 4 none am_r194 33 Q 8 [(0, .ref 154)] [] h) from ⟨fun _ => ?_, fun hz => absurd rfl hz⟩)
    refine am_goX 3 (show am_rc h 154 11 ∧ 0 ≤ 8 ∧ h.2.2.2.2 + am_al 195 ≤ 175 ∧ am_call am_cod 33 195 [.ref 154, .int (Int32.ofInt 2)] h (fun vv h' => pz_S 4 none am_r194 33 Q 76 [(0, .ref 154)] (vv.toList ++ []) h') from ⟨pz_rc hP, by decide, pz_lim hP rfl, am_call.up (pz_word (w := 2) hP (by decide) ?_) (by decide)⟩)
    cases w2 : pz_wd h a 2 with
    | true =>
      have hlt := (pz_wd_lt hP w2).2
      refine am_goX 1 (show ((pz_b true) = 0 → pz_S 4 none am_r194 33 Q 144 [(0, .ref 154)] [] h) ∧ (¬ ((pz_b true) = 0) → pz_S 4 none am_r194 33 Q 79 [(0, .ref 154)] [] h) from ⟨fun hz => absurd hz (by decide), fun _ => ?_⟩)
      refine am_goX 4 (show am_sh h 154 = some (11, 0) ∧ pz_S 4 none am_r194 33 Q 86 [(0, .ref 154)] [am_rf (h.2.2.1 154 10), .int (Int32.ofInt 2), .int (Int8.ofInt 62).toInt32] h from ⟨pz_154 hP, ?_⟩)
      rw [pz_r10 hP]
      refine am_goX 2 (show ∃ jj nn : Nat, am_sh h 160 = some (13, nn) ∧ jj < nn ∧ (Int8.ofInt 41).toInt32 = nI jj ∧ pz_S 4 none am_r194 33 Q 89 [(0, .ref 154)] [.int (h.1 160 jj), .int (Int32.ofInt 2), .int (Int8.ofInt 62).toInt32] h from ⟨41, 80, pz_160 hP, by decide, by decide, ?_⟩)
      rw [l.2.2.2.2.1]
      refine am_goX 3 (show 1 < 4 ∧ pz_S 4 none am_r194 33 Q 92 [(1, .int ((Int8.ofInt 62).toInt32 + ((Int32.ofInt 2) * (nI e)))), (0, .ref 154)] [] h from ⟨by decide, ?_⟩)
      rw [pz_i2 he]
      refine am_goX 5 (show am_rc h 154 11 ∧ 0 ≤ 8 ∧ h.2.2.2.2 + am_al 196 ≤ 175 ∧ am_call am_cod 33 196 [.ref 154, .int (Int32.ofInt 1), .int (Int32.ofInt 5), .int (Int8.ofInt 20).toInt32] h (fun vv h' => pz_S 4 none am_r194 33 Q 100 [(1, .int (nI (62 + 2 * e))), (0, .ref 154)] (vv.toList ++ []) h') from ⟨pz_rc hP, by decide, pz_lim hP rfl, am_call.up (pz_rname1 l hp he hlt (fun a1 h1 ha1 hq => ?_)) (by decide)⟩)
      have u1 : ∃ a1 c1, us N a a1 c1 h0 (p) (e + 1) h1 := by
        rcases hq with w | ⟨w, -⟩
        · obtain ⟨⟨a9, c9, w1⟩, w2, w3⟩ := w
          exact ⟨a9, c9, w1, w2, Or.inl w3⟩
        · exact ⟨a1, c, w.1, w.2.1, Or.inr ⟨w, ha1⟩⟩
      have hpe : (p) ≤ 6 ∧ (e + 1) ≤ 5 ∨ fl N h0 h1 := by
        rcases hq with w | ⟨-, w⟩
        · exact Or.inr w
        · exact Or.inl ⟨by omega, by omega⟩
      clear hq
      obtain ⟨a2, c2, u1⟩ := u1
      refine am_goX 5 (show am_rc h1 154 11 ∧ 0 ≤ 8 ∧ h1.2.2.2.2 + am_al 202 ≤ 175 ∧ am_call am_cod 33 202 [.ref 154, .int (Int32.ofInt 3), .int (Int32.ofInt 0), .int (Int8.ofInt 6).toInt32] h1 (fun vv h' => pz_S 4 none am_r194 33 Q 108 [(1, .int (nI (62 + 2 * e))), (0, .ref 154)] (vv.toList ++ []) h') from ⟨pz_rc u1.1, by decide, pz_lim u1.1 rfl, am_call.up (pz_tafter (w := 3) u1.1 (by decide) (fun a3 h2 v2 q2 => ?_)) (by decide)⟩)
      have u2 := us_q u1 q2
      refine am_goX 6 (show 2 < 4 ∧ am_rc h2 154 11 ∧ 0 ≤ 8 ∧ h2.2.2.2.2 + am_al 202 ≤ 175 ∧ am_call am_cod 33 202 [.ref 154, .int (Int32.ofInt 4), .int (Int32.ofInt 1), .int (Int8.ofInt 6).toInt32] h2 (fun vv h' => pz_S 4 none am_r194 33 Q 117 [(2, .int v2), (1, .int (nI (62 + 2 * e))), (0, .ref 154)] (vv.toList ++ []) h') from ⟨by decide, pz_rc u2.1, by decide, pz_lim u2.1 rfl, am_call.up (pz_tafter (w := 4) u2.1 (by decide) (fun a4 h3 v3 q3 => ?_)) (by decide)⟩)
      have u3 := us_q u2 q3
      refine am_goX 4 (show 3 < 4 ∧ am_sh h3 154 = some (11, 0) ∧ (¬ (h3.1 154 8) = 0 → pz_S 4 none am_r194 33 Q 141 [(3, .int v3), (2, .int v2), (1, .int (nI (62 + 2 * e))), (0, .ref 154)] [] h3) ∧ (¬ ¬ (h3.1 154 8) = 0 → pz_S 4 none am_r194 33 Q 125 [(3, .int v3), (2, .int v2), (1, .int (nI (62 + 2 * e))), (0, .ref 154)] [] h3) from ⟨by decide, pz_154 u3.1, fun hc => ?_, fun hc => ?_⟩)
      · exact am_goX 2 (show (none : Option FieldType) = none ∧ h3.2.2.2.2 = 175 ∧ _ from ⟨rfl, pz_175 u3.1, hQ _ (Or.inl (us_f u3 hc))⟩)
      · refine am_goX 2 (show am_sh h3 154 = some (11, 0) ∧ pz_S 4 none am_r194 33 Q 129 [(3, .int v3), (2, .int v2), (1, .int (nI (62 + 2 * e))), (0, .ref 154)] [am_rf (h3.2.2.1 154 10)] h3 from ⟨pz_154 u3.1, ?_⟩)
        rw [pz_r10 u3.1]
        refine am_goX 3 (show ∃ jj nn : Nat, am_so h3 160 = some (13, nn) ∧ jj < nn ∧ (nI (62 + 2 * e)) = nI jj ∧ pz_S 4 none am_r194 33 Q 132 [(3, .int v3), (2, .int v2), (1, .int (nI (62 + 2 * e))), (0, .ref 154)] [] (am_wI h3 160 jj (v2)) from ⟨(62 + 2 * e), 80, pz_w160 u3.1, by omega, rfl, ?_⟩)
        have x1 := us_w (k := 62 + 2 * e) (v := v2) u3 (by omega) (by omega)
        have f1 : (am_wI h3 160 (62 + 2 * e) v2).1 154 8 = 0 := by rw [em_wn h3 _ (by omega)]; exact Decidable.not_not.mp hc
        generalize am_wI h3 160 (62 + 2 * e) v2 = g1 at x1 f1 ⊢
        refine am_goX 2 (show am_sh g1 154 = some (11, 0) ∧ pz_S 4 none am_r194 33 Q 136 [(3, .int v3), (2, .int v2), (1, .int (nI (62 + 2 * e))), (0, .ref 154)] [am_rf (g1.2.2.1 154 10)] g1 from ⟨pz_154 x1.1, ?_⟩)
        rw [pz_r10 x1.1]
        refine am_goX 5 (show ∃ jj nn : Nat, am_so g1 160 = some (13, nn) ∧ jj < nn ∧ ((nI (62 + 2 * e)) + (Int32.ofInt 1)) = nI jj ∧ pz_S 4 none am_r194 33 Q 141 [(3, .int v3), (2, .int v2), (1, .int (nI (62 + 2 * e))), (0, .ref 154)] [] (am_wI g1 160 jj (v3)) from ⟨(62 + 2 * e + 1), 80, pz_w160 x1.1, by omega, xw_i1 _, ?_⟩)
        have x2 := us_w (k := 62 + 2 * e + 1) (v := v3) x1 (by omega) (by omega)
        have f2 : (am_wI g1 160 (62 + 2 * e + 1) v3).1 154 8 = 0 := by rw [em_wn g1 _ (by omega)]; exact f1
        generalize am_wI g1 160 (62 + 2 * e + 1) v3 = g2 at x2 f2 ⊢
        have hpe2 : (p) ≤ 6 ∧ (e + 1) ≤ 5 := by
          rcases hpe with w | w
          · exact w
          · exfalso
            have b0 := Decidable.not_not.mp hc
            have b1 := q3.2.2.2 b0
            have b2 := q2.2.2.2 b1
            exact w.2.2 b2
        exact am_goX 2 (show (none : Option FieldType) = none ∧ g2.2.2.2.2 = 175 ∧ _ from ⟨rfl, pz_175 x2.1, hQ _ (us_lo x2 hpe2.1 hpe2.2)⟩)
    | false =>
      refine am_goX 1 (show ((pz_b false) = 0 → pz_S 4 none am_r194 33 Q 144 [(0, .ref 154)] [] h) ∧ (¬ ((pz_b false) = 0) → pz_S 4 none am_r194 33 Q 79 [(0, .ref 154)] [] h) from ⟨fun _ => ?_, fun hz => absurd rfl hz⟩)
      refine am_goX 3 (show am_rc h 154 11 ∧ 0 ≤ 8 ∧ h.2.2.2.2 + am_al 195 ≤ 175 ∧ am_call am_cod 33 195 [.ref 154, .int (Int32.ofInt 5)] h (fun vv h' => pz_S 4 none am_r194 33 Q 149 [(0, .ref 154)] (vv.toList ++ []) h') from ⟨pz_rc hP, by decide, pz_lim hP rfl, am_call.up (pz_word (w := 5) hP (by decide) ?_) (by decide)⟩)
      cases w5 : pz_wd h a 5 with
      | true =>
        have hlt := (pz_wd_lt hP w5).2
        refine am_goX 1 (show ((pz_b true) = 0 → pz_S 4 none am_r194 33 Q 217 [(0, .ref 154)] [] h) ∧ (¬ ((pz_b true) = 0) → pz_S 4 none am_r194 33 Q 152 [(0, .ref 154)] [] h) from ⟨fun hz => absurd hz (by decide), fun _ => ?_⟩)
        refine am_goX 6 (show (Value.ref 154).category = 1 ∧ am_sh h 154 = some (11, 0) ∧ am_sh h 154 = some (11, 0) ∧ narrow (am_fty 11 7) (.int (((h.1 154 7) + (Int32.ofInt 1)))) = .int (((h.1 154 7) + (Int32.ofInt 1))) ∧ fits (am_fty 11 7) (.int (((h.1 154 7) + (Int32.ofInt 1)))) = true ∧ pz_S 4 none am_r194 33 Q 162 [(0, .ref 154)] [] (am_wI h 154 7 (((h.1 154 7) + (Int32.ofInt 1)))) from ⟨rfl, pz_154 hP, pz_154 hP, rfl, rfl, ?_⟩)
        rw [hP.2.2.2.1, xw_i1]
        have l1 := ln_at (a' := a + 1) l (by omega)
        generalize am_wI h 154 7 (nI (a + 1)) = h1 at l1 ⊢
        have u1 : us N a (a + 1) c h0 p e h1 := ⟨l1.1, l1.2.1, Or.inr ⟨l1, by omega⟩⟩
        refine am_goX 7 (show am_rc h1 154 11 ∧ 2 ≤ 8 ∧ h1.2.2.2.2 + am_al 206 ≤ 175 ∧ am_call am_cod 33 206 [.ref 154, .int (Int32.ofInt 1), .int (Int32.ofInt 0), .int (Int32.ofInt 0)] h1 (fun vv h' => pz_S 4 none am_r194 33 Q 172 [(0, .ref 154)] (vv.toList ++ [.int (Int32.ofInt 3), .int (Int8.ofInt 44).toInt32]) h') from ⟨pz_rc u1.1, by decide, pz_lim u1.1 rfl, am_call.up (pz_told1 u1.1 (fun a2 h2 k hk q2 => ?_)) (by decide)⟩)
        have u2 := us_q u1 (pk_q q2)
        refine am_goX 5 (show 1 < 4 ∧ pz_S 4 none am_r194 33 Q 177 [(1, .int (((Int8.ofInt 44).toInt32 + ((Int32.ofInt 3) * (nI k))) + (Int32.ofInt 2))), (0, .ref 154)] [] h2 from ⟨by decide, ?_⟩)
        rw [pz_i4 hk]
        refine am_goX 5 (show am_sh h2 154 = some (11, 0) ∧ pz_S 4 none am_r194 33 Q 185 [(1, .int (nI (46 + 3 * k))), (0, .ref 154)] [am_rf (h2.2.2.1 154 10), .int (Int8.ofInt 20).toInt32, .int (Int32.ofInt 1), .ref 154] h2 from ⟨pz_154 u2.1, ?_⟩)
        rw [pz_r10 u2.1]
        refine am_goX 2 (show ∃ jj nn : Nat, am_sh h2 160 = some (13, nn) ∧ jj < nn ∧ (nI (46 + 3 * k)) = nI jj ∧ pz_S 4 none am_r194 33 Q 187 [(1, .int (nI (46 + 3 * k))), (0, .ref 154)] [.int (h2.1 160 jj), .int (Int8.ofInt 20).toInt32, .int (Int32.ofInt 1), .ref 154] h2 from ⟨(46 + 3 * k), 80, pz_160 u2.1, by omega, rfl, ?_⟩)
        refine am_goX 1 (show am_rc h2 154 11 ∧ 0 ≤ 8 ∧ h2.2.2.2.2 + am_al 206 ≤ 175 ∧ am_call am_cod 33 206 [.ref 154, .int (Int32.ofInt 1), .int (Int8.ofInt 20).toInt32, .int (h2.1 160 (46 + 3 * k))] h2 (fun vv h' => pz_S 4 none am_r194 33 Q 190 [(1, .int (nI (46 + 3 * k))), (0, .ref 154)] (vv.toList ++ []) h') from ⟨pz_rc u2.1, by decide, pz_lim u2.1 rfl, am_call.up (pz_told1 u2.1 (fun a3 h3 k3 hk3 q3 => ?_)) (by decide)⟩)
        have u3 := us_q u2 (pk_q q3)
        refine am_goX 3 (show 2 < 4 ∧ am_sh h3 154 = some (11, 0) ∧ pz_S 4 none am_r194 33 Q 195 [(2, .int (nI k3)), (1, .int (nI (46 + 3 * k))), (0, .ref 154)] [am_rf (h3.2.2.1 154 10)] h3 from ⟨by decide, pz_154 u3.1, ?_⟩)
        rw [pz_r10 u3.1]
        refine am_goX 3 (show (Value.int (nI (46 + 3 * k))).category = 1 ∧ (Value.ref 160).category = 1 ∧ ∃ jj nn : Nat, am_sh h3 160 = some (13, nn) ∧ jj < nn ∧ (nI (46 + 3 * k)) = nI jj ∧ pz_S 4 none am_r194 33 Q 198 [(2, .int (nI k3)), (1, .int (nI (46 + 3 * k))), (0, .ref 154)] [.int (h3.1 160 jj), .int (nI (46 + 3 * k)), .ref 160] h3 from ⟨rfl, rfl, (46 + 3 * k), 80, pz_160 u3.1, by omega, rfl, ?_⟩)
        refine am_goX 3 (show am_sh h3 154 = some (11, 0) ∧ ((h3.1 154 8) ≤ 0 → pz_S 4 none am_r194 33 Q 209 [(2, .int (nI k3)), (1, .int (nI (46 + 3 * k))), (0, .ref 154)] [.int (h3.1 160 (46 + 3 * k)), .int (nI (46 + 3 * k)), .ref 160] h3) ∧ (¬ ((h3.1 154 8) ≤ 0) → pz_S 4 none am_r194 33 Q 205 [(2, .int (nI k3)), (1, .int (nI (46 + 3 * k))), (0, .ref 154)] [.int (h3.1 160 (46 + 3 * k)), .int (nI (46 + 3 * k)), .ref 160] h3) from ⟨pz_154 u3.1, fun hc => ?_, fun hc => ?_⟩)
        · refine am_goX 5 (show ∃ jj nn : Nat, am_so h3 160 = some (13, nn) ∧ jj < nn ∧ (nI (46 + 3 * k)) = nI jj ∧ pz_S 4 none am_r194 33 Q 214 [(2, .int (nI k3)), (1, .int (nI (46 + 3 * k))), (0, .ref 154)] [] (am_wI h3 160 jj (((h3.1 160 (46 + 3 * k)) ||| ((Int32.ofInt 1) <<< ((nI k3) &&& 31))))) from ⟨(46 + 3 * k), 80, pz_w160 u3.1, by omega, rfl, ?_⟩)
          generalize ((h3.1 160 (46 + 3 * k)) ||| ((Int32.ofInt 1) <<< ((nI k3) &&& 31))) = vv
          have x1 := us_w (k := 46 + 3 * k) (v := vv) u3 (by omega) (by omega)
          generalize am_wI h3 160 (46 + 3 * k) vv = g1 at x1 ⊢
          exact am_goX 2 (show (none : Option FieldType) = none ∧ g1.2.2.2.2 = 175 ∧ _ from ⟨rfl, pz_175 x1.1, hQ _ (us_lo x1 hp he)⟩)
        · refine am_goX 4 (show ∃ jj nn : Nat, am_so h3 160 = some (13, nn) ∧ jj < nn ∧ (nI (46 + 3 * k)) = nI jj ∧ pz_S 4 none am_r194 33 Q 214 [(2, .int (nI k3)), (1, .int (nI (46 + 3 * k))), (0, .ref 154)] [] (am_wI h3 160 jj (((h3.1 160 (46 + 3 * k)) ||| (Int32.ofInt 0)))) from ⟨(46 + 3 * k), 80, pz_w160 u3.1, by omega, rfl, ?_⟩)
          generalize ((h3.1 160 (46 + 3 * k)) ||| (Int32.ofInt 0)) = vv
          have x1 := us_w (k := 46 + 3 * k) (v := vv) u3 (by omega) (by omega)
          generalize am_wI h3 160 (46 + 3 * k) vv = g1 at x1 ⊢
          exact am_goX 2 (show (none : Option FieldType) = none ∧ g1.2.2.2.2 = 175 ∧ _ from ⟨rfl, pz_175 x1.1, hQ _ (us_lo x1 hp he)⟩)
      | false =>
        refine am_goX 1 (show ((pz_b false) = 0 → pz_S 4 none am_r194 33 Q 217 [(0, .ref 154)] [] h) ∧ (¬ ((pz_b false) = 0) → pz_S 4 none am_r194 33 Q 152 [(0, .ref 154)] [] h) from ⟨fun _ => ?_, fun hz => absurd rfl hz⟩)
        refine am_goX 2 (show am_rc h 154 11 ∧ 0 ≤ 8 ∧ h.2.2.2.2 + am_al 208 ≤ 175 ∧ am_call am_cod 33 208 [.ref 154] h (fun vv h' => pz_S 4 none am_r194 33 Q 221 [(0, .ref 154)] (vv.toList ++ []) h') from ⟨pz_rc hP, by decide, pz_lim hP rfl, pz_ronce l (fun a1 c1 h1 ha1 hq => ?_)⟩)
        have hlo : lo N a h0 h1 := by
          rcases hq with w | w
          · exact Or.inl w
          · exact Or.inr ⟨a1, c1, p, e, ha1, w, hp, he⟩
        have w1 : ∃ a9 c9, pz_P N a9 c9 h1 := by
          rcases hq with w | w
          · exact w.1
          · exact ⟨_, _, w.1⟩
        obtain ⟨a9, c9, w1⟩ := w1
        exact am_goX 1 (show (none : Option FieldType) = none ∧ h1.2.2.2.2 = 175 ∧ _ from ⟨rfl, pz_175 w1, hQ _ hlo⟩)
end
section
/-! LOCALS MORE THAN ARE NEEDED -/
theorem am_pI.imp {st : List Value} {k k' : Int32 → List Value → Prop} (f : ∀ x r, k x r → k' x r) (h : am_pI st k) : am_pI st k' := by
  obtain ⟨x, r, rfl, h⟩ := h.inv
  exact f x r h
theorem am_pL.imp {st : List Value} {k k' : Int64 → List Value → Prop} (f : ∀ x r, k x r → k' x r) (h : am_pL st k) : am_pL st k' := by
  obtain ⟨x, r, rfl, h⟩ := h.inv
  exact f x r h
theorem am_pR.imp {st : List Value} {k k' : Nat → List Value → Prop} (f : ∀ x r, k x r → k' x r) (h : am_pR st k) : am_pR st k' := by
  obtain ⟨x, r, rfl, h⟩ := h.inv
  exact f x r h
theorem am_pV.imp {st : List Value} {k k' : Value → List Value → Prop} (f : ∀ x r, k x r → k' x r) (h : am_pV st k) : am_pV st k' := by
  obtain ⟨x, r, rfl, h⟩ := h.inv
  exact f x r h
def sv (lv lv' : am_V) : Prop := ∀ q ∈ lv, am_lk lv' q.1 = some q.2
theorem sv_li {lv lv' : am_V} {i : Nat} {k k' : Int32 → Prop} (hv : sv lv lv') (f : ∀ x, k x → k' x) (h : am_li lv i k) : am_li lv' i k' := by
  obtain ⟨x, h1, h2⟩ := am_li.inv h
  unfold am_li
  rw [hv _ (am_lk_mem h1)]
  exact f x h2
theorem sv_ll {lv lv' : am_V} {i : Nat} {k k' : Int64 → Prop} (hv : sv lv lv') (f : ∀ x, k x → k' x) (h : am_ll lv i k) : am_ll lv' i k' := by
  obtain ⟨x, h1, h2⟩ := am_ll.inv h
  unfold am_ll
  rw [hv _ (am_lk_mem h1)]
  exact f x h2
theorem sv_la {lv lv' : am_V} {i : Nat} {k k' : Nat → Prop} (hv : sv lv lv') (f : ∀ x, k x → k' x) (h : am_la lv i k) : am_la lv' i k' := by
  obtain ⟨x, h1, h2⟩ := am_la.inv h
  unfold am_la
  rw [hv _ (am_lk_mem h1)]
  exact f x h2
theorem sv_fl {f : Nat × Value → Bool} {j : Nat} {w : Value} (hf : f (j, w) = true) : ∀ {l : am_V}, am_lk l j = some w → am_lk (l.filter f) j = some w
  | q :: l, h => by
    unfold am_lk at h
    cases hq : Nat.beq q.1 j with
    | true =>
      rw [hq] at h
      have e1 : q.1 = j := Nat.eq_of_beq_eq_true hq
      have e2 : q.2 = w := Option.some.inj h
      have e3 : q = (j, w) := Prod.ext e1 e2
      rw [List.filter_cons, e3, if_pos hf]
      unfold am_lk
      rw [show Nat.beq (j, w).1 j = true from Nat.beq_refl j]
      rfl
    | false =>
      rw [hq] at h
      have ih := sv_fl hf (l := l) h
      rw [List.filter_cons]
      by_cases hb : f q = true
      · rw [if_pos hb]
        unfold am_lk
        rw [hq]
        exact ih
      · rw [if_neg hb]
        exact ih
theorem sv_hd {i : Nat} {v : Value} {l : am_V} : am_lk ((i, v) :: l) i = some v := by
  unfold am_lk
  rw [show Nat.beq (i, v).1 i = true from Nat.beq_refl i]
  rfl
theorem sv_tl {i j : Nat} {v : Value} {l : am_V} (hn : ¬ i = j) : am_lk ((i, v) :: l) j = am_lk l j := by
  have e : Nat.beq i j = false := by
    cases hb : Nat.beq i j with
    | true => exact absurd (Nat.eq_of_beq_eq_true hb) hn
    | false => rfl
  show (bif Nat.beq i j then _ else am_lk l j) = am_lk l j
  rw [e]
  rfl
theorem sv_s1 {lv lv' : am_V} {i : Nat} {v : Value} (hv : sv lv lv') : sv (am_s1 lv i v) (am_s1 lv' i v) := by
  intro q hq
  rcases List.mem_cons.mp hq with w | w
  · rw [w]
    exact sv_hd
  · obtain ⟨w1, w2⟩ := List.mem_filter.mp w
    have hne : ¬ i = q.1 := fun z => by
      rw [Bool.and_eq_true] at w2
      have w3 := w2.1
      rw [z] at w3
      simp at w3
    unfold am_s1
    rw [sv_tl hne]
    exact sv_fl w2 (hv q w1)
theorem sv_s2 {lv lv' : am_V} {i : Nat} {v : Value} (hv : sv lv lv') : sv (am_s2 lv i v) (am_s2 lv' i v) := by
  intro q hq
  rcases List.mem_cons.mp hq with w | w
  · rw [w]
    exact sv_hd
  · obtain ⟨w1, w2⟩ := List.mem_filter.mp w
    have hne : ¬ i = q.1 := fun z => by
      rw [Bool.and_eq_true] at w2
      have w3 := w2.1
      rw [z] at w3
      simp at w3
    unfold am_s2
    rw [sv_tl hne]
    exact sv_fl w2 (hv q w1)
def sv_ok (r : am_R) : Bool := match r with
  | (i, _, a, b, _, _) => match i with
    | .iconst _ | .bipush _ | .sipush _ | .lconst _ | .ldc2_w _ | .goto _ | .iload_n _ | .iload _ | .lload_n _ | .lload _ | .aload_n _ | .istore_n _ | .istore _ | .lstore_n _ | .lstore _ | .iinc _ _ | .iadd | .isub | .imul | .iand | .ior | .ishl | .ishr | .ladd | .lsub | .lmul | .lcmp | .i2l | .l2i | .dup | .dup2 | .pop | .if_icmp _ _ | .ifCond _ _ | .iaload | .laload | .iastore | .lastore | .invokestatic _ | .invokevirtual _ | .ireturn | .return_ => true
    | .getfield _ => !(Nat.beq b 20)
    | .putfield _ => Nat.beq (am_kd b a) 0
    | _ => false
theorem sv_stp {cp : am_P} {nL lim : Nat} {rt : Option FieldType} {pc : Nat} {r : am_R} {lv lv' : am_V} {st : List Value} {h : am_H} {K : Nat → am_V → List Value → am_H → Prop} {Q : am_Q} (hm : ∀ n As h Q Q', (∀ v h, Q v h → Q' v h) → cp n As h Q → cp n As h Q') (hok : sv_ok r = true) (hv : sv lv lv') (hs : am_stp cp nL lim rt pc r lv st h K Q) :
    am_stp cp nL lim rt pc r lv' st h (fun pc lv2 st h => ∃ lv1, sv lv1 lv2 ∧ K pc lv1 st h) Q := by
  obtain ⟨i, nx, a, b, c, d⟩ := r
  cases i
  case iconst n => exact ⟨lv, hv, hs⟩
  case bipush n => exact ⟨lv, hv, hs⟩
  case sipush n => exact ⟨lv, hv, hs⟩
  case lconst n => exact ⟨lv, hv, hs⟩
  case ldc2_w n => exact ⟨lv, hv, hs⟩
  case goto n => exact ⟨lv, hv, hs⟩
  case iload_n k => exact sv_li hv (fun _ q => ⟨lv, hv, q⟩) hs
  case iload k => exact sv_li hv (fun _ q => ⟨lv, hv, q⟩) hs
  case lload_n k => exact sv_ll hv (fun _ q => ⟨lv, hv, q⟩) hs
  case lload k => exact sv_ll hv (fun _ q => ⟨lv, hv, q⟩) hs
  case aload_n k => exact sv_la hv (fun _ q => ⟨lv, hv, q⟩) hs
  case istore_n k => exact am_pI.imp (fun _ _ q => ⟨q.1, _, sv_s1 hv, q.2⟩) hs
  case istore k => exact am_pI.imp (fun _ _ q => ⟨q.1, _, sv_s1 hv, q.2⟩) hs
  case lstore_n k => exact am_pL.imp (fun _ _ q => ⟨q.1, _, sv_s2 hv, q.2⟩) hs
  case lstore k => exact am_pL.imp (fun _ _ q => ⟨q.1, _, sv_s2 hv, q.2⟩) hs
  case iinc k n => exact sv_li hv (fun _ q => ⟨q.1, _, sv_s1 hv, q.2⟩) hs
  case iadd => exact am_pI.imp (fun _ _ q => am_pI.imp (fun _ _ q => ⟨lv, hv, q⟩) q) hs
  case isub => exact am_pI.imp (fun _ _ q => am_pI.imp (fun _ _ q => ⟨lv, hv, q⟩) q) hs
  case imul => exact am_pI.imp (fun _ _ q => am_pI.imp (fun _ _ q => ⟨lv, hv, q⟩) q) hs
  case iand => exact am_pI.imp (fun _ _ q => am_pI.imp (fun _ _ q => ⟨lv, hv, q⟩) q) hs
  case ior => exact am_pI.imp (fun _ _ q => am_pI.imp (fun _ _ q => ⟨lv, hv, q⟩) q) hs
  case ishl => exact am_pI.imp (fun _ _ q => am_pI.imp (fun _ _ q => ⟨lv, hv, q⟩) q) hs
  case ishr => exact am_pI.imp (fun _ _ q => am_pI.imp (fun _ _ q => ⟨lv, hv, q⟩) q) hs
  case ladd => exact am_pL.imp (fun _ _ q => am_pL.imp (fun _ _ q => ⟨lv, hv, q⟩) q) hs
  case lsub => exact am_pL.imp (fun _ _ q => am_pL.imp (fun _ _ q => ⟨lv, hv, q⟩) q) hs
  case lmul => exact am_pL.imp (fun _ _ q => am_pL.imp (fun _ _ q => ⟨lv, hv, q⟩) q) hs
  case lcmp => exact am_pL.imp (fun _ _ q => am_pL.imp (fun _ _ q => ⟨lv, hv, q⟩) q) hs
  case i2l => exact am_pI.imp (fun _ _ q => ⟨lv, hv, q⟩) hs
  case l2i => exact am_pL.imp (fun _ _ q => ⟨lv, hv, q⟩) hs
  case dup => exact am_pV.imp (fun _ _ q => ⟨q.1, lv, hv, q.2⟩) hs
  case dup2 => exact am_pV.imp (fun _ _ q => am_pV.imp (fun _ _ q => ⟨q.1, q.2.1, lv, hv, q.2.2⟩) q) hs
  case pop => exact am_pV.imp (fun _ _ q => ⟨q.1, lv, hv, q.2⟩) hs
  case if_icmp w n => exact am_pI.imp (fun _ _ q => am_pI.imp (fun _ _ q => ⟨fun z => ⟨lv, hv, q.1 z⟩, fun z => ⟨lv, hv, q.2 z⟩⟩) q) hs
  case ifCond w n => exact am_pI.imp (fun _ _ q => ⟨fun z => ⟨lv, hv, q.1 z⟩, fun z => ⟨lv, hv, q.2 z⟩⟩) hs
  case getfield n =>
    have hb : Nat.beq b 20 = false := by
      cases hb : Nat.beq b 20 with
      | false => rfl
      | true =>
        have hok : (!(Nat.beq b 20)) = true := hok
        rw [hb] at hok
        cases hok
    simp only [am_stp, hb] at hs ⊢
    exact am_pR.imp (fun _ _ q => ⟨q.1, lv, hv, q.2⟩) hs
  case putfield n =>
    have h0 : am_kd b a = 0 := Nat.eq_of_beq_eq_true hok
    simp only [am_stp, h0] at hs ⊢
    exact am_pI.imp (fun _ _ q => am_pR.imp (fun _ _ q => ⟨q.1, q.2.1, q.2.2.1, lv, hv, q.2.2.2⟩) q) hs
  case iaload => exact am_pI.imp (fun _ _ q => am_pR.imp (fun _ _ ⟨j, n, q1, q2, q3, q4⟩ => ⟨j, n, q1, q2, q3, lv, hv, q4⟩) q) hs
  case laload => exact am_pI.imp (fun _ _ q => am_pR.imp (fun _ _ ⟨j, n, q1, q2, q3, q4⟩ => ⟨j, n, q1, q2, q3, lv, hv, q4⟩) q) hs
  case iastore => exact am_pI.imp (fun _ _ q => am_pI.imp (fun _ _ q => am_pR.imp (fun _ _ ⟨j, n, q1, q2, q3, q4⟩ => ⟨j, n, q1, q2, q3, lv, hv, q4⟩) q) q) hs
  case lastore => exact am_pL.imp (fun _ _ q => am_pI.imp (fun _ _ q => am_pR.imp (fun _ _ ⟨j, n, q1, q2, q3, q4⟩ => ⟨j, n, q1, q2, q3, lv, hv, q4⟩) q) q) hs
  case ireturn =>
    simp only [am_stp] at hs ⊢
    split at hs
    · exact hs
    · exact hs.elim
  case return_ =>
    simp only [am_stp] at hs ⊢
    split at hs
    · exact hs
    · exact hs.elim
  case invokestatic n =>
    simp only [am_stp] at hs ⊢
    split at hs
    · exact ⟨hs.1, hs.2.1, hm _ _ _ _ _ (fun v h' q => ⟨lv, hv, q⟩) hs.2.2⟩
    · exact hs.elim
  case invokevirtual n =>
    simp only [am_stp] at hs ⊢
    split at hs
    · exact ⟨hs.1, hs.2.1, hs.2.2.1, hm _ _ _ _ _ (fun v h' q => ⟨lv, hv, q⟩) hs.2.2.2⟩
    · exact hs.elim
  all_goals exact absurd hok (by simp [sv_ok])
theorem sv_X {cp : am_P} {nL lim : Nat} {rt : Option FieldType} {cod : Nat → Option am_R} {Q : am_Q} {pc : Nat} {lv lv' : am_V} {st : List Value} {h : am_H} (hm : ∀ n As h Q Q', (∀ v h, Q v h → Q' v h) → cp n As h Q → cp n As h Q') (hok : ∀ pc r, cod pc = some r → sv_ok r = true) (hv : sv lv lv') (k : am_X cp nL lim rt cod (fun _ _ _ _ => False) Q pc lv st h) : am_X cp nL lim rt cod (fun _ _ _ _ => False) Q pc lv' st h :=
  k (fun pc lv st h => ∀ lv', sv lv lv' → am_X cp nL lim rt cod (fun _ _ _ _ => False) Q pc lv' st h) (fun _ _ _ _ z => z.elim) (fun pc lv st h r K0 Q0 hc hs hk hq lv' hv => fun P hE hP => hP pc lv' st h r _ Q0 hc (sv_stp hm (hok pc r hc) hv hs) (fun pc lv2 st h ⟨lv1, w1, w2⟩ => hk pc lv1 st h w2 lv2 w1 P hE hP) hq) lv' hv
theorem sv_S {nL d : Nat} {rt : Option FieldType} {rows : List (Nat × am_R)} {Q : am_Q} {pc : Nat} {lv lv' : am_V} {st : List Value} {h : am_H} (hok : rows.all (fun q => sv_ok q.2) = true) (hv : sv lv lv') (k : pz_S nL rt rows d Q pc lv st h) : pz_S nL rt rows d Q pc lv' st h :=
  sv_X (fun _ _ _ _ _ f k => am_call.mono f k) (fun _ _ hc => List.all_eq_true.mp hok _ (am_find_mem hc)) hv k
theorem sv_189 : am_r189.all (fun q => sv_ok q.2) = true := by decide +kernel
theorem sv_188 : am_r188.all (fun q => sv_ok q.2) = true := by decide +kernel
theorem sv_219 : am_r219.all (fun q => sv_ok q.2) = true := by decide +kernel
end
section
/-! cutAll: THE TOKENS ARE CUT -/
def pc_P (h : am_H) : Prop := h.2.2.2.2 = 175 ∧ ag_G ag_DD h ∧ xw_X h
variable {h h0 : am_H} {sz : Nat}
theorem pc_175 (hP : pc_P h) : h.2.2.2.2 = 175 := hP.1
theorem pc_so (hP : pc_P h) {o : Nat} {e : Nat × Nat} (he : ag_so ag_DD o = some e) : am_so h o = some e ∧ am_sh h o = some e := ag_so_ok (D := ag_DD) ag_DD_sh hP.1 he
theorem pc_rc (hP : pc_P h) : am_rc h 154 11 := Or.inl ⟨by decide, (pc_so hP (by decide +kernel)).2⟩
theorem pc_lim (hP : pc_P h) {n : Nat} (hn : am_al n = 0) : h.2.2.2.2 + am_al n ≤ 175 := by
  rw [pc_175 hP, hn]
  exact Nat.le_refl _
theorem pc_154 (hP : pc_P h) : am_sh h 154 = some (11, 0) := (pc_so hP (by decide +kernel)).2
theorem pc_155 (hP : pc_P h) : am_sh h 155 = some (13, 1000) := (pc_so hP (by decide +kernel)).2
theorem pc_w155 (hP : pc_P h) : am_so h 155 = some (13, 1000) := (pc_so hP (by decide +kernel)).1
theorem pc_156 (hP : pc_P h) : am_sh h 156 = some (13, 1002) := (pc_so hP (by decide +kernel)).2
theorem pc_w156 (hP : pc_P h) : am_so h 156 = some (13, 1002) := (pc_so hP (by decide +kernel)).1
theorem pc_157 (hP : pc_P h) : am_sh h 157 = some (13, 1002) := (pc_so hP (by decide +kernel)).2
theorem pc_w157 (hP : pc_P h) : am_so h 157 = some (13, 1002) := (pc_so hP (by decide +kernel)).1
theorem pc_158 (hP : pc_P h) : am_sh h 158 = some (14, 1002) := (pc_so hP (by decide +kernel)).2
theorem pc_w158 (hP : pc_P h) : am_so h 158 = some (14, 1002) := (pc_so hP (by decide +kernel)).1
theorem pc_r1 (hP : pc_P h) : h.2.2.1 154 1 = some 155 := hP.2.1.2.2 154 1 155 (by decide +kernel)
theorem pc_r4 (hP : pc_P h) : h.2.2.1 154 4 = some 156 := hP.2.1.2.2 154 4 156 (by decide +kernel)
theorem pc_r5 (hP : pc_P h) : h.2.2.1 154 5 = some 157 := hP.2.1.2.2 154 5 157 (by decide +kernel)
theorem pc_r6 (hP : pc_P h) : h.2.2.1 154 6 = some 158 := hP.2.1.2.2 154 6 158 (by decide +kernel)
def pz_Mt : ag_M := [(154, 2, 3), (154, 7, 8), (156, 0, 1001), (157, 0, 1001), (158, 0, 1001)]
theorem pz_trt {h1 h2 : am_H} (f1 : ag_fr pz_Mt h h1) (f2 : ag_fr pz_Mt h1 h2) : ag_fr pz_Mt h h2 := f1.trans (by decide +kernel) f2
def ct (h0 : am_H) (sz : Nat) (h : am_H) : Prop := pc_P h ∧ ag_fr pz_Mt h0 h ∧ h.1 154 3 = nI sz ∧ h.1 154 2 = 0
theorem pc_wX {o k : Nat} {v : Int32} (hX : xw_X h) (ho : ¬ o = 160 ∧ ¬ o = 161 ∧ ¬ o = 162) : xw_X (am_wI h o k v) := by
  rcases hX with w | ⟨w1, m, w2, w3, dep, w4, w5⟩
  · left
    rw [em_wn h _ (by omega)]
    exact w
  · right
    refine ⟨?_, m, w2, ?_, dep, w4, fun i hi => ?_⟩
    · rw [em_wn h _ (by omega)]
      exact w1
    · rw [em_wn h _ (by omega)]
      exact w3
    · have := w5 i hi
      unfold xw_st at this ⊢
      rw [em_wn h _ (by omega), em_wn h _ (by omega)]
      exact this
theorem ct_w {o k : Nat} {v : Int32} (q : ct h0 sz h) (hm : ag_atM pz_Mt o k = true) (ho : ¬ (o = 154 ∧ (k = 3 ∨ k = 2))) (ho2 : ¬ o = 160 ∧ ¬ o = 161 ∧ ¬ o = 162) (hv : ∀ s ∈ ag_sg o, ag_seg s k v) : ct h0 sz (am_wI h o k v) := by
  refine ⟨⟨q.1.1, pz_wG q.1.2.1 hv, pc_wX q.1.2.2 ho2⟩, pz_trt q.2.1 (pz_fr hm), ?_, ?_⟩
  · rw [em_wn h _ (by omega)]
    exact q.2.2.1
  · rw [em_wn h _ (by omega)]
    exact q.2.2.2
theorem ct_wl {k : Nat} {v : Int64} (q : ct h0 sz h) (hm : ag_atM pz_Mt 158 k = true) : ct h0 sz (am_wL h 158 k v) := by
  refine ⟨⟨q.1.1, ⟨q.1.2.1.1, fun o' k' => ?_, q.1.2.1.2.2⟩, q.1.2.2⟩, pz_trt q.2.1 (pz_frL hm), q.2.2⟩
  by_cases z : o' = 158
  · subst z
    rw [ag_DD_lg 158 k' (by decide)]
    exact ag_i64r _
  · have e9 : (am_wL h 158 k v).2.1 o' k' = h.2.1 o' k' := if_neg (fun w => z w.1)
    rw [e9]
    exact q.1.2.1.2.1 o' k'
theorem pz_Mtk {o k : Nat} (ho : o = 156 ∨ o = 157 ∨ o = 158) (hk : k ≤ 1001) : ag_atM pz_Mt o k = true := by
  have e1 : Nat.ble k 1001 = true := Nat.ble_eq_true_of_le hk
  unfold ag_atM pz_Mt
  rcases ho with rfl | rfl | rfl
  · simp [List.any, e1]
  · simp [List.any, e1]
  · simp [List.any, e1]
theorem pz_sg156 : (ag_sg 156).all (fun s => decide (s.2.2.2.2.1 ≤ 0) && decide (4 ≤ s.2.2.2.2.2)) = true := by decide +kernel
theorem pz_sg157 : (ag_sg 157).all (fun s => decide (s.2.2.2.2.1 ≤ 0) && decide (1000 ≤ s.2.2.2.2.2)) = true := by decide +kernel
theorem pz_sga {o k : Nat} {hi : Int} {v : Int32} (hs : (ag_sg o).all (fun s => decide (s.2.2.2.2.1 ≤ 0) && decide (hi ≤ s.2.2.2.2.2)) = true) (h1 : 0 ≤ v.toInt) (h2 : v.toInt ≤ hi) : ∀ s ∈ ag_sg o, ag_seg s k v := by
  intro s hm _ _ _
  have w := List.all_eq_true.mp hs s hm
  rw [Bool.and_eq_true, decide_eq_true_eq, decide_eq_true_eq] at w
  omega
def pz_let (x : Int32) : Bool := !decide (x < (Int8.ofInt 97).toInt32) && !decide ((Int8.ofInt 122).toInt32 < x)
theorem pz_letC {Q : am_Q} {x : Int32} (hP : pc_P h) (hQ : Q (some (.int (pz_b (pz_let x)))) h) : am_call am_cod 1 190 [.int x] h Q := by
  refine pz_call (n := 190) (nL := 1) (rt := (some .boolean)) (rows := am_r190) (d := 0) (by decide +kernel) (by decide +kernel) rfl (by funext pc; rfl) (pc_175 hP) (by exact Nat.le_of_ble_eq_true rfl) ?_
  have k0 : pz_let x = false → pz_S 1 (some .boolean) am_r190 0 Q 16 [(0, .int x)] [] h := ?_
  rotate_left
  · intro e
    rw [e] at hQ
    exact am_goX 2 (show (∃ ty, (some .boolean) = some ty ∧ narrow ty (.int ((Int32.ofInt 0))) = .int ((Int32.ofInt 0))) ∧ h.2.2.2.2 = 175 ∧ _ from ⟨⟨.boolean, rfl, rfl⟩, pc_175 hP, hQ⟩)
  refine am_goX 3 (show (x < (Int8.ofInt 97).toInt32 → pz_S 1 (some .boolean) am_r190 0 Q 16 [(0, .int x)] [] h) ∧ (¬ (x < (Int8.ofInt 97).toInt32) → pz_S 1 (some .boolean) am_r190 0 Q 6 [(0, .int x)] [] h) from ⟨fun hc => ?_, fun hc => ?_⟩)
  · exact k0 (by unfold pz_let; rw [decide_eq_true hc]; rfl)
  · have hc1 := hc
    clear hc
    refine am_goX 3 (show ((Int8.ofInt 122).toInt32 < x → pz_S 1 (some .boolean) am_r190 0 Q 16 [(0, .int x)] [] h) ∧ (¬ ((Int8.ofInt 122).toInt32 < x) → pz_S 1 (some .boolean) am_r190 0 Q 12 [(0, .int x)] [] h) from ⟨fun hc => ?_, fun hc => ?_⟩)
    · exact k0 (by unfold pz_let; rw [decide_eq_true hc, decide_eq_false hc1]; rfl)
    · have e : pz_let x = true := by unfold pz_let; rw [decide_eq_false hc, decide_eq_false hc1]; rfl
      rw [e] at hQ
      exact am_goX 3 (show (∃ ty, (some .boolean) = some ty ∧ narrow ty (.int ((Int32.ofInt 1))) = .int ((Int32.ofInt 1))) ∧ h.2.2.2.2 = 175 ∧ _ from ⟨⟨.boolean, rfl, rfl⟩, pc_175 hP, hQ⟩)
def pz_dig (x : Int32) : Bool := !decide (x < (Int8.ofInt 48).toInt32) && !decide ((Int8.ofInt 57).toInt32 < x)
theorem pz_digC {Q : am_Q} {x : Int32} (hP : pc_P h) (hQ : Q (some (.int (pz_b (pz_dig x)))) h) : am_call am_cod 1 192 [.int x] h Q := by
  refine pz_call (n := 192) (nL := 1) (rt := (some .boolean)) (rows := am_r192) (d := 0) (by decide +kernel) (by decide +kernel) rfl (by funext pc; rfl) (pc_175 hP) (by exact Nat.le_of_ble_eq_true rfl) ?_
  have k0 : pz_dig x = false → pz_S 1 (some .boolean) am_r192 0 Q 16 [(0, .int x)] [] h := ?_
  rotate_left
  · intro e
    rw [e] at hQ
    exact am_goX 2 (show (∃ ty, (some .boolean) = some ty ∧ narrow ty (.int ((Int32.ofInt 0))) = .int ((Int32.ofInt 0))) ∧ h.2.2.2.2 = 175 ∧ _ from ⟨⟨.boolean, rfl, rfl⟩, pc_175 hP, hQ⟩)
  refine am_goX 3 (show (x < (Int8.ofInt 48).toInt32 → pz_S 1 (some .boolean) am_r192 0 Q 16 [(0, .int x)] [] h) ∧ (¬ (x < (Int8.ofInt 48).toInt32) → pz_S 1 (some .boolean) am_r192 0 Q 6 [(0, .int x)] [] h) from ⟨fun hc => ?_, fun hc => ?_⟩)
  · exact k0 (by unfold pz_dig; rw [decide_eq_true hc]; rfl)
  · have hc1 := hc
    clear hc
    refine am_goX 3 (show ((Int8.ofInt 57).toInt32 < x → pz_S 1 (some .boolean) am_r192 0 Q 16 [(0, .int x)] [] h) ∧ (¬ ((Int8.ofInt 57).toInt32 < x) → pz_S 1 (some .boolean) am_r192 0 Q 12 [(0, .int x)] [] h) from ⟨fun hc => ?_, fun hc => ?_⟩)
    · exact k0 (by unfold pz_dig; rw [decide_eq_true hc, decide_eq_false hc1]; rfl)
    · have e : pz_dig x = true := by unfold pz_dig; rw [decide_eq_false hc, decide_eq_false hc1]; rfl
      rw [e] at hQ
      exact am_goX 3 (show (∃ ty, (some .boolean) = some ty ∧ narrow ty (.int ((Int32.ofInt 1))) = .int ((Int32.ofInt 1))) ∧ h.2.2.2.2 = 175 ∧ _ from ⟨⟨.boolean, rfl, rfl⟩, pc_175 hP, hQ⟩)
theorem pz_rank {Q : am_Q} {x : Int32} (hP : pc_P h) (hQ : ∀ v : Int32, Q (some (.int v)) h) : am_call am_cod 2 191 [.int x] h Q := by
  refine pz_call (n := 191) (nL := 1) (rt := (some .int)) (rows := am_r191) (d := 1) (by decide +kernel) (by decide +kernel) rfl (by funext pc; rfl) (pc_175 hP) (by exact Nat.le_of_ble_eq_true rfl) ?_
  refine am_goX 2 (show 0 ≤ 8 ∧ h.2.2.2.2 + am_al 190 ≤ 175 ∧ am_call am_cod 1 190 [.int x] h (fun vv h' => pz_S 1 (some .int) am_r191 1 Q 4 [(0, .int x)] (vv.toList ++ []) h') from ⟨by decide, pc_lim hP rfl, pz_letC hP ?_⟩)
  cases e : pz_let x with
  | true =>
    refine am_goX 1 (show ((pz_b true) = 0 → pz_S 1 (some .int) am_r191 1 Q 14 [(0, .int x)] [] h) ∧ (¬ ((pz_b true) = 0) → pz_S 1 (some .int) am_r191 1 Q 7 [(0, .int x)] [] h) from ⟨fun hz => absurd hz (by decide), fun _ => ?_⟩)
    exact am_goX 5 (show (∃ ty, (some .int) = some ty ∧ narrow ty (.int ((x - (Int8.ofInt 96).toInt32))) = .int ((x - (Int8.ofInt 96).toInt32))) ∧ h.2.2.2.2 = 175 ∧ _ from ⟨⟨.int, rfl, rfl⟩, pc_175 hP, hQ _⟩)
  | false =>
    refine am_goX 1 (show ((pz_b false) = 0 → pz_S 1 (some .int) am_r191 1 Q 14 [(0, .int x)] [] h) ∧ (¬ ((pz_b false) = 0) → pz_S 1 (some .int) am_r191 1 Q 7 [(0, .int x)] [] h) from ⟨fun _ => ?_, fun hz => absurd rfl hz⟩)
    exact am_goX 4 (show (∃ ty, (some .int) = some ty ∧ narrow ty (.int ((x - (Int8.ofInt 21).toInt32))) = .int ((x - (Int8.ofInt 21).toInt32))) ∧ h.2.2.2.2 = 175 ∧ _ from ⟨⟨.int, rfl, rfl⟩, pc_175 hP, hQ _⟩)
theorem pz_sgof {Q : am_Q} {x : Int32} (hP : pc_P h) (h1 : Q (some (.int 1)) h) (h0 : Q (some (.int 0)) h) : am_call am_cod 1 193 [.int x] h Q := by
  refine pz_call (n := 193) (nL := 1) (rt := (some .boolean)) (rows := am_r193) (d := 0) (by decide +kernel) (by decide +kernel) rfl (by funext pc; rfl) (pc_175 hP) (by exact Nat.le_of_ble_eq_true rfl) ?_
  have k1 : pz_S 1 (some .boolean) am_r193 0 Q 48 [(0, .int x)] [] h := ?_
  rotate_left
  · exact am_goX 3 (show (∃ ty, (some .boolean) = some ty ∧ narrow ty (.int ((Int32.ofInt 1))) = .int ((Int32.ofInt 1))) ∧ h.2.2.2.2 = 175 ∧ _ from ⟨⟨.boolean, rfl, rfl⟩, pc_175 hP, h1⟩)
  refine am_goX 3 (show (x = (Int8.ofInt 40).toInt32 → pz_S 1 (some .boolean) am_r193 0 Q 48 [(0, .int x)] [] h) ∧ (¬ (x = (Int8.ofInt 40).toInt32) → pz_S 1 (some .boolean) am_r193 0 Q 6 [(0, .int x)] [] h) from ⟨fun hc => ?_, fun hc => ?_⟩)
  · exact k1
  clear hc
  refine am_goX 3 (show (x = (Int8.ofInt 41).toInt32 → pz_S 1 (some .boolean) am_r193 0 Q 48 [(0, .int x)] [] h) ∧ (¬ (x = (Int8.ofInt 41).toInt32) → pz_S 1 (some .boolean) am_r193 0 Q 12 [(0, .int x)] [] h) from ⟨fun hc => ?_, fun hc => ?_⟩)
  · exact k1
  clear hc
  refine am_goX 3 (show (x = (Int8.ofInt 59).toInt32 → pz_S 1 (some .boolean) am_r193 0 Q 48 [(0, .int x)] [] h) ∧ (¬ (x = (Int8.ofInt 59).toInt32) → pz_S 1 (some .boolean) am_r193 0 Q 18 [(0, .int x)] [] h) from ⟨fun hc => ?_, fun hc => ?_⟩)
  · exact k1
  clear hc
  refine am_goX 3 (show (x = (Int8.ofInt 61).toInt32 → pz_S 1 (some .boolean) am_r193 0 Q 48 [(0, .int x)] [] h) ∧ (¬ (x = (Int8.ofInt 61).toInt32) → pz_S 1 (some .boolean) am_r193 0 Q 24 [(0, .int x)] [] h) from ⟨fun hc => ?_, fun hc => ?_⟩)
  · exact k1
  clear hc
  refine am_goX 3 (show (x = (Int8.ofInt 60).toInt32 → pz_S 1 (some .boolean) am_r193 0 Q 48 [(0, .int x)] [] h) ∧ (¬ (x = (Int8.ofInt 60).toInt32) → pz_S 1 (some .boolean) am_r193 0 Q 30 [(0, .int x)] [] h) from ⟨fun hc => ?_, fun hc => ?_⟩)
  · exact k1
  clear hc
  refine am_goX 3 (show (x = (Int8.ofInt 43).toInt32 → pz_S 1 (some .boolean) am_r193 0 Q 48 [(0, .int x)] [] h) ∧ (¬ (x = (Int8.ofInt 43).toInt32) → pz_S 1 (some .boolean) am_r193 0 Q 36 [(0, .int x)] [] h) from ⟨fun hc => ?_, fun hc => ?_⟩)
  · exact k1
  clear hc
  refine am_goX 3 (show (x = (Int8.ofInt 45).toInt32 → pz_S 1 (some .boolean) am_r193 0 Q 48 [(0, .int x)] [] h) ∧ (¬ (x = (Int8.ofInt 45).toInt32) → pz_S 1 (some .boolean) am_r193 0 Q 42 [(0, .int x)] [] h) from ⟨fun hc => ?_, fun hc => ?_⟩)
  · exact k1
  clear hc
  refine am_goX 3 (show (¬ x = (Int8.ofInt 42).toInt32 → pz_S 1 (some .boolean) am_r193 0 Q 52 [(0, .int x)] [] h) ∧ (¬ ¬ x = (Int8.ofInt 42).toInt32 → pz_S 1 (some .boolean) am_r193 0 Q 48 [(0, .int x)] [] h) from ⟨fun hc => ?_, fun hc => ?_⟩)
  · exact am_goX 2 (show (∃ ty, (some .boolean) = some ty ∧ narrow ty (.int ((Int32.ofInt 0))) = .int ((Int32.ofInt 0))) ∧ h.2.2.2.2 = 175 ∧ _ from ⟨⟨.boolean, rfl, rfl⟩, pc_175 hP, h0⟩)
  · exact k1
/-- behind a token -/
def pz_k265 (Q : am_Q) (h0 : am_H) (sz n k0 : Nat) : Prop := ∀ (k : Nat) (v : Int64) (h1 : am_H), k0 + 1 ≤ k → k ≤ sz → ct h0 sz h1 → pz_S 7 none am_r189 2 Q 265 [(5, .long v), (2, .int (nI k)), (1, .int (nI n)), (0, .ref 154)] [] h1
theorem pz_cl_e {Q : am_Q} {n k0 : Nat} (hz : sz ≤ 1000) (hn : n ≤ k0) (h265 : pz_k265 Q h0 sz n k0) (hl : ct h0 sz h) {k : Nat} {v : Int64} (hk : k0 + 1 ≤ k) (hks : k ≤ sz) : pz_S 7 none am_r189 2 Q 129 [(5, .long v), (4, .int (nI k0)), (2, .int (nI k)), (1, .int (nI n)), (0, .ref 154)] [] h := by
  have hP := hl.1
  refine am_goX 2 (show am_sh h 154 = some (11, 0) ∧ pz_S 7 none am_r189 2 Q 133 [(5, .long v), (4, .int (nI k0)), (2, .int (nI k)), (1, .int (nI n)), (0, .ref 154)] [am_rf (h.2.2.1 154 4)] h from ⟨pc_154 hP, ?_⟩)
  rw [pc_r4 hP]
  refine am_goX 6 (show (((nI k) - (nI k0)) ≤ (Int8.ofInt 8).toInt32 → pz_S 7 none am_r189 2 Q 147 [(5, .long v), (4, .int (nI k0)), (2, .int (nI k)), (1, .int (nI n)), (0, .ref 154)] [.int (nI n), .ref 156] h) ∧ (¬ (((nI k) - (nI k0)) ≤ (Int8.ofInt 8).toInt32) → pz_S 7 none am_r189 2 Q 143 [(5, .long v), (4, .int (nI k0)), (2, .int (nI k)), (1, .int (nI n)), (0, .ref 154)] [.int (nI n), .ref 156] h) from ⟨fun hc => ?_, fun hc => ?_⟩)
  · refine am_goX 2 (show ∃ jj nn : Nat, am_so h 156 = some (13, nn) ∧ jj < nn ∧ (nI n) = nI jj ∧ pz_S 7 none am_r189 2 Q 149 [(5, .long v), (4, .int (nI k0)), (2, .int (nI k)), (1, .int (nI n)), (0, .ref 154)] [] (am_wI h 156 jj ((Int32.ofInt 1))) from ⟨n, 1002, pc_w156 hP, by omega, rfl, ?_⟩)
    have l1 := ct_w (o := 156) (k := n) (v := Int32.ofInt 1) hl (pz_Mtk (Or.inl rfl) (by omega)) (by omega) (by decide) (pz_sga pz_sg156 (by decide) (by decide))
    generalize am_wI h 156 n (Int32.ofInt 1) = h1 at l1 ⊢
    refine am_goX 1 (show pz_S 7 none am_r189 2 Q 265 [(5, .long v), (4, .int (nI k0)), (2, .int (nI k)), (1, .int (nI n)), (0, .ref 154)] [] h1 from ?_)
    exact sv_S sv_189 (by intro q hq; simp only [List.mem_cons, List.not_mem_nil, or_false] at hq; rcases hq with rfl | rfl | rfl | rfl <;> rfl) (h265 k v h1 hk hks l1)
  · refine am_goX 3 (show ∃ jj nn : Nat, am_so h 156 = some (13, nn) ∧ jj < nn ∧ (nI n) = nI jj ∧ pz_S 7 none am_r189 2 Q 149 [(5, .long v), (4, .int (nI k0)), (2, .int (nI k)), (1, .int (nI n)), (0, .ref 154)] [] (am_wI h 156 jj ((Int32.ofInt 4))) from ⟨n, 1002, pc_w156 hP, by omega, rfl, ?_⟩)
    have l1 := ct_w (o := 156) (k := n) (v := Int32.ofInt 4) hl (pz_Mtk (Or.inl rfl) (by omega)) (by omega) (by decide) (pz_sga pz_sg156 (by decide) (by decide))
    generalize am_wI h 156 n (Int32.ofInt 4) = h1 at l1 ⊢
    refine am_goX 1 (show pz_S 7 none am_r189 2 Q 265 [(5, .long v), (4, .int (nI k0)), (2, .int (nI k)), (1, .int (nI n)), (0, .ref 154)] [] h1 from ?_)
    exact sv_S sv_189 (by intro q hq; simp only [List.mem_cons, List.not_mem_nil, or_false] at hq; rcases hq with rfl | rfl | rfl | rfl <;> rfl) (h265 k v h1 hk hks l1)
theorem pz_cl_l {Q : am_Q} {n k0 : Nat} (hz : sz ≤ 1000) (hn : n ≤ k0) (h265 : pz_k265 Q h0 sz n k0) (hl : ct h0 sz h) : ∀ (m k : Nat) (v : Int64), sz ≤ k + m → k0 + 1 ≤ k → k ≤ sz → pz_S 7 none am_r189 2 Q 70 [(5, .long v), (4, .int (nI k0)), (2, .int (nI k)), (1, .int (nI n)), (0, .ref 154)] [] h := by
  have hP := hl.1
  intro m
  induction m with
  | zero =>
    intro k v hm hk hks
    have ek : k = sz := by omega
    refine am_goX 3 (show am_sh h 154 = some (11, 0) ∧ pz_S 7 none am_r189 2 Q 75 [(5, .long v), (4, .int (nI k0)), (2, .int (nI k)), (1, .int (nI n)), (0, .ref 154)] [.int (h.1 154 3), .int (nI k)] h from ⟨pc_154 hP, ?_⟩)
    rw [hl.2.2.1]
    refine am_goX 1 (show ((nI sz) ≤ (nI k) → pz_S 7 none am_r189 2 Q 129 [(5, .long v), (4, .int (nI k0)), (2, .int (nI k)), (1, .int (nI n)), (0, .ref 154)] [] h) ∧ (¬ ((nI sz) ≤ (nI k)) → pz_S 7 none am_r189 2 Q 78 [(5, .long v), (4, .int (nI k0)), (2, .int (nI k)), (1, .int (nI n)), (0, .ref 154)] [] h) from ⟨fun hc => ?_, fun hc => ?_⟩)
    · exact pz_cl_e hz hn h265 hl hk hks
    · exact absurd (nI_le (by omega) (by omega)) hc
  | succ m ih =>
    intro k v hm hk hks
    refine am_goX 3 (show am_sh h 154 = some (11, 0) ∧ pz_S 7 none am_r189 2 Q 75 [(5, .long v), (4, .int (nI k0)), (2, .int (nI k)), (1, .int (nI n)), (0, .ref 154)] [.int (h.1 154 3), .int (nI k)] h from ⟨pc_154 hP, ?_⟩)
    rw [hl.2.2.1]
    refine am_goX 1 (show ((nI sz) ≤ (nI k) → pz_S 7 none am_r189 2 Q 129 [(5, .long v), (4, .int (nI k0)), (2, .int (nI k)), (1, .int (nI n)), (0, .ref 154)] [] h) ∧ (¬ ((nI sz) ≤ (nI k)) → pz_S 7 none am_r189 2 Q 78 [(5, .long v), (4, .int (nI k0)), (2, .int (nI k)), (1, .int (nI n)), (0, .ref 154)] [] h) from ⟨fun hc => ?_, fun hc => ?_⟩)
    · exact pz_cl_e hz hn h265 hl hk hks
    have hks0 : k < sz := by
      rcases Nat.lt_or_ge k sz with w | w
      · exact w
      · exact absurd (nI_le w (by omega)) hc
    clear hc
    refine am_goX 2 (show am_sh h 154 = some (11, 0) ∧ pz_S 7 none am_r189 2 Q 82 [(5, .long v), (4, .int (nI k0)), (2, .int (nI k)), (1, .int (nI n)), (0, .ref 154)] [am_rf (h.2.2.1 154 1)] h from ⟨pc_154 hP, ?_⟩)
    rw [pc_r1 hP]
    refine am_goX 2 (show ∃ jj nn : Nat, am_sh h 155 = some (13, nn) ∧ jj < nn ∧ (nI k) = nI jj ∧ pz_S 7 none am_r189 2 Q 84 [(5, .long v), (4, .int (nI k0)), (2, .int (nI k)), (1, .int (nI n)), (0, .ref 154)] [.int (h.1 155 jj)] h from ⟨k, 1000, pc_155 hP, by omega, rfl, ?_⟩)
    refine am_goX 1 (show 0 ≤ 8 ∧ h.2.2.2.2 + am_al 190 ≤ 175 ∧ am_call am_cod 2 190 [.int (h.1 155 k)] h (fun vv h' => pz_S 7 none am_r189 2 Q 87 [(5, .long v), (4, .int (nI k0)), (2, .int (nI k)), (1, .int (nI n)), (0, .ref 154)] (vv.toList ++ []) h') from ⟨by decide, pc_lim hP rfl, am_call.up (pz_letC hP ?_) (by decide)⟩)
    cases eg : pz_let (h.1 155 k) with
    | false =>
      refine am_goX 1 (show ((pz_b false) = 0 → pz_S 7 none am_r189 2 Q 129 [(5, .long v), (4, .int (nI k0)), (2, .int (nI k)), (1, .int (nI n)), (0, .ref 154)] [] h) ∧ (¬ ((pz_b false) = 0) → pz_S 7 none am_r189 2 Q 90 [(5, .long v), (4, .int (nI k0)), (2, .int (nI k)), (1, .int (nI n)), (0, .ref 154)] [] h) from ⟨fun _ => ?_, fun hz => absurd rfl hz⟩)
      exact pz_cl_e hz hn h265 hl hk hks
    | true =>
      refine am_goX 1 (show ((pz_b true) = 0 → pz_S 7 none am_r189 2 Q 129 [(5, .long v), (4, .int (nI k0)), (2, .int (nI k)), (1, .int (nI n)), (0, .ref 154)] [] h) ∧ (¬ ((pz_b true) = 0) → pz_S 7 none am_r189 2 Q 90 [(5, .long v), (4, .int (nI k0)), (2, .int (nI k)), (1, .int (nI n)), (0, .ref 154)] [] h) from ⟨fun hz => absurd hz (by decide), fun _ => ?_⟩)
      refine am_goX 5 (show ((Int8.ofInt 8).toInt32 ≤ ((nI k) - (nI k0)) → pz_S 7 none am_r189 2 Q 119 [(5, .long v), (4, .int (nI k0)), (2, .int (nI k)), (1, .int (nI n)), (0, .ref 154)] [] h) ∧ (¬ ((Int8.ofInt 8).toInt32 ≤ ((nI k) - (nI k0))) → pz_S 7 none am_r189 2 Q 99 [(5, .long v), (4, .int (nI k0)), (2, .int (nI k)), (1, .int (nI n)), (0, .ref 154)] [] h) from ⟨fun hc => ?_, fun hc => ?_⟩)
      · refine am_goX 4 (show 5 + 1 < 7 ∧ 2 < 7 ∧ pz_S 7 none am_r189 2 Q 70 [(2, .int ((nI k) + Int32.ofInt 1)), (5, .long v), (4, .int (nI k0)), (1, .int (nI n)), (0, .ref 154)] [] h from ⟨by decide, by decide, ?_⟩)
        rw [xw_i1]
        exact sv_S sv_189 (by intro q hq; simp only [List.mem_cons, List.not_mem_nil, or_false] at hq; rcases hq with rfl | rfl | rfl | rfl | rfl <;> rfl) (ih (k + 1) _ (by omega) (by omega) (by omega))
      · refine am_goX 5 (show am_sh h 154 = some (11, 0) ∧ pz_S 7 none am_r189 2 Q 109 [(5, .long v), (4, .int (nI k0)), (2, .int (nI k)), (1, .int (nI n)), (0, .ref 154)] [am_rf (h.2.2.1 154 1), .long ((am_kl 26) * v)] h from ⟨pc_154 hP, ?_⟩)
        rw [pc_r1 hP]
        refine am_goX 2 (show ∃ jj nn : Nat, am_sh h 155 = some (13, nn) ∧ jj < nn ∧ (nI k) = nI jj ∧ pz_S 7 none am_r189 2 Q 111 [(5, .long v), (4, .int (nI k0)), (2, .int (nI k)), (1, .int (nI n)), (0, .ref 154)] [.int (h.1 155 jj), .long ((am_kl 26) * v)] h from ⟨k, 1000, pc_155 hP, by omega, rfl, ?_⟩)
        refine am_goX 1 (show 2 ≤ 8 ∧ h.2.2.2.2 + am_al 191 ≤ 175 ∧ am_call am_cod 2 191 [.int (h.1 155 k)] h (fun vv h' => pz_S 7 none am_r189 2 Q 114 [(5, .long v), (4, .int (nI k0)), (2, .int (nI k)), (1, .int (nI n)), (0, .ref 154)] (vv.toList ++ [.long ((am_kl 26) * v)]) h') from ⟨by decide, pc_lim hP rfl, pz_rank hP (fun rv => ?_)⟩)
        refine am_goX 6 (show 5 + 1 < 7 ∧ 2 < 7 ∧ pz_S 7 none am_r189 2 Q 70 [(2, .int ((nI k) + Int32.ofInt 1)), (5, .long (((am_kl 26) * v) + (rv).toInt64)), (4, .int (nI k0)), (1, .int (nI n)), (0, .ref 154)] [] h from ⟨by decide, by decide, ?_⟩)
        rw [xw_i1]
        exact sv_S sv_189 (by intro q hq; simp only [List.mem_cons, List.not_mem_nil, or_false] at hq; rcases hq with rfl | rfl | rfl | rfl | rfl <;> rfl) (ih (k + 1) _ (by omega) (by omega) (by omega))
theorem pz_cl {Q : am_Q} {n k : Nat} {v : Int64} (hz : sz ≤ 1000) (hn : n ≤ k) (h265 : pz_k265 Q h0 sz n k) (hl : ct h0 sz h) (hks0 : k < sz) (hgo : pz_let (h.1 155 k) = true) : pz_S 7 none am_r189 2 Q 70 [(5, .long v), (4, .int (nI k)), (2, .int (nI k)), (1, .int (nI n)), (0, .ref 154)] [] h := by
  have hP := hl.1
  refine am_goX 3 (show am_sh h 154 = some (11, 0) ∧ pz_S 7 none am_r189 2 Q 75 [(5, .long v), (4, .int (nI k)), (2, .int (nI k)), (1, .int (nI n)), (0, .ref 154)] [.int (h.1 154 3), .int (nI k)] h from ⟨pc_154 hP, ?_⟩)
  rw [hl.2.2.1]
  refine am_goX 1 (show ((nI sz) ≤ (nI k) → pz_S 7 none am_r189 2 Q 129 [(5, .long v), (4, .int (nI k)), (2, .int (nI k)), (1, .int (nI n)), (0, .ref 154)] [] h) ∧ (¬ ((nI sz) ≤ (nI k)) → pz_S 7 none am_r189 2 Q 78 [(5, .long v), (4, .int (nI k)), (2, .int (nI k)), (1, .int (nI n)), (0, .ref 154)] [] h) from ⟨fun hz => absurd hz (nI_ge hks0 (by omega)), fun _ => ?_⟩)
  refine am_goX 2 (show am_sh h 154 = some (11, 0) ∧ pz_S 7 none am_r189 2 Q 82 [(5, .long v), (4, .int (nI k)), (2, .int (nI k)), (1, .int (nI n)), (0, .ref 154)] [am_rf (h.2.2.1 154 1)] h from ⟨pc_154 hP, ?_⟩)
  rw [pc_r1 hP]
  refine am_goX 2 (show ∃ jj nn : Nat, am_sh h 155 = some (13, nn) ∧ jj < nn ∧ (nI k) = nI jj ∧ pz_S 7 none am_r189 2 Q 84 [(5, .long v), (4, .int (nI k)), (2, .int (nI k)), (1, .int (nI n)), (0, .ref 154)] [.int (h.1 155 jj)] h from ⟨k, 1000, pc_155 hP, by omega, rfl, ?_⟩)
  refine am_goX 1 (show 0 ≤ 8 ∧ h.2.2.2.2 + am_al 190 ≤ 175 ∧ am_call am_cod 2 190 [.int (h.1 155 k)] h (fun vv h' => pz_S 7 none am_r189 2 Q 87 [(5, .long v), (4, .int (nI k)), (2, .int (nI k)), (1, .int (nI n)), (0, .ref 154)] (vv.toList ++ []) h') from ⟨by decide, pc_lim hP rfl, am_call.up (pz_letC hP ?_) (by decide)⟩)
  rw [hgo]
  refine am_goX 1 (show ((pz_b true) = 0 → pz_S 7 none am_r189 2 Q 129 [(5, .long v), (4, .int (nI k)), (2, .int (nI k)), (1, .int (nI n)), (0, .ref 154)] [] h) ∧ (¬ ((pz_b true) = 0) → pz_S 7 none am_r189 2 Q 90 [(5, .long v), (4, .int (nI k)), (2, .int (nI k)), (1, .int (nI n)), (0, .ref 154)] [] h) from ⟨fun hz => absurd hz (by decide), fun _ => ?_⟩)
  refine am_goX 5 (show ((Int8.ofInt 8).toInt32 ≤ ((nI k) - (nI k)) → pz_S 7 none am_r189 2 Q 119 [(5, .long v), (4, .int (nI k)), (2, .int (nI k)), (1, .int (nI n)), (0, .ref 154)] [] h) ∧ (¬ ((Int8.ofInt 8).toInt32 ≤ ((nI k) - (nI k))) → pz_S 7 none am_r189 2 Q 99 [(5, .long v), (4, .int (nI k)), (2, .int (nI k)), (1, .int (nI n)), (0, .ref 154)] [] h) from ⟨fun hc => ?_, fun hc => ?_⟩)
  · refine am_goX 4 (show 5 + 1 < 7 ∧ 2 < 7 ∧ pz_S 7 none am_r189 2 Q 70 [(2, .int ((nI k) + Int32.ofInt 1)), (5, .long v), (4, .int (nI k)), (1, .int (nI n)), (0, .ref 154)] [] h from ⟨by decide, by decide, ?_⟩)
    rw [xw_i1]
    exact sv_S sv_189 (by intro q hq; simp only [List.mem_cons, List.not_mem_nil, or_false] at hq; rcases hq with rfl | rfl | rfl | rfl | rfl <;> rfl) (pz_cl_l hz hn h265 hl sz (k + 1) _ (by omega) (by omega) (by omega))
  · refine am_goX 5 (show am_sh h 154 = some (11, 0) ∧ pz_S 7 none am_r189 2 Q 109 [(5, .long v), (4, .int (nI k)), (2, .int (nI k)), (1, .int (nI n)), (0, .ref 154)] [am_rf (h.2.2.1 154 1), .long ((am_kl 26) * v)] h from ⟨pc_154 hP, ?_⟩)
    rw [pc_r1 hP]
    refine am_goX 2 (show ∃ jj nn : Nat, am_sh h 155 = some (13, nn) ∧ jj < nn ∧ (nI k) = nI jj ∧ pz_S 7 none am_r189 2 Q 111 [(5, .long v), (4, .int (nI k)), (2, .int (nI k)), (1, .int (nI n)), (0, .ref 154)] [.int (h.1 155 jj), .long ((am_kl 26) * v)] h from ⟨k, 1000, pc_155 hP, by omega, rfl, ?_⟩)
    refine am_goX 1 (show 2 ≤ 8 ∧ h.2.2.2.2 + am_al 191 ≤ 175 ∧ am_call am_cod 2 191 [.int (h.1 155 k)] h (fun vv h' => pz_S 7 none am_r189 2 Q 114 [(5, .long v), (4, .int (nI k)), (2, .int (nI k)), (1, .int (nI n)), (0, .ref 154)] (vv.toList ++ [.long ((am_kl 26) * v)]) h') from ⟨by decide, pc_lim hP rfl, pz_rank hP (fun rv => ?_)⟩)
    refine am_goX 6 (show 5 + 1 < 7 ∧ 2 < 7 ∧ pz_S 7 none am_r189 2 Q 70 [(2, .int ((nI k) + Int32.ofInt 1)), (5, .long (((am_kl 26) * v) + (rv).toInt64)), (4, .int (nI k)), (1, .int (nI n)), (0, .ref 154)] [] h from ⟨by decide, by decide, ?_⟩)
    rw [xw_i1]
    exact sv_S sv_189 (by intro q hq; simp only [List.mem_cons, List.not_mem_nil, or_false] at hq; rcases hq with rfl | rfl | rfl | rfl | rfl <;> rfl) (pz_cl_l hz hn h265 hl sz (k + 1) _ (by omega) (by omega) (by omega))
theorem pz_cd_e {Q : am_Q} {n k0 : Nat} (hz : sz ≤ 1000) (hn : n ≤ k0) (h265 : pz_k265 Q h0 sz n k0) (hl : ct h0 sz h) {k : Nat} {v : Int64} (hk : k0 + 1 ≤ k) (hks : k ≤ sz) : pz_S 7 none am_r189 2 Q 218 [(5, .long v), (4, .int (nI k0)), (2, .int (nI k)), (1, .int (nI n)), (0, .ref 154)] [] h := by
  have hP := hl.1
  refine am_goX 2 (show am_sh h 154 = some (11, 0) ∧ pz_S 7 none am_r189 2 Q 222 [(5, .long v), (4, .int (nI k0)), (2, .int (nI k)), (1, .int (nI n)), (0, .ref 154)] [am_rf (h.2.2.1 154 4)] h from ⟨pc_154 hP, ?_⟩)
  rw [pc_r4 hP]
  refine am_goX 6 (show (((nI k) - (nI k0)) ≤ (Int32.ofInt 4) → pz_S 7 none am_r189 2 Q 235 [(5, .long v), (4, .int (nI k0)), (2, .int (nI k)), (1, .int (nI n)), (0, .ref 154)] [.int (nI n), .ref 156] h) ∧ (¬ (((nI k) - (nI k0)) ≤ (Int32.ofInt 4)) → pz_S 7 none am_r189 2 Q 231 [(5, .long v), (4, .int (nI k0)), (2, .int (nI k)), (1, .int (nI n)), (0, .ref 154)] [.int (nI n), .ref 156] h) from ⟨fun hc => ?_, fun hc => ?_⟩)
  · refine am_goX 2 (show ∃ jj nn : Nat, am_so h 156 = some (13, nn) ∧ jj < nn ∧ (nI n) = nI jj ∧ pz_S 7 none am_r189 2 Q 237 [(5, .long v), (4, .int (nI k0)), (2, .int (nI k)), (1, .int (nI n)), (0, .ref 154)] [] (am_wI h 156 jj ((Int32.ofInt 2))) from ⟨n, 1002, pc_w156 hP, by omega, rfl, ?_⟩)
    have l1 := ct_w (o := 156) (k := n) (v := Int32.ofInt 2) hl (pz_Mtk (Or.inl rfl) (by omega)) (by omega) (by decide) (pz_sga pz_sg156 (by decide) (by decide))
    generalize am_wI h 156 n (Int32.ofInt 2) = h1 at l1 ⊢
    refine am_goX 1 (show pz_S 7 none am_r189 2 Q 265 [(5, .long v), (4, .int (nI k0)), (2, .int (nI k)), (1, .int (nI n)), (0, .ref 154)] [] h1 from ?_)
    exact sv_S sv_189 (by intro q hq; simp only [List.mem_cons, List.not_mem_nil, or_false] at hq; rcases hq with rfl | rfl | rfl | rfl <;> rfl) (h265 k v h1 hk hks l1)
  · refine am_goX 3 (show ∃ jj nn : Nat, am_so h 156 = some (13, nn) ∧ jj < nn ∧ (nI n) = nI jj ∧ pz_S 7 none am_r189 2 Q 237 [(5, .long v), (4, .int (nI k0)), (2, .int (nI k)), (1, .int (nI n)), (0, .ref 154)] [] (am_wI h 156 jj ((Int32.ofInt 4))) from ⟨n, 1002, pc_w156 hP, by omega, rfl, ?_⟩)
    have l1 := ct_w (o := 156) (k := n) (v := Int32.ofInt 4) hl (pz_Mtk (Or.inl rfl) (by omega)) (by omega) (by decide) (pz_sga pz_sg156 (by decide) (by decide))
    generalize am_wI h 156 n (Int32.ofInt 4) = h1 at l1 ⊢
    refine am_goX 1 (show pz_S 7 none am_r189 2 Q 265 [(5, .long v), (4, .int (nI k0)), (2, .int (nI k)), (1, .int (nI n)), (0, .ref 154)] [] h1 from ?_)
    exact sv_S sv_189 (by intro q hq; simp only [List.mem_cons, List.not_mem_nil, or_false] at hq; rcases hq with rfl | rfl | rfl | rfl <;> rfl) (h265 k v h1 hk hks l1)
theorem pz_cd_l {Q : am_Q} {n k0 : Nat} (hz : sz ≤ 1000) (hn : n ≤ k0) (h265 : pz_k265 Q h0 sz n k0) (hl : ct h0 sz h) : ∀ (m k : Nat) (v : Int64), sz ≤ k + m → k0 + 1 ≤ k → k ≤ sz → pz_S 7 none am_r189 2 Q 159 [(5, .long v), (4, .int (nI k0)), (2, .int (nI k)), (1, .int (nI n)), (0, .ref 154)] [] h := by
  have hP := hl.1
  intro m
  induction m with
  | zero =>
    intro k v hm hk hks
    have ek : k = sz := by omega
    refine am_goX 3 (show am_sh h 154 = some (11, 0) ∧ pz_S 7 none am_r189 2 Q 164 [(5, .long v), (4, .int (nI k0)), (2, .int (nI k)), (1, .int (nI n)), (0, .ref 154)] [.int (h.1 154 3), .int (nI k)] h from ⟨pc_154 hP, ?_⟩)
    rw [hl.2.2.1]
    refine am_goX 1 (show ((nI sz) ≤ (nI k) → pz_S 7 none am_r189 2 Q 218 [(5, .long v), (4, .int (nI k0)), (2, .int (nI k)), (1, .int (nI n)), (0, .ref 154)] [] h) ∧ (¬ ((nI sz) ≤ (nI k)) → pz_S 7 none am_r189 2 Q 167 [(5, .long v), (4, .int (nI k0)), (2, .int (nI k)), (1, .int (nI n)), (0, .ref 154)] [] h) from ⟨fun hc => ?_, fun hc => ?_⟩)
    · exact pz_cd_e hz hn h265 hl hk hks
    · exact absurd (nI_le (by omega) (by omega)) hc
  | succ m ih =>
    intro k v hm hk hks
    refine am_goX 3 (show am_sh h 154 = some (11, 0) ∧ pz_S 7 none am_r189 2 Q 164 [(5, .long v), (4, .int (nI k0)), (2, .int (nI k)), (1, .int (nI n)), (0, .ref 154)] [.int (h.1 154 3), .int (nI k)] h from ⟨pc_154 hP, ?_⟩)
    rw [hl.2.2.1]
    refine am_goX 1 (show ((nI sz) ≤ (nI k) → pz_S 7 none am_r189 2 Q 218 [(5, .long v), (4, .int (nI k0)), (2, .int (nI k)), (1, .int (nI n)), (0, .ref 154)] [] h) ∧ (¬ ((nI sz) ≤ (nI k)) → pz_S 7 none am_r189 2 Q 167 [(5, .long v), (4, .int (nI k0)), (2, .int (nI k)), (1, .int (nI n)), (0, .ref 154)] [] h) from ⟨fun hc => ?_, fun hc => ?_⟩)
    · exact pz_cd_e hz hn h265 hl hk hks
    have hks0 : k < sz := by
      rcases Nat.lt_or_ge k sz with w | w
      · exact w
      · exact absurd (nI_le w (by omega)) hc
    clear hc
    refine am_goX 2 (show am_sh h 154 = some (11, 0) ∧ pz_S 7 none am_r189 2 Q 171 [(5, .long v), (4, .int (nI k0)), (2, .int (nI k)), (1, .int (nI n)), (0, .ref 154)] [am_rf (h.2.2.1 154 1)] h from ⟨pc_154 hP, ?_⟩)
    rw [pc_r1 hP]
    refine am_goX 2 (show ∃ jj nn : Nat, am_sh h 155 = some (13, nn) ∧ jj < nn ∧ (nI k) = nI jj ∧ pz_S 7 none am_r189 2 Q 173 [(5, .long v), (4, .int (nI k0)), (2, .int (nI k)), (1, .int (nI n)), (0, .ref 154)] [.int (h.1 155 jj)] h from ⟨k, 1000, pc_155 hP, by omega, rfl, ?_⟩)
    refine am_goX 1 (show 0 ≤ 8 ∧ h.2.2.2.2 + am_al 192 ≤ 175 ∧ am_call am_cod 2 192 [.int (h.1 155 k)] h (fun vv h' => pz_S 7 none am_r189 2 Q 176 [(5, .long v), (4, .int (nI k0)), (2, .int (nI k)), (1, .int (nI n)), (0, .ref 154)] (vv.toList ++ []) h') from ⟨by decide, pc_lim hP rfl, am_call.up (pz_digC hP ?_) (by decide)⟩)
    cases eg : pz_dig (h.1 155 k) with
    | false =>
      refine am_goX 1 (show ((pz_b false) = 0 → pz_S 7 none am_r189 2 Q 218 [(5, .long v), (4, .int (nI k0)), (2, .int (nI k)), (1, .int (nI n)), (0, .ref 154)] [] h) ∧ (¬ ((pz_b false) = 0) → pz_S 7 none am_r189 2 Q 179 [(5, .long v), (4, .int (nI k0)), (2, .int (nI k)), (1, .int (nI n)), (0, .ref 154)] [] h) from ⟨fun _ => ?_, fun hz => absurd rfl hz⟩)
      exact pz_cd_e hz hn h265 hl hk hks
    | true =>
      refine am_goX 1 (show ((pz_b true) = 0 → pz_S 7 none am_r189 2 Q 218 [(5, .long v), (4, .int (nI k0)), (2, .int (nI k)), (1, .int (nI n)), (0, .ref 154)] [] h) ∧ (¬ ((pz_b true) = 0) → pz_S 7 none am_r189 2 Q 179 [(5, .long v), (4, .int (nI k0)), (2, .int (nI k)), (1, .int (nI n)), (0, .ref 154)] [] h) from ⟨fun hz => absurd hz (by decide), fun _ => ?_⟩)
      refine am_goX 5 (show ((Int32.ofInt 4) ≤ ((nI k) - (nI k0)) → pz_S 7 none am_r189 2 Q 208 [(5, .long v), (4, .int (nI k0)), (2, .int (nI k)), (1, .int (nI n)), (0, .ref 154)] [] h) ∧ (¬ ((Int32.ofInt 4) ≤ ((nI k) - (nI k0))) → pz_S 7 none am_r189 2 Q 187 [(5, .long v), (4, .int (nI k0)), (2, .int (nI k)), (1, .int (nI n)), (0, .ref 154)] [] h) from ⟨fun hc => ?_, fun hc => ?_⟩)
      · refine am_goX 4 (show 5 + 1 < 7 ∧ 2 < 7 ∧ pz_S 7 none am_r189 2 Q 159 [(2, .int ((nI k) + Int32.ofInt 1)), (5, .long v), (4, .int (nI k0)), (1, .int (nI n)), (0, .ref 154)] [] h from ⟨by decide, by decide, ?_⟩)
        rw [xw_i1]
        exact sv_S sv_189 (by intro q hq; simp only [List.mem_cons, List.not_mem_nil, or_false] at hq; rcases hq with rfl | rfl | rfl | rfl | rfl <;> rfl) (ih (k + 1) _ (by omega) (by omega) (by omega))
      · refine am_goX 5 (show am_sh h 154 = some (11, 0) ∧ pz_S 7 none am_r189 2 Q 197 [(5, .long v), (4, .int (nI k0)), (2, .int (nI k)), (1, .int (nI n)), (0, .ref 154)] [am_rf (h.2.2.1 154 1), .long ((am_kl 27) * v)] h from ⟨pc_154 hP, ?_⟩)
        rw [pc_r1 hP]
        refine am_goX 2 (show ∃ jj nn : Nat, am_sh h 155 = some (13, nn) ∧ jj < nn ∧ (nI k) = nI jj ∧ pz_S 7 none am_r189 2 Q 199 [(5, .long v), (4, .int (nI k0)), (2, .int (nI k)), (1, .int (nI n)), (0, .ref 154)] [.int (h.1 155 jj), .long ((am_kl 27) * v)] h from ⟨k, 1000, pc_155 hP, by omega, rfl, ?_⟩)
        refine am_goX 8 (show 5 + 1 < 7 ∧ 2 < 7 ∧ pz_S 7 none am_r189 2 Q 159 [(2, .int ((nI k) + Int32.ofInt 1)), (5, .long ((((am_kl 27) * v) + ((h.1 155 k)).toInt64) - (am_kl 28))), (4, .int (nI k0)), (1, .int (nI n)), (0, .ref 154)] [] h from ⟨by decide, by decide, ?_⟩)
        rw [xw_i1]
        exact sv_S sv_189 (by intro q hq; simp only [List.mem_cons, List.not_mem_nil, or_false] at hq; rcases hq with rfl | rfl | rfl | rfl | rfl <;> rfl) (ih (k + 1) _ (by omega) (by omega) (by omega))
theorem pz_cd {Q : am_Q} {n k : Nat} {v : Int64} (hz : sz ≤ 1000) (hn : n ≤ k) (h265 : pz_k265 Q h0 sz n k) (hl : ct h0 sz h) (hks0 : k < sz) (hgo : pz_dig (h.1 155 k) = true) : pz_S 7 none am_r189 2 Q 159 [(5, .long v), (4, .int (nI k)), (2, .int (nI k)), (1, .int (nI n)), (0, .ref 154)] [] h := by
  have hP := hl.1
  refine am_goX 3 (show am_sh h 154 = some (11, 0) ∧ pz_S 7 none am_r189 2 Q 164 [(5, .long v), (4, .int (nI k)), (2, .int (nI k)), (1, .int (nI n)), (0, .ref 154)] [.int (h.1 154 3), .int (nI k)] h from ⟨pc_154 hP, ?_⟩)
  rw [hl.2.2.1]
  refine am_goX 1 (show ((nI sz) ≤ (nI k) → pz_S 7 none am_r189 2 Q 218 [(5, .long v), (4, .int (nI k)), (2, .int (nI k)), (1, .int (nI n)), (0, .ref 154)] [] h) ∧ (¬ ((nI sz) ≤ (nI k)) → pz_S 7 none am_r189 2 Q 167 [(5, .long v), (4, .int (nI k)), (2, .int (nI k)), (1, .int (nI n)), (0, .ref 154)] [] h) from ⟨fun hz => absurd hz (nI_ge hks0 (by omega)), fun _ => ?_⟩)
  refine am_goX 2 (show am_sh h 154 = some (11, 0) ∧ pz_S 7 none am_r189 2 Q 171 [(5, .long v), (4, .int (nI k)), (2, .int (nI k)), (1, .int (nI n)), (0, .ref 154)] [am_rf (h.2.2.1 154 1)] h from ⟨pc_154 hP, ?_⟩)
  rw [pc_r1 hP]
  refine am_goX 2 (show ∃ jj nn : Nat, am_sh h 155 = some (13, nn) ∧ jj < nn ∧ (nI k) = nI jj ∧ pz_S 7 none am_r189 2 Q 173 [(5, .long v), (4, .int (nI k)), (2, .int (nI k)), (1, .int (nI n)), (0, .ref 154)] [.int (h.1 155 jj)] h from ⟨k, 1000, pc_155 hP, by omega, rfl, ?_⟩)
  refine am_goX 1 (show 0 ≤ 8 ∧ h.2.2.2.2 + am_al 192 ≤ 175 ∧ am_call am_cod 2 192 [.int (h.1 155 k)] h (fun vv h' => pz_S 7 none am_r189 2 Q 176 [(5, .long v), (4, .int (nI k)), (2, .int (nI k)), (1, .int (nI n)), (0, .ref 154)] (vv.toList ++ []) h') from ⟨by decide, pc_lim hP rfl, am_call.up (pz_digC hP ?_) (by decide)⟩)
  rw [hgo]
  refine am_goX 1 (show ((pz_b true) = 0 → pz_S 7 none am_r189 2 Q 218 [(5, .long v), (4, .int (nI k)), (2, .int (nI k)), (1, .int (nI n)), (0, .ref 154)] [] h) ∧ (¬ ((pz_b true) = 0) → pz_S 7 none am_r189 2 Q 179 [(5, .long v), (4, .int (nI k)), (2, .int (nI k)), (1, .int (nI n)), (0, .ref 154)] [] h) from ⟨fun hz => absurd hz (by decide), fun _ => ?_⟩)
  refine am_goX 5 (show ((Int32.ofInt 4) ≤ ((nI k) - (nI k)) → pz_S 7 none am_r189 2 Q 208 [(5, .long v), (4, .int (nI k)), (2, .int (nI k)), (1, .int (nI n)), (0, .ref 154)] [] h) ∧ (¬ ((Int32.ofInt 4) ≤ ((nI k) - (nI k))) → pz_S 7 none am_r189 2 Q 187 [(5, .long v), (4, .int (nI k)), (2, .int (nI k)), (1, .int (nI n)), (0, .ref 154)] [] h) from ⟨fun hc => ?_, fun hc => ?_⟩)
  · refine am_goX 4 (show 5 + 1 < 7 ∧ 2 < 7 ∧ pz_S 7 none am_r189 2 Q 159 [(2, .int ((nI k) + Int32.ofInt 1)), (5, .long v), (4, .int (nI k)), (1, .int (nI n)), (0, .ref 154)] [] h from ⟨by decide, by decide, ?_⟩)
    rw [xw_i1]
    exact sv_S sv_189 (by intro q hq; simp only [List.mem_cons, List.not_mem_nil, or_false] at hq; rcases hq with rfl | rfl | rfl | rfl | rfl <;> rfl) (pz_cd_l hz hn h265 hl sz (k + 1) _ (by omega) (by omega) (by omega))
  · refine am_goX 5 (show am_sh h 154 = some (11, 0) ∧ pz_S 7 none am_r189 2 Q 197 [(5, .long v), (4, .int (nI k)), (2, .int (nI k)), (1, .int (nI n)), (0, .ref 154)] [am_rf (h.2.2.1 154 1), .long ((am_kl 27) * v)] h from ⟨pc_154 hP, ?_⟩)
    rw [pc_r1 hP]
    refine am_goX 2 (show ∃ jj nn : Nat, am_sh h 155 = some (13, nn) ∧ jj < nn ∧ (nI k) = nI jj ∧ pz_S 7 none am_r189 2 Q 199 [(5, .long v), (4, .int (nI k)), (2, .int (nI k)), (1, .int (nI n)), (0, .ref 154)] [.int (h.1 155 jj), .long ((am_kl 27) * v)] h from ⟨k, 1000, pc_155 hP, by omega, rfl, ?_⟩)
    refine am_goX 8 (show 5 + 1 < 7 ∧ 2 < 7 ∧ pz_S 7 none am_r189 2 Q 159 [(2, .int ((nI k) + Int32.ofInt 1)), (5, .long ((((am_kl 27) * v) + ((h.1 155 k)).toInt64) - (am_kl 28))), (4, .int (nI k)), (1, .int (nI n)), (0, .ref 154)] [] h from ⟨by decide, by decide, ?_⟩)
    rw [xw_i1]
    exact sv_S sv_189 (by intro q hq; simp only [List.mem_cons, List.not_mem_nil, or_false] at hq; rcases hq with rfl | rfl | rfl | rfl | rfl <;> rfl) (pz_cd_l hz hn h265 hl sz (k + 1) _ (by omega) (by omega) (by omega))
theorem pz_cut_l {Q : am_Q} (hz : sz ≤ 1000) (hend : ∀ (n : Nat) (h1 : am_H), n ≤ sz → ct h0 sz h1 → pz_S 7 none am_r189 2 Q 279 [(1, .int (nI n)), (0, .ref 154)] [] h1) : ∀ (m n k : Nat) (h : am_H), sz ≤ k + m → n ≤ k → k ≤ sz → ct h0 sz h → pz_S 7 none am_r189 2 Q 17 [(2, .int (nI k)), (1, .int (nI n)), (0, .ref 154)] [] h := by
  intro m
  induction m with
  | zero =>
    intro n k h hm hnk hks hl
    have hP := hl.1
    refine am_goX 3 (show am_sh h 154 = some (11, 0) ∧ pz_S 7 none am_r189 2 Q 22 [(2, .int (nI k)), (1, .int (nI n)), (0, .ref 154)] [.int (h.1 154 3), .int (nI k)] h from ⟨pc_154 hP, ?_⟩)
    rw [hl.2.2.1]
    refine am_goX 1 (show ((nI sz) ≤ (nI k) → pz_S 7 none am_r189 2 Q 279 [(2, .int (nI k)), (1, .int (nI n)), (0, .ref 154)] [] h) ∧ (¬ ((nI sz) ≤ (nI k)) → pz_S 7 none am_r189 2 Q 25 [(2, .int (nI k)), (1, .int (nI n)), (0, .ref 154)] [] h) from ⟨fun hc => ?_, fun hc => ?_⟩)
    · exact sv_S sv_189 (by intro q hq; simp only [List.mem_cons, List.not_mem_nil, or_false] at hq; rcases hq with rfl | rfl <;> rfl) (hend n h (by omega) hl)
    · exact absurd (nI_le (by omega) (by omega)) hc
  | succ m ih =>
    intro n k h hm hnk hks hl
    have hP := hl.1
    refine am_goX 3 (show am_sh h 154 = some (11, 0) ∧ pz_S 7 none am_r189 2 Q 22 [(2, .int (nI k)), (1, .int (nI n)), (0, .ref 154)] [.int (h.1 154 3), .int (nI k)] h from ⟨pc_154 hP, ?_⟩)
    rw [hl.2.2.1]
    refine am_goX 1 (show ((nI sz) ≤ (nI k) → pz_S 7 none am_r189 2 Q 279 [(2, .int (nI k)), (1, .int (nI n)), (0, .ref 154)] [] h) ∧ (¬ ((nI sz) ≤ (nI k)) → pz_S 7 none am_r189 2 Q 25 [(2, .int (nI k)), (1, .int (nI n)), (0, .ref 154)] [] h) from ⟨fun hc => ?_, fun hc => ?_⟩)
    · exact sv_S sv_189 (by intro q hq; simp only [List.mem_cons, List.not_mem_nil, or_false] at hq; rcases hq with rfl | rfl <;> rfl) (hend n h (by omega) hl)
    have hks0 : k < sz := by
      rcases Nat.lt_or_ge k sz with w | w
      · exact w
      · exact absurd (nI_le w (by omega)) hc
    clear hc
    have h265 : pz_k265 Q h0 sz n k := by
      intro k1 v h1 q1 q2 q3
      have hP1 := q3.1
      refine am_goX 2 (show am_sh h1 154 = some (11, 0) ∧ pz_S 7 none am_r189 2 Q 269 [(5, .long v), (2, .int (nI k1)), (1, .int (nI n)), (0, .ref 154)] [am_rf (h1.2.2.1 154 6)] h1 from ⟨pc_154 hP1, ?_⟩)
      rw [pc_r6 hP1]
      refine am_goX 3 (show ∃ jj nn : Nat, am_so h1 158 = some (14, nn) ∧ jj < nn ∧ (nI n) = nI jj ∧ pz_S 7 none am_r189 2 Q 273 [(5, .long v), (2, .int (nI k1)), (1, .int (nI n)), (0, .ref 154)] [] (am_wL h1 158 jj (v)) from ⟨n, 1002, pc_w158 hP1, by omega, rfl, ?_⟩)
      have l1 := ct_wl (k := n) (v := v) q3 (pz_Mtk (Or.inr (Or.inr rfl)) (by omega))
      generalize am_wL h1 158 n v = h2 at l1 ⊢
      refine am_goX 2 (show 1 < 7 ∧ pz_S 7 none am_r189 2 Q 17 [(1, .int ((nI n) + Int32.ofInt 1)), (5, .long v), (2, .int (nI k1)), (0, .ref 154)] [] h2 from ⟨by decide, ?_⟩)
      rw [xw_i1]
      exact sv_S sv_189 (by intro q hq; simp only [List.mem_cons, List.not_mem_nil, or_false] at hq; rcases hq with rfl | rfl | rfl <;> rfl) (ih (n + 1) k1 h2 (by omega) (by omega) q2 l1)
    refine am_goX 2 (show am_sh h 154 = some (11, 0) ∧ pz_S 7 none am_r189 2 Q 29 [(2, .int (nI k)), (1, .int (nI n)), (0, .ref 154)] [am_rf (h.2.2.1 154 1)] h from ⟨pc_154 hP, ?_⟩)
    rw [pc_r1 hP]
    refine am_goX 2 (show ∃ jj nn : Nat, am_sh h 155 = some (13, nn) ∧ jj < nn ∧ (nI k) = nI jj ∧ pz_S 7 none am_r189 2 Q 31 [(2, .int (nI k)), (1, .int (nI n)), (0, .ref 154)] [.int (h.1 155 jj)] h from ⟨k, 1000, pc_155 hP, by omega, rfl, ?_⟩)
    generalize hcx : h.1 155 k = x
    have k44 : pz_S 7 none am_r189 2 Q 44 [(3, .int x), (2, .int (nI k)), (1, .int (nI n)), (0, .ref 154)] [] h := ?_
    rotate_left
    · refine am_goX 2 (show 2 < 7 ∧ pz_S 7 none am_r189 2 Q 17 [(2, .int ((nI k) + Int32.ofInt 1)), (3, .int x), (1, .int (nI n)), (0, .ref 154)] [] h from ⟨by decide, ?_⟩)
      rw [xw_i1]
      exact sv_S sv_189 (by intro q hq; simp only [List.mem_cons, List.not_mem_nil, or_false] at hq; rcases hq with rfl | rfl | rfl <;> rfl) (ih n (k + 1) h (by omega) (by omega) (by omega) hl)
    refine am_goX 4 (show 3 < 7 ∧ (x = (Int8.ofInt 10).toInt32 → pz_S 7 none am_r189 2 Q 44 [(3, .int x), (2, .int (nI k)), (1, .int (nI n)), (0, .ref 154)] [] h) ∧ (¬ (x = (Int8.ofInt 10).toInt32) → pz_S 7 none am_r189 2 Q 38 [(3, .int x), (2, .int (nI k)), (1, .int (nI n)), (0, .ref 154)] [] h) from ⟨by decide, fun hc => ?_, fun hc => ?_⟩)
    · exact k44
    clear hc
    refine am_goX 3 (show (¬ x = (Int8.ofInt 32).toInt32 → pz_S 7 none am_r189 2 Q 50 [(3, .int x), (2, .int (nI k)), (1, .int (nI n)), (0, .ref 154)] [] h) ∧ (¬ ¬ x = (Int8.ofInt 32).toInt32 → pz_S 7 none am_r189 2 Q 44 [(3, .int x), (2, .int (nI k)), (1, .int (nI n)), (0, .ref 154)] [] h) from ⟨fun hc => ?_, fun hc => ?_⟩)
    rotate_left
    · exact k44
    clear hc
    refine am_goX 6 (show 4 < 7 ∧ 5 + 1 < 7 ∧ am_sh h 154 = some (11, 0) ∧ pz_S 7 none am_r189 2 Q 60 [(5, .long (Int64.ofNat 0)), (4, .int (nI k)), (3, .int x), (2, .int (nI k)), (1, .int (nI n)), (0, .ref 154)] [am_rf (h.2.2.1 154 5)] h from ⟨by decide, by decide, pc_154 hP, ?_⟩)
    rw [pc_r5 hP]
    refine am_goX 3 (show ∃ jj nn : Nat, am_so h 157 = some (13, nn) ∧ jj < nn ∧ (nI n) = nI jj ∧ pz_S 7 none am_r189 2 Q 63 [(5, .long (Int64.ofNat 0)), (4, .int (nI k)), (3, .int x), (2, .int (nI k)), (1, .int (nI n)), (0, .ref 154)] [] (am_wI h 157 jj ((nI k))) from ⟨n, 1002, pc_w157 hP, by omega, rfl, ?_⟩)
    have hkt : (nI k).toInt = k := nI_toInt (by omega)
    have l1 := ct_w (o := 157) (k := n) (v := nI k) hl (pz_Mtk (Or.inr (Or.inl rfl)) (by omega)) (by omega) (by decide) (pz_sga pz_sg157 (by omega) (by omega))
    have hx1 : (am_wI h 157 n (nI k)).1 155 k = x := by rw [em_wn h _ (by omega)]; exact hcx
    generalize am_wI h 157 n (nI k) = h1 at l1 hx1 ⊢
    have hP1 := l1.1
    refine am_goX 2 (show 0 ≤ 8 ∧ h1.2.2.2.2 + am_al 190 ≤ 175 ∧ am_call am_cod 2 190 [.int x] h1 (fun vv h' => pz_S 7 none am_r189 2 Q 67 [(5, .long (Int64.ofNat 0)), (4, .int (nI k)), (3, .int x), (2, .int (nI k)), (1, .int (nI n)), (0, .ref 154)] (vv.toList ++ []) h') from ⟨by decide, pc_lim hP1 rfl, am_call.up (pz_letC hP1 ?_) (by decide)⟩)
    cases el : pz_let x with
    | true =>
      refine am_goX 1 (show ((pz_b true) = 0 → pz_S 7 none am_r189 2 Q 152 [(5, .long (Int64.ofNat 0)), (4, .int (nI k)), (3, .int x), (2, .int (nI k)), (1, .int (nI n)), (0, .ref 154)] [] h1) ∧ (¬ ((pz_b true) = 0) → pz_S 7 none am_r189 2 Q 70 [(5, .long (Int64.ofNat 0)), (4, .int (nI k)), (3, .int x), (2, .int (nI k)), (1, .int (nI n)), (0, .ref 154)] [] h1) from ⟨fun hz => absurd hz (by decide), fun _ => ?_⟩)
      exact sv_S sv_189 (by intro q hq; simp only [List.mem_cons, List.not_mem_nil, or_false] at hq; rcases hq with rfl | rfl | rfl | rfl | rfl <;> rfl) (pz_cl hz hnk h265 l1 hks0 (by rw [hx1]; exact el))
    | false =>
      refine am_goX 1 (show ((pz_b false) = 0 → pz_S 7 none am_r189 2 Q 152 [(5, .long (Int64.ofNat 0)), (4, .int (nI k)), (3, .int x), (2, .int (nI k)), (1, .int (nI n)), (0, .ref 154)] [] h1) ∧ (¬ ((pz_b false) = 0) → pz_S 7 none am_r189 2 Q 70 [(5, .long (Int64.ofNat 0)), (4, .int (nI k)), (3, .int x), (2, .int (nI k)), (1, .int (nI n)), (0, .ref 154)] [] h1) from ⟨fun _ => ?_, fun hz => absurd rfl hz⟩)
      refine am_goX 2 (show 0 ≤ 8 ∧ h1.2.2.2.2 + am_al 192 ≤ 175 ∧ am_call am_cod 2 192 [.int x] h1 (fun vv h' => pz_S 7 none am_r189 2 Q 156 [(5, .long (Int64.ofNat 0)), (4, .int (nI k)), (3, .int x), (2, .int (nI k)), (1, .int (nI n)), (0, .ref 154)] (vv.toList ++ []) h') from ⟨by decide, pc_lim hP1 rfl, am_call.up (pz_digC hP1 ?_) (by decide)⟩)
      cases ed : pz_dig x with
      | true =>
        refine am_goX 1 (show ((pz_b true) = 0 → pz_S 7 none am_r189 2 Q 240 [(5, .long (Int64.ofNat 0)), (4, .int (nI k)), (3, .int x), (2, .int (nI k)), (1, .int (nI n)), (0, .ref 154)] [] h1) ∧ (¬ ((pz_b true) = 0) → pz_S 7 none am_r189 2 Q 159 [(5, .long (Int64.ofNat 0)), (4, .int (nI k)), (3, .int x), (2, .int (nI k)), (1, .int (nI n)), (0, .ref 154)] [] h1) from ⟨fun hz => absurd hz (by decide), fun _ => ?_⟩)
        exact sv_S sv_189 (by intro q hq; simp only [List.mem_cons, List.not_mem_nil, or_false] at hq; rcases hq with rfl | rfl | rfl | rfl | rfl <;> rfl) (pz_cd hz hnk h265 l1 hks0 (by rw [hx1]; exact ed))
      | false =>
        refine am_goX 1 (show ((pz_b false) = 0 → pz_S 7 none am_r189 2 Q 240 [(5, .long (Int64.ofNat 0)), (4, .int (nI k)), (3, .int x), (2, .int (nI k)), (1, .int (nI n)), (0, .ref 154)] [] h1) ∧ (¬ ((pz_b false) = 0) → pz_S 7 none am_r189 2 Q 159 [(5, .long (Int64.ofNat 0)), (4, .int (nI k)), (3, .int x), (2, .int (nI k)), (1, .int (nI n)), (0, .ref 154)] [] h1) from ⟨fun _ => ?_, fun hz => absurd rfl hz⟩)
        refine am_goX 5 (show 5 + 1 < 7 ∧ am_sh h1 154 = some (11, 0) ∧ pz_S 7 none am_r189 2 Q 248 [(5, .long (x).toInt64), (4, .int (nI k)), (3, .int x), (2, .int (nI k)), (1, .int (nI n)), (0, .ref 154)] [am_rf (h1.2.2.1 154 4)] h1 from ⟨by decide, pc_154 hP1, ?_⟩)
        rw [pc_r4 hP1]
        refine am_goX 3 (show 2 ≤ 8 ∧ h1.2.2.2.2 + am_al 193 ≤ 175 ∧ am_call am_cod 2 193 [.int x] h1 (fun vv h' => pz_S 7 none am_r189 2 Q 253 [(5, .long (x).toInt64), (4, .int (nI k)), (3, .int x), (2, .int (nI k)), (1, .int (nI n)), (0, .ref 154)] (vv.toList ++ [.int (nI n), .ref 156]) h') from ⟨by decide, pc_lim hP1 rfl, am_call.up (pz_sgof hP1 ?_ ?_) (by decide)⟩)
        · refine am_goX 1 (show (1 = 0 → pz_S 7 none am_r189 2 Q 260 [(5, .long (x).toInt64), (4, .int (nI k)), (3, .int x), (2, .int (nI k)), (1, .int (nI n)), (0, .ref 154)] [.int (nI n), .ref 156] h1) ∧ (¬ (1 = 0) → pz_S 7 none am_r189 2 Q 256 [(5, .long (x).toInt64), (4, .int (nI k)), (3, .int x), (2, .int (nI k)), (1, .int (nI n)), (0, .ref 154)] [.int (nI n), .ref 156] h1) from ⟨fun hz => absurd hz (by decide), fun _ => ?_⟩)
          refine am_goX 3 (show ∃ jj nn : Nat, am_so h1 156 = some (13, nn) ∧ jj < nn ∧ (nI n) = nI jj ∧ pz_S 7 none am_r189 2 Q 262 [(5, .long (x).toInt64), (4, .int (nI k)), (3, .int x), (2, .int (nI k)), (1, .int (nI n)), (0, .ref 154)] [] (am_wI h1 156 jj ((Int32.ofInt 3))) from ⟨n, 1002, pc_w156 hP1, by omega, rfl, ?_⟩)
          have l2 := ct_w (o := 156) (k := n) (v := Int32.ofInt 3) l1 (pz_Mtk (Or.inl rfl) (by omega)) (by omega) (by decide) (pz_sga pz_sg156 (by decide) (by decide))
          generalize am_wI h1 156 n (Int32.ofInt 3) = h2 at l2 ⊢
          refine am_goX 1 (show 2 < 7 ∧ pz_S 7 none am_r189 2 Q 265 [(2, .int ((nI k) + Int32.ofInt 1)), (5, .long (x).toInt64), (4, .int (nI k)), (3, .int x), (1, .int (nI n)), (0, .ref 154)] [] h2 from ⟨by decide, ?_⟩)
          rw [xw_i1]
          exact sv_S sv_189 (by intro q hq; simp only [List.mem_cons, List.not_mem_nil, or_false] at hq; rcases hq with rfl | rfl | rfl | rfl <;> rfl) (h265 (k + 1) _ h2 (by omega) (by omega) l2)
        · refine am_goX 1 (show (0 = 0 → pz_S 7 none am_r189 2 Q 260 [(5, .long (x).toInt64), (4, .int (nI k)), (3, .int x), (2, .int (nI k)), (1, .int (nI n)), (0, .ref 154)] [.int (nI n), .ref 156] h1) ∧ (¬ (0 = 0) → pz_S 7 none am_r189 2 Q 256 [(5, .long (x).toInt64), (4, .int (nI k)), (3, .int x), (2, .int (nI k)), (1, .int (nI n)), (0, .ref 154)] [.int (nI n), .ref 156] h1) from ⟨fun _ => ?_, fun hz => absurd rfl hz⟩)
          refine am_goX 2 (show ∃ jj nn : Nat, am_so h1 156 = some (13, nn) ∧ jj < nn ∧ (nI n) = nI jj ∧ pz_S 7 none am_r189 2 Q 262 [(5, .long (x).toInt64), (4, .int (nI k)), (3, .int x), (2, .int (nI k)), (1, .int (nI n)), (0, .ref 154)] [] (am_wI h1 156 jj ((Int32.ofInt 4))) from ⟨n, 1002, pc_w156 hP1, by omega, rfl, ?_⟩)
          have l2 := ct_w (o := 156) (k := n) (v := Int32.ofInt 4) l1 (pz_Mtk (Or.inl rfl) (by omega)) (by omega) (by decide) (pz_sga pz_sg156 (by decide) (by decide))
          generalize am_wI h1 156 n (Int32.ofInt 4) = h2 at l2 ⊢
          refine am_goX 1 (show 2 < 7 ∧ pz_S 7 none am_r189 2 Q 265 [(2, .int ((nI k) + Int32.ofInt 1)), (5, .long (x).toInt64), (4, .int (nI k)), (3, .int x), (1, .int (nI n)), (0, .ref 154)] [] h2 from ⟨by decide, ?_⟩)
          rw [xw_i1]
          exact sv_S sv_189 (by intro q hq; simp only [List.mem_cons, List.not_mem_nil, or_false] at hq; rcases hq with rfl | rfl | rfl | rfl <;> rfl) (h265 (k + 1) _ h2 (by omega) (by omega) l2)
theorem pz_sg3 : (ag_sg 154).all (fun s => !(Nat.ble s.1 3 && Nat.ble 3 s.2.1) || (decide (s.2.2.2.2.1 ≤ 0) && decide (1000 ≤ s.2.2.2.2.2))) = true := by decide +kernel
theorem pz_sg2 : (ag_sg 154).all (fun s => !(Nat.ble s.1 2 && Nat.ble 2 s.2.1) || (decide (s.2.2.2.2.1 ≤ 0) && decide (1000 ≤ s.2.2.2.2.2))) = true := by decide +kernel
theorem pz_cutall {Q : am_Q} {N a c : Nat} (hP0 : pz_P N a c h) (hQ : ∀ N' h', pz_P N' 0 c h' → ag_fr pz_Mt h h' → h'.1 154 8 = 0 → h'.1 154 2 = 0 → Q none h') : am_call am_cod 3 189 [.ref 154] h Q := by
  have hP : pc_P h := ⟨hP0.1.1, hP0.1.2.1, hP0.2.1⟩
  have ht : 0 ≤ (h.1 154 2).toInt ∧ (h.1 154 2).toInt ≤ 1000 := hP0.1.2.1.1 154 (2, 2, 1, 0, 0, 1000) (iv_sgm (o := 154) (s := (2, 2, 1, 0, 0, 1000)) (by decide +kernel)) 2 (by decide) (by decide) (by decide)
  obtain ⟨sz, hsz⟩ : ∃ sz : Nat, h.1 154 2 = nI sz ∧ sz ≤ 1000 := by
    refine ⟨(h.1 154 2).toInt.toNat, Int32.toInt_inj.mp ?_, by omega⟩
    rw [nI_toInt (by omega)]
    omega
  obtain ⟨hsz, hz⟩ := hsz
  have hszt : (nI sz).toInt = sz := nI_toInt (by omega)
  refine pz_call (n := 189) (nL := 7) (rt := none) (rows := am_r189) (d := 2) (by decide +kernel) (by decide +kernel) rfl (by funext pc; rfl) (pc_175 hP) (by exact Nat.le_of_ble_eq_true rfl) ?_
  refine am_goX 4 (show am_sh h 154 = some (11, 0) ∧ am_sh h 154 = some (11, 0) ∧ narrow (am_fty 11 3) (.int ((h.1 154 2))) = .int ((h.1 154 2)) ∧ fits (am_fty 11 3) (.int ((h.1 154 2))) = true ∧ pz_S 7 none am_r189 2 Q 8 [(0, .ref 154)] [] (am_wI h 154 3 ((h.1 154 2))) from ⟨pc_154 hP, pc_154 hP, rfl, rfl, ?_⟩)
  rw [hsz]
  have l0 : pc_P (am_wI h 154 3 (nI sz)) ∧ ag_fr pz_Mt h (am_wI h 154 3 (nI sz)) ∧ (am_wI h 154 3 (nI sz)).1 154 3 = nI sz := ⟨⟨hP.1, pz_wG hP.2.1 (pz_sgv pz_sg3 (by omega) (by omega)), pc_wX hP.2.2 (by decide)⟩, pz_fr rfl, em_we h 154 3 _⟩
  generalize am_wI h 154 3 (nI sz) = h1 at l0 ⊢
  refine am_goX 3 (show am_sh h1 154 = some (11, 0) ∧ narrow (am_fty 11 2) (.int ((Int32.ofInt 0))) = .int ((Int32.ofInt 0)) ∧ fits (am_fty 11 2) (.int ((Int32.ofInt 0))) = true ∧ pz_S 7 none am_r189 2 Q 13 [(0, .ref 154)] [] (am_wI h1 154 2 ((Int32.ofInt 0))) from ⟨pc_154 l0.1, rfl, rfl, ?_⟩)
  have l1 : ct h sz (am_wI h1 154 2 (Int32.ofInt 0)) := ⟨⟨l0.1.1, pz_wG l0.1.2.1 (pz_sgv pz_sg2 (by decide) (by decide)), pc_wX l0.1.2.2 (by decide)⟩, pz_trt l0.2.1 (pz_fr rfl), by rw [em_wn h1 _ (by omega)]; exact l0.2.2, em_we h1 154 2 _⟩
  generalize am_wI h1 154 2 (Int32.ofInt 0) = h2 at l1 ⊢
  refine am_goX 4 (show 1 < 7 ∧ 2 < 7 ∧ pz_S 7 none am_r189 2 Q 17 [(2, .int (Int32.ofInt 0)), (1, .int (Int32.ofInt 0)), (0, .ref 154)] [] h2 from ⟨by decide, by decide, ?_⟩)
  refine pz_cut_l hz (fun n h3 hn l3 => ?_) sz 0 0 h2 (by omega) (Nat.le_refl _) (Nat.zero_le _) l1
  have hnt : (nI n).toInt = n := nI_toInt (by omega)
  have hP3 := l3.1
  refine am_goX 2 (show am_sh h3 154 = some (11, 0) ∧ pz_S 7 none am_r189 2 Q 283 [(1, .int (nI n)), (0, .ref 154)] [am_rf (h3.2.2.1 154 4)] h3 from ⟨pc_154 hP3, ?_⟩)
  rw [pc_r4 hP3]
  refine am_goX 3 (show ∃ jj nn : Nat, am_so h3 156 = some (13, nn) ∧ jj < nn ∧ (nI n) = nI jj ∧ pz_S 7 none am_r189 2 Q 286 [(1, .int (nI n)), (0, .ref 154)] [] (am_wI h3 156 jj ((Int32.ofInt 0))) from ⟨n, 1002, pc_w156 hP3, by omega, rfl, ?_⟩)
  have l4 := ct_w (o := 156) (k := n) (v := Int32.ofInt 0) l3 (pz_Mtk (Or.inl rfl) (by omega)) (by omega) (by decide) (pz_sga pz_sg156 (by decide) (by decide))
  have e4 : (am_wI h3 156 n (Int32.ofInt 0)).1 156 n = 0 := em_we h3 156 n _
  generalize am_wI h3 156 n (Int32.ofInt 0) = h4 at l4 e4 ⊢
  refine am_goX 2 (show am_sh h4 154 = some (11, 0) ∧ pz_S 7 none am_r189 2 Q 290 [(1, .int (nI n)), (0, .ref 154)] [am_rf (h4.2.2.1 154 5)] h4 from ⟨pc_154 l4.1, ?_⟩)
  rw [pc_r5 l4.1]
  refine am_goX 3 (show am_sh h4 154 = some (11, 0) ∧ pz_S 7 none am_r189 2 Q 295 [(1, .int (nI n)), (0, .ref 154)] [.int (h4.1 154 3), .int (nI n), .ref 157] h4 from ⟨pc_154 l4.1, ?_⟩)
  rw [l4.2.2.1]
  refine am_goX 1 (show ∃ jj nn : Nat, am_so h4 157 = some (13, nn) ∧ jj < nn ∧ (nI n) = nI jj ∧ pz_S 7 none am_r189 2 Q 296 [(1, .int (nI n)), (0, .ref 154)] [] (am_wI h4 157 jj ((nI sz))) from ⟨n, 1002, pc_w157 l4.1, by omega, rfl, ?_⟩)
  have l5 := ct_w (o := 157) (k := n) (v := nI sz) l4 (pz_Mtk (Or.inr (Or.inl rfl)) (by omega)) (by omega) (by decide) (pz_sga pz_sg157 (by omega) (by omega))
  have e5 : (am_wI h4 157 n (nI sz)).1 156 n = 0 := by rw [em_wn h4 _ (by omega)]; exact e4
  generalize am_wI h4 157 n (nI sz) = h5 at l5 e5 ⊢
  refine am_goX 3 (show am_sh h5 154 = some (11, 0) ∧ narrow (am_fty 11 7) (.int ((Int32.ofInt 0))) = .int ((Int32.ofInt 0)) ∧ fits (am_fty 11 7) (.int ((Int32.ofInt 0))) = true ∧ pz_S 7 none am_r189 2 Q 301 [(1, .int (nI n)), (0, .ref 154)] [] (am_wI h5 154 7 ((Int32.ofInt 0))) from ⟨pc_154 l5.1, rfl, rfl, ?_⟩)
  have l6 := ct_w (o := 154) (k := 7) (v := Int32.ofInt 0) l5 rfl (by decide) (by decide) (pz_sgv pz_sg7 (by decide) (by decide))
  have e6 : (am_wI h5 154 7 (Int32.ofInt 0)).1 156 n = 0 := by rw [em_wn h5 _ (by omega)]; exact e5
  have a6 : (am_wI h5 154 7 (Int32.ofInt 0)).1 154 7 = nI 0 := em_we h5 154 7 _
  generalize am_wI h5 154 7 (Int32.ofInt 0) = h6 at l6 e6 a6 ⊢
  refine am_goX 3 (show am_sh h6 154 = some (11, 0) ∧ narrow (am_fty 11 8) (.int ((Int32.ofInt 0))) = .int ((Int32.ofInt 0)) ∧ fits (am_fty 11 8) (.int ((Int32.ofInt 0))) = true ∧ pz_S 7 none am_r189 2 Q 306 [(1, .int (nI n)), (0, .ref 154)] [] (am_wI h6 154 8 ((Int32.ofInt 0))) from ⟨pc_154 l6.1, rfl, rfl, ?_⟩)
  have l7 := ct_w (o := 154) (k := 8) (v := Int32.ofInt 0) l6 rfl (by decide) (by decide) (pz_sgv pz_sg8 (by decide) (by decide))
  have e7 : (am_wI h6 154 8 (Int32.ofInt 0)).1 156 n = 0 := by rw [em_wn h6 _ (by omega)]; exact e6
  have a7 : (am_wI h6 154 8 (Int32.ofInt 0)).1 154 7 = nI 0 := by rw [em_wn h6 _ (by omega)]; exact a6
  have b7 : (am_wI h6 154 8 (Int32.ofInt 0)).1 154 8 = 0 := em_we h6 154 8 _
  generalize am_wI h6 154 8 (Int32.ofInt 0) = h7 at l7 e7 a7 b7 ⊢
  have hP7 : pz_P n 0 c h7 := ⟨⟨l7.1.1, l7.1.2.1, Int.natCast_nonneg n, e7⟩, l7.1.2.2, by omega, a7, Nat.zero_le _, ((l7.2.1.2 154 13 (by decide)).1).trans hP0.2.2.2.2.2.1, hP0.2.2.2.2.2.2⟩
  exact am_goX 1 (show (none : Option FieldType) = none ∧ h7.2.2.2.2 = 175 ∧ _ from ⟨rfl, pc_175 l7.1, hQ n h7 hP7 l7.2.1 b7 l7.2.2.2⟩)
end
section
/-! begins, BY THE SECOND CHECKER -/
/- MistCantonModel.onsAsTold -/
def ag_I600 : ag_I := ((182, 2, [([(0, 1000), ((-1100), 1000), (0, 24)], [], [(0, .inr (.inr 154))], ([], [], [], [], []))], [([(0, 1000), ((-1100), 1000), (0, 24)], [], [], ([], [], [], [], []))], [(172, 0, 4)]), [(2, ([(0, 1000), ((-1100), 1000), (0, 24), (0, 5)], [(0, 1, 0)], [(0, .inr (.inr 154)), (1, .inl ([(3, 1)], 0))], ([], [], [], [], [])), ([(3, -1)], 16769029))], [], 3000)
theorem ag_K600 : ag_chk ag_DD [] ag_I600 = true := by decide +kernel
theorem ag_O600 {Xp : am_H → Prop} (hX : ag_Xk Xp) (hw : ag_ok ag_DD Xp ag_Cworth) : ag_ok ag_DD Xp ag_I600.1 := ag_chk_ok ag_DD_sh ag_DD_lg hX (fun _ h => absurd h List.not_mem_nil) ag_K600
/- MistCantonModel.starts -/
def ag_I601 : ag_I := ((185, 2, [([(0, 1000), ((-1100), 1000), (0, 24), (0, 0)], [(0, 1, 0)], [(0, .inr (.inr 154)), (1, .inl ([(3, 1)], 0))], ([], [], [], [], []))], [([(0, 1000), ((-1100), 1000), (0, 24)], [], [], ([], [], [], [], []))], [(170, 0, 23)]), [(2, ([(0, 1000), ((-1100), 1000), (0, 24), (0, 0), (0, 27)], [(0, 1, 0), (0, 2, 0)], [(0, .inr (.inr 154)), (1, .inl ([(3, 1)], 0)), (2, .inl ([(4, 1)], 0))], ([], [], [], [], [])), ([(4, -1)], 16769051)),
  (25, ([(0, 1000), ((-1100), 1000), (0, 24), (0, 0), (0, 6)], [(0, 1, 0), (0, 2, 0)], [(0, .inr (.inr 154)), (1, .inl ([(3, 1)], 0)), (2, .inl ([(4, 1)], 0))], ([], [], [], [], [])), ([(4, -1)], 16764934))], [], 3000)
theorem ag_K601 : ag_chk ag_DD [] ag_I601 = true := by decide +kernel
theorem ag_O601 {Xp : am_H → Prop} (hX : ag_Xk Xp) (hw : ag_ok ag_DD Xp ag_Cworth) : ag_ok ag_DD Xp ag_I601.1 := ag_chk_ok ag_DD_sh ag_DD_lg hX (fun _ h => absurd h List.not_mem_nil) ag_K601
/- MistCantonModel.begins -/
def ag_I602 : ag_I := ((181, 3, [([(0, 1000), ((-1100), 1000), (0, 24)], [], [(0, .inr (.inr 154))], ([], [], [], [], []))], [([(0, 1000), ((-1100), 1000), (0, 24)], [], [], ([], [], [], [], []))], [(154, 25, 25), (167, 0, 0), (170, 0, 24), (171, 0, 3), (172, 0, 4)]), [(31, ([(0, 1000), ((-1100), 1000), (0, 24), (0, 4), (0, 0)], [(0, 1, 0), (1, 154, 25)], [(0, .inr (.inr 154)), (1, .inl ([(3, 1)], 0))], ([(154, 25, ([(4, 1)], 0))], [], [], [], [])), ([(3, -1)], 16769028))], [], 3000)
theorem ag_K602 : ag_chk ag_DD [ag_I600.1, ag_I601.1] ag_I602 = true := by decide +kernel
theorem ag_O602 {Xp : am_H → Prop} (hX : ag_Xk Xp) (hw : ag_ok ag_DD Xp ag_Cworth) : ag_ok ag_DD Xp ag_I602.1 := ag_chk_ok ag_DD_sh ag_DD_lg hX (List.forall_mem_cons.mpr ⟨ag_O600 hX hw, List.forall_mem_cons.mpr ⟨ag_O601 hX hw, fun _ h => absurd h List.not_mem_nil⟩⟩) ag_K602
theorem pb_M : ag_Mok ag_I602.1.2.2.2.2 = true ∧ ag_Msb ag_I602.1.2.2.2.2 [(154, 25, 25), (167, 0, 0), (170, 0, 24), (171, 0, 3), (172, 0, 4)] = true := by decide +kernel
theorem pb_call {Q : am_Q} {N a c : Nat} {h : am_H} (hP : pz_P N a c h) (hQ : ∀ h', pz_P N a c h' → ag_fr [(154, 25, 25), (167, 0, 0), (170, 0, 24), (171, 0, 3), (172, 0, 4)] h h' → Q none h') : am_call am_cod 3 181 [.ref 154] h Q := by
  have hok := ag_O602 xw_Xk xw_ok
  have e1 : ag_I602.1.2.2.1 = [iv_std 154 [] []] := rfl
  have hT : iv_std 154 [] [] ∈ ag_I602.1.2.2.1 := by rw [e1]; exact List.mem_cons_self
  refine am_call.mono (fun v h' q => ?_) (hok _ hT (iv_rho N []) [.ref 154] h hP.1 hP.2.1 (iv_TS (ks := []) (vs := []) hP.1.2.2.1 (by have := hP.2.2.1; omega) trivial (fun q hq => absurd hq List.not_mem_nil)) (Nat.le_of_ble_eq_true (by decide +kernel)) rfl)
  obtain ⟨q1, q2, P, hP9, τ, -, -, q5⟩ := q
  have hv : v = none := by
    have e2 : ag_I602.1.2.2.2.1.all (fun P => !(ag_lv P.2.2.1 1000).isSome) = true := by decide +kernel
    have e3 := List.all_eq_true.mp e2 P hP9
    rw [← q5] at e3
    cases v with
    | none => rfl
    | some x => cases e3
  subst hv
  have f : ag_fr [(154, 25, 25), (167, 0, 0), (170, 0, 24), (171, 0, 3), (172, 0, 4)] h h' := (ag_fr.refl h).trans pb_M.2 q2
  obtain ⟨p1, p2, p3, p4, p5, p6, p7⟩ := hP
  refine hQ h' ⟨q1, xw_Xk h h' (fun o k hk => (q2.2 o k (ag_Mok_at pb_M.1 hk)).1) p2, p3, ((f.2 154 7 (by decide)).1).trans p4, p5, ((f.2 154 13 (by decide)).1).trans p6, p7⟩ f
end
section
/-! standsAsAlways, canton -/
variable {N a c p e z : Nat} {h h0 : am_H}
theorem pz_sgz : (ag_sg 160).all (fun s => decide (s.2.2.2.2.1 ≤ 0) && decide ((0 : Int) ≤ s.2.2.2.2.2)) = true := by decide +kernel
theorem pz_sg43m : (ag_sg 160).all (fun s => !(Nat.ble s.1 43 && Nat.ble 43 s.2.1) || (decide (s.2.2.2.2.1 ≤ -1) && decide (0 ≤ s.2.2.2.2.2))) = true := by decide +kernel
theorem pz_M40 {k : Nat} (h1 : 40 ≤ k) (h2 : k ≤ 79) : ag_atM [(160, 40, 79)] 160 k = true := by
  have e1 : Nat.ble 40 k = true := Nat.ble_eq_true_of_le h1
  have e2 : Nat.ble k 79 = true := Nat.ble_eq_true_of_le h2
  unfold ag_atM
  simp [List.any, e1, e2]
theorem pz_std_l {Q : am_Q} (hend : ∀ h1, pz_P N a c h1 → ag_fr [(160, 40, 79)] h0 h1 → (∀ j, j < 40 → h1.1 160 (40 + j) = 0) → pz_S 3 none am_r180 0 Q 23 [(0, .ref 154), (1, .int (Int8.ofInt 40).toInt32)] [] h1) : ∀ (m k : Nat) (h : am_H), k + m = 40 → pz_P N a c h → ag_fr [(160, 40, 79)] h0 h → (∀ j, j < k → h.1 160 (40 + j) = 0) → pz_S 3 none am_r180 0 Q 2 [(2, .int (nI k)), (0, .ref 154), (1, .int (Int8.ofInt 40).toInt32)] [] h := by
  intro m
  induction m with
  | zero =>
    intro k h hk hP hf hj
    refine am_goX 3 (show ((Int8.ofInt 40).toInt32 ≤ (nI k) → pz_S 3 none am_r180 0 Q 23 [(2, .int (nI k)), (0, .ref 154), (1, .int (Int8.ofInt 40).toInt32)] [] h) ∧ (¬ ((Int8.ofInt 40).toInt32 ≤ (nI k)) → pz_S 3 none am_r180 0 Q 8 [(2, .int (nI k)), (0, .ref 154), (1, .int (Int8.ofInt 40).toInt32)] [] h) from ⟨fun hc => ?_, fun hc => ?_⟩)
    · have ek : k = 40 := by omega
      subst ek
      exact sv_S (by decide +kernel) (by intro q hq; simp only [List.mem_cons, List.not_mem_nil, or_false] at hq; rcases hq with rfl | rfl <;> rfl) (hend h hP hf hj)
    · exact absurd (show (Int8.ofInt 40).toInt32 ≤ nI k by rw [show k = 40 by omega]; decide) hc
  | succ m ih =>
    intro k h hk hP hf hj
    refine am_goX 3 (show ((Int8.ofInt 40).toInt32 ≤ (nI k) → pz_S 3 none am_r180 0 Q 23 [(2, .int (nI k)), (0, .ref 154), (1, .int (Int8.ofInt 40).toInt32)] [] h) ∧ (¬ ((Int8.ofInt 40).toInt32 ≤ (nI k)) → pz_S 3 none am_r180 0 Q 8 [(2, .int (nI k)), (0, .ref 154), (1, .int (Int8.ofInt 40).toInt32)] [] h) from ⟨fun hc => ?_, fun hc => ?_⟩)
    · exact absurd hc (nI_ge (b := 40) (by omega) (by omega))
    · refine am_goX 2 (show am_sh h 154 = some (11, 0) ∧ pz_S 3 none am_r180 0 Q 12 [(2, .int (nI k)), (0, .ref 154), (1, .int (Int8.ofInt 40).toInt32)] [am_rf (h.2.2.1 154 10)] h from ⟨pz_154 hP, ?_⟩)
      rw [pz_r10 hP]
      refine am_goX 5 (show ∃ jj nn : Nat, am_so h 160 = some (13, nn) ∧ jj < nn ∧ ((Int8.ofInt 40).toInt32 + (nI k)) = nI jj ∧ pz_S 3 none am_r180 0 Q 17 [(2, .int (nI k)), (0, .ref 154), (1, .int (Int8.ofInt 40).toInt32)] [] (am_wI h 160 jj ((Int32.ofInt 0))) from ⟨(40 + k), 80, pz_w160 hP, by omega, nI_add 40 k, ?_⟩)
      have hP1 := pz_w (o := 160) (k := 40 + k) (v := Int32.ofInt 0) hP (by omega) (by unfold ag_kp; omega) (pz_sga pz_sgz (by decide) (by decide))
      have hf1 : ag_fr [(160, 40, 79)] h0 (am_wI h 160 (40 + k) (Int32.ofInt 0)) := hf.trans (by decide +kernel) (pz_fr (M := [(160, 40, 79)]) (pz_M40 (by omega) (by omega)))
      have hj1 : ∀ j, j < k + 1 → (am_wI h 160 (40 + k) (Int32.ofInt 0)).1 160 (40 + j) = 0 := fun j hj2 => by
        by_cases ej : j = k
        · subst ej
          exact em_we h 160 _ _
        · rw [em_wn h _ (by omega)]
          exact hj j (by omega)
      generalize am_wI h 160 (40 + k) (Int32.ofInt 0) = h1 at hP1 hf1 hj1 ⊢
      refine am_goX 2 (show 2 < 3 ∧ pz_S 3 none am_r180 0 Q 2 [(2, .int ((nI k) + Int32.ofInt 1)), (0, .ref 154), (1, .int (Int8.ofInt 40).toInt32)] [] h1 from ⟨by decide, ?_⟩)
      rw [xw_i1]
      exact ih (k + 1) h1 (by omega) hP1 hf1 hj1
theorem pz_std {Q : am_Q} (hP : pz_P N a c h) (hQ : ∀ h', pz_P N a c h' → ag_fr [(160, 40, 79)] h h' → h'.1 160 40 = 0 → h'.1 160 41 = 0 → h'.1 160 43 = -1 → Q none h') : am_call am_cod 1 180 [.ref 154, .int (Int8.ofInt 40).toInt32] h Q := by
  refine pz_call (n := 180) (nL := 3) (rt := none) (rows := am_r180) (d := 0) (by decide +kernel) (by decide +kernel) rfl (by funext pc; rfl) (pz_175 hP) (by exact Nat.le_of_ble_eq_true rfl) ?_
  refine am_goX 2 (show 2 < 3 ∧ pz_S 3 none am_r180 0 Q 2 [(2, .int (Int32.ofInt 0)), (0, .ref 154), (1, .int (Int8.ofInt 40).toInt32)] [] h from ⟨by decide, ?_⟩)
  refine pz_std_l (fun h1 hP1 hf1 hj1 => ?_) 40 0 h rfl hP (ag_fr.refl h) (fun j hj => absurd hj (by omega))
  refine am_goX 2 (show am_sh h1 154 = some (11, 0) ∧ pz_S 3 none am_r180 0 Q 27 [(0, .ref 154), (1, .int (Int8.ofInt 40).toInt32)] [am_rf (h1.2.2.1 154 10)] h1 from ⟨pz_154 hP1, ?_⟩)
  rw [pz_r10 hP1]
  refine am_goX 5 (show ∃ jj nn : Nat, am_so h1 160 = some (13, nn) ∧ jj < nn ∧ ((Int8.ofInt 40).toInt32 + (Int32.ofInt 3)) = nI jj ∧ pz_S 3 none am_r180 0 Q 32 [(0, .ref 154), (1, .int (Int8.ofInt 40).toInt32)] [] (am_wI h1 160 jj ((Int32.ofInt (-1)))) from ⟨43, 80, pz_w160 hP1, by decide, by decide, ?_⟩)
  have hP2 := pz_w (o := 160) (k := 43) (v := Int32.ofInt (-1)) hP1 (by omega) (by unfold ag_kp; omega) (pz_sgv pz_sg43m (by decide) (by decide))
  exact am_goX 1 (show (none : Option FieldType) = none ∧ (am_wI h1 160 43 (Int32.ofInt (-1))).2.2.2.2 = 175 ∧ _ from ⟨rfl, pz_175 hP2, hQ _ hP2 (hf1.trans (by decide +kernel) (pz_fr (M := [(160, 40, 79)]) (by decide))) (by rw [em_wn h1 _ (by omega)]; exact hj1 0 (by decide)) (by rw [em_wn h1 _ (by omega)]; exact hj1 1 (by decide)) (em_we h1 160 43 _)⟩)
/-! what was read is told -/
def px_P (h : am_H) : Prop := h.2.2.2.2 = 175 ∧ ag_G ag_DD h
theorem px_175 (hP : px_P h) : h.2.2.2.2 = 175 := hP.1
theorem px_so (hP : px_P h) {o : Nat} {e : Nat × Nat} (he : ag_so ag_DD o = some e) : am_so h o = some e ∧ am_sh h o = some e := ag_so_ok (D := ag_DD) ag_DD_sh hP.1 he
theorem px_rc (hP : px_P h) : am_rc h 154 11 := Or.inl ⟨by decide, (px_so hP (by decide +kernel)).2⟩
theorem px_lim (hP : px_P h) {n : Nat} (hn : am_al n = 0) : h.2.2.2.2 + am_al n ≤ 175 := by
  rw [px_175 hP, hn]
  exact Nat.le_refl _
theorem px_154 (hP : px_P h) : am_sh h 154 = some (11, 0) := (px_so hP (by decide +kernel)).2
theorem px_160 (hP : px_P h) : am_sh h 160 = some (13, 80) := (px_so hP (by decide +kernel)).2
theorem px_w160 (hP : px_P h) : am_so h 160 = some (13, 80) := (px_so hP (by decide +kernel)).1
theorem px_161 (hP : px_P h) : am_sh h 161 = some (13, 2200) := (px_so hP (by decide +kernel)).2
theorem px_w161 (hP : px_P h) : am_so h 161 = some (13, 2200) := (px_so hP (by decide +kernel)).1
theorem px_162 (hP : px_P h) : am_sh h 162 = some (13, 2200) := (px_so hP (by decide +kernel)).2
theorem px_w162 (hP : px_P h) : am_so h 162 = some (13, 2200) := (px_so hP (by decide +kernel)).1
theorem px_163 (hP : px_P h) : am_sh h 163 = some (14, 11) := (px_so hP (by decide +kernel)).2
theorem px_w163 (hP : px_P h) : am_so h 163 = some (14, 11) := (px_so hP (by decide +kernel)).1
theorem px_164 (hP : px_P h) : am_sh h 164 = some (14, 11) := (px_so hP (by decide +kernel)).2
theorem px_w164 (hP : px_P h) : am_so h 164 = some (14, 11) := (px_so hP (by decide +kernel)).1
theorem px_165 (hP : px_P h) : am_sh h 165 = some (13, 11) := (px_so hP (by decide +kernel)).2
theorem px_w165 (hP : px_P h) : am_so h 165 = some (13, 11) := (px_so hP (by decide +kernel)).1
theorem px_166 (hP : px_P h) : am_sh h 166 = some (13, 11) := (px_so hP (by decide +kernel)).2
theorem px_w166 (hP : px_P h) : am_so h 166 = some (13, 11) := (px_so hP (by decide +kernel)).1
theorem px_r10 (hP : px_P h) : h.2.2.1 154 10 = some 160 := hP.2.2.2 154 10 160 (by decide +kernel)
theorem px_r11 (hP : px_P h) : h.2.2.1 154 11 = some 161 := hP.2.2.2 154 11 161 (by decide +kernel)
theorem px_r12 (hP : px_P h) : h.2.2.1 154 12 = some 162 := hP.2.2.2 154 12 162 (by decide +kernel)
theorem px_r14 (hP : px_P h) : h.2.2.1 154 14 = some 163 := hP.2.2.2 154 14 163 (by decide +kernel)
theorem px_r15 (hP : px_P h) : h.2.2.1 154 15 = some 164 := hP.2.2.2 154 15 164 (by decide +kernel)
theorem px_r16 (hP : px_P h) : h.2.2.1 154 16 = some 165 := hP.2.2.2 154 16 165 (by decide +kernel)
theorem px_r17 (hP : px_P h) : h.2.2.1 154 17 = some 166 := hP.2.2.2 154 17 166 (by decide +kernel)
def pz_Mz : ag_M := [(154, 0, 0), (154, 3, 3), (154, 7, 8), (154, 13, 13), (154, 18, 20), (154, 25, 25), (156, 0, 1001), (157, 0, 1001), (158, 0, 1001), (160, 0, 79), (161, 0, 2199), (162, 0, 2199), (163, 0, 10), (164, 0, 10), (165, 0, 10), (166, 0, 10), (167, 0, 249), (170, 0, 24), (171, 0, 3), (172, 0, 4)]
def pz_Mk2 : ag_M := [(154, 18, 18), (160, 0, 39), (161, 0, 1099), (162, 0, 1099), (163, 0, 10), (165, 0, 10)]
theorem pz_atk {o k lo hi : Nat} (h1 : lo ≤ k) (h2 : k ≤ hi) (hm : (o, lo, hi) ∈ pz_Mk2) : ag_atM pz_Mk2 o k = true := by
  unfold ag_atM
  refine List.any_eq_true.mpr ⟨_, hm, ?_⟩
  rw [Bool.and_eq_true, Bool.and_eq_true]
  exact ⟨Nat.beq_refl o, Nat.ble_eq_true_of_le h1, Nat.ble_eq_true_of_le h2⟩
theorem pz_bf {a b : Nat} (h : b < a) : Nat.ble a b = false := by
  cases hb : Nat.ble a b with
  | false => rfl
  | true => exact absurd (Nat.le_of_ble_eq_true hb) (by omega)
theorem pz_n161 (k : Nat) : ag_atM pz_Mk2 161 (1100 + k) = false ∧ ag_atM pz_Mk2 162 (1100 + k) = false := by
  have e : Nat.ble (1100 + k) 1099 = false := pz_bf (by omega)
  unfold ag_atM pz_Mk2
  simp [List.any, e]
theorem pz_n160 (k : Nat) : ag_atM pz_Mk2 160 (40 + k) = false := by
  have e : Nat.ble (40 + k) 39 = false := pz_bf (by omega)
  unfold ag_atM pz_Mk2
  simp [List.any, e]
theorem pz_trk {h1 h2 : am_H} (f1 : ag_fr pz_Mk2 h h1) (f2 : ag_fr pz_Mk2 h1 h2) : ag_fr pz_Mk2 h h2 := f1.trans (by decide +kernel) f2
theorem px_w {o k : Nat} {v : Int32} (hP : px_P h) (hv : ∀ s ∈ ag_sg o, ag_seg s k v) : px_P (am_wI h o k v) := ⟨hP.1, pz_wG hP.2 hv⟩
theorem px_wl {o k : Nat} {v : Int64} (hP : px_P h) (ho : ¬ o = 154) : px_P (am_wL h o k v) := by
  refine ⟨hP.1, hP.2.1, fun o' k' => ?_, hP.2.2.2⟩
  by_cases z : o' = o
  · subst z
    rw [ag_DD_lg o' k' ho]
    exact ag_i64r _
  · have e9 : (am_wL h o k v).2.1 o' k' = h.2.1 o' k' := if_neg (fun w => z w.1)
    rw [e9]
    exact hP.2.2.1 o' k'
/-- so many of the first row, of the codes -/
def cq (hA : am_H) (k1 k2 : Nat) (g : am_H) : Prop := px_P g ∧ ag_fr pz_Mk2 hA g ∧ (∀ j, j < k1 → g.1 160 j = hA.1 160 (40 + j)) ∧ (∀ j, j < k2 → g.1 161 j = hA.1 161 (1100 + j) ∧ g.1 162 j = hA.1 162 (1100 + j))
theorem cq_160 {hA g : am_H} {k : Nat} (q : cq hA k 0 g) (hk : k < 40) (hv : ∀ s ∈ ag_sg 160, ag_seg s k (hA.1 160 (40 + k))) : cq hA (k + 1) 0 (am_wI g 160 k (hA.1 160 (40 + k))) := by
  refine ⟨px_w q.1 hv, pz_trk q.2.1 (pz_fr (pz_atk (Nat.zero_le _) (Nat.le_of_lt_succ hk) (by decide))), fun j hj => ?_, fun j hj => absurd hj (by omega)⟩
  by_cases ej : j = k
  · subst ej
    exact em_we g 160 _ _
  · rw [em_wn g _ (by omega)]
    exact q.2.2.1 j (by omega)
theorem cq_161 {hA g : am_H} {k : Nat} (q : cq hA 40 k g) (hk : k < 1100) : cq hA 40 k (am_wI g 161 k (hA.1 161 (1100 + k))) ∧ (am_wI g 161 k (hA.1 161 (1100 + k))).1 161 k = hA.1 161 (1100 + k) := by
  refine ⟨⟨px_w q.1 (fun s hs => by rw [pz_e161.1] at hs; exact absurd hs List.not_mem_nil), pz_trk q.2.1 (pz_fr (pz_atk (Nat.zero_le _) (Nat.le_of_lt_succ hk) (by decide))), fun j hj => ?_, fun j hj => ?_⟩, em_we g 161 k _⟩
  · rw [em_wn g _ (by omega)]
    exact q.2.2.1 j hj
  · rw [em_wn g _ (by omega), em_wn g _ (by omega)]
    exact q.2.2.2 j hj
theorem cq_162 {hA g : am_H} {k : Nat} (q : cq hA 40 k g) (hk : k < 1100) (e1 : g.1 161 k = hA.1 161 (1100 + k)) : cq hA 40 (k + 1) (am_wI g 162 k (hA.1 162 (1100 + k))) := by
  refine ⟨px_w q.1 (fun s hs => by rw [pz_e161.2] at hs; exact absurd hs List.not_mem_nil), pz_trk q.2.1 (pz_fr (pz_atk (Nat.zero_le _) (Nat.le_of_lt_succ hk) (by decide))), fun j hj => ?_, fun j hj => ?_⟩
  · rw [em_wn g _ (by omega)]
    exact q.2.2.1 j hj
  · rw [em_wn g _ (by omega)]
    by_cases ej : j = k
    · subst ej
      exact ⟨e1, em_we g 162 _ _⟩
    · rw [em_wn g _ (by omega)]
      exact q.2.2.2 j (by omega)
theorem cq_163 {hA g : am_H} {k c : Nat} {v : Int64} (q : cq hA 40 c g) (hk : k ≤ 10) : cq hA 40 c (am_wL g 163 k v) := ⟨px_wl q.1 (by decide), pz_trk q.2.1 (pz_frL (pz_atk (Nat.zero_le _) hk (by decide))), q.2.2.1, q.2.2.2⟩
theorem pz_sg165 : (ag_sg 165).all (fun s => decide (s.2.2.2.2.1 ≤ 0) && decide (24 ≤ s.2.2.2.2.2)) = true := by decide +kernel
theorem cq_165 {hA g : am_H} {k c : Nat} {v : Int32} (q : cq hA 40 c g) (hk : k ≤ 10) (hv : 0 ≤ v.toInt ∧ v.toInt ≤ 24) : cq hA 40 c (am_wI g 165 k v) := by
  refine ⟨px_w q.1 (pz_sga pz_sg165 hv.1 hv.2), pz_trk q.2.1 (pz_fr (pz_atk (Nat.zero_le _) hk (by decide))), fun j hj => ?_, fun j hj => ?_⟩
  · rw [em_wn g _ (by omega)]
    exact q.2.2.1 j hj
  · rw [em_wn g _ (by omega), em_wn g _ (by omega)]
    exact q.2.2.2 j hj
theorem pz_sg18 : (ag_sg 154).all (fun s => !(Nat.ble s.1 18 && Nat.ble 18 s.2.1) || (decide (s.2.2.2.2.1 ≤ 0) && decide (11 ≤ s.2.2.2.2.2))) = true := by decide +kernel
theorem cq_18 {hA g : am_H} {c z : Nat} (q : cq hA 40 c g) (hz : z ≤ 11) : cq hA 40 c (am_wI g 154 18 (nI z)) := by
  have ht : (nI z).toInt = z := nI_toInt (by omega)
  refine ⟨px_w q.1 (pz_sgv pz_sg18 (by omega) (by omega)), pz_trk q.2.1 (pz_fr (by decide)), fun j hj => ?_, fun j hj => ?_⟩
  · rw [em_wn g _ (by omega)]
    exact q.2.2.1 j hj
  · rw [em_wn g _ (by omega), em_wn g _ (by omega)]
    exact q.2.2.2 j hj
theorem pz_sg160k : (ag_sg 160).all (fun s => Nat.beq s.1 s.2.1 && ((Nat.beq s.1 0 && (decide (s.2.2.2.2.1 ≤ 0) && decide (6 ≤ s.2.2.2.2.2))) || ((Nat.beq s.1 1 && (decide (s.2.2.2.2.1 ≤ 0) && decide (5 ≤ s.2.2.2.2.2))) || ((Nat.beq s.1 3 && (decide (s.2.2.2.2.1 ≤ -1) && decide (0 ≤ s.2.2.2.2.2))) || Nat.ble 40 s.1)))) = true := by decide +kernel
theorem pz_row {hA : am_H} (l : ln N a c h0 p e z hA) (hp : p ≤ 6) (he : e ≤ 5) : ∀ k, k < 40 → ∀ s ∈ ag_sg 160, ag_seg s k (hA.1 160 (40 + k)) := by
  intro k hk s hs k1 k2 _
  have w := List.all_eq_true.mp pz_sg160k s hs
  simp only [Bool.and_eq_true, Bool.or_eq_true, decide_eq_true_eq] at w
  have e1 := Nat.eq_of_beq_eq_true w.1
  rcases w.2 with ⟨z1, z2⟩ | ⟨z1, z2⟩ | ⟨z1, z2⟩ | z1
  · have := Nat.eq_of_beq_eq_true z1
    have ek : k = 0 := by omega
    subst ek
    rw [show hA.1 160 (40 + 0) = nI p from l.2.2.2.1, nI_toInt (by omega)]
    omega
  · have := Nat.eq_of_beq_eq_true z1
    have ek : k = 1 := by omega
    subst ek
    rw [show hA.1 160 (40 + 1) = nI e from l.2.2.2.2.1, nI_toInt (by omega)]
    omega
  · have := Nat.eq_of_beq_eq_true z1
    have ek : k = 3 := by omega
    subst ek
    show _ ≤ (hA.1 160 43).toInt ∧ (hA.1 160 43).toInt ≤ _
    rcases l.2.2.2.2.2.2 with ⟨g, -⟩ | ⟨-, g⟩
    · rw [g, show (-1 : Int32).toInt = -1 by decide]
      omega
    · obtain ⟨m, dep, -, -, g3, -⟩ := (show ∃ (m : Nat) (dep : Nat → Nat), hA.1 154 13 = nI (m + 1) ∧ m < 1099 ∧ hA.1 160 43 = 0 ∧ hA.1 161 (1100 + m) = 0 ∧ dep 0 = 0 ∧ ∀ i, i < m → xf_st hA 1100 dep i from g)
      rw [g3, show (0 : Int32).toInt = 0 by decide]
      omega
  · have := Nat.le_of_ble_eq_true z1
    omega
/-- the law that was read is the law that is told -/
theorem pz_told {hA g : am_H} (l : ln N a c h0 p e z hA) (q : cq hA 40 c g) : xw_X g := by
  have e3 : g.1 160 3 = hA.1 160 43 := q.2.2.1 3 (by decide)
  rcases l.2.2.2.2.2.2 with ⟨w, -⟩ | ⟨-, w⟩
  · exact Or.inl (e3.trans w)
  · obtain ⟨m, dep, w1, w2, w3, w4, w5, w6⟩ := (show ∃ (m : Nat) (dep : Nat → Nat), hA.1 154 13 = nI (m + 1) ∧ m < 1099 ∧ hA.1 160 43 = 0 ∧ hA.1 161 (1100 + m) = 0 ∧ dep 0 = 0 ∧ ∀ i, i < m → xf_st hA 1100 dep i from w)
    have ec : c = m + 1 := by
      have h1 := l.1.2.2.2.2.2.1
      have h2 := l.1.2.2.2.2.2.2
      rw [w1, nI_eq (by omega) (by omega)] at h1
      exact h1.symm
    refine Or.inr ⟨e3.trans w3, m, by omega, (q.2.2.2 m (by omega)).1.trans w4, dep, w5, fun i hi => ?_⟩
    have := w6 i hi
    unfold xf_st at this
    unfold xw_st
    rw [(q.2.2.2 i (by omega)).1, (q.2.2.2 i (by omega)).2]
    exact this
theorem pz_cn3 {Q : am_Q} {hA : am_H} (l : ln N a c h0 p e z hA) (hz : z ≤ 11) (hend : ∀ g, cq hA 40 c g → pz_S 2 (some .int) am_r188 35 Q 191 [(0, .ref 154)] [] g) : ∀ (m k : Nat) (g : am_H), k + m = z → cq hA 40 c g → pz_S 2 (some .int) am_r188 35 Q 153 [(1, .int (nI k)), (0, .ref 154)] [] g := by
  intro m
  induction m with
  | zero =>
    intro k g hk q
    have hP := q.1
    have e19 : g.1 154 19 = nI z := ((q.2.1.2 154 19 (by decide)).1).trans l.2.2.2.2.2.1
    refine am_goX 3 (show am_sh g 154 = some (11, 0) ∧ pz_S 2 (some .int) am_r188 35 Q 158 [(1, .int (nI k)), (0, .ref 154)] [.int (g.1 154 19), .int (nI k)] g from ⟨px_154 hP, ?_⟩)
    rw [e19]
    refine am_goX 1 (show ((nI z) ≤ (nI k) → pz_S 2 (some .int) am_r188 35 Q 191 [(1, .int (nI k)), (0, .ref 154)] [] g) ∧ (¬ ((nI z) ≤ (nI k)) → pz_S 2 (some .int) am_r188 35 Q 161 [(1, .int (nI k)), (0, .ref 154)] [] g) from ⟨fun hc => ?_, fun hc => ?_⟩)
    · exact sv_S sv_188 (by intro q hq; simp only [List.mem_cons, List.not_mem_nil, or_false] at hq; rcases hq with rfl <;> rfl) (hend g q)
    · exact absurd (nI_le (by omega) (by omega)) hc
  | succ m ih =>
    intro k g hk q
    have hP := q.1
    have e19 : g.1 154 19 = nI z := ((q.2.1.2 154 19 (by decide)).1).trans l.2.2.2.2.2.1
    refine am_goX 3 (show am_sh g 154 = some (11, 0) ∧ pz_S 2 (some .int) am_r188 35 Q 158 [(1, .int (nI k)), (0, .ref 154)] [.int (g.1 154 19), .int (nI k)] g from ⟨px_154 hP, ?_⟩)
    rw [e19]
    refine am_goX 1 (show ((nI z) ≤ (nI k) → pz_S 2 (some .int) am_r188 35 Q 191 [(1, .int (nI k)), (0, .ref 154)] [] g) ∧ (¬ ((nI z) ≤ (nI k)) → pz_S 2 (some .int) am_r188 35 Q 161 [(1, .int (nI k)), (0, .ref 154)] [] g) from ⟨fun hc => ?_, fun hc => ?_⟩)
    · exact absurd hc (nI_ge (by omega) (by omega))
    · refine am_goX 2 (show am_sh g 154 = some (11, 0) ∧ pz_S 2 (some .int) am_r188 35 Q 165 [(1, .int (nI k)), (0, .ref 154)] [am_rf (g.2.2.1 154 14)] g from ⟨px_154 hP, ?_⟩)
      rw [px_r14 hP]
      refine am_goX 3 (show am_sh g 154 = some (11, 0) ∧ pz_S 2 (some .int) am_r188 35 Q 170 [(1, .int (nI k)), (0, .ref 154)] [am_rf (g.2.2.1 154 15), .int (nI k), .ref 163] g from ⟨px_154 hP, ?_⟩)
      rw [px_r15 hP]
      refine am_goX 2 (show ∃ jj nn : Nat, am_sh g 164 = some (14, nn) ∧ jj < nn ∧ (nI k) = nI jj ∧ pz_S 2 (some .int) am_r188 35 Q 172 [(1, .int (nI k)), (0, .ref 154)] [.long (g.2.1 164 jj), .int (nI k), .ref 163] g from ⟨k, 11, px_164 hP, by omega, rfl, ?_⟩)
      refine am_goX 1 (show ∃ jj nn : Nat, am_so g 163 = some (14, nn) ∧ jj < nn ∧ (nI k) = nI jj ∧ pz_S 2 (some .int) am_r188 35 Q 173 [(1, .int (nI k)), (0, .ref 154)] [] (am_wL g 163 jj ((g.2.1 164 k))) from ⟨k, 11, px_w163 hP, by omega, rfl, ?_⟩)
      have q1 := cq_163 (k := k) (v := g.2.1 164 k) q (by omega)
      have e1 : (am_wL g 163 k (g.2.1 164 k)).1 166 k = hA.1 166 k := (q.2.1.2 166 k (by simp [ag_atM, pz_Mk2])).1
      generalize am_wL g 163 k (g.2.1 164 k) = g1 at q1 e1 ⊢
      have hP1 := q1.1
      refine am_goX 2 (show am_sh g1 154 = some (11, 0) ∧ pz_S 2 (some .int) am_r188 35 Q 177 [(1, .int (nI k)), (0, .ref 154)] [am_rf (g1.2.2.1 154 16)] g1 from ⟨px_154 hP1, ?_⟩)
      rw [px_r16 hP1]
      refine am_goX 3 (show am_sh g1 154 = some (11, 0) ∧ pz_S 2 (some .int) am_r188 35 Q 182 [(1, .int (nI k)), (0, .ref 154)] [am_rf (g1.2.2.1 154 17), .int (nI k), .ref 165] g1 from ⟨px_154 hP1, ?_⟩)
      rw [px_r17 hP1]
      refine am_goX 2 (show ∃ jj nn : Nat, am_sh g1 166 = some (13, nn) ∧ jj < nn ∧ (nI k) = nI jj ∧ pz_S 2 (some .int) am_r188 35 Q 184 [(1, .int (nI k)), (0, .ref 154)] [.int (g1.1 166 jj), .int (nI k), .ref 165] g1 from ⟨k, 11, px_166 hP1, by omega, rfl, ?_⟩)
      refine am_goX 1 (show ∃ jj nn : Nat, am_so g1 165 = some (13, nn) ∧ jj < nn ∧ (nI k) = nI jj ∧ pz_S 2 (some .int) am_r188 35 Q 185 [(1, .int (nI k)), (0, .ref 154)] [] (am_wI g1 165 jj ((g1.1 166 k))) from ⟨k, 11, px_w165 hP1, by omega, rfl, ?_⟩)
      have q2 := cq_165 (k := k) (v := g1.1 166 k) q1 (by omega) (by rw [e1]; exact (pz_nof l.1 (by omega)).2)
      generalize am_wI g1 165 k (g1.1 166 k) = g2 at q2 ⊢
      have hP2 := q2.1
      refine am_goX 2 (show 1 < 2 ∧ pz_S 2 (some .int) am_r188 35 Q 153 [(1, .int ((nI k) + Int32.ofInt 1)), (0, .ref 154)] [] g2 from ⟨by decide, ?_⟩)
      rw [xw_i1]
      exact ih (k + 1) g2 (by omega) q2
theorem pz_cn2 {Q : am_Q} {hA : am_H} (l : ln N a c h0 p e z hA) (hend : ∀ g, cq hA 40 c g → pz_S 2 (some .int) am_r188 35 Q 151 [(0, .ref 154)] [] g) : ∀ (m k : Nat) (g : am_H), k + m = c → cq hA 40 k g → pz_S 2 (some .int) am_r188 35 Q 105 [(1, .int (nI k)), (0, .ref 154)] [] g := by
  have hc11 := l.1.2.2.2.2.2.2
  intro m
  induction m with
  | zero =>
    intro k g hk q
    have hP := q.1
    have e13 : g.1 154 13 = nI c := ((q.2.1.2 154 13 (by decide)).1).trans l.1.2.2.2.2.2.1
    refine am_goX 3 (show am_sh g 154 = some (11, 0) ∧ pz_S 2 (some .int) am_r188 35 Q 110 [(1, .int (nI k)), (0, .ref 154)] [.int (g.1 154 13), .int (nI k)] g from ⟨px_154 hP, ?_⟩)
    rw [e13]
    refine am_goX 1 (show ((nI c) ≤ (nI k) → pz_S 2 (some .int) am_r188 35 Q 151 [(1, .int (nI k)), (0, .ref 154)] [] g) ∧ (¬ ((nI c) ≤ (nI k)) → pz_S 2 (some .int) am_r188 35 Q 113 [(1, .int (nI k)), (0, .ref 154)] [] g) from ⟨fun hc => ?_, fun hc => ?_⟩)
    · have ek : k = c := by omega
      subst ek
      exact sv_S sv_188 (by intro q hq; simp only [List.mem_cons, List.not_mem_nil, or_false] at hq; rcases hq with rfl <;> rfl) (hend g q)
    · exact absurd (nI_le (by omega) (by omega)) hc
  | succ m ih =>
    intro k g hk q
    have hP := q.1
    have e13 : g.1 154 13 = nI c := ((q.2.1.2 154 13 (by decide)).1).trans l.1.2.2.2.2.2.1
    refine am_goX 3 (show am_sh g 154 = some (11, 0) ∧ pz_S 2 (some .int) am_r188 35 Q 110 [(1, .int (nI k)), (0, .ref 154)] [.int (g.1 154 13), .int (nI k)] g from ⟨px_154 hP, ?_⟩)
    rw [e13]
    refine am_goX 1 (show ((nI c) ≤ (nI k) → pz_S 2 (some .int) am_r188 35 Q 151 [(1, .int (nI k)), (0, .ref 154)] [] g) ∧ (¬ ((nI c) ≤ (nI k)) → pz_S 2 (some .int) am_r188 35 Q 113 [(1, .int (nI k)), (0, .ref 154)] [] g) from ⟨fun hc => ?_, fun hc => ?_⟩)
    · exact absurd hc (nI_ge (by omega) (by omega))
    · refine am_goX 2 (show am_sh g 154 = some (11, 0) ∧ pz_S 2 (some .int) am_r188 35 Q 117 [(1, .int (nI k)), (0, .ref 154)] [am_rf (g.2.2.1 154 11)] g from ⟨px_154 hP, ?_⟩)
      rw [px_r11 hP]
      refine am_goX 3 (show am_sh g 154 = some (11, 0) ∧ pz_S 2 (some .int) am_r188 35 Q 122 [(1, .int (nI k)), (0, .ref 154)] [am_rf (g.2.2.1 154 11), .int (nI k), .ref 161] g from ⟨px_154 hP, ?_⟩)
      rw [px_r11 hP]
      refine am_goX 4 (show ∃ jj nn : Nat, am_sh g 161 = some (13, nn) ∧ jj < nn ∧ ((Int16.ofInt 1100).toInt32 + (nI k)) = nI jj ∧ pz_S 2 (some .int) am_r188 35 Q 128 [(1, .int (nI k)), (0, .ref 154)] [.int (g.1 161 jj), .int (nI k), .ref 161] g from ⟨(1100 + k), 2200, px_161 hP, by omega, em_1100 k, ?_⟩)
      rw [(q.2.1.2 161 (1100 + k) (pz_n161 k).1).1]
      refine am_goX 1 (show ∃ jj nn : Nat, am_so g 161 = some (13, nn) ∧ jj < nn ∧ (nI k) = nI jj ∧ pz_S 2 (some .int) am_r188 35 Q 129 [(1, .int (nI k)), (0, .ref 154)] [] (am_wI g 161 jj ((hA.1 161 (1100 + k)))) from ⟨k, 2200, px_w161 hP, by omega, rfl, ?_⟩)
      obtain ⟨q1, e1⟩ := cq_161 q (by omega)
      generalize am_wI g 161 k (hA.1 161 (1100 + k)) = g1 at q1 e1 ⊢
      have hP1 := q1.1
      refine am_goX 2 (show am_sh g1 154 = some (11, 0) ∧ pz_S 2 (some .int) am_r188 35 Q 133 [(1, .int (nI k)), (0, .ref 154)] [am_rf (g1.2.2.1 154 12)] g1 from ⟨px_154 hP1, ?_⟩)
      rw [px_r12 hP1]
      refine am_goX 3 (show am_sh g1 154 = some (11, 0) ∧ pz_S 2 (some .int) am_r188 35 Q 138 [(1, .int (nI k)), (0, .ref 154)] [am_rf (g1.2.2.1 154 12), .int (nI k), .ref 162] g1 from ⟨px_154 hP1, ?_⟩)
      rw [px_r12 hP1]
      refine am_goX 4 (show ∃ jj nn : Nat, am_sh g1 162 = some (13, nn) ∧ jj < nn ∧ ((Int16.ofInt 1100).toInt32 + (nI k)) = nI jj ∧ pz_S 2 (some .int) am_r188 35 Q 144 [(1, .int (nI k)), (0, .ref 154)] [.int (g1.1 162 jj), .int (nI k), .ref 162] g1 from ⟨(1100 + k), 2200, px_162 hP1, by omega, em_1100 k, ?_⟩)
      rw [(q1.2.1.2 162 (1100 + k) (pz_n161 k).2).1]
      refine am_goX 1 (show ∃ jj nn : Nat, am_so g1 162 = some (13, nn) ∧ jj < nn ∧ (nI k) = nI jj ∧ pz_S 2 (some .int) am_r188 35 Q 145 [(1, .int (nI k)), (0, .ref 154)] [] (am_wI g1 162 jj ((hA.1 162 (1100 + k)))) from ⟨k, 2200, px_w162 hP1, by omega, rfl, ?_⟩)
      have q2 := cq_162 q1 (by omega) e1
      generalize am_wI g1 162 k (hA.1 162 (1100 + k)) = g2 at q2 ⊢
      have hP2 := q2.1
      refine am_goX 2 (show 1 < 2 ∧ pz_S 2 (some .int) am_r188 35 Q 105 [(1, .int ((nI k) + Int32.ofInt 1)), (0, .ref 154)] [] g2 from ⟨by decide, ?_⟩)
      rw [xw_i1]
      exact ih (k + 1) g2 (by omega) q2
theorem pz_cn1 {Q : am_Q} {hA : am_H} (l : ln N a c h0 p e z hA) (hp : p ≤ 6) (he : e ≤ 5) (hend : ∀ g, cq hA 40 0 g → pz_S 2 (some .int) am_r188 35 Q 103 [(0, .ref 154)] [] g) : ∀ (m k : Nat) (g : am_H), k + m = 40 → cq hA k 0 g → pz_S 2 (some .int) am_r188 35 Q 76 [(1, .int (nI k)), (0, .ref 154)] [] g := by
  intro m
  induction m with
  | zero =>
    intro k g hk q
    have hP := q.1
    refine am_goX 3 (show ((Int8.ofInt 40).toInt32 ≤ (nI k) → pz_S 2 (some .int) am_r188 35 Q 103 [(1, .int (nI k)), (0, .ref 154)] [] g) ∧ (¬ ((Int8.ofInt 40).toInt32 ≤ (nI k)) → pz_S 2 (some .int) am_r188 35 Q 82 [(1, .int (nI k)), (0, .ref 154)] [] g) from ⟨fun hc => ?_, fun hc => ?_⟩)
    · have ek : k = 40 := by omega
      subst ek
      exact sv_S sv_188 (by intro q hq; simp only [List.mem_cons, List.not_mem_nil, or_false] at hq; rcases hq with rfl <;> rfl) (hend g q)
    · exact absurd (show (Int8.ofInt 40).toInt32 ≤ nI k by rw [show k = 40 by omega]; decide) hc
  | succ m ih =>
    intro k g hk q
    have hP := q.1
    refine am_goX 3 (show ((Int8.ofInt 40).toInt32 ≤ (nI k) → pz_S 2 (some .int) am_r188 35 Q 103 [(1, .int (nI k)), (0, .ref 154)] [] g) ∧ (¬ ((Int8.ofInt 40).toInt32 ≤ (nI k)) → pz_S 2 (some .int) am_r188 35 Q 82 [(1, .int (nI k)), (0, .ref 154)] [] g) from ⟨fun hc => ?_, fun hc => ?_⟩)
    · exact absurd hc (nI_ge (b := 40) (by omega) (by omega))
    · refine am_goX 2 (show am_sh g 154 = some (11, 0) ∧ pz_S 2 (some .int) am_r188 35 Q 86 [(1, .int (nI k)), (0, .ref 154)] [am_rf (g.2.2.1 154 10)] g from ⟨px_154 hP, ?_⟩)
      rw [px_r10 hP]
      refine am_goX 3 (show am_sh g 154 = some (11, 0) ∧ pz_S 2 (some .int) am_r188 35 Q 91 [(1, .int (nI k)), (0, .ref 154)] [am_rf (g.2.2.1 154 10), .int (nI k), .ref 160] g from ⟨px_154 hP, ?_⟩)
      rw [px_r10 hP]
      refine am_goX 4 (show ∃ jj nn : Nat, am_sh g 160 = some (13, nn) ∧ jj < nn ∧ ((Int8.ofInt 40).toInt32 + (nI k)) = nI jj ∧ pz_S 2 (some .int) am_r188 35 Q 96 [(1, .int (nI k)), (0, .ref 154)] [.int (g.1 160 jj), .int (nI k), .ref 160] g from ⟨(40 + k), 80, px_160 hP, by omega, nI_add 40 k, ?_⟩)
      rw [(q.2.1.2 160 (40 + k) (pz_n160 k)).1]
      refine am_goX 1 (show ∃ jj nn : Nat, am_so g 160 = some (13, nn) ∧ jj < nn ∧ (nI k) = nI jj ∧ pz_S 2 (some .int) am_r188 35 Q 97 [(1, .int (nI k)), (0, .ref 154)] [] (am_wI g 160 jj ((hA.1 160 (40 + k)))) from ⟨k, 80, px_w160 hP, by omega, rfl, ?_⟩)
      have q1 := cq_160 q (by omega) (pz_row l hp he k (by omega))
      generalize am_wI g 160 k (hA.1 160 (40 + k)) = g1 at q1 ⊢
      have hP1 := q1.1
      refine am_goX 2 (show 1 < 2 ∧ pz_S 2 (some .int) am_r188 35 Q 76 [(1, .int ((nI k) + Int32.ofInt 1)), (0, .ref 154)] [] g1 from ⟨by decide, ?_⟩)
      rw [xw_i1]
      exact ih (k + 1) g1 (by omega) q1
theorem pz_cnE {Q : am_Q} {hA : am_H} (l : ln N a c h0 p e z hA) (hz : z ≤ 11) (hp : p ≤ 6) (he : e ≤ 5) (hQ : ∀ h', pz_P N a c h' → ag_fr pz_Mz hA h' → Q (some (.int (Int32.ofInt 0))) h') : pz_S 2 (some .int) am_r188 35 Q 74 [(0, .ref 154)] [] hA := by
  have hA0 : cq hA 0 0 hA := ⟨⟨l.1.1.1, l.1.1.2.1⟩, ag_fr.refl hA, fun j hj => absurd hj (by omega), fun j hj => absurd hj (by omega)⟩
  have hPA := hA0.1
  refine am_goX 2 (show 1 < 2 ∧ pz_S 2 (some .int) am_r188 35 Q 76 [(1, .int (Int32.ofInt 0)), (0, .ref 154)] [] hA from ⟨by decide, ?_⟩)
  refine pz_cn1 l hp he (fun g q => ?_) 40 0 hA rfl hA0
  have hP := q.1
  refine am_goX 2 (show 1 < 2 ∧ pz_S 2 (some .int) am_r188 35 Q 105 [(1, .int (Int32.ofInt 0)), (0, .ref 154)] [] g from ⟨by decide, ?_⟩)
  refine pz_cn2 l (fun g1 q1 => ?_) c 0 g (Nat.zero_add c) q
  have hP1 := q1.1
  refine am_goX 2 (show 1 < 2 ∧ pz_S 2 (some .int) am_r188 35 Q 153 [(1, .int (Int32.ofInt 0)), (0, .ref 154)] [] g1 from ⟨by decide, ?_⟩)
  refine pz_cn3 l hz (fun g2 q2 => ?_) z 0 g1 (Nat.zero_add z) q1
  have hP2 := q2.1
  refine am_goX 4 (show am_sh g2 154 = some (11, 0) ∧ am_sh g2 154 = some (11, 0) ∧ narrow (am_fty 11 18) (.int ((g2.1 154 19))) = .int ((g2.1 154 19)) ∧ fits (am_fty 11 18) (.int ((g2.1 154 19))) = true ∧ pz_S 2 (some .int) am_r188 35 Q 199 [(0, .ref 154)] [] (am_wI g2 154 18 ((g2.1 154 19))) from ⟨px_154 hP2, px_154 hP2, rfl, rfl, ?_⟩)
  rw [((q2.2.1.2 154 19 (by decide)).1).trans l.2.2.2.2.2.1]
  have q3 := cq_18 q2 hz
  generalize am_wI g2 154 18 (nI z) = g3 at q3 ⊢
  have f3 := q3.2.1
  have hP3 : pz_P N a c g3 := by
    obtain ⟨p1, p2, p3, p4, p5, p6, p7⟩ := l.1
    refine ⟨⟨q3.1.1, q3.1.2, p1.2.2.1, ?_⟩, pz_told l q3, p3, ((f3.2 154 7 (by decide)).1).trans p4, p5, ((f3.2 154 13 (by decide)).1).trans p6, p7⟩
    rw [(f3.2 156 (N : Int).toNat (by simp [ag_atM, pz_Mk2])).1]
    exact p1.2.2.2
  refine am_goX 2 (show am_rc g3 154 11 ∧ 0 ≤ 8 ∧ g3.2.2.2.2 + am_al 181 ≤ 175 ∧ am_call am_cod 35 181 [.ref 154] g3 (fun vv h' => pz_S 2 (some .int) am_r188 35 Q 203 [(0, .ref 154)] (vv.toList ++ []) h') from ⟨pz_rc hP3, by decide, pz_lim hP3 rfl, am_call.up (pb_call hP3 (fun h4 q4 f4 => ?_)) (by decide)⟩)
  exact am_goX 2 (show (∃ ty, (some .int) = some ty ∧ narrow ty (.int ((Int32.ofInt 0))) = .int ((Int32.ofInt 0))) ∧ h4.2.2.2.2 = 175 ∧ _ from ⟨⟨.int, rfl, rfl⟩, pz_175 q4, hQ h4 q4 ((ag_fr.refl hA).trans (by decide +kernel) (f3) |>.trans (by decide +kernel) f4)⟩)
end
section
/-! canton AS A WHOLE -/
variable {N a c p e z : Nat} {h h0 : am_H}
/-- nothing but what the parser writes -/
def rf (h h' : am_H) : Prop := ag_fr pz_Mz h h'
theorem rf_of {M : ag_M} {h' : am_H} (hM : ag_Msb M pz_Mz = true) (f : ag_fr M h h') : rf h h' := (ag_fr.refl h).trans hM f
theorem rf_t {h1 h2 : am_H} (f1 : rf h h1) (f2 : rf h1 h2) : rf h h2 := ag_fr.trans (M' := pz_Mz) (by decide +kernel) f1 f2
/-- what is left of the class's own, and of the tapes' lengths -/
def rg (h h' : am_H) : Prop := (∀ k, h'.2.2.1 0 k = h.2.2.1 0 k) ∧ h'.1 1 1 = h.1 1 1 ∧ h'.1 154 2 = 0 ∧ (∀ q, h'.2.1 159 q = h.2.1 159 q) ∧ h'.2.2.2 = h.2.2.2
theorem pz_a9 (k : Nat) : ag_atM pz_Mz 159 k = false ∧ ag_atM pz_Mt 159 k = false := by
  unfold ag_atM pz_Mz pz_Mt
  simp [List.any]
theorem pz_a0 (k : Nat) : ag_atM pz_Mz 0 k = false ∧ ag_atM pz_Mt 0 k = false := by
  unfold ag_atM pz_Mz pz_Mt
  simp [List.any]
theorem rg_of {h1 h2 h3 : am_H} (e1 : h1.1 1 1 = h.1 1 1 ∧ h1.2 = h.2) (f2 : ag_fr pz_Mt h1 h2) (t2 : h2.1 154 2 = 0) (f3 : rf h2 h3) : rg h h3 :=
  ⟨fun k => ((f3.2 0 k (pz_a0 k).1).2.2).trans (((f2.2 0 k (pz_a0 k).2).2.2).trans (by rw [e1.2])), ((f3.2 1 1 (by decide)).1).trans (((f2.2 1 1 (by decide)).1).trans e1.1), ((f3.2 154 2 (by decide)).1).trans t2, fun q => ((f3.2 159 q (pz_a9 q).1).2.1).trans (((f2.2 159 q (pz_a9 q).2).2.1).trans (by rw [e1.2])), by rw [f3.1, f2.1, e1.2]⟩
theorem pz_c62 {Q : am_Q} (f : fl N h0 h) (hQ : ∀ x : Int32, Q (some (.int x)) h) : pz_S 2 (some .int) am_r188 35 Q 62 [(0, .ref 154)] [] h := by
  obtain ⟨⟨a9, c9, hP⟩, -, hf⟩ := f
  refine am_goX 3 (show am_sh h 154 = some (11, 0) ∧ ((h.1 154 8) ≤ 0 → pz_S 2 (some .int) am_r188 35 Q 74 [(0, .ref 154)] [] h) ∧ (¬ ((h.1 154 8) ≤ 0) → pz_S 2 (some .int) am_r188 35 Q 69 [(0, .ref 154)] [] h) from ⟨pz_154 hP, fun hz => absurd hz (fun w => hf (pz_eq0 hP w)), fun _ => ?_⟩)
  exact am_goX 3 (show am_sh h 154 = some (11, 0) ∧ (∃ ty, (some .int) = some ty ∧ narrow ty (.int ((h.1 154 8))) = .int ((h.1 154 8))) ∧ h.2.2.2.2 = 175 ∧ _ from ⟨pz_154 hP, ⟨.int, rfl, rfl⟩, pz_175 hP, hQ _⟩)
theorem pz_c30 {Q : am_Q} (f : fl N h0 h) (hQ : ∀ x : Int32, Q (some (.int x)) h) : pz_S 2 (some .int) am_r188 35 Q 30 [(0, .ref 154)] [] h := by
  obtain ⟨⟨a9, c9, hP⟩, -, hf⟩ := id f
  refine am_goX 3 (show am_sh h 154 = some (11, 0) ∧ (¬ (h.1 154 8) = 0 → pz_S 2 (some .int) am_r188 35 Q 62 [(0, .ref 154)] [] h) ∧ (¬ ¬ (h.1 154 8) = 0 → pz_S 2 (some .int) am_r188 35 Q 37 [(0, .ref 154)] [] h) from ⟨pz_154 hP, fun _ => ?_, fun hz => absurd hf hz⟩)
  exact pz_c62 f hQ
theorem pz_cnl {Q : am_Q} (hbad : ∀ h1 x, fl N h0 h1 → Q (some (.int x)) h1) (hok : ∀ h1 a c p e, ln N a c h0 p e (p + e) h1 → p ≤ 6 → e ≤ 5 → pz_S 2 (some .int) am_r188 35 Q 74 [(0, .ref 154)] [] h1) : ∀ (m a c p e : Nat) (h : am_H), N ≤ a + m → ln N a c h0 p e (p + e) h → p ≤ 6 → e ≤ 5 → pz_S 2 (some .int) am_r188 35 Q 30 [(0, .ref 154)] [] h := by
  intro m
  induction m with
  | zero =>
    intro a c p e h hm l hp he
    have hP := l.1
    have hf := l.2.2.1
    refine am_goX 3 (show am_sh h 154 = some (11, 0) ∧ (¬ (h.1 154 8) = 0 → pz_S 2 (some .int) am_r188 35 Q 62 [(0, .ref 154)] [] h) ∧ (¬ ¬ (h.1 154 8) = 0 → pz_S 2 (some .int) am_r188 35 Q 37 [(0, .ref 154)] [] h) from ⟨pz_154 hP, fun hz => absurd hz (fun w => w hf), fun _ => ?_⟩)
    refine am_goX 2 (show am_sh h 154 = some (11, 0) ∧ pz_S 2 (some .int) am_r188 35 Q 41 [(0, .ref 154)] [am_rf (h.2.2.1 154 4)] h from ⟨pz_154 hP, ?_⟩)
    rw [pz_r4 hP]
    refine am_goX 3 (show am_sh h 154 = some (11, 0) ∧ ∃ jj nn : Nat, am_sh h 156 = some (13, nn) ∧ jj < nn ∧ (h.1 154 7) = nI jj ∧ pz_S 2 (some .int) am_r188 35 Q 46 [(0, .ref 154)] [.int (h.1 156 jj)] h from ⟨pz_154 hP, a, 1002, pz_156 hP, pz_al hP, hP.2.2.2.1, ?_⟩)
    refine am_goX 1 (show ((h.1 156 a) = 0 → pz_S 2 (some .int) am_r188 35 Q 62 [(0, .ref 154)] [] h) ∧ (¬ ((h.1 156 a) = 0) → pz_S 2 (some .int) am_r188 35 Q 49 [(0, .ref 154)] [] h) from ⟨fun hc => ?_, fun hc => ?_⟩)
    · refine am_goX 3 (show am_sh h 154 = some (11, 0) ∧ ((h.1 154 8) ≤ 0 → pz_S 2 (some .int) am_r188 35 Q 74 [(0, .ref 154)] [] h) ∧ (¬ ((h.1 154 8) ≤ 0) → pz_S 2 (some .int) am_r188 35 Q 69 [(0, .ref 154)] [] h) from ⟨pz_154 hP, fun _ => ?_, fun hz => absurd (by rw [hf]; decide) hz⟩)
      exact hok h a c p e l hp he
    · exact absurd (pz_lt hP hc) (by omega)
  | succ m ih =>
    intro a c p e h hm l hp he
    have hP := l.1
    have hf := l.2.2.1
    refine am_goX 3 (show am_sh h 154 = some (11, 0) ∧ (¬ (h.1 154 8) = 0 → pz_S 2 (some .int) am_r188 35 Q 62 [(0, .ref 154)] [] h) ∧ (¬ ¬ (h.1 154 8) = 0 → pz_S 2 (some .int) am_r188 35 Q 37 [(0, .ref 154)] [] h) from ⟨pz_154 hP, fun hz => absurd hz (fun w => w hf), fun _ => ?_⟩)
    refine am_goX 2 (show am_sh h 154 = some (11, 0) ∧ pz_S 2 (some .int) am_r188 35 Q 41 [(0, .ref 154)] [am_rf (h.2.2.1 154 4)] h from ⟨pz_154 hP, ?_⟩)
    rw [pz_r4 hP]
    refine am_goX 3 (show am_sh h 154 = some (11, 0) ∧ ∃ jj nn : Nat, am_sh h 156 = some (13, nn) ∧ jj < nn ∧ (h.1 154 7) = nI jj ∧ pz_S 2 (some .int) am_r188 35 Q 46 [(0, .ref 154)] [.int (h.1 156 jj)] h from ⟨pz_154 hP, a, 1002, pz_156 hP, pz_al hP, hP.2.2.2.1, ?_⟩)
    refine am_goX 1 (show ((h.1 156 a) = 0 → pz_S 2 (some .int) am_r188 35 Q 62 [(0, .ref 154)] [] h) ∧ (¬ ((h.1 156 a) = 0) → pz_S 2 (some .int) am_r188 35 Q 49 [(0, .ref 154)] [] h) from ⟨fun hc => ?_, fun hc => ?_⟩)
    · refine am_goX 3 (show am_sh h 154 = some (11, 0) ∧ ((h.1 154 8) ≤ 0 → pz_S 2 (some .int) am_r188 35 Q 74 [(0, .ref 154)] [] h) ∧ (¬ ((h.1 154 8) ≤ 0) → pz_S 2 (some .int) am_r188 35 Q 69 [(0, .ref 154)] [] h) from ⟨pz_154 hP, fun _ => ?_, fun hz => absurd (by rw [hf]; decide) hz⟩)
      exact hok h a c p e l hp he
    · refine am_goX 2 (show am_rc h 154 11 ∧ 0 ≤ 8 ∧ h.2.2.2.2 + am_al 194 ≤ 175 ∧ am_call am_cod 35 194 [.ref 154] h (fun vv h' => pz_S 2 (some .int) am_r188 35 Q 53 [(0, .ref 154)] (vv.toList ++ []) h') from ⟨pz_rc hP, by decide, pz_lim hP rfl, am_call.up (pz_rline l hp he (fun h1 hlo => ?_)) (by decide)⟩)
      rcases hlo with w | ⟨a1, c1, p1, e1, ha1, l1, hp1, he1⟩
      · obtain ⟨⟨a9, c9, hP1⟩, w2, w3⟩ := w
        refine am_goX 3 (show am_rc h1 154 11 ∧ 0 ≤ 8 ∧ h1.2.2.2.2 + am_al 218 ≤ 175 ∧ am_call am_cod 35 218 [.ref 154, .int (Int8.ofInt 59).toInt32] h1 (fun vv h' => pz_S 2 (some .int) am_r188 35 Q 59 [(0, .ref 154)] (vv.toList ++ []) h') from ⟨pz_rc hP1, by decide, pz_lim hP1 rfl, am_call.up (pz_tsignF hP1 (fun a2 h2 q2 => ?_)) (by decide)⟩)
        exact am_goX 1 (pz_c30 (fl_F w2 w3 (pk_q q2)) (fun x => hbad h2 x (fl_F w2 w3 (pk_q q2))))
      · have hP1 := l1.1
        refine am_goX 3 (show am_rc h1 154 11 ∧ 0 ≤ 8 ∧ h1.2.2.2.2 + am_al 218 ≤ 175 ∧ am_call am_cod 35 218 [.ref 154, .int (Int8.ofInt 59).toInt32] h1 (fun vv h' => pz_S 2 (some .int) am_r188 35 Q 59 [(0, .ref 154)] (vv.toList ++ []) h') from ⟨pz_rc hP1, by decide, pz_lim hP1 rfl, am_call.up (pz_tsignF hP1 (fun a2 h2 q2 => ?_)) (by decide)⟩)
        rcases ln_F l1 (pk_q q2) with w | w
        · exact am_goX 1 (pz_c30 w (fun x => hbad h2 x w))
        · have ha2 : a2 = a1 + 1 := by
            rcases q2.2.2 with y | y
            · exact absurd w.2.2.1 y.1
            · exact y.2.2
          exact am_goX 1 (ih a2 c1 p1 e1 h2 (by omega) w hp1 he1)
theorem pz_sg0 : (ag_sg 154).all (fun s => !(Nat.ble s.1 0 && Nat.ble 0 s.2.1)) = true := by decide +kernel
theorem pz_s0 {v : Int32} : ∀ s ∈ ag_sg 154, ag_seg s 0 v := by
  intro s hs k1 k2 _
  have w := List.all_eq_true.mp pz_sg0 s hs
  rw [Nat.ble_eq_true_of_le k1, Nat.ble_eq_true_of_le k2] at w
  cases w
theorem pz_c0 (hP : pz_P N a c h) : pz_P N a 0 (am_wI h 154 13 (Int32.ofInt 0)) := by
  obtain ⟨p1, p2, p3, p4, p5, p6, p7⟩ := hP
  refine ⟨pz_wW p1 (by decide) (pz_sgv pz_sg13 (by decide) (by decide)), pz_wX p2 (by unfold ag_kp; omega), p3, ?_, p5, em_we h 154 13 _, Nat.zero_le _⟩
  rw [em_wn h _ (by omega)]
  exact p4
theorem pz_canton {Q : am_Q} (hP0 : pz_P N a c h) (hQ : ∀ N' a' c' h' x, pz_P N' a' c' h' → rg h h' → Q (some (.int x)) h') : am_call am_cod 36 188 [.ref 154] h Q := by
  refine pz_call (n := 188) (nL := 2) (rt := (some .int)) (rows := am_r188) (d := 35) (by decide +kernel) (by decide +kernel) rfl (by funext pc; rfl) (pz_175 hP0) (by exact Nat.le_of_ble_eq_true rfl) ?_
  refine am_goX 3 (show am_sh h 154 = some (11, 0) ∧ narrow (am_fty 11 0) (.int ((Int32.ofInt 0))) = .int ((Int32.ofInt 0)) ∧ fits (am_fty 11 0) (.int ((Int32.ofInt 0))) = true ∧ pz_S 2 (some .int) am_r188 35 Q 5 [(0, .ref 154)] [] (am_wI h 154 0 ((Int32.ofInt 0))) from ⟨pz_154 hP0, rfl, rfl, ?_⟩)
  have hP1 := pz_w (o := 154) (k := 0) (v := Int32.ofInt 0) hP0 (by omega) (by unfold ag_kp; omega) pz_s0
  have r1 : (am_wI h 154 0 (Int32.ofInt 0)).1 1 1 = h.1 1 1 ∧ (am_wI h 154 0 (Int32.ofInt 0)).2 = h.2 := ⟨em_wn h _ (by omega), rfl⟩
  generalize am_wI h 154 0 (Int32.ofInt 0) = h1 at hP1 r1 ⊢
  refine am_goX 2 (show am_rc h1 154 11 ∧ 0 ≤ 8 ∧ h1.2.2.2.2 + am_al 189 ≤ 175 ∧ am_call am_cod 35 189 [.ref 154] h1 (fun vv h' => pz_S 2 (some .int) am_r188 35 Q 9 [(0, .ref 154)] (vv.toList ++ []) h') from ⟨pz_rc hP1, by decide, pz_lim hP1 rfl, am_call.up (pz_cutall hP1 (fun N2 h2 hP2 f2 b2 t2 => ?_)) (by decide)⟩)
  have r2 : rf h2 h2 := ag_fr.refl h2
  refine am_goX 3 (show am_sh h2 154 = some (11, 0) ∧ narrow (am_fty 11 13) (.int ((Int32.ofInt 0))) = .int ((Int32.ofInt 0)) ∧ fits (am_fty 11 13) (.int ((Int32.ofInt 0))) = true ∧ pz_S 2 (some .int) am_r188 35 Q 14 [(0, .ref 154)] [] (am_wI h2 154 13 ((Int32.ofInt 0))) from ⟨pz_154 hP2, rfl, rfl, ?_⟩)
  have hP3 := pz_c0 hP2
  have b3 : (am_wI h2 154 13 (Int32.ofInt 0)).1 154 8 = 0 := by rw [em_wn h2 _ (by omega)]; exact b2
  have r3 : rf h2 (am_wI h2 154 13 (Int32.ofInt 0)) := rf_t r2 (pz_fr (by decide))
  generalize am_wI h2 154 13 (Int32.ofInt 0) = h3 at hP3 b3 r3 ⊢
  refine am_goX 3 (show am_sh h3 154 = some (11, 0) ∧ narrow (am_fty 11 19) (.int ((Int32.ofInt 0))) = .int ((Int32.ofInt 0)) ∧ fits (am_fty 11 19) (.int ((Int32.ofInt 0))) = true ∧ pz_S 2 (some .int) am_r188 35 Q 19 [(0, .ref 154)] [] (am_wI h3 154 19 ((Int32.ofInt 0))) from ⟨pz_154 hP3, rfl, rfl, ?_⟩)
  have hP4 := pz_w (o := 154) (k := 19) (v := Int32.ofInt 0) hP3 (by omega) (by unfold ag_kp; omega) (pz_sgv pz_sg19 (by decide) (by decide))
  have b4 : (am_wI h3 154 19 (Int32.ofInt 0)).1 154 8 = 0 := by rw [em_wn h3 _ (by omega)]; exact b3
  have c4 : (am_wI h3 154 19 (Int32.ofInt 0)).1 154 19 = 0 := em_we h3 154 19 _
  have r4 : rf h2 (am_wI h3 154 19 (Int32.ofInt 0)) := rf_t r3 (pz_fr (by decide))
  generalize am_wI h3 154 19 (Int32.ofInt 0) = h4 at hP4 b4 c4 r4 ⊢
  refine am_goX 3 (show am_sh h4 154 = some (11, 0) ∧ narrow (am_fty 11 20) (.int ((Int32.ofInt 0))) = .int ((Int32.ofInt 0)) ∧ fits (am_fty 11 20) (.int ((Int32.ofInt 0))) = true ∧ pz_S 2 (some .int) am_r188 35 Q 24 [(0, .ref 154)] [] (am_wI h4 154 20 ((Int32.ofInt 0))) from ⟨pz_154 hP4, rfl, rfl, ?_⟩)
  have hP5 := pz_w (o := 154) (k := 20) (v := Int32.ofInt 0) hP4 (by omega) (by unfold ag_kp; omega) pz_s20
  have b5 : (am_wI h4 154 20 (Int32.ofInt 0)).1 154 8 = 0 := by rw [em_wn h4 _ (by omega)]; exact b4
  have c5 : (am_wI h4 154 20 (Int32.ofInt 0)).1 154 19 = 0 := by rw [em_wn h4 _ (by omega)]; exact c4
  have d5 : (am_wI h4 154 20 (Int32.ofInt 0)).1 154 20 = 0 := em_we h4 154 20 _
  have r5 : rf h2 (am_wI h4 154 20 (Int32.ofInt 0)) := rf_t r4 (pz_fr (by decide))
  generalize am_wI h4 154 20 (Int32.ofInt 0) = h5 at hP5 b5 c5 d5 r5 ⊢
  refine am_goX 3 (show am_rc h5 154 11 ∧ 0 ≤ 8 ∧ h5.2.2.2.2 + am_al 180 ≤ 175 ∧ am_call am_cod 35 180 [.ref 154, .int (Int8.ofInt 40).toInt32] h5 (fun vv h' => pz_S 2 (some .int) am_r188 35 Q 30 [(0, .ref 154)] (vv.toList ++ []) h') from ⟨pz_rc hP5, by decide, pz_lim hP5 rfl, am_call.up (pz_std hP5 (fun h6 hP6 f6 x40 x41 x43 => ?_)) (by decide)⟩)
  have r6 : rf h2 h6 := rf_t r5 (rf_of (by decide +kernel) f6)
  have l6 : ln N2 0 0 h6 0 0 (0 + 0) h6 := ⟨hP6, ag_fr.refl h6, ((f6.2 154 8 (by decide)).1).trans b5, x40, x41, ((f6.2 154 19 (by decide)).1).trans c5, Or.inl ⟨x43, rfl, Or.inl (((f6.2 154 20 (by decide)).1).trans d5)⟩⟩
  refine pz_cnl (fun h7 x f7 => ?_) (fun h7 a7 c7 p7 e7 l7 hp7 he7 => ?_) N2 0 0 0 0 h6 (by omega) l6 (by decide) (by decide)
  · obtain ⟨⟨a9, c9, w1⟩, w2, w3⟩ := f7
    exact hQ N2 a9 c9 h7 x w1 (rg_of r1 f2 t2 (rf_t r6 (rf_of (by decide +kernel) w2)))
  · exact pz_cnE l7 (by omega) hp7 he7 (fun h8 hP8 r8 => hQ N2 a7 c7 h8 _ hP8 (rg_of r1 f2 t2 (rf_t (rf_t r6 (rf_of (by decide +kernel) l7.2.1)) r8)))
end
section
/-! week -/
variable {N a c : Nat} {h h0 : am_H}
def pz_Mw : ag_M := [(154, 7, 8), (167, 0, 249)]
theorem pz_trw {h1 h2 : am_H} (f1 : ag_fr pz_Mw h h1) (f2 : ag_fr pz_Mw h1 h2) : ag_fr pz_Mw h h2 := f1.trans (by decide +kernel) f2
theorem pz_Fw {h1 h2 : am_H} (f1 : ag_fr pz_Mw h h1) (f2 : ag_fr pz_F h1 h2) : ag_fr pz_Mw h h2 := f1.trans (by decide +kernel) f2
theorem pz_Mwk {k : Nat} (hk : k ≤ 249) : ag_atM pz_Mw 167 k = true := by
  have e1 : Nat.ble k 249 = true := Nat.ble_eq_true_of_le hk
  unfold ag_atM pz_Mw
  simp [List.any, e1]
/-- between two lines of a week -/
def wk (N a c : Nat) (h0 : am_H) (h : am_H) : Prop := pz_P N a c h ∧ ag_fr pz_Mw h0 h
theorem wk_w {k : Nat} {v : Int32} (q : wk N a c h0 h) (hk : k ≤ 249) (hv : ∀ s ∈ ag_sg 167, ag_seg s k v) : wk N a c h0 (am_wI h 167 k v) := ⟨pz_w q.1 (by omega) (by unfold ag_kp; omega) hv, pz_trw q.2 (pz_fr (pz_Mwk hk))⟩
theorem wk_at {a' : Nat} (q : wk N a c h0 h) (ha : a' ≤ N) : wk N a' c h0 (am_wI h 154 7 (nI a')) := ⟨pz_at q.1 ha, pz_trw q.2 (pz_fr rfl)⟩
theorem wk_k {a' : Nat} {h' : am_H} (q : wk N a c h0 h) (p : pk N a c h a' h') : wk N a' c h0 h' := ⟨p.1, pz_Fw q.2 p.2.1⟩
theorem pz_sg167 : (ag_sg 167).all (fun s => (Nat.beq s.1 0 && (Nat.beq s.2.1 0 && (decide (s.2.2.2.2.1 ≤ 0) && decide (40 ≤ s.2.2.2.2.2)))) || ((Nat.beq s.1 1 && (Nat.beq s.2.1 124 && (Nat.beq s.2.2.1 3 && (Nat.beq s.2.2.2.1 2 && (decide (s.2.2.2.2.1 = 0) && decide (s.2.2.2.2.2 = 5)))))) || (Nat.beq s.1 125 && (Nat.beq s.2.1 249 && (Nat.beq s.2.2.1 3 && (Nat.beq s.2.2.2.1 0 && (decide (s.2.2.2.2.1 = 0) && decide (s.2.2.2.2.2 = 5)))))))) = true := by decide +kernel
theorem pz_s167 {k : Nat} {v : Int32} (h0 : k = 0 → 0 ≤ v.toInt ∧ v.toInt ≤ 40) (h1 : 1 ≤ k → k ≤ 124 → k % 3 = 2 → 0 ≤ v.toInt ∧ v.toInt ≤ 5) (h2 : 125 ≤ k → k ≤ 249 → k % 3 = 0 → 0 ≤ v.toInt ∧ v.toInt ≤ 5) : ∀ s ∈ ag_sg 167, ag_seg s k v := by
  intro s hs k1 k2 k3
  have w := List.all_eq_true.mp pz_sg167 s hs
  simp only [Bool.and_eq_true, Bool.or_eq_true, decide_eq_true_eq] at w
  rcases w with ⟨w1, w2, w3, w4⟩ | ⟨w1, w2, w3, w4, w5, w6⟩ | ⟨w1, w2, w3, w4, w5, w6⟩
  · have e1 := Nat.eq_of_beq_eq_true w1
    have e2 := Nat.eq_of_beq_eq_true w2
    have := h0 (by omega)
    omega
  · have e1 := Nat.eq_of_beq_eq_true w1
    have e2 := Nat.eq_of_beq_eq_true w2
    have e3 := Nat.eq_of_beq_eq_true w3
    have e4 := Nat.eq_of_beq_eq_true w4
    rw [e3, e4] at k3
    have := h1 (by omega) (by omega) k3
    rw [w5, w6]
    exact this
  · have e1 := Nat.eq_of_beq_eq_true w1
    have e2 := Nat.eq_of_beq_eq_true w2
    have e3 := Nat.eq_of_beq_eq_true w3
    have e4 := Nat.eq_of_beq_eq_true w4
    rw [e3, e4] at k3
    have := h2 (by omega) (by omega) k3
    rw [w5, w6]
    exact this
theorem pz_g167 (hP : pz_P N a c h) {k : Nat} (h1 : 125 ≤ k) (h2 : k ≤ 249) (h3 : k % 3 = 0) : 0 ≤ (h.1 167 k).toInt ∧ (h.1 167 k).toInt ≤ 5 := hP.1.2.1.1 167 (125, 249, 3, 0, 0, 5) (iv_sgm (o := 167) (s := (125, 249, 3, 0, 0, 5)) (by decide +kernel)) k h1 h2 h3
theorem pz_mul3 {n : Nat} (hn : n ≤ 1000) : Int32.ofInt 3 * nI n = nI (3 * n) := by
  apply Int32.toInt_inj.mp
  rw [Int32.toInt_mul, nI_toInt (by omega), nI_toInt (by omega), show (Int32.ofInt 3).toInt = 3 by decide]
  rw [Int.bmod_eq_of_le (by omega) (by omega)]
  omega
theorem pz_i125 {n : Nat} (hn : n ≤ 40) : (Int8.ofInt 125).toInt32 + Int32.ofInt 3 * nI n = nI (125 + 3 * n) := by
  rw [pz_mul3 (by omega)]
  exact nI_add 125 (3 * n)
theorem pz_wkc {Q : am_Q} {n : Nat} (hn : n ≤ 40) (hQ : ∀ h', wk N a c h0 h' → Q (some (.int (Int32.ofInt 0))) h') : ∀ (m k : Nat) (h : am_H), k + m = 3 * n → wk N a c h0 h → pz_S 4 (some .int) am_r219 5 Q 179 [(2, .int (nI k)), (1, .int (nI n)), (0, .ref 154)] [] h := by
  intro m
  induction m with
  | zero =>
    intro k h hk q
    have hP := q.1
    refine am_goX 4 (show pz_S 4 (some .int) am_r219 5 Q 183 [(2, .int (nI k)), (1, .int (nI n)), (0, .ref 154)] [.int ((Int32.ofInt 3) * (nI n)), .int (nI k)] h from ?_)
    rw [pz_mul3 (by omega)]
    refine am_goX 1 (show ((nI (3 * n)) ≤ (nI k) → pz_S 4 (some .int) am_r219 5 Q 209 [(2, .int (nI k)), (1, .int (nI n)), (0, .ref 154)] [] h) ∧ (¬ ((nI (3 * n)) ≤ (nI k)) → pz_S 4 (some .int) am_r219 5 Q 186 [(2, .int (nI k)), (1, .int (nI n)), (0, .ref 154)] [] h) from ⟨fun hc => ?_, fun hc => ?_⟩)
    · exact am_goX 2 (show (∃ ty, (some .int) = some ty ∧ narrow ty (.int ((Int32.ofInt 0))) = .int ((Int32.ofInt 0))) ∧ h.2.2.2.2 = 175 ∧ _ from ⟨⟨.int, rfl, rfl⟩, pz_175 hP, hQ h q⟩)
    · exact absurd (nI_le (by omega) (by omega)) hc
  | succ m ih =>
    intro k h hk q
    have hP := q.1
    refine am_goX 4 (show pz_S 4 (some .int) am_r219 5 Q 183 [(2, .int (nI k)), (1, .int (nI n)), (0, .ref 154)] [.int ((Int32.ofInt 3) * (nI n)), .int (nI k)] h from ?_)
    rw [pz_mul3 (by omega)]
    refine am_goX 1 (show ((nI (3 * n)) ≤ (nI k) → pz_S 4 (some .int) am_r219 5 Q 209 [(2, .int (nI k)), (1, .int (nI n)), (0, .ref 154)] [] h) ∧ (¬ ((nI (3 * n)) ≤ (nI k)) → pz_S 4 (some .int) am_r219 5 Q 186 [(2, .int (nI k)), (1, .int (nI n)), (0, .ref 154)] [] h) from ⟨fun hc => ?_, fun hc => ?_⟩)
    · exact absurd hc (nI_ge (by omega) (by omega))
    · refine am_goX 2 (show am_sh h 154 = some (11, 0) ∧ pz_S 4 (some .int) am_r219 5 Q 190 [(2, .int (nI k)), (1, .int (nI n)), (0, .ref 154)] [am_rf (h.2.2.1 154 21)] h from ⟨pz_154 hP, ?_⟩)
      rw [pz_r21 hP]
      refine am_goX 5 (show am_sh h 154 = some (11, 0) ∧ pz_S 4 (some .int) am_r219 5 Q 197 [(2, .int (nI k)), (1, .int (nI n)), (0, .ref 154)] [am_rf (h.2.2.1 154 21), .int ((Int32.ofInt 1) + (nI k)), .ref 167] h from ⟨pz_154 hP, ?_⟩)
      rw [pz_r21 hP]
      refine am_goX 4 (show ∃ jj nn : Nat, am_sh h 167 = some (13, nn) ∧ jj < nn ∧ ((Int8.ofInt 125).toInt32 + (nI k)) = nI jj ∧ pz_S 4 (some .int) am_r219 5 Q 202 [(2, .int (nI k)), (1, .int (nI n)), (0, .ref 154)] [.int (h.1 167 jj), .int ((Int32.ofInt 1) + (nI k)), .ref 167] h from ⟨(125 + k), 250, pz_167 hP, by omega, nI_add 125 k, ?_⟩)
      refine am_goX 1 (show ∃ jj nn : Nat, am_so h 167 = some (13, nn) ∧ jj < nn ∧ ((Int32.ofInt 1) + (nI k)) = nI jj ∧ pz_S 4 (some .int) am_r219 5 Q 203 [(2, .int (nI k)), (1, .int (nI n)), (0, .ref 154)] [] (am_wI h 167 jj ((h.1 167 (125 + k)))) from ⟨(1 + k), 250, pz_w167 hP, by omega, nI_add 1 k, ?_⟩)
      have q1 := wk_w (k := 1 + k) (v := h.1 167 (125 + k)) q (by omega) (pz_s167 (fun w => absurd w (by omega)) (fun _ _ w => pz_g167 hP (by omega) (by omega) (by omega)) (fun w _ _ => absurd w (by omega)))
      generalize am_wI h 167 (1 + k) (h.1 167 (125 + k)) = h1 at q1 ⊢
      have hP1 := q1.1
      refine am_goX 2 (show 2 < 4 ∧ pz_S 4 (some .int) am_r219 5 Q 179 [(2, .int ((nI k) + Int32.ofInt 1)), (1, .int (nI n)), (0, .ref 154)] [] h1 from ⟨by decide, ?_⟩)
      rw [xw_i1]
      exact ih (k + 1) h1 (by omega) q1
theorem pz_wke {Q : am_Q} {n : Nat} (hn : n ≤ 40) (q : wk N a c h0 h) (hQ : ∀ h' x, wk N a c h0 h' → Q (some (.int x)) h') : pz_S 4 (some .int) am_r219 5 Q 158 [(1, .int (nI n)), (0, .ref 154)] [] h := by
  have hP := q.1
  refine am_goX 3 (show am_sh h 154 = some (11, 0) ∧ ((h.1 154 8) ≤ 0 → pz_S 4 (some .int) am_r219 5 Q 170 [(1, .int (nI n)), (0, .ref 154)] [] h) ∧ (¬ ((h.1 154 8) ≤ 0) → pz_S 4 (some .int) am_r219 5 Q 165 [(1, .int (nI n)), (0, .ref 154)] [] h) from ⟨pz_154 hP, fun hc => ?_, fun hc => ?_⟩)
  rotate_left
  · exact am_goX 3 (show am_sh h 154 = some (11, 0) ∧ (∃ ty, (some .int) = some ty ∧ narrow ty (.int ((h.1 154 8))) = .int ((h.1 154 8))) ∧ h.2.2.2.2 = 175 ∧ _ from ⟨pz_154 hP, ⟨.int, rfl, rfl⟩, pz_175 hP, hQ h _ q⟩)
  clear hc
  have hnt : (nI n).toInt = n := nI_toInt (by omega)
  refine am_goX 2 (show am_sh h 154 = some (11, 0) ∧ pz_S 4 (some .int) am_r219 5 Q 174 [(1, .int (nI n)), (0, .ref 154)] [am_rf (h.2.2.1 154 21)] h from ⟨pz_154 hP, ?_⟩)
  rw [pz_r21 hP]
  refine am_goX 3 (show ∃ jj nn : Nat, am_so h 167 = some (13, nn) ∧ jj < nn ∧ (Int32.ofInt 0) = nI jj ∧ pz_S 4 (some .int) am_r219 5 Q 177 [(1, .int (nI n)), (0, .ref 154)] [] (am_wI h 167 jj ((nI n))) from ⟨0, 250, pz_w167 hP, by decide, rfl, ?_⟩)
  have q1 := wk_w (k := 0) (v := nI n) q (by omega) (pz_s167 (fun _ => by omega) (fun w _ _ => absurd w (by omega)) (fun w _ _ => absurd w (by omega)))
  generalize am_wI h 167 0 (nI n) = h1 at q1 ⊢
  have hP1 := q1.1
  refine am_goX 2 (show 2 < 4 ∧ pz_S 4 (some .int) am_r219 5 Q 179 [(2, .int (Int32.ofInt 0)), (1, .int (nI n)), (0, .ref 154)] [] h1 from ⟨by decide, ?_⟩)
  exact pz_wkc hn (fun h2 q2 => hQ h2 _ q2) (3 * n) 0 h1 (Nat.zero_add _) q1
theorem pz_wkf {Q : am_Q} {n : Nat} (hn : n ≤ 40) (q : wk N a c h0 h) (hf : ¬ h.1 154 8 = 0) (hQ : ∀ h' x, wk N a c h0 h' → Q (some (.int x)) h') : pz_S 4 (some .int) am_r219 5 Q 11 [(1, .int (nI n)), (0, .ref 154)] [] h := by
  have hP := q.1
  refine am_goX 3 (show am_sh h 154 = some (11, 0) ∧ (¬ (h.1 154 8) = 0 → pz_S 4 (some .int) am_r219 5 Q 158 [(1, .int (nI n)), (0, .ref 154)] [] h) ∧ (¬ ¬ (h.1 154 8) = 0 → pz_S 4 (some .int) am_r219 5 Q 18 [(1, .int (nI n)), (0, .ref 154)] [] h) from ⟨pz_154 hP, fun _ => ?_, fun hz => absurd hf hz⟩)
  exact pz_wke hn q hQ
theorem pz_wkl {Q : am_Q} (hQ : ∀ a' h' x, wk N a' c h0 h' → Q (some (.int x)) h') : ∀ (m a n : Nat) (h : am_H), N ≤ a + m → n ≤ 40 → wk N a c h0 h → pz_S 4 (some .int) am_r219 5 Q 11 [(1, .int (nI n)), (0, .ref 154)] [] h := by
  intro m
  induction m with
  | zero =>
    intro a n h hm hn q
    have hP := q.1
    refine am_goX 3 (show am_sh h 154 = some (11, 0) ∧ (¬ (h.1 154 8) = 0 → pz_S 4 (some .int) am_r219 5 Q 158 [(1, .int (nI n)), (0, .ref 154)] [] h) ∧ (¬ ¬ (h.1 154 8) = 0 → pz_S 4 (some .int) am_r219 5 Q 18 [(1, .int (nI n)), (0, .ref 154)] [] h) from ⟨pz_154 hP, fun hc => ?_, fun hc => ?_⟩)
    · exact pz_wke hn q (hQ a)
    have hf : h.1 154 8 = 0 := Decidable.not_not.mp hc
    clear hc
    refine am_goX 2 (show am_sh h 154 = some (11, 0) ∧ pz_S 4 (some .int) am_r219 5 Q 22 [(1, .int (nI n)), (0, .ref 154)] [am_rf (h.2.2.1 154 4)] h from ⟨pz_154 hP, ?_⟩)
    rw [pz_r4 hP]
    refine am_goX 3 (show am_sh h 154 = some (11, 0) ∧ ∃ jj nn : Nat, am_sh h 156 = some (13, nn) ∧ jj < nn ∧ (h.1 154 7) = nI jj ∧ pz_S 4 (some .int) am_r219 5 Q 27 [(1, .int (nI n)), (0, .ref 154)] [.int (h.1 156 jj)] h from ⟨pz_154 hP, a, 1002, pz_156 hP, pz_al hP, hP.2.2.2.1, ?_⟩)
    refine am_goX 1 (show ((h.1 156 a) = 0 → pz_S 4 (some .int) am_r219 5 Q 158 [(1, .int (nI n)), (0, .ref 154)] [] h) ∧ (¬ ((h.1 156 a) = 0) → pz_S 4 (some .int) am_r219 5 Q 30 [(1, .int (nI n)), (0, .ref 154)] [] h) from ⟨fun hc => ?_, fun hc => ?_⟩)
    · exact pz_wke hn q (hQ a)
    · exact absurd (pz_lt hP hc) (by omega)
  | succ m ih =>
    intro a n h hm hn q
    have hP := q.1
    refine am_goX 3 (show am_sh h 154 = some (11, 0) ∧ (¬ (h.1 154 8) = 0 → pz_S 4 (some .int) am_r219 5 Q 158 [(1, .int (nI n)), (0, .ref 154)] [] h) ∧ (¬ ¬ (h.1 154 8) = 0 → pz_S 4 (some .int) am_r219 5 Q 18 [(1, .int (nI n)), (0, .ref 154)] [] h) from ⟨pz_154 hP, fun hc => ?_, fun hc => ?_⟩)
    · exact pz_wke hn q (hQ a)
    have hf : h.1 154 8 = 0 := Decidable.not_not.mp hc
    clear hc
    refine am_goX 2 (show am_sh h 154 = some (11, 0) ∧ pz_S 4 (some .int) am_r219 5 Q 22 [(1, .int (nI n)), (0, .ref 154)] [am_rf (h.2.2.1 154 4)] h from ⟨pz_154 hP, ?_⟩)
    rw [pz_r4 hP]
    refine am_goX 3 (show am_sh h 154 = some (11, 0) ∧ ∃ jj nn : Nat, am_sh h 156 = some (13, nn) ∧ jj < nn ∧ (h.1 154 7) = nI jj ∧ pz_S 4 (some .int) am_r219 5 Q 27 [(1, .int (nI n)), (0, .ref 154)] [.int (h.1 156 jj)] h from ⟨pz_154 hP, a, 1002, pz_156 hP, pz_al hP, hP.2.2.2.1, ?_⟩)
    refine am_goX 1 (show ((h.1 156 a) = 0 → pz_S 4 (some .int) am_r219 5 Q 158 [(1, .int (nI n)), (0, .ref 154)] [] h) ∧ (¬ ((h.1 156 a) = 0) → pz_S 4 (some .int) am_r219 5 Q 30 [(1, .int (nI n)), (0, .ref 154)] [] h) from ⟨fun hc => ?_, fun hc => ?_⟩)
    · exact pz_wke hn q (hQ a)
    have hlt := pz_lt hP hc
    clear hc
    have k149 : ∀ (a1 n1 : Nat) (g : am_H), wk N a1 c h0 g → n1 ≤ 40 → (¬ g.1 154 8 = 0 ∨ a ≤ a1) → pz_S 4 (some .int) am_r219 5 Q 149 [(1, .int (nI n1)), (0, .ref 154)] [] g := ?_
    rotate_left
    · intro a1 n1 g qg hn1 hor
      have hg := qg.1
      refine am_goX 3 (show am_rc g 154 11 ∧ 0 ≤ 8 ∧ g.2.2.2.2 + am_al 218 ≤ 175 ∧ am_call am_cod 5 218 [.ref 154, .int (Int8.ofInt 59).toInt32] g (fun vv h' => pz_S 4 (some .int) am_r219 5 Q 155 [(1, .int (nI n1)), (0, .ref 154)] (vv.toList ++ []) h') from ⟨pz_rc hg, by decide, pz_lim hg rfl, am_call.up (pz_tsignF hg (fun a2 h2 q2 => ?_)) (by decide)⟩)
      refine am_goX 1 (show pz_S 4 (some .int) am_r219 5 Q 11 [(1, .int (nI n1)), (0, .ref 154)] [] h2 from ?_)
      by_cases hf2 : h2.1 154 8 = 0
      · refine ih a2 n1 h2 ?_ hn1 (wk_k qg q2)
        rcases q2.2.2 with y | y
        · exact absurd hf2 y.1
        · rcases hor with w | w
          · exact absurd y.2.1 w
          · omega
      · exact pz_wkf hn1 (wk_k qg q2) hf2 (hQ a2)
    suffices k49 : ∀ r : Int32, pz_S 4 (some .int) am_r219 5 Q 49 [(1, .int (nI n)), (0, .ref 154)] [.int r] h by
      refine am_goX 3 (show am_rc h 154 11 ∧ 0 ≤ 8 ∧ h.2.2.2.2 + am_al 195 ≤ 175 ∧ am_call am_cod 5 195 [.ref 154, .int (Int32.ofInt 1)] h (fun vv h' => pz_S 4 (some .int) am_r219 5 Q 35 [(1, .int (nI n)), (0, .ref 154)] (vv.toList ++ []) h') from ⟨pz_rc hP, by decide, pz_lim hP rfl, am_call.up (pz_word (w := 1) hP (by decide) ?_) (by decide)⟩)
      cases e : pz_wd h a 1 with
      | true =>
        refine am_goX 1 (show ((pz_b true) = 0 → pz_S 4 (some .int) am_r219 5 Q 42 [(1, .int (nI n)), (0, .ref 154)] [] h) ∧ (¬ ((pz_b true) = 0) → pz_S 4 (some .int) am_r219 5 Q 38 [(1, .int (nI n)), (0, .ref 154)] [] h) from ⟨fun hz => absurd hz (by decide), fun _ => ?_⟩)
        exact am_goX 2 (k49 _)
      | false =>
        refine am_goX 1 (show ((pz_b false) = 0 → pz_S 4 (some .int) am_r219 5 Q 42 [(1, .int (nI n)), (0, .ref 154)] [] h) ∧ (¬ ((pz_b false) = 0) → pz_S 4 (some .int) am_r219 5 Q 38 [(1, .int (nI n)), (0, .ref 154)] [] h) from ⟨fun _ => ?_, fun hz => absurd rfl hz⟩)
        refine am_goX 4 (show am_rc h 154 11 ∧ 0 ≤ 8 ∧ h.2.2.2.2 + am_al 199 ≤ 175 ∧ am_call am_cod 5 199 [.ref 154, .int (Int8.ofInt 8).toInt32, .int (Int32.ofInt 2)] h (fun vv h' => pz_S 4 (some .int) am_r219 5 Q 49 [(1, .int (nI n)), (0, .ref 154)] (vv.toList ++ []) h') from ⟨pz_rc hP, by decide, pz_lim hP rfl, am_call.up (pz_here (f := 8) (m := 2) hP (by decide) (fun r hr => ?_)) (by decide)⟩)
        exact k49 r
    intro r
    refine am_goX 3 (show 2 < 4 ∧ (0 ≤ r → pz_S 4 (some .int) am_r219 5 Q 62 [(2, .int r), (1, .int (nI n)), (0, .ref 154)] [] h) ∧ (¬ (0 ≤ r) → pz_S 4 (some .int) am_r219 5 Q 54 [(2, .int r), (1, .int (nI n)), (0, .ref 154)] [] h) from ⟨by decide, fun hc => ?_, fun hc => ?_⟩)
    rotate_left
    · refine am_goX 3 (show am_rc h 154 11 ∧ 0 ≤ 8 ∧ h.2.2.2.2 + am_al 197 ≤ 175 ∧ am_call am_cod 5 197 [.ref 154, .int (Int32.ofInt 1)] h (fun vv h' => pz_S 4 (some .int) am_r219 5 Q 59 [(2, .int r), (1, .int (nI n)), (0, .ref 154)] (vv.toList ++ []) h') from ⟨pz_rc hP, by decide, pz_lim hP rfl, am_call.up (pz_wrongF hP (by decide) (fun h' q1 q2 q3 => ?_)) (by decide)⟩)
      exact am_goX 1 (sv_S sv_219 (by intro q hq; simp only [List.mem_cons, List.not_mem_nil, or_false] at hq; rcases hq with rfl | rfl <;> rfl) (k149 a n h' ⟨q1, pz_Fw q.2 q2⟩ hn (Or.inl q3)))
    clear hc
    refine am_goX 3 (show (¬ (nI n) = (Int8.ofInt 40).toInt32 → pz_S 4 (some .int) am_r219 5 Q 76 [(2, .int r), (1, .int (nI n)), (0, .ref 154)] [] h) ∧ (¬ ¬ (nI n) = (Int8.ofInt 40).toInt32 → pz_S 4 (some .int) am_r219 5 Q 68 [(2, .int r), (1, .int (nI n)), (0, .ref 154)] [] h) from ⟨fun hc => ?_, fun hc => ?_⟩)
    rotate_left
    · refine am_goX 3 (show am_rc h 154 11 ∧ 0 ≤ 8 ∧ h.2.2.2.2 + am_al 197 ≤ 175 ∧ am_call am_cod 5 197 [.ref 154, .int (Int32.ofInt 5)] h (fun vv h' => pz_S 4 (some .int) am_r219 5 Q 73 [(2, .int r), (1, .int (nI n)), (0, .ref 154)] (vv.toList ++ []) h') from ⟨pz_rc hP, by decide, pz_lim hP rfl, am_call.up (pz_wrongF hP (by decide) (fun h' q1 q2 q3 => ?_)) (by decide)⟩)
      exact am_goX 1 (sv_S sv_219 (by intro q hq; simp only [List.mem_cons, List.not_mem_nil, or_false] at hq; rcases hq with rfl | rfl <;> rfl) (k149 a n h' ⟨q1, pz_Fw q.2 q2⟩ hn (Or.inl q3)))
    have hn40 : n < 40 := by
      rcases Nat.lt_or_ge n 40 with w | w
      · exact w
      · exact absurd (by rw [show n = 40 by omega]; rfl) hc
    clear hc
    refine am_goX 6 (show (Value.ref 154).category = 1 ∧ am_sh h 154 = some (11, 0) ∧ am_sh h 154 = some (11, 0) ∧ narrow (am_fty 11 7) (.int (((h.1 154 7) + (Int32.ofInt 1)))) = .int (((h.1 154 7) + (Int32.ofInt 1))) ∧ fits (am_fty 11 7) (.int (((h.1 154 7) + (Int32.ofInt 1)))) = true ∧ pz_S 4 (some .int) am_r219 5 Q 86 [(2, .int r), (1, .int (nI n)), (0, .ref 154)] [] (am_wI h 154 7 (((h.1 154 7) + (Int32.ofInt 1)))) from ⟨rfl, pz_154 hP, pz_154 hP, rfl, rfl, ?_⟩)
    rw [hP.2.2.2.1, xw_i1]
    have w1 := wk_at (a' := a + 1) q (by omega)
    generalize am_wI h 154 7 (nI (a + 1)) = h1 at w1 ⊢
    have hP1 := w1.1
    refine am_goX 6 (show 3 < 4 ∧ pz_S 4 (some .int) am_r219 5 Q 93 [(3, .int ((Int8.ofInt 125).toInt32 + ((Int32.ofInt 3) * (nI n)))), (2, .int r), (1, .int (nI n)), (0, .ref 154)] [] h1 from ⟨by decide, ?_⟩)
    rw [pz_i125 (by omega)]
    refine am_goX 2 (show am_sh h1 154 = some (11, 0) ∧ pz_S 4 (some .int) am_r219 5 Q 97 [(3, .int (nI (125 + 3 * n))), (2, .int r), (1, .int (nI n)), (0, .ref 154)] [am_rf (h1.2.2.1 154 21)] h1 from ⟨pz_154 hP1, ?_⟩)
    rw [pz_r21 hP1]
    refine am_goX 3 (show ∃ jj nn : Nat, am_so h1 167 = some (13, nn) ∧ jj < nn ∧ (nI (125 + 3 * n)) = nI jj ∧ pz_S 4 (some .int) am_r219 5 Q 100 [(3, .int (nI (125 + 3 * n))), (2, .int r), (1, .int (nI n)), (0, .ref 154)] [] (am_wI h1 167 jj (r)) from ⟨(125 + 3 * n), 250, pz_w167 hP1, by omega, rfl, ?_⟩)
    have w2 := wk_w (k := 125 + 3 * n) (v := r) w1 (by omega) (pz_s167 (fun w => absurd w (by omega)) (fun _ w _ => absurd w (by omega)) (fun _ _ w => absurd w (by omega)))
    generalize am_wI h1 167 (125 + 3 * n) r = h2 at w2 ⊢
    have hP2 := w2.1
    refine am_goX 2 (show am_sh h2 154 = some (11, 0) ∧ pz_S 4 (some .int) am_r219 5 Q 104 [(3, .int (nI (125 + 3 * n))), (2, .int r), (1, .int (nI n)), (0, .ref 154)] [am_rf (h2.2.2.1 154 21)] h2 from ⟨pz_154 hP2, ?_⟩)
    rw [pz_r21 hP2]
    have k122 : ∀ (a1 k5 : Nat) (g : am_H), wk N a1 c h0 g → a ≤ a1 → k5 ≤ 5 → pz_S 4 (some .int) am_r219 5 Q 122 [(3, .int (nI (125 + 3 * n))), (2, .int r), (1, .int (nI n)), (0, .ref 154)] [.int (nI k5), .int ((nI (125 + 3 * n)) + (Int32.ofInt 1)), .ref 167] g := ?_
    rotate_left
    · intro a1 k5 g qg ha1 hk5
      have hg := qg.1
      have hk5t : (nI k5).toInt = k5 := nI_toInt (by omega)
      refine am_goX 1 (show ∃ jj nn : Nat, am_so g 167 = some (13, nn) ∧ jj < nn ∧ ((nI (125 + 3 * n)) + (Int32.ofInt 1)) = nI jj ∧ pz_S 4 (some .int) am_r219 5 Q 123 [(3, .int (nI (125 + 3 * n))), (2, .int r), (1, .int (nI n)), (0, .ref 154)] [] (am_wI g 167 jj ((nI k5))) from ⟨(125 + 3 * n + 1), 250, pz_w167 hg, by omega, xw_i1 _, ?_⟩)
      have w3 := wk_w (k := 125 + 3 * n + 1) (v := nI k5) qg (by omega) (pz_s167 (fun w => absurd w (by omega)) (fun _ w _ => absurd w (by omega)) (fun _ _ _ => by omega))
      generalize am_wI g 167 (125 + 3 * n + 1) (nI k5) = h3 at w3 ⊢
      have hP3 := w3.1
      refine am_goX 2 (show am_sh h3 154 = some (11, 0) ∧ pz_S 4 (some .int) am_r219 5 Q 127 [(3, .int (nI (125 + 3 * n))), (2, .int r), (1, .int (nI n)), (0, .ref 154)] [am_rf (h3.2.2.1 154 21)] h3 from ⟨pz_154 hP3, ?_⟩)
      rw [pz_r21 hP3]
      have k145 : ∀ (a2 : Nat) (y : Int32) (g1 : am_H), wk N a2 c h0 g1 → a ≤ a2 → pz_S 4 (some .int) am_r219 5 Q 145 [(3, .int (nI (125 + 3 * n))), (2, .int r), (1, .int (nI n)), (0, .ref 154)] [.int y, .int ((nI (125 + 3 * n)) + (Int32.ofInt 2)), .ref 167] g1 := ?_
      rotate_left
      · intro a2 y g1 qg1 ha2
        have hg1 := qg1.1
        refine am_goX 1 (show ∃ jj nn : Nat, am_so g1 167 = some (13, nn) ∧ jj < nn ∧ ((nI (125 + 3 * n)) + (Int32.ofInt 2)) = nI jj ∧ pz_S 4 (some .int) am_r219 5 Q 146 [(3, .int (nI (125 + 3 * n))), (2, .int r), (1, .int (nI n)), (0, .ref 154)] [] (am_wI g1 167 jj (y)) from ⟨(125 + 3 * n + 2), 250, pz_w167 hg1, by omega, nI_add _ 2, ?_⟩)
        have w4 := wk_w (k := 125 + 3 * n + 2) (v := y) qg1 (by omega) (pz_s167 (fun w => absurd w (by omega)) (fun _ w _ => absurd w (by omega)) (fun _ _ w => absurd w (by omega)))
        generalize am_wI g1 167 (125 + 3 * n + 2) y = h4 at w4 ⊢
        have hP4 := w4.1
        refine am_goX 1 (show 1 < 4 ∧ pz_S 4 (some .int) am_r219 5 Q 149 [(1, .int ((nI n) + Int32.ofInt 1)), (3, .int (nI (125 + 3 * n))), (2, .int r), (0, .ref 154)] [] h4 from ⟨by decide, ?_⟩)
        rw [xw_i1]
        exact sv_S sv_219 (by intro q hq; simp only [List.mem_cons, List.not_mem_nil, or_false] at hq; rcases hq with rfl | rfl <;> rfl) (k149 a2 (n + 1) h4 w4 (by omega) (Or.inr ha2))
      refine am_goX 6 (show (¬ r = (Int32.ofInt 2) → pz_S 4 (some .int) am_r219 5 Q 144 [(3, .int (nI (125 + 3 * n))), (2, .int r), (1, .int (nI n)), (0, .ref 154)] [.int ((nI (125 + 3 * n)) + (Int32.ofInt 2)), .ref 167] h3) ∧ (¬ ¬ r = (Int32.ofInt 2) → pz_S 4 (some .int) am_r219 5 Q 135 [(3, .int (nI (125 + 3 * n))), (2, .int r), (1, .int (nI n)), (0, .ref 154)] [.int ((nI (125 + 3 * n)) + (Int32.ofInt 2)), .ref 167] h3) from ⟨fun hc => ?_, fun hc => ?_⟩)
      · exact am_goX 1 (k145 a1 _ h3 w3 ha1)
      · refine am_goX 4 (show am_rc h3 154 11 ∧ 2 ≤ 8 ∧ h3.2.2.2.2 + am_al 205 ≤ 175 ∧ am_call am_cod 5 205 [.ref 154, .int (Int32.ofInt 0), .int (Int32.ofInt 4)] h3 (fun vv h' => pz_S 4 (some .int) am_r219 5 Q 141 [(3, .int (nI (125 + 3 * n))), (2, .int r), (1, .int (nI n)), (0, .ref 154)] (vv.toList ++ [.int ((nI (125 + 3 * n)) + (Int32.ofInt 2)), .ref 167]) h') from ⟨pz_rc hP3, by decide, pz_lim hP3 rfl, am_call.up (pz_tnum hP3 (fun a2 h4 v q4 => ?_)) (by decide)⟩)
        exact am_goX 1 (k145 a2 v h4 (wk_k w3 q4) (by rcases q4.2.2 with w | w <;> omega))
    refine am_goX 5 (show (¬ r = 0 → pz_S 4 (some .int) am_r219 5 Q 115 [(3, .int (nI (125 + 3 * n))), (2, .int r), (1, .int (nI n)), (0, .ref 154)] [.int ((nI (125 + 3 * n)) + (Int32.ofInt 1)), .ref 167] h2) ∧ (¬ ¬ r = 0 → pz_S 4 (some .int) am_r219 5 Q 111 [(3, .int (nI (125 + 3 * n))), (2, .int r), (1, .int (nI n)), (0, .ref 154)] [.int ((nI (125 + 3 * n)) + (Int32.ofInt 1)), .ref 167] h2) from ⟨fun hc => ?_, fun hc => ?_⟩)
    · refine am_goX 5 (show am_rc h2 154 11 ∧ 2 ≤ 8 ∧ h2.2.2.2.2 + am_al 206 ≤ 175 ∧ am_call am_cod 5 206 [.ref 154, .int (Int32.ofInt 0), .int (Int32.ofInt 0), .int (Int32.ofInt 0)] h2 (fun vv h' => pz_S 4 (some .int) am_r219 5 Q 122 [(3, .int (nI (125 + 3 * n))), (2, .int r), (1, .int (nI n)), (0, .ref 154)] (vv.toList ++ [.int ((nI (125 + 3 * n)) + (Int32.ofInt 1)), .ref 167]) h') from ⟨pz_rc hP2, by decide, pz_lim hP2 rfl, am_call.up (pz_told0 hP2 (fun a2 h3 k5 hk5 q3 => ?_)) (by decide)⟩)
      exact k122 a2 k5 h3 (wk_k w2 q3) (by rcases q3.2.2 with w | w <;> omega) hk5
    · exact am_goX 2 (k122 (a + 1) 0 h2 w2 (by omega) (by decide))
def pz_Mx : ag_M := [(154, 0, 0), (154, 2, 3), (154, 7, 8), (156, 0, 1001), (157, 0, 1001), (158, 0, 1001), (167, 0, 249)]
theorem pz_week {Q : am_Q} (hP0 : pz_P N a c h) (hQ : ∀ N' a' c' h' x, pz_P N' a' c' h' → rg h h' → ag_fr pz_Mx h h' → Q (some (.int x)) h') : am_call am_cod 6 219 [.ref 154] h Q := by
  refine pz_call (n := 219) (nL := 4) (rt := (some .int)) (rows := am_r219) (d := 5) (by decide +kernel) (by decide +kernel) rfl (by funext pc; rfl) (pz_175 hP0) (by exact Nat.le_of_ble_eq_true rfl) ?_
  refine am_goX 3 (show am_sh h 154 = some (11, 0) ∧ narrow (am_fty 11 0) (.int ((Int32.ofInt 0))) = .int ((Int32.ofInt 0)) ∧ fits (am_fty 11 0) (.int ((Int32.ofInt 0))) = true ∧ pz_S 4 (some .int) am_r219 5 Q 5 [(0, .ref 154)] [] (am_wI h 154 0 ((Int32.ofInt 0))) from ⟨pz_154 hP0, rfl, rfl, ?_⟩)
  have hP1 := pz_w (o := 154) (k := 0) (v := Int32.ofInt 0) hP0 (by omega) (by unfold ag_kp; omega) pz_s0
  have r1 : (am_wI h 154 0 (Int32.ofInt 0)).1 1 1 = h.1 1 1 ∧ (am_wI h 154 0 (Int32.ofInt 0)).2 = h.2 := ⟨em_wn h _ (by omega), rfl⟩
  have fx : ag_fr pz_Mx h (am_wI h 154 0 (Int32.ofInt 0)) := pz_fr (by decide)
  generalize am_wI h 154 0 (Int32.ofInt 0) = h1 at hP1 r1 fx ⊢
  refine am_goX 2 (show am_rc h1 154 11 ∧ 0 ≤ 8 ∧ h1.2.2.2.2 + am_al 189 ≤ 175 ∧ am_call am_cod 5 189 [.ref 154] h1 (fun vv h' => pz_S 4 (some .int) am_r219 5 Q 9 [(0, .ref 154)] (vv.toList ++ []) h') from ⟨pz_rc hP1, by decide, pz_lim hP1 rfl, am_call.up (pz_cutall hP1 (fun N2 h2 hP2 f2 b2 t2 => ?_)) (by decide)⟩)
  refine am_goX 2 (show 1 < 4 ∧ pz_S 4 (some .int) am_r219 5 Q 11 [(1, .int (Int32.ofInt 0)), (0, .ref 154)] [] h2 from ⟨by decide, ?_⟩)
  exact pz_wkl (h0 := h2) (fun a3 h3 x q3 => hQ N2 a3 c h3 x q3.1 (rg_of r1 f2 t2 (rf_of (by decide +kernel) q3.2)) ((fx.trans (by decide +kernel) f2).trans (by decide +kernel) q3.2)) N2 0 0 h2 (by omega) (by decide) ⟨hP2, ag_fr.refl h2⟩
/-! WHAT THE LAW ASKS OF THE PARSER -/
theorem pz_iv (hI : iv_I h) : ∃ N a c, pz_P N a c h := by
  obtain ⟨N, hN, hW, hX, ha, -⟩ := hI
  have h0 := hW.2.2.1
  have g7 : 0 ≤ (h.1 154 7).toInt ∧ (h.1 154 7).toInt ≤ 1000 := hW.2.1.1 154 (7, 7, 1, 0, 0, 1000) (iv_sgm (o := 154) (s := (7, 7, 1, 0, 0, 1000)) (by decide +kernel)) 7 (by decide) (by decide) (by decide)
  have g13 : 0 ≤ (h.1 154 13).toInt ∧ (h.1 154 13).toInt ≤ 1100 := hW.2.1.1 154 (13, 13, 1, 0, 0, 1100) (iv_sgm (o := 154) (s := (13, 13, 1, 0, 0, 1100)) (by decide +kernel)) 13 (by decide) (by decide) (by decide)
  refine ⟨N.toNat, (h.1 154 7).toInt.toNat, (h.1 154 13).toInt.toNat, ?_, hX, by omega, Int32.toInt_inj.mp ?_, by omega, Int32.toInt_inj.mp ?_, by omega⟩
  · rw [Int.toNat_of_nonneg h0]
    exact hW
  · rw [nI_toInt (by omega)]
    omega
  · rw [nI_toInt (by omega)]
    omega
theorem pz_vi {h' : am_H} (hI : iv_I h) (hP : pz_P N a c h') (r : ∀ k, h'.2.2.1 0 k = h.2.2.1 0 k) : iv_I h' := by
  obtain ⟨N0, -, -, -, -, hc⟩ := hI
  have t : (h'.1 154 7).toInt = a := by
    rw [hP.2.2.2.1]
    exact nI_toInt (by have := hP.2.2.1; have := hP.2.2.2.2.1; omega)
  refine ⟨N, by have := hP.2.2.1; omega, hP.1, hP.2.1, by rw [t]; have := hP.2.2.2.2.1; omega, ?_⟩
  have q : ∀ x y, iv_cfg x y h → iv_cfg x y h' := fun x y w => ⟨(r 3).trans w.1, (r 4).trans w.2.1, (r 5).trans w.2.2.1, (r 6).trans w.2.2.2⟩
  exact hc.imp (fun w => w.imp (q _ _) (q _ _)) (fun w => w.imp (q _ _) (q _ _))
/-- what a call of the reference's parser leaves: the class's tape as it was, its own empty -/
def tm (h h' : am_H) : Prop := h'.1 1 1 = h.1 1 1 ∧ h'.1 154 2 = 0 ∧ (∀ q, h'.2.1 159 q = h.2.1 159 q) ∧ h'.2.2.2 = h.2.2.2
theorem iv_m188 {h : am_H} (hI : iv_I h) : am_call am_cod 60 188 [.ref 154] h (fun v h' => iv_I h' ∧ (∃ x, v = some (.int x)) ∧ tm h h') := by
  obtain ⟨N, a, c, hP⟩ := pz_iv hI
  exact am_call.up (pz_canton hP (fun N' a' c' h' x q1 q2 => ⟨pz_vi hI q1 q2.1, ⟨x, rfl⟩, q2.2⟩)) (by decide)
theorem iv_m219 {h : am_H} (hI : iv_I h) : am_call am_cod 60 219 [.ref 154] h (fun v h' => iv_I h' ∧ (∃ x, v = some (.int x)) ∧ tm h h' ∧ kr kr_219 h h') := by
  obtain ⟨N, a, c, hP⟩ := pz_iv hI
  exact am_call.up (pz_week hP (fun N' a' c' h' x q1 q2 q3 => ⟨pz_vi hI q1 q2.1, ⟨x, rfl⟩, q2.2, kr_of (by decide) q3⟩)) (by decide)
end
