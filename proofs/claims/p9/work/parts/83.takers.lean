/-! THE TAKERS: what is written is the place and the fault alone -/
variable {N a c : Nat} {h : am_H}
def pz_F : ag_M := [(154, 7, 8)]
theorem pz_trF {h1 h2 : am_H} (f1 : ag_fr pz_F h h1) (f2 : ag_fr pz_F h1 h2) : ag_fr pz_F h h2 := f1.trans (by decide +kernel) f2
/-- one token taken, or a fault -/
def pk (N a c : Nat) (h : am_H) (a' : Nat) (h' : am_H) : Prop := pz_P N a' c h' ∧ ag_fr pz_F h h' ∧ ((¬ h'.1 154 8 = 0 ∧ a' = a) ∨ (h'.1 154 8 = 0 ∧ h.1 154 8 = 0 ∧ a' = a + 1))
theorem pk_f {h' : am_H} (q1 : pz_P N a c h') (q2 : ag_fr pz_F h h') (q3 : ¬ h'.1 154 8 = 0) : pk N a c h a h' := ⟨q1, q2, Or.inl ⟨q3, rfl⟩⟩
theorem pk_a (hP : pz_P N a c h) (hf : h.1 154 8 = 0) (hlt : a < N) : pk N a c h (a + 1) (am_wI h 154 7 (nI (a + 1))) := ⟨pz_at hP (by omega), pz_fr rfl, Or.inr ⟨by rw [em_wn h _ (by decide)]; exact hf, hf, rfl⟩⟩
theorem pz_wrongF {Q : am_Q} {x : Int32} (hP : pz_P N a c h) (hx : 1 ≤ x.toInt ∧ x.toInt ≤ 5) (hQ : ∀ h', pz_P N a c h' → ag_fr pz_F h h' → ¬ h'.1 154 8 = 0 → Q none h') : am_call am_cod 1 197 [.ref 154, .int x] h Q := by
  refine pz_call (n := 197) (nL := 2) (rt := none) (rows := am_r197) (d := 0) (by decide +kernel) (by decide +kernel) rfl (by funext pc; rfl) (pz_175 hP) (by exact Nat.le_of_ble_eq_true rfl) ?_
  refine am_goX 3 (show am_sh h 154 = some (11, 0) ∧ (¬ (h.1 154 8) = 0 → pz_S 2 none am_r197 0 Q 25 [(0, .ref 154), (1, .int x)] [] h) ∧ (¬ ¬ (h.1 154 8) = 0 → pz_S 2 none am_r197 0 Q 7 [(0, .ref 154), (1, .int x)] [] h) from ⟨pz_154 hP, fun hc => ?_, fun hc => ?_⟩)
  · exact am_goX 1 (show (none : Option FieldType) = none ∧ h.2.2.2.2 = 175 ∧ _ from ⟨rfl, pz_175 hP, hQ h hP (ag_fr.refl h) hc⟩)
  · refine am_goX 5 (show am_sh h 154 = some (11, 0) ∧ pz_S 2 none am_r197 0 Q 15 [(0, .ref 154), (1, .int x)] [am_rf (h.2.2.1 154 5), .int (Int8.ofInt 16).toInt32, .int x, .ref 154] h from ⟨pz_154 hP, ?_⟩)
    rw [pz_r5 hP]
    refine am_goX 3 (show am_sh h 154 = some (11, 0) ∧ ∃ j n : Nat, am_sh h 157 = some (13, n) ∧ j < n ∧ (h.1 154 7) = nI j ∧ pz_S 2 none am_r197 0 Q 20 [(0, .ref 154), (1, .int x)] [.int (h.1 157 j), .int (Int8.ofInt 16).toInt32, .int x, .ref 154] h from ⟨pz_154 hP, a, 1002, pz_157 hP, pz_al hP, hP.2.2.2.1, ?_⟩)
    refine am_goX 3 (show am_sh h 154 = some (11, 0) ∧ narrow (am_fty 11 8) (.int ((x + ((Int8.ofInt 16).toInt32 * (h.1 157 a))))) = .int ((x + ((Int8.ofInt 16).toInt32 * (h.1 157 a)))) ∧ fits (am_fty 11 8) (.int ((x + ((Int8.ofInt 16).toInt32 * (h.1 157 a))))) = true ∧ pz_S 2 none am_r197 0 Q 25 [(0, .ref 154), (1, .int x)] [] (am_wI h 154 8 ((x + ((Int8.ofInt 16).toInt32 * (h.1 157 a))))) from ⟨pz_154 hP, rfl, rfl, ?_⟩)
    have hv := pz_wv hx (pz_plr hP)
    have hf := pz_ft hP hv.1 hv.2
    exact am_goX 1 (show (none : Option FieldType) = none ∧ (am_wI h 154 8 ((x + ((Int8.ofInt 16).toInt32 * (h.1 157 a))))).2.2.2.2 = 175 ∧ _ from ⟨rfl, pz_175 hf.1, hQ _ hf.1 (pz_fr rfl) hf.2⟩)
theorem pz_tsignF {Q : am_Q} {x : Int32} (hP : pz_P N a c h) (hQ : ∀ a' h', pk N a c h a' h' → Q none h') : am_call am_cod 2 218 [.ref 154, .int x] h Q := by
  refine pz_call (n := 218) (nL := 2) (rt := none) (rows := am_r218) (d := 1) (by decide +kernel) (by decide +kernel) rfl (by funext pc; rfl) (pz_175 hP) (by exact Nat.le_of_ble_eq_true rfl) ?_
  refine am_goX 3 (show am_rc h 154 11 ∧ 0 ≤ 8 ∧ h.2.2.2.2 + am_al 215 ≤ 175 ∧ am_call am_cod 1 215 [.ref 154, .int x] h (fun vv h' => pz_S 2 none am_r218 1 Q 5 [(0, .ref 154), (1, .int x)] (vv.toList ++ []) h') from ⟨pz_rc hP, by decide, pz_lim hP rfl, pz_sign hP ?_⟩)
  cases e : pz_sg h a x with
  | true =>
    refine am_goX 1 (show ((pz_b true) = 0 → pz_S 2 none am_r218 1 Q 21 [(0, .ref 154), (1, .int x)] [] h) ∧ (¬ ((pz_b true) = 0) → pz_S 2 none am_r218 1 Q 8 [(0, .ref 154), (1, .int x)] [] h) from ⟨fun hz => absurd hz (by decide), fun _ => ?_⟩)
    refine am_goX 6 (show (Value.ref 154).category = 1 ∧ am_sh h 154 = some (11, 0) ∧ am_sh h 154 = some (11, 0) ∧ narrow (am_fty 11 7) (.int (((h.1 154 7) + (Int32.ofInt 1)))) = .int (((h.1 154 7) + (Int32.ofInt 1))) ∧ fits (am_fty 11 7) (.int (((h.1 154 7) + (Int32.ofInt 1)))) = true ∧ pz_S 2 none am_r218 1 Q 18 [(0, .ref 154), (1, .int x)] [] (am_wI h 154 7 (((h.1 154 7) + (Int32.ofInt 1)))) from ⟨rfl, pz_154 hP, pz_154 hP, rfl, rfl, ?_⟩)
    rw [hP.2.2.2.1, xw_i1]
    have hlt := pz_sg_lt hP e
    have hP1 := pz_at (a' := a + 1) hP (by omega)
    exact am_goX 2 (show (none : Option FieldType) = none ∧ (am_wI h 154 7 (nI (a + 1))).2.2.2.2 = 175 ∧ _ from ⟨rfl, pz_175 hP1, hQ _ _ (pk_a hP hlt.1 hlt.2)⟩)
  | false =>
    refine am_goX 1 (show ((pz_b false) = 0 → pz_S 2 none am_r218 1 Q 21 [(0, .ref 154), (1, .int x)] [] h) ∧ (¬ ((pz_b false) = 0) → pz_S 2 none am_r218 1 Q 8 [(0, .ref 154), (1, .int x)] [] h) from ⟨fun _ => ?_, fun hz => absurd rfl hz⟩)
    refine am_goX 3 (show am_rc h 154 11 ∧ 0 ≤ 8 ∧ h.2.2.2.2 + am_al 197 ≤ 175 ∧ am_call am_cod 1 197 [.ref 154, .int (Int32.ofInt 1)] h (fun vv h' => pz_S 2 none am_r218 1 Q 26 [(0, .ref 154), (1, .int x)] (vv.toList ++ []) h') from ⟨pz_rc hP, by decide, pz_lim hP rfl, pz_wrongF hP (by decide) (fun h' q1 q2 q3 => ?_)⟩)
    exact am_goX 1 (show (none : Option FieldType) = none ∧ h'.2.2.2.2 = 175 ∧ _ from ⟨rfl, pz_175 q1, hQ _ _ (pk_f q1 q2 q3)⟩)
theorem pz_tword {Q : am_Q} {w : Nat} (hP : pz_P N a c h) (hw : w < 21) (hQ : ∀ a' h', pk N a c h a' h' → Q none h') : am_call am_cod 3 203 [.ref 154, .int (nI w)] h Q := by
  refine pz_call (n := 203) (nL := 2) (rt := none) (rows := am_r203) (d := 2) (by decide +kernel) (by decide +kernel) rfl (by funext pc; rfl) (pz_175 hP) (by exact Nat.le_of_ble_eq_true rfl) ?_
  refine am_goX 3 (show am_rc h 154 11 ∧ 0 ≤ 8 ∧ h.2.2.2.2 + am_al 204 ≤ 175 ∧ am_call am_cod 2 204 [.ref 154, .int (nI w)] h (fun vv h' => pz_S 2 none am_r203 2 Q 5 [(0, .ref 154), (1, .int (nI w))] (vv.toList ++ []) h') from ⟨pz_rc hP, by decide, pz_lim hP rfl, pz_hword hP hw (fun e => ?_) (fun e => ?_)⟩)
  · have hlt := pz_wd_lt hP e
    have hP1 := pz_at (a' := a + 1) hP (by omega)
    refine am_goX 1 (show (¬ 1 = 0 → pz_S 2 none am_r203 2 Q 13 [(0, .ref 154), (1, .int (nI w))] [] (am_wI h 154 7 (nI (a + 1)))) ∧ (¬ ¬ 1 = 0 → pz_S 2 none am_r203 2 Q 8 [(0, .ref 154), (1, .int (nI w))] [] (am_wI h 154 7 (nI (a + 1)))) from ⟨fun _ => ?_, fun hz => absurd (by decide) hz⟩)
    exact am_goX 1 (show (none : Option FieldType) = none ∧ (am_wI h 154 7 (nI (a + 1))).2.2.2.2 = 175 ∧ _ from ⟨rfl, pz_175 hP1, hQ _ _ (pk_a hP hlt.1 hlt.2)⟩)
  · refine am_goX 1 (show (¬ 0 = 0 → pz_S 2 none am_r203 2 Q 13 [(0, .ref 154), (1, .int (nI w))] [] h) ∧ (¬ ¬ 0 = 0 → pz_S 2 none am_r203 2 Q 8 [(0, .ref 154), (1, .int (nI w))] [] h) from ⟨fun hz => absurd hz (fun z => z rfl), fun _ => ?_⟩)
    refine am_goX 3 (show am_rc h 154 11 ∧ 0 ≤ 8 ∧ h.2.2.2.2 + am_al 197 ≤ 175 ∧ am_call am_cod 2 197 [.ref 154, .int (Int32.ofInt 1)] h (fun vv h' => pz_S 2 none am_r203 2 Q 13 [(0, .ref 154), (1, .int (nI w))] (vv.toList ++ []) h') from ⟨pz_rc hP, by decide, pz_lim hP rfl, am_call.up (pz_wrongF hP (by decide) (fun h' q1 q2 q3 => ?_)) (by decide)⟩)
    exact am_goX 1 (show (none : Option FieldType) = none ∧ h'.2.2.2.2 = 175 ∧ _ from ⟨rfl, pz_175 q1, hQ _ _ (pk_f q1 q2 q3)⟩)
theorem pz_tnum {Q : am_Q} {x y : Int32} (hP : pz_P N a c h) (hQ : ∀ a' h' v, pk N a c h a' h' → Q (some (.int v)) h') : am_call am_cod 2 205 [.ref 154, .int x, .int y] h Q := by
  refine pz_call (n := 205) (nL := 3) (rt := (some .int)) (rows := am_r205) (d := 1) (by decide +kernel) (by decide +kernel) rfl (by funext pc; rfl) (pz_175 hP) (by exact Nat.le_of_ble_eq_true rfl) ?_
  have kf : ∀ h', pz_P N a c h' → ag_fr pz_F h h' → ¬ h'.1 154 8 = 0 → pz_S 3 (some .int) am_r205 1 Q 70 [(0, .ref 154), (1, .int x), (2, .int y)] [] h' := ?_
  rotate_left
  · intro h' q1 q2 q3
    refine am_goX 3 (show am_sh h' 154 = some (11, 0) ∧ ((h'.1 154 8) ≤ 0 → pz_S 3 (some .int) am_r205 1 Q 79 [(0, .ref 154), (1, .int x), (2, .int y)] [] h') ∧ (¬ ((h'.1 154 8) ≤ 0) → pz_S 3 (some .int) am_r205 1 Q 77 [(0, .ref 154), (1, .int x), (2, .int y)] [] h') from ⟨pz_154 q1, fun hz => absurd hz (fun w => q3 (pz_eq0 q1 w)), fun _ => ?_⟩)
    exact am_goX 2 (show (∃ ty, (some .int) = some ty ∧ narrow ty (.int ((Int32.ofInt 0))) = .int ((Int32.ofInt 0))) ∧ h'.2.2.2.2 = 175 ∧ _ from ⟨⟨.int, rfl, rfl⟩, pz_175 q1, hQ _ _ _ (pk_f q1 q2 q3)⟩)
  have kok : h.1 154 8 = 0 → a < N → pz_S 3 (some .int) am_r205 1 Q 70 [(0, .ref 154), (1, .int x), (2, .int y)] [] h := ?_
  rotate_left
  · intro hf hlt
    have hP1 := pz_at (a' := a + 1) hP (by omega)
    refine am_goX 3 (show am_sh h 154 = some (11, 0) ∧ ((h.1 154 8) ≤ 0 → pz_S 3 (some .int) am_r205 1 Q 79 [(0, .ref 154), (1, .int x), (2, .int y)] [] h) ∧ (¬ ((h.1 154 8) ≤ 0) → pz_S 3 (some .int) am_r205 1 Q 77 [(0, .ref 154), (1, .int x), (2, .int y)] [] h) from ⟨pz_154 hP, fun _ => ?_, fun hz => absurd (by rw [hf]; decide) hz⟩)
    refine am_goX 6 (show (Value.ref 154).category = 1 ∧ am_sh h 154 = some (11, 0) ∧ am_sh h 154 = some (11, 0) ∧ narrow (am_fty 11 7) (.int (((h.1 154 7) + (Int32.ofInt 1)))) = .int (((h.1 154 7) + (Int32.ofInt 1))) ∧ fits (am_fty 11 7) (.int (((h.1 154 7) + (Int32.ofInt 1)))) = true ∧ pz_S 3 (some .int) am_r205 1 Q 89 [(0, .ref 154), (1, .int x), (2, .int y)] [] (am_wI h 154 7 (((h.1 154 7) + (Int32.ofInt 1)))) from ⟨rfl, pz_154 hP, pz_154 hP, rfl, rfl, ?_⟩)
    rw [hP.2.2.2.1, xw_i1]
    refine am_goX 2 (show am_sh (am_wI h 154 7 (nI (a + 1))) 154 = some (11, 0) ∧ pz_S 3 (some .int) am_r205 1 Q 93 [(0, .ref 154), (1, .int x), (2, .int y)] [am_rf ((am_wI h 154 7 (nI (a + 1))).2.2.1 154 6)] (am_wI h 154 7 (nI (a + 1))) from ⟨pz_154 hP1, ?_⟩)
    rw [pz_r6 hP1]
    refine am_goX 5 (show am_sh (am_wI h 154 7 (nI (a + 1))) 154 = some (11, 0) ∧ ∃ j n : Nat, am_sh (am_wI h 154 7 (nI (a + 1))) 158 = some (14, n) ∧ j < n ∧ (((am_wI h 154 7 (nI (a + 1))).1 154 7) - (Int32.ofInt 1)) = nI j ∧ pz_S 3 (some .int) am_r205 1 Q 100 [(0, .ref 154), (1, .int x), (2, .int y)] [.long ((am_wI h 154 7 (nI (a + 1))).2.1 158 j)] (am_wI h 154 7 (nI (a + 1))) from ⟨pz_154 hP1, a, 1002, pz_158 hP1, pz_al hP, (by rw [hP1.2.2.2.1]; exact nI_pred a), ?_⟩)
    exact am_goX 2 (show (∃ ty, (some .int) = some ty ∧ narrow ty (.int ((((am_wI h 154 7 (nI (a + 1))).2.1 158 a)).toInt32)) = .int ((((am_wI h 154 7 (nI (a + 1))).2.1 158 a)).toInt32)) ∧ (am_wI h 154 7 (nI (a + 1))).2.2.2.2 = 175 ∧ _ from ⟨⟨.int, rfl, rfl⟩, pz_175 hP1, hQ _ _ _ (pk_a hP hf hlt)⟩)
  refine am_goX 3 (show am_sh h 154 = some (11, 0) ∧ (¬ (h.1 154 8) = 0 → pz_S 3 (some .int) am_r205 1 Q 28 [(0, .ref 154), (1, .int x), (2, .int y)] [] h) ∧ (¬ ¬ (h.1 154 8) = 0 → pz_S 3 (some .int) am_r205 1 Q 7 [(0, .ref 154), (1, .int x), (2, .int y)] [] h) from ⟨pz_154 hP, fun hc => ?_, fun hc => ?_⟩)
  · refine am_goX 3 (show am_sh h 154 = some (11, 0) ∧ (¬ (h.1 154 8) = 0 → pz_S 3 (some .int) am_r205 1 Q 70 [(0, .ref 154), (1, .int x), (2, .int y)] [] h) ∧ (¬ ¬ (h.1 154 8) = 0 → pz_S 3 (some .int) am_r205 1 Q 35 [(0, .ref 154), (1, .int x), (2, .int y)] [] h) from ⟨pz_154 hP, fun _ => ?_, fun hz => absurd hc hz⟩)
    exact kf h hP (ag_fr.refl h) hc
  · have hf : h.1 154 8 = 0 := Decidable.not_not.mp hc
    clear hc
    refine am_goX 2 (show am_sh h 154 = some (11, 0) ∧ pz_S 3 (some .int) am_r205 1 Q 11 [(0, .ref 154), (1, .int x), (2, .int y)] [am_rf (h.2.2.1 154 4)] h from ⟨pz_154 hP, ?_⟩)
    rw [pz_r4 hP]
    refine am_goX 3 (show am_sh h 154 = some (11, 0) ∧ ∃ j n : Nat, am_sh h 156 = some (13, n) ∧ j < n ∧ (h.1 154 7) = nI j ∧ pz_S 3 (some .int) am_r205 1 Q 16 [(0, .ref 154), (1, .int x), (2, .int y)] [.int (h.1 156 j)] h from ⟨pz_154 hP, a, 1002, pz_156 hP, pz_al hP, hP.2.2.2.1, ?_⟩)
    refine am_goX 2 (show ((h.1 156 a) = (Int32.ofInt 2) → pz_S 3 (some .int) am_r205 1 Q 28 [(0, .ref 154), (1, .int x), (2, .int y)] [] h) ∧ (¬ ((h.1 156 a) = (Int32.ofInt 2)) → pz_S 3 (some .int) am_r205 1 Q 20 [(0, .ref 154), (1, .int x), (2, .int y)] [] h) from ⟨fun hc => ?_, fun hc => ?_⟩)
    · have hlt : a < N := pz_lt hP (by rw [hc]; decide)
      refine am_goX 3 (show am_sh h 154 = some (11, 0) ∧ (¬ (h.1 154 8) = 0 → pz_S 3 (some .int) am_r205 1 Q 70 [(0, .ref 154), (1, .int x), (2, .int y)] [] h) ∧ (¬ ¬ (h.1 154 8) = 0 → pz_S 3 (some .int) am_r205 1 Q 35 [(0, .ref 154), (1, .int x), (2, .int y)] [] h) from ⟨pz_154 hP, fun hz => absurd hz (fun w => w hf), fun _ => ?_⟩)
      refine am_goX 2 (show am_sh h 154 = some (11, 0) ∧ pz_S 3 (some .int) am_r205 1 Q 39 [(0, .ref 154), (1, .int x), (2, .int y)] [am_rf (h.2.2.1 154 6)] h from ⟨pz_154 hP, ?_⟩)
      rw [pz_r6 hP]
      refine am_goX 3 (show am_sh h 154 = some (11, 0) ∧ ∃ j n : Nat, am_sh h 158 = some (14, n) ∧ j < n ∧ (h.1 154 7) = nI j ∧ pz_S 3 (some .int) am_r205 1 Q 44 [(0, .ref 154), (1, .int x), (2, .int y)] [.long (h.2.1 158 j)] h from ⟨pz_154 hP, a, 1002, pz_158 hP, pz_al hP, hP.2.2.2.1, ?_⟩)
      have kw : pz_S 3 (some .int) am_r205 1 Q 65 [(0, .ref 154), (1, .int x), (2, .int y)] [] h := ?_
      rotate_left
      · refine am_goX 3 (show am_rc h 154 11 ∧ 0 ≤ 8 ∧ h.2.2.2.2 + am_al 197 ≤ 175 ∧ am_call am_cod 1 197 [.ref 154, .int (Int32.ofInt 4)] h (fun vv h' => pz_S 3 (some .int) am_r205 1 Q 70 [(0, .ref 154), (1, .int x), (2, .int y)] (vv.toList ++ []) h') from ⟨pz_rc hP, by decide, pz_lim hP rfl, pz_wrongF hP (by decide) (fun h' q1 q2 q3 => ?_)⟩)
        exact kf h' q1 q2 q3
      refine am_goX 4 (show ((lg_cmp ((h.2.1 158 a)) ((x).toInt64)) < 0 → pz_S 3 (some .int) am_r205 1 Q 65 [(0, .ref 154), (1, .int x), (2, .int y)] [] h) ∧ (¬ ((lg_cmp ((h.2.1 158 a)) ((x).toInt64)) < 0) → pz_S 3 (some .int) am_r205 1 Q 50 [(0, .ref 154), (1, .int x), (2, .int y)] [] h) from ⟨fun hc => ?_, fun hc => ?_⟩)
      · exact kw
      · refine am_goX 2 (show am_sh h 154 = some (11, 0) ∧ pz_S 3 (some .int) am_r205 1 Q 54 [(0, .ref 154), (1, .int x), (2, .int y)] [am_rf (h.2.2.1 154 6)] h from ⟨pz_154 hP, ?_⟩)
        rw [pz_r6 hP]
        refine am_goX 3 (show am_sh h 154 = some (11, 0) ∧ ∃ j n : Nat, am_sh h 158 = some (14, n) ∧ j < n ∧ (h.1 154 7) = nI j ∧ pz_S 3 (some .int) am_r205 1 Q 59 [(0, .ref 154), (1, .int x), (2, .int y)] [.long (h.2.1 158 j)] h from ⟨pz_154 hP, a, 1002, pz_158 hP, pz_al hP, hP.2.2.2.1, ?_⟩)
        refine am_goX 4 (show ((lg_cmp ((h.2.1 158 a)) ((y).toInt64)) ≤ 0 → pz_S 3 (some .int) am_r205 1 Q 70 [(0, .ref 154), (1, .int x), (2, .int y)] [] h) ∧ (¬ ((lg_cmp ((h.2.1 158 a)) ((y).toInt64)) ≤ 0) → pz_S 3 (some .int) am_r205 1 Q 65 [(0, .ref 154), (1, .int x), (2, .int y)] [] h) from ⟨fun hc => ?_, fun hc => ?_⟩)
        · exact kok hf hlt
        · exact kw
    · refine am_goX 3 (show am_rc h 154 11 ∧ 0 ≤ 8 ∧ h.2.2.2.2 + am_al 197 ≤ 175 ∧ am_call am_cod 1 197 [.ref 154, .int (Int32.ofInt 1)] h (fun vv h' => pz_S 3 (some .int) am_r205 1 Q 25 [(0, .ref 154), (1, .int x), (2, .int y)] (vv.toList ++ []) h') from ⟨pz_rc hP, by decide, pz_lim hP rfl, pz_wrongF hP (by decide) (fun h' q1 q2 q3 => ?_)⟩)
      exact am_goX 1 (kf h' q1 q2 q3)
/-- some tokens taken, or a fault -/
def pq (N a c : Nat) (h : am_H) (a' : Nat) (h' : am_H) : Prop := pz_P N a' c h' ∧ ag_fr pz_F h h' ∧ a ≤ a' ∧ (h'.1 154 8 = 0 → h.1 154 8 = 0)
theorem pk_q {a' : Nat} {h' : am_H} (q : pk N a c h a' h') : pq N a c h a' h' := by
  obtain ⟨q1, q2, q3⟩ := q
  refine ⟨q1, q2, ?_, fun z => ?_⟩
  · rcases q3 with z | z <;> omega
  · rcases q3 with w | w
    · exact absurd z w.1
    · exact w.2.1
theorem pq_t {a1 a2 : Nat} {h1 h2 : am_H} (p1 : pq N a c h a1 h1) (p2 : pq N a1 c h1 a2 h2) : pq N a c h a2 h2 := ⟨p2.1, pz_trF p1.2.1 p2.2.1, Nat.le_trans p1.2.2.1 p2.2.2.1, fun z => p1.2.2.2 (p2.2.2.2 z)⟩
theorem pz_tafter {Q : am_Q} {w : Nat} {x y : Int32} (hP : pz_P N a c h) (hw : w < 21) (hQ : ∀ a' h' v, pq N a c h a' h' → Q (some (.int v)) h') : am_call am_cod 4 202 [.ref 154, .int (nI w), .int x, .int y] h Q := by
  refine pz_call (n := 202) (nL := 4) (rt := (some .int)) (rows := am_r202) (d := 3) (by decide +kernel) (by decide +kernel) rfl (by funext pc; rfl) (pz_175 hP) (by exact Nat.le_of_ble_eq_true rfl) ?_
  refine am_goX 3 (show am_rc h 154 11 ∧ 0 ≤ 8 ∧ h.2.2.2.2 + am_al 203 ≤ 175 ∧ am_call am_cod 3 203 [.ref 154, .int (nI w)] h (fun vv h' => pz_S 4 (some .int) am_r202 3 Q 5 [(0, .ref 154), (1, .int (nI w)), (2, .int x), (3, .int y)] (vv.toList ++ []) h') from ⟨pz_rc hP, by decide, pz_lim hP rfl, pz_tword hP hw (fun a1 h1 q1 => ?_)⟩)
  refine am_goX 4 (show am_rc h1 154 11 ∧ 0 ≤ 8 ∧ h1.2.2.2.2 + am_al 205 ≤ 175 ∧ am_call am_cod 3 205 [.ref 154, .int x, .int y] h1 (fun vv h' => pz_S 4 (some .int) am_r202 3 Q 11 [(0, .ref 154), (1, .int (nI w)), (2, .int x), (3, .int y)] (vv.toList ++ []) h') from ⟨pz_rc q1.1, by decide, pz_lim q1.1 rfl, am_call.up (pz_tnum q1.1 (fun a2 h2 v q2 => ?_)) (by decide)⟩)
  exact am_goX 1 (show (∃ ty, (some .int) = some ty ∧ narrow ty (.int (v)) = .int (v)) ∧ h2.2.2.2.2 = 175 ∧ _ from ⟨⟨.int, rfl, rfl⟩, pz_175 q2.1, hQ _ _ _ (pq_t (pk_q q1) (pk_q q2))⟩)
theorem pz_tone {Q : am_Q} {f m : Nat} (hP : pz_P N a c h) (hfm : f + m ≤ 21) (hQ : ∀ a' h' v, pk N a c h a' h' → Q (some (.int v)) h') : am_call am_cod 3 201 [.ref 154, .int (nI f), .int (nI m)] h Q := by
  refine pz_call (n := 201) (nL := 4) (rt := (some .int)) (rows := am_r201) (d := 2) (by decide +kernel) (by decide +kernel) rfl (by funext pc; rfl) (pz_175 hP) (by exact Nat.le_of_ble_eq_true rfl) ?_
  have kf : ∀ h' r, pz_P N a c h' → ag_fr pz_F h h' → ¬ h'.1 154 8 = 0 → pz_S 4 (some .int) am_r201 2 Q 34 [(3, .int r), (0, .ref 154), (1, .int (nI f)), (2, .int (nI m))] [] h' := ?_
  rotate_left
  · intro h' r q1 q2 q3
    refine am_goX 6 (show (Value.ref 154).category = 1 ∧ am_sh h' 154 = some (11, 0) ∧ am_sh h' 154 = some (11, 0) ∧ ((h'.1 154 8) ≤ 0 → pz_S 4 (some .int) am_r201 2 Q 50 [(3, .int r), (0, .ref 154), (1, .int (nI f)), (2, .int (nI m))] [.int (h'.1 154 7), .ref 154] h') ∧ (¬ ((h'.1 154 8) ≤ 0) → pz_S 4 (some .int) am_r201 2 Q 46 [(3, .int r), (0, .ref 154), (1, .int (nI f)), (2, .int (nI m))] [.int (h'.1 154 7), .ref 154] h') from ⟨rfl, pz_154 q1, pz_154 q1, fun hz => absurd hz (fun w => q3 (pz_eq0 q1 w)), fun _ => ?_⟩)
    refine am_goX 4 (show am_sh h' 154 = some (11, 0) ∧ narrow (am_fty 11 7) (.int (((h'.1 154 7) + (Int32.ofInt 0)))) = .int (((h'.1 154 7) + (Int32.ofInt 0))) ∧ fits (am_fty 11 7) (.int (((h'.1 154 7) + (Int32.ofInt 0)))) = true ∧ pz_S 4 (some .int) am_r201 2 Q 55 [(3, .int r), (0, .ref 154), (1, .int (nI f)), (2, .int (nI m))] [] (am_wI h' 154 7 (((h'.1 154 7) + (Int32.ofInt 0)))) from ⟨pz_154 q1, rfl, rfl, ?_⟩)
    rw [pz_same (show h'.1 154 7 = h'.1 154 7 + Int32.ofInt 0 from (Int32.add_zero _).symm)]
    refine am_goX 3 (show am_sh h' 154 = some (11, 0) ∧ ((h'.1 154 8) ≤ 0 → pz_S 4 (some .int) am_r201 2 Q 66 [(3, .int r), (0, .ref 154), (1, .int (nI f)), (2, .int (nI m))] [] h') ∧ (¬ ((h'.1 154 8) ≤ 0) → pz_S 4 (some .int) am_r201 2 Q 62 [(3, .int r), (0, .ref 154), (1, .int (nI f)), (2, .int (nI m))] [] h') from ⟨pz_154 q1, fun hz => absurd hz (fun w => q3 (pz_eq0 q1 w)), fun _ => ?_⟩)
    exact am_goX 3 (show (∃ ty, (some .int) = some ty ∧ narrow ty (.int ((Int32.ofInt 0))) = .int ((Int32.ofInt 0))) ∧ h'.2.2.2.2 = 175 ∧ _ from ⟨⟨.int, rfl, rfl⟩, pz_175 q1, hQ _ _ _ (pk_f q1 q2 q3)⟩)
  have kok : ∀ r, h.1 154 8 = 0 → a < N → pz_S 4 (some .int) am_r201 2 Q 34 [(3, .int r), (0, .ref 154), (1, .int (nI f)), (2, .int (nI m))] [] h := ?_
  rotate_left
  · intro r hf hlt
    have hP1 := pz_at (a' := a + 1) hP (by omega)
    refine am_goX 6 (show (Value.ref 154).category = 1 ∧ am_sh h 154 = some (11, 0) ∧ am_sh h 154 = some (11, 0) ∧ ((h.1 154 8) ≤ 0 → pz_S 4 (some .int) am_r201 2 Q 50 [(3, .int r), (0, .ref 154), (1, .int (nI f)), (2, .int (nI m))] [.int (h.1 154 7), .ref 154] h) ∧ (¬ ((h.1 154 8) ≤ 0) → pz_S 4 (some .int) am_r201 2 Q 46 [(3, .int r), (0, .ref 154), (1, .int (nI f)), (2, .int (nI m))] [.int (h.1 154 7), .ref 154] h) from ⟨rfl, pz_154 hP, pz_154 hP, fun _ => ?_, fun hz => absurd (by rw [hf]; decide) hz⟩)
    refine am_goX 3 (show am_sh h 154 = some (11, 0) ∧ narrow (am_fty 11 7) (.int (((h.1 154 7) + (Int32.ofInt 1)))) = .int (((h.1 154 7) + (Int32.ofInt 1))) ∧ fits (am_fty 11 7) (.int (((h.1 154 7) + (Int32.ofInt 1)))) = true ∧ pz_S 4 (some .int) am_r201 2 Q 55 [(3, .int r), (0, .ref 154), (1, .int (nI f)), (2, .int (nI m))] [] (am_wI h 154 7 (((h.1 154 7) + (Int32.ofInt 1)))) from ⟨pz_154 hP, rfl, rfl, ?_⟩)
    rw [hP.2.2.2.1, xw_i1]
    have hf1 : (am_wI h 154 7 (nI (a + 1))).1 154 8 = 0 := by rw [em_wn h _ (by decide)]; exact hf
    refine am_goX 3 (show am_sh (am_wI h 154 7 (nI (a + 1))) 154 = some (11, 0) ∧ (((am_wI h 154 7 (nI (a + 1))).1 154 8) ≤ 0 → pz_S 4 (some .int) am_r201 2 Q 66 [(3, .int r), (0, .ref 154), (1, .int (nI f)), (2, .int (nI m))] [] (am_wI h 154 7 (nI (a + 1)))) ∧ (¬ (((am_wI h 154 7 (nI (a + 1))).1 154 8) ≤ 0) → pz_S 4 (some .int) am_r201 2 Q 62 [(3, .int r), (0, .ref 154), (1, .int (nI f)), (2, .int (nI m))] [] (am_wI h 154 7 (nI (a + 1)))) from ⟨pz_154 hP1, fun _ => ?_, fun hz => absurd (by rw [hf1]; decide) hz⟩)
    exact am_goX 2 (show (∃ ty, (some .int) = some ty ∧ narrow ty (.int (r)) = .int (r)) ∧ (am_wI h 154 7 (nI (a + 1))).2.2.2.2 = 175 ∧ _ from ⟨⟨.int, rfl, rfl⟩, pz_175 hP1, hQ _ _ _ (pk_a hP hf hlt)⟩)
  refine am_goX 3 (show am_sh h 154 = some (11, 0) ∧ ((h.1 154 8) ≤ 0 → pz_S 4 (some .int) am_r201 2 Q 11 [(0, .ref 154), (1, .int (nI f)), (2, .int (nI m))] [] h) ∧ (¬ ((h.1 154 8) ≤ 0) → pz_S 4 (some .int) am_r201 2 Q 7 [(0, .ref 154), (1, .int (nI f)), (2, .int (nI m))] [] h) from ⟨pz_154 hP, fun hc => ?_, fun hc => ?_⟩)
  · have hf : h.1 154 8 = 0 := pz_eq0 hP hc
    clear hc
    refine am_goX 4 (show am_rc h 154 11 ∧ 0 ≤ 8 ∧ h.2.2.2.2 + am_al 199 ≤ 175 ∧ am_call am_cod 2 199 [.ref 154, .int (nI f), .int (nI m)] h (fun vv h' => pz_S 4 (some .int) am_r201 2 Q 17 [(0, .ref 154), (1, .int (nI f)), (2, .int (nI m))] (vv.toList ++ []) h') from ⟨pz_rc hP, by decide, pz_lim hP rfl, pz_here hP hfm (fun r hr => ?_)⟩)
    refine am_goX 4 (show 3 < 4 ∧ am_sh h 154 = some (11, 0) ∧ (¬ (h.1 154 8) = 0 → pz_S 4 (some .int) am_r201 2 Q 34 [(3, .int r), (0, .ref 154), (1, .int (nI f)), (2, .int (nI m))] [] h) ∧ (¬ ¬ (h.1 154 8) = 0 → pz_S 4 (some .int) am_r201 2 Q 25 [(3, .int r), (0, .ref 154), (1, .int (nI f)), (2, .int (nI m))] [] h) from ⟨by decide, pz_154 hP, fun hz => absurd hz (fun w => w hf), fun _ => ?_⟩)
    refine am_goX 2 (show (0 ≤ r → pz_S 4 (some .int) am_r201 2 Q 34 [(3, .int r), (0, .ref 154), (1, .int (nI f)), (2, .int (nI m))] [] h) ∧ (¬ (0 ≤ r) → pz_S 4 (some .int) am_r201 2 Q 29 [(3, .int r), (0, .ref 154), (1, .int (nI f)), (2, .int (nI m))] [] h) from ⟨fun hc => ?_, fun hc => ?_⟩)
    · refine kok r hf ?_
      rcases hr with z | ⟨k, _, _, z⟩
      · rw [z] at hc
        exact absurd hc (by decide)
      · exact (pz_wd_lt hP z).2
    · refine am_goX 3 (show am_rc h 154 11 ∧ 0 ≤ 8 ∧ h.2.2.2.2 + am_al 197 ≤ 175 ∧ am_call am_cod 2 197 [.ref 154, .int (Int32.ofInt 1)] h (fun vv h' => pz_S 4 (some .int) am_r201 2 Q 34 [(3, .int r), (0, .ref 154), (1, .int (nI f)), (2, .int (nI m))] (vv.toList ++ []) h') from ⟨pz_rc hP, by decide, pz_lim hP rfl, am_call.up (pz_wrongF hP (by decide) (fun h' q1 q2 q3 => ?_)) (by decide)⟩)
      exact kf h' r q1 q2 q3
  · refine am_goX 6 (show 3 < 4 ∧ am_sh h 154 = some (11, 0) ∧ (¬ (h.1 154 8) = 0 → pz_S 4 (some .int) am_r201 2 Q 34 [(3, .int (Int32.ofInt (-1))), (0, .ref 154), (1, .int (nI f)), (2, .int (nI m))] [] h) ∧ (¬ ¬ (h.1 154 8) = 0 → pz_S 4 (some .int) am_r201 2 Q 25 [(3, .int (Int32.ofInt (-1))), (0, .ref 154), (1, .int (nI f)), (2, .int (nI m))] [] h) from ⟨by decide, pz_154 hP, fun _ => ?_, fun hz => absurd (pz_le0 hP hc) hz⟩)
    exact kf h _ hP (ag_fr.refl h) (pz_le0 hP hc)
theorem pz_isn {Q : am_Q} (hP : pz_P N a c h) (h1 : h.1 154 8 = 0 → a < N → Q (some (.int 1)) h) (h0 : Q (some (.int 0)) h) : am_call am_cod 3 198 [.ref 154] h Q := by
  refine pz_call (n := 198) (nL := 1) (rt := (some .boolean)) (rows := am_r198) (d := 2) (by decide +kernel) (by decide +kernel) rfl (by funext pc; rfl) (pz_175 hP) (by exact Nat.le_of_ble_eq_true rfl) ?_
  have k0 : pz_S 1 (some .boolean) am_r198 2 Q 34 [(0, .ref 154)] [] h := ?_
  rotate_left
  · exact am_goX 2 (show (∃ ty, (some .boolean) = some ty ∧ narrow ty (.int ((Int32.ofInt 0))) = .int ((Int32.ofInt 0))) ∧ h.2.2.2.2 = 175 ∧ _ from ⟨⟨.boolean, rfl, rfl⟩, pz_175 hP, h0⟩)
  refine am_goX 3 (show am_sh h 154 = some (11, 0) ∧ (¬ (h.1 154 8) = 0 → pz_S 1 (some .boolean) am_r198 2 Q 34 [(0, .ref 154)] [] h) ∧ (¬ ¬ (h.1 154 8) = 0 → pz_S 1 (some .boolean) am_r198 2 Q 7 [(0, .ref 154)] [] h) from ⟨pz_154 hP, fun hc => ?_, fun hc => ?_⟩)
  · exact k0
  · refine am_goX 2 (show am_sh h 154 = some (11, 0) ∧ pz_S 1 (some .boolean) am_r198 2 Q 11 [(0, .ref 154)] [am_rf (h.2.2.1 154 4)] h from ⟨pz_154 hP, ?_⟩)
    rw [pz_r4 hP]
    refine am_goX 3 (show am_sh h 154 = some (11, 0) ∧ ∃ j n : Nat, am_sh h 156 = some (13, n) ∧ j < n ∧ (h.1 154 7) = nI j ∧ pz_S 1 (some .boolean) am_r198 2 Q 16 [(0, .ref 154)] [.int (h.1 156 j)] h from ⟨pz_154 hP, a, 1002, pz_156 hP, pz_al hP, hP.2.2.2.1, ?_⟩)
    refine am_goX 2 (show (¬ (h.1 156 a) = (Int32.ofInt 1) → pz_S 1 (some .boolean) am_r198 2 Q 34 [(0, .ref 154)] [] h) ∧ (¬ ¬ (h.1 156 a) = (Int32.ofInt 1) → pz_S 1 (some .boolean) am_r198 2 Q 20 [(0, .ref 154)] [] h) from ⟨fun hc => ?_, fun hc => ?_⟩)
    · exact k0
    · have hs : h.1 156 a = 1 := Decidable.not_not.mp hc
      clear hc
      refine am_goX 4 (show am_rc h 154 11 ∧ 0 ≤ 8 ∧ h.2.2.2.2 + am_al 199 ≤ 175 ∧ am_call am_cod 2 199 [.ref 154, .int (Int32.ofInt 0), .int (Int8.ofInt 17).toInt32] h (fun vv h' => pz_S 1 (some .boolean) am_r198 2 Q 27 [(0, .ref 154)] (vv.toList ++ []) h') from ⟨pz_rc hP, by decide, pz_lim hP rfl, pz_here (f := 0) (m := 17) hP (by decide) (fun r hr => ?_)⟩)
      refine am_goX 1 (show (0 ≤ r → pz_S 1 (some .boolean) am_r198 2 Q 34 [(0, .ref 154)] [] h) ∧ (¬ (0 ≤ r) → pz_S 1 (some .boolean) am_r198 2 Q 30 [(0, .ref 154)] [] h) from ⟨fun hc => ?_, fun hc => ?_⟩)
      · exact k0
      · exact am_goX 3 (show (∃ ty, (some .boolean) = some ty ∧ narrow ty (.int ((Int32.ofInt 1))) = .int ((Int32.ofInt 1))) ∧ h.2.2.2.2 = 175 ∧ _ from ⟨⟨.boolean, rfl, rfl⟩, pz_175 hP, h1 (Decidable.not_not.mp ‹_›) (pz_lt hP (by rw [hs]; decide))⟩)
theorem pz_rg (hP : pz_P N a c h) : (0 ≤ (h.1 154 18).toInt ∧ (h.1 154 18).toInt ≤ 11) ∧ (0 ≤ (h.1 154 19).toInt ∧ (h.1 154 19).toInt ≤ 11) := ⟨hP.1.2.1.1 154 (18, 18, 1, 0, 0, 11) (iv_sgm (o := 154) (s := (18, 18, 1, 0, 0, 11)) (by decide +kernel)) 18 (by decide) (by decide) (by decide), hP.1.2.1.1 154 (19, 19, 1, 0, 0, 11) (iv_sgm (o := 154) (s := (19, 19, 1, 0, 0, 11)) (by decide +kernel)) 19 (by decide) (by decide) (by decide)⟩
theorem pz_k11 {k : Nat} {x : Int32} (hx : x.toInt ≤ 11) (hk : k ≤ 11) (hc : ¬ x ≤ nI k) : k < 11 := by
  rw [Int32.le_iff_toInt_le, nI_toInt (by omega)] at hc
  omega
theorem pz_nof (hP : pz_P N a c h) {k : Nat} (hk : k < 11) : (0 ≤ (h.1 165 k).toInt ∧ (h.1 165 k).toInt ≤ 24) ∧ (0 ≤ (h.1 166 k).toInt ∧ (h.1 166 k).toInt ≤ 24) := ⟨hP.1.2.1.1 165 (0, 10, 1, 0, 0, 24) (iv_sgm (o := 165) (s := (0, 10, 1, 0, 0, 24)) (by decide +kernel)) k (Nat.zero_le _) (Nat.le_of_lt_succ hk) (Nat.mod_one _), hP.1.2.1.1 166 (0, 10, 1, 0, 0, 24) (iv_sgm (o := 166) (s := (0, 10, 1, 0, 0, 24)) (by decide +kernel)) k (Nat.zero_le _) (Nat.le_of_lt_succ hk) (Nat.mod_one _)⟩
theorem pz_nml1 {Q : am_Q} (hP : pz_P N a c h) (hQ : ∀ r : Int32, -1 ≤ r.toInt ∧ r.toInt ≤ 24 → Q (some (.int r)) h) : ∀ n k : Nat, k + n = 11 → pz_S 3 (some .int) am_r200 0 Q 2 [(2, .int (nI k)), (0, .ref 154), (1, .int (Int32.ofInt 1))] [] h := by
  intro n
  induction n with
  | zero =>
    intro k hk
    refine am_goX 3 (show ((Int32.ofInt 1) = 0 → pz_S 3 (some .int) am_r200 0 Q 14 [(2, .int (nI k)), (0, .ref 154), (1, .int (Int32.ofInt 1))] [.int (nI k)] h) ∧ (¬ ((Int32.ofInt 1) = 0) → pz_S 3 (some .int) am_r200 0 Q 7 [(2, .int (nI k)), (0, .ref 154), (1, .int (Int32.ofInt 1))] [.int (nI k)] h) from ⟨fun hz => absurd hz (by decide), fun _ => ?_⟩)
    refine am_goX 4 (show am_sh h 154 = some (11, 0) ∧ ((h.1 154 19) ≤ (nI k) → pz_S 3 (some .int) am_r200 0 Q 79 [(2, .int (nI k)), (0, .ref 154), (1, .int (Int32.ofInt 1))] [] h) ∧ (¬ ((h.1 154 19) ≤ (nI k)) → pz_S 3 (some .int) am_r200 0 Q 21 [(2, .int (nI k)), (0, .ref 154), (1, .int (Int32.ofInt 1))] [] h) from ⟨pz_154 hP, fun hc => ?_, fun hc => ?_⟩)
    · exact am_goX 2 (show (∃ ty, (some .int) = some ty ∧ narrow ty (.int ((Int32.ofInt (-1)))) = .int ((Int32.ofInt (-1)))) ∧ h.2.2.2.2 = 175 ∧ _ from ⟨⟨.int, rfl, rfl⟩, pz_175 hP, hQ _ (by decide)⟩)
    · exact absurd (pz_k11 (pz_rg hP).2.2 (by omega) hc) (by omega)
  | succ n ih =>
    intro k hk
    refine am_goX 3 (show ((Int32.ofInt 1) = 0 → pz_S 3 (some .int) am_r200 0 Q 14 [(2, .int (nI k)), (0, .ref 154), (1, .int (Int32.ofInt 1))] [.int (nI k)] h) ∧ (¬ ((Int32.ofInt 1) = 0) → pz_S 3 (some .int) am_r200 0 Q 7 [(2, .int (nI k)), (0, .ref 154), (1, .int (Int32.ofInt 1))] [.int (nI k)] h) from ⟨fun hz => absurd hz (by decide), fun _ => ?_⟩)
    refine am_goX 4 (show am_sh h 154 = some (11, 0) ∧ ((h.1 154 19) ≤ (nI k) → pz_S 3 (some .int) am_r200 0 Q 79 [(2, .int (nI k)), (0, .ref 154), (1, .int (Int32.ofInt 1))] [] h) ∧ (¬ ((h.1 154 19) ≤ (nI k)) → pz_S 3 (some .int) am_r200 0 Q 21 [(2, .int (nI k)), (0, .ref 154), (1, .int (Int32.ofInt 1))] [] h) from ⟨pz_154 hP, fun hc => ?_, fun hc => ?_⟩)
    · exact am_goX 2 (show (∃ ty, (some .int) = some ty ∧ narrow ty (.int ((Int32.ofInt (-1)))) = .int ((Int32.ofInt (-1)))) ∧ h.2.2.2.2 = 175 ∧ _ from ⟨⟨.int, rfl, rfl⟩, pz_175 hP, hQ _ (by decide)⟩)
    · have hk1 : k < 11 := by omega
      refine am_goX 2 (show ((Int32.ofInt 1) = 0 → pz_S 3 (some .int) am_r200 0 Q 34 [(2, .int (nI k)), (0, .ref 154), (1, .int (Int32.ofInt 1))] [] h) ∧ (¬ ((Int32.ofInt 1) = 0) → pz_S 3 (some .int) am_r200 0 Q 25 [(2, .int (nI k)), (0, .ref 154), (1, .int (Int32.ofInt 1))] [] h) from ⟨fun hz => absurd hz (by decide), fun _ => ?_⟩)
      refine am_goX 2 (show am_sh h 154 = some (11, 0) ∧ pz_S 3 (some .int) am_r200 0 Q 29 [(2, .int (nI k)), (0, .ref 154), (1, .int (Int32.ofInt 1))] [am_rf (h.2.2.1 154 15)] h from ⟨pz_154 hP, ?_⟩)
      rw [pz_r15 hP]
      refine am_goX 2 (show ∃ j n : Nat, am_sh h 164 = some (14, n) ∧ j < n ∧ (nI k) = nI j ∧ pz_S 3 (some .int) am_r200 0 Q 31 [(2, .int (nI k)), (0, .ref 154), (1, .int (Int32.ofInt 1))] [.long (h.2.1 164 j)] h from ⟨k, 11, pz_164 hP, hk1, rfl, ?_⟩)
      refine am_goX 3 (show am_sh h 154 = some (11, 0) ∧ pz_S 3 (some .int) am_r200 0 Q 44 [(2, .int (nI k)), (0, .ref 154), (1, .int (Int32.ofInt 1))] [am_rf (h.2.2.1 154 6), .long (h.2.1 164 k)] h from ⟨pz_154 hP, ?_⟩)
      rw [pz_r6 hP]
      refine am_goX 3 (show am_sh h 154 = some (11, 0) ∧ ∃ j n : Nat, am_sh h 158 = some (14, n) ∧ j < n ∧ (h.1 154 7) = nI j ∧ pz_S 3 (some .int) am_r200 0 Q 49 [(2, .int (nI k)), (0, .ref 154), (1, .int (Int32.ofInt 1))] [.long (h.2.1 158 j), .long (h.2.1 164 k)] h from ⟨pz_154 hP, a, 1002, pz_158 hP, pz_al hP, hP.2.2.2.1, ?_⟩)
      clear hc
      refine am_goX 2 (show (¬ (lg_cmp ((h.2.1 164 k)) ((h.2.1 158 a))) = 0 → pz_S 3 (some .int) am_r200 0 Q 73 [(2, .int (nI k)), (0, .ref 154), (1, .int (Int32.ofInt 1))] [] h) ∧ (¬ ¬ (lg_cmp ((h.2.1 164 k)) ((h.2.1 158 a))) = 0 → pz_S 3 (some .int) am_r200 0 Q 53 [(2, .int (nI k)), (0, .ref 154), (1, .int (Int32.ofInt 1))] [] h) from ⟨fun hc => ?_, fun hc => ?_⟩)
      · refine am_goX 2 (show 2 < 3 ∧ pz_S 3 (some .int) am_r200 0 Q 2 [(2, .int ((nI k) + Int32.ofInt 1)), (0, .ref 154), (1, .int (Int32.ofInt 1))] [] h from ⟨by decide, ?_⟩)
        rw [xw_i1]
        exact ih (k + 1) (by omega)
      · refine am_goX 2 (show ((Int32.ofInt 1) = 0 → pz_S 3 (some .int) am_r200 0 Q 66 [(2, .int (nI k)), (0, .ref 154), (1, .int (Int32.ofInt 1))] [] h) ∧ (¬ ((Int32.ofInt 1) = 0) → pz_S 3 (some .int) am_r200 0 Q 57 [(2, .int (nI k)), (0, .ref 154), (1, .int (Int32.ofInt 1))] [] h) from ⟨fun hz => absurd hz (by decide), fun _ => ?_⟩)
        refine am_goX 2 (show am_sh h 154 = some (11, 0) ∧ pz_S 3 (some .int) am_r200 0 Q 61 [(2, .int (nI k)), (0, .ref 154), (1, .int (Int32.ofInt 1))] [am_rf (h.2.2.1 154 17)] h from ⟨pz_154 hP, ?_⟩)
        rw [pz_r17 hP]
        refine am_goX 2 (show ∃ j n : Nat, am_sh h 166 = some (13, n) ∧ j < n ∧ (nI k) = nI j ∧ pz_S 3 (some .int) am_r200 0 Q 63 [(2, .int (nI k)), (0, .ref 154), (1, .int (Int32.ofInt 1))] [.int (h.1 166 j)] h from ⟨k, 11, pz_166 hP, hk1, rfl, ?_⟩)
        exact am_goX 2 (show (∃ ty, (some .int) = some ty ∧ narrow ty (.int ((h.1 166 k))) = .int ((h.1 166 k))) ∧ h.2.2.2.2 = 175 ∧ _ from ⟨⟨.int, rfl, rfl⟩, pz_175 hP, hQ _ ⟨by have := (pz_nof hP hk1).2.1; omega, (pz_nof hP hk1).2.2⟩⟩)
theorem pz_nm1 {Q : am_Q} (hP : pz_P N a c h) (hQ : ∀ r : Int32, -1 ≤ r.toInt ∧ r.toInt ≤ 24 → Q (some (.int r)) h) : am_call am_cod 1 200 [.ref 154, .int (Int32.ofInt 1)] h Q := by
  refine pz_call (n := 200) (nL := 3) (rt := (some .int)) (rows := am_r200) (d := 0) (by decide +kernel) (by decide +kernel) rfl (by funext pc; rfl) (pz_175 hP) (by exact Nat.le_of_ble_eq_true rfl) ?_
  refine am_goX 2 (show 2 < 3 ∧ pz_S 3 (some .int) am_r200 0 Q 2 [(2, .int (Int32.ofInt 0)), (0, .ref 154), (1, .int (Int32.ofInt 1))] [] h from ⟨by decide, ?_⟩)
  exact pz_nml1 hP hQ 11 0 rfl
theorem pz_nml0 {Q : am_Q} (hP : pz_P N a c h) (hQ : ∀ r : Int32, -1 ≤ r.toInt ∧ r.toInt ≤ 24 → Q (some (.int r)) h) : ∀ n k : Nat, k + n = 11 → pz_S 3 (some .int) am_r200 0 Q 2 [(2, .int (nI k)), (0, .ref 154), (1, .int (Int32.ofInt 0))] [] h := by
  intro n
  induction n with
  | zero =>
    intro k hk
    refine am_goX 3 (show ((Int32.ofInt 0) = 0 → pz_S 3 (some .int) am_r200 0 Q 14 [(2, .int (nI k)), (0, .ref 154), (1, .int (Int32.ofInt 0))] [.int (nI k)] h) ∧ (¬ ((Int32.ofInt 0) = 0) → pz_S 3 (some .int) am_r200 0 Q 7 [(2, .int (nI k)), (0, .ref 154), (1, .int (Int32.ofInt 0))] [.int (nI k)] h) from ⟨fun _ => ?_, fun hz => absurd rfl hz⟩)
    refine am_goX 3 (show am_sh h 154 = some (11, 0) ∧ ((h.1 154 18) ≤ (nI k) → pz_S 3 (some .int) am_r200 0 Q 79 [(2, .int (nI k)), (0, .ref 154), (1, .int (Int32.ofInt 0))] [] h) ∧ (¬ ((h.1 154 18) ≤ (nI k)) → pz_S 3 (some .int) am_r200 0 Q 21 [(2, .int (nI k)), (0, .ref 154), (1, .int (Int32.ofInt 0))] [] h) from ⟨pz_154 hP, fun hc => ?_, fun hc => ?_⟩)
    · exact am_goX 2 (show (∃ ty, (some .int) = some ty ∧ narrow ty (.int ((Int32.ofInt (-1)))) = .int ((Int32.ofInt (-1)))) ∧ h.2.2.2.2 = 175 ∧ _ from ⟨⟨.int, rfl, rfl⟩, pz_175 hP, hQ _ (by decide)⟩)
    · exact absurd (pz_k11 (pz_rg hP).1.2 (by omega) hc) (by omega)
  | succ n ih =>
    intro k hk
    refine am_goX 3 (show ((Int32.ofInt 0) = 0 → pz_S 3 (some .int) am_r200 0 Q 14 [(2, .int (nI k)), (0, .ref 154), (1, .int (Int32.ofInt 0))] [.int (nI k)] h) ∧ (¬ ((Int32.ofInt 0) = 0) → pz_S 3 (some .int) am_r200 0 Q 7 [(2, .int (nI k)), (0, .ref 154), (1, .int (Int32.ofInt 0))] [.int (nI k)] h) from ⟨fun _ => ?_, fun hz => absurd rfl hz⟩)
    refine am_goX 3 (show am_sh h 154 = some (11, 0) ∧ ((h.1 154 18) ≤ (nI k) → pz_S 3 (some .int) am_r200 0 Q 79 [(2, .int (nI k)), (0, .ref 154), (1, .int (Int32.ofInt 0))] [] h) ∧ (¬ ((h.1 154 18) ≤ (nI k)) → pz_S 3 (some .int) am_r200 0 Q 21 [(2, .int (nI k)), (0, .ref 154), (1, .int (Int32.ofInt 0))] [] h) from ⟨pz_154 hP, fun hc => ?_, fun hc => ?_⟩)
    · exact am_goX 2 (show (∃ ty, (some .int) = some ty ∧ narrow ty (.int ((Int32.ofInt (-1)))) = .int ((Int32.ofInt (-1)))) ∧ h.2.2.2.2 = 175 ∧ _ from ⟨⟨.int, rfl, rfl⟩, pz_175 hP, hQ _ (by decide)⟩)
    · have hk1 : k < 11 := by omega
      refine am_goX 2 (show ((Int32.ofInt 0) = 0 → pz_S 3 (some .int) am_r200 0 Q 34 [(2, .int (nI k)), (0, .ref 154), (1, .int (Int32.ofInt 0))] [] h) ∧ (¬ ((Int32.ofInt 0) = 0) → pz_S 3 (some .int) am_r200 0 Q 25 [(2, .int (nI k)), (0, .ref 154), (1, .int (Int32.ofInt 0))] [] h) from ⟨fun _ => ?_, fun hz => absurd rfl hz⟩)
      refine am_goX 2 (show am_sh h 154 = some (11, 0) ∧ pz_S 3 (some .int) am_r200 0 Q 38 [(2, .int (nI k)), (0, .ref 154), (1, .int (Int32.ofInt 0))] [am_rf (h.2.2.1 154 14)] h from ⟨pz_154 hP, ?_⟩)
      rw [pz_r14 hP]
      refine am_goX 2 (show ∃ j n : Nat, am_sh h 163 = some (14, n) ∧ j < n ∧ (nI k) = nI j ∧ pz_S 3 (some .int) am_r200 0 Q 40 [(2, .int (nI k)), (0, .ref 154), (1, .int (Int32.ofInt 0))] [.long (h.2.1 163 j)] h from ⟨k, 11, pz_163 hP, hk1, rfl, ?_⟩)
      refine am_goX 2 (show am_sh h 154 = some (11, 0) ∧ pz_S 3 (some .int) am_r200 0 Q 44 [(2, .int (nI k)), (0, .ref 154), (1, .int (Int32.ofInt 0))] [am_rf (h.2.2.1 154 6), .long (h.2.1 163 k)] h from ⟨pz_154 hP, ?_⟩)
      rw [pz_r6 hP]
      refine am_goX 3 (show am_sh h 154 = some (11, 0) ∧ ∃ j n : Nat, am_sh h 158 = some (14, n) ∧ j < n ∧ (h.1 154 7) = nI j ∧ pz_S 3 (some .int) am_r200 0 Q 49 [(2, .int (nI k)), (0, .ref 154), (1, .int (Int32.ofInt 0))] [.long (h.2.1 158 j), .long (h.2.1 163 k)] h from ⟨pz_154 hP, a, 1002, pz_158 hP, pz_al hP, hP.2.2.2.1, ?_⟩)
      clear hc
      refine am_goX 2 (show (¬ (lg_cmp ((h.2.1 163 k)) ((h.2.1 158 a))) = 0 → pz_S 3 (some .int) am_r200 0 Q 73 [(2, .int (nI k)), (0, .ref 154), (1, .int (Int32.ofInt 0))] [] h) ∧ (¬ ¬ (lg_cmp ((h.2.1 163 k)) ((h.2.1 158 a))) = 0 → pz_S 3 (some .int) am_r200 0 Q 53 [(2, .int (nI k)), (0, .ref 154), (1, .int (Int32.ofInt 0))] [] h) from ⟨fun hc => ?_, fun hc => ?_⟩)
      · refine am_goX 2 (show 2 < 3 ∧ pz_S 3 (some .int) am_r200 0 Q 2 [(2, .int ((nI k) + Int32.ofInt 1)), (0, .ref 154), (1, .int (Int32.ofInt 0))] [] h from ⟨by decide, ?_⟩)
        rw [xw_i1]
        exact ih (k + 1) (by omega)
      · refine am_goX 2 (show ((Int32.ofInt 0) = 0 → pz_S 3 (some .int) am_r200 0 Q 66 [(2, .int (nI k)), (0, .ref 154), (1, .int (Int32.ofInt 0))] [] h) ∧ (¬ ((Int32.ofInt 0) = 0) → pz_S 3 (some .int) am_r200 0 Q 57 [(2, .int (nI k)), (0, .ref 154), (1, .int (Int32.ofInt 0))] [] h) from ⟨fun _ => ?_, fun hz => absurd rfl hz⟩)
        refine am_goX 2 (show am_sh h 154 = some (11, 0) ∧ pz_S 3 (some .int) am_r200 0 Q 70 [(2, .int (nI k)), (0, .ref 154), (1, .int (Int32.ofInt 0))] [am_rf (h.2.2.1 154 16)] h from ⟨pz_154 hP, ?_⟩)
        rw [pz_r16 hP]
        refine am_goX 2 (show ∃ j n : Nat, am_sh h 165 = some (13, n) ∧ j < n ∧ (nI k) = nI j ∧ pz_S 3 (some .int) am_r200 0 Q 72 [(2, .int (nI k)), (0, .ref 154), (1, .int (Int32.ofInt 0))] [.int (h.1 165 j)] h from ⟨k, 11, pz_165 hP, hk1, rfl, ?_⟩)
        exact am_goX 1 (show (∃ ty, (some .int) = some ty ∧ narrow ty (.int ((h.1 165 k))) = .int ((h.1 165 k))) ∧ h.2.2.2.2 = 175 ∧ _ from ⟨⟨.int, rfl, rfl⟩, pz_175 hP, hQ _ ⟨by have := (pz_nof hP hk1).1.1; omega, (pz_nof hP hk1).1.2⟩⟩)
theorem pz_nm0 {Q : am_Q} (hP : pz_P N a c h) (hQ : ∀ r : Int32, -1 ≤ r.toInt ∧ r.toInt ≤ 24 → Q (some (.int r)) h) : am_call am_cod 1 200 [.ref 154, .int (Int32.ofInt 0)] h Q := by
  refine pz_call (n := 200) (nL := 3) (rt := (some .int)) (rows := am_r200) (d := 0) (by decide +kernel) (by decide +kernel) rfl (by funext pc; rfl) (pz_175 hP) (by exact Nat.le_of_ble_eq_true rfl) ?_
  refine am_goX 2 (show 2 < 3 ∧ pz_S 3 (some .int) am_r200 0 Q 2 [(2, .int (Int32.ofInt 0)), (0, .ref 154), (1, .int (Int32.ofInt 0))] [] h from ⟨by decide, ?_⟩)
  exact pz_nml0 hP hQ 11 0 rfl
theorem pz_in05 {Q : am_Q} {x : Int32} (hP : pz_P N a c h) (h1 : ∀ k : Nat, k ≤ 5 → x = nI k → Q (some (.int 1)) h) (h0 : Q (some (.int 0)) h) : am_call am_cod 1 207 [.int x, .int (Int32.ofInt 0), .int (Int32.ofInt 5)] h Q := by
  refine pz_call (n := 207) (nL := 3) (rt := (some .boolean)) (rows := am_r207) (d := 0) (by decide +kernel) (by decide +kernel) rfl (by funext pc; rfl) (pz_175 hP) (by exact Nat.le_of_ble_eq_true rfl) ?_
  have k0 : pz_S 3 (some .boolean) am_r207 0 Q 14 [(0, .int x), (1, .int (Int32.ofInt 0)), (2, .int (Int32.ofInt 5))] [] h := ?_
  rotate_left
  · exact am_goX 2 (show (∃ ty, (some .boolean) = some ty ∧ narrow ty (.int ((Int32.ofInt 0))) = .int ((Int32.ofInt 0))) ∧ h.2.2.2.2 = 175 ∧ _ from ⟨⟨.boolean, rfl, rfl⟩, pz_175 hP, h0⟩)
  refine am_goX 3 (show (x < (Int32.ofInt 0) → pz_S 3 (some .boolean) am_r207 0 Q 14 [(0, .int x), (1, .int (Int32.ofInt 0)), (2, .int (Int32.ofInt 5))] [] h) ∧ (¬ (x < (Int32.ofInt 0)) → pz_S 3 (some .boolean) am_r207 0 Q 5 [(0, .int x), (1, .int (Int32.ofInt 0)), (2, .int (Int32.ofInt 5))] [] h) from ⟨fun hc => ?_, fun hc => ?_⟩)
  · exact k0
  · have hx0 : 0 ≤ x.toInt := by
      rw [Int32.lt_iff_toInt_lt] at hc
      have hc : ¬ x.toInt < 0 := hc
      omega
    clear hc
    refine am_goX 3 (show ((Int32.ofInt 5) < x → pz_S 3 (some .boolean) am_r207 0 Q 14 [(0, .int x), (1, .int (Int32.ofInt 0)), (2, .int (Int32.ofInt 5))] [] h) ∧ (¬ ((Int32.ofInt 5) < x) → pz_S 3 (some .boolean) am_r207 0 Q 10 [(0, .int x), (1, .int (Int32.ofInt 0)), (2, .int (Int32.ofInt 5))] [] h) from ⟨fun hc => ?_, fun hc => ?_⟩)
    · exact k0
    · exact am_goX 3 (show (∃ ty, (some .boolean) = some ty ∧ narrow ty (.int ((Int32.ofInt 1))) = .int ((Int32.ofInt 1))) ∧ h.2.2.2.2 = 175 ∧ _ from ⟨⟨.boolean, rfl, rfl⟩, pz_175 hP, (by
      rw [Int32.lt_iff_toInt_lt] at hc
      have hc : ¬ 5 < x.toInt := hc
      refine h1 x.toInt.toNat (by omega) (Int32.toInt_inj.mp ?_)
      rw [nI_toInt (by omega)]
      omega)⟩)
theorem pz_told1 {Q : am_Q} {x b : Int32} (hP : pz_P N a c h) (hQ : ∀ a' h' k, k ≤ 5 → pk N a c h a' h' → Q (some (.int (nI k))) h') : am_call am_cod 4 206 [.ref 154, .int (Int32.ofInt 1), .int x, .int b] h Q := by
  refine pz_call (n := 206) (nL := 5) (rt := (some .int)) (rows := am_r206) (d := 3) (by decide +kernel) (by decide +kernel) rfl (by funext pc; rfl) (pz_175 hP) (by exact Nat.le_of_ble_eq_true rfl) ?_
  have kf : ∀ h' r, pz_P N a c h' → ag_fr pz_F h h' → ¬ h'.1 154 8 = 0 → pz_S 5 (some .int) am_r206 3 Q 86 [(4, .int r), (0, .ref 154), (1, .int (Int32.ofInt 1)), (2, .int x), (3, .int b)] [] h' := ?_
  rotate_left
  · intro h' r q1 q2 q3
    refine am_goX 6 (show (Value.ref 154).category = 1 ∧ am_sh h' 154 = some (11, 0) ∧ am_sh h' 154 = some (11, 0) ∧ ((h'.1 154 8) ≤ 0 → pz_S 5 (some .int) am_r206 3 Q 102 [(4, .int r), (0, .ref 154), (1, .int (Int32.ofInt 1)), (2, .int x), (3, .int b)] [.int (h'.1 154 7), .ref 154] h') ∧ (¬ ((h'.1 154 8) ≤ 0) → pz_S 5 (some .int) am_r206 3 Q 98 [(4, .int r), (0, .ref 154), (1, .int (Int32.ofInt 1)), (2, .int x), (3, .int b)] [.int (h'.1 154 7), .ref 154] h') from ⟨rfl, pz_154 q1, pz_154 q1, fun hz => absurd hz (fun w => q3 (pz_eq0 q1 w)), fun _ => ?_⟩)
    refine am_goX 4 (show am_sh h' 154 = some (11, 0) ∧ narrow (am_fty 11 7) (.int (((h'.1 154 7) + (Int32.ofInt 0)))) = .int (((h'.1 154 7) + (Int32.ofInt 0))) ∧ fits (am_fty 11 7) (.int (((h'.1 154 7) + (Int32.ofInt 0)))) = true ∧ pz_S 5 (some .int) am_r206 3 Q 107 [(4, .int r), (0, .ref 154), (1, .int (Int32.ofInt 1)), (2, .int x), (3, .int b)] [] (am_wI h' 154 7 (((h'.1 154 7) + (Int32.ofInt 0)))) from ⟨pz_154 q1, rfl, rfl, ?_⟩)
    rw [pz_same (show h'.1 154 7 = h'.1 154 7 + Int32.ofInt 0 from (Int32.add_zero _).symm)]
    refine am_goX 3 (show am_sh h' 154 = some (11, 0) ∧ ((h'.1 154 8) ≤ 0 → pz_S 5 (some .int) am_r206 3 Q 118 [(4, .int r), (0, .ref 154), (1, .int (Int32.ofInt 1)), (2, .int x), (3, .int b)] [] h') ∧ (¬ ((h'.1 154 8) ≤ 0) → pz_S 5 (some .int) am_r206 3 Q 114 [(4, .int r), (0, .ref 154), (1, .int (Int32.ofInt 1)), (2, .int x), (3, .int b)] [] h') from ⟨pz_154 q1, fun hz => absurd hz (fun w => q3 (pz_eq0 q1 w)), fun _ => ?_⟩)
    exact am_goX 3 (show (∃ ty, (some .int) = some ty ∧ narrow ty (.int ((Int32.ofInt 0))) = .int ((Int32.ofInt 0))) ∧ h'.2.2.2.2 = 175 ∧ _ from ⟨⟨.int, rfl, rfl⟩, pz_175 q1, hQ _ _ 0 (by decide) (pk_f q1 q2 q3)⟩)
  have kok : ∀ r, h.1 154 8 = 0 → a < N → ∀ k5 : Nat, k5 ≤ 5 → r = nI k5 → pz_S 5 (some .int) am_r206 3 Q 86 [(4, .int r), (0, .ref 154), (1, .int (Int32.ofInt 1)), (2, .int x), (3, .int b)] [] h := ?_
  rotate_left
  · intro r hf hlt k5 hk5 hr5
    have hP1 := pz_at (a' := a + 1) hP (by omega)
    refine am_goX 6 (show (Value.ref 154).category = 1 ∧ am_sh h 154 = some (11, 0) ∧ am_sh h 154 = some (11, 0) ∧ ((h.1 154 8) ≤ 0 → pz_S 5 (some .int) am_r206 3 Q 102 [(4, .int r), (0, .ref 154), (1, .int (Int32.ofInt 1)), (2, .int x), (3, .int b)] [.int (h.1 154 7), .ref 154] h) ∧ (¬ ((h.1 154 8) ≤ 0) → pz_S 5 (some .int) am_r206 3 Q 98 [(4, .int r), (0, .ref 154), (1, .int (Int32.ofInt 1)), (2, .int x), (3, .int b)] [.int (h.1 154 7), .ref 154] h) from ⟨rfl, pz_154 hP, pz_154 hP, fun _ => ?_, fun hz => absurd (by rw [hf]; decide) hz⟩)
    refine am_goX 3 (show am_sh h 154 = some (11, 0) ∧ narrow (am_fty 11 7) (.int (((h.1 154 7) + (Int32.ofInt 1)))) = .int (((h.1 154 7) + (Int32.ofInt 1))) ∧ fits (am_fty 11 7) (.int (((h.1 154 7) + (Int32.ofInt 1)))) = true ∧ pz_S 5 (some .int) am_r206 3 Q 107 [(4, .int r), (0, .ref 154), (1, .int (Int32.ofInt 1)), (2, .int x), (3, .int b)] [] (am_wI h 154 7 (((h.1 154 7) + (Int32.ofInt 1)))) from ⟨pz_154 hP, rfl, rfl, ?_⟩)
    rw [hP.2.2.2.1, xw_i1]
    have hf1 : (am_wI h 154 7 (nI (a + 1))).1 154 8 = 0 := by rw [em_wn h _ (by decide)]; exact hf
    refine am_goX 3 (show am_sh (am_wI h 154 7 (nI (a + 1))) 154 = some (11, 0) ∧ (((am_wI h 154 7 (nI (a + 1))).1 154 8) ≤ 0 → pz_S 5 (some .int) am_r206 3 Q 118 [(4, .int r), (0, .ref 154), (1, .int (Int32.ofInt 1)), (2, .int x), (3, .int b)] [] (am_wI h 154 7 (nI (a + 1)))) ∧ (¬ (((am_wI h 154 7 (nI (a + 1))).1 154 8) ≤ 0) → pz_S 5 (some .int) am_r206 3 Q 114 [(4, .int r), (0, .ref 154), (1, .int (Int32.ofInt 1)), (2, .int x), (3, .int b)] [] (am_wI h 154 7 (nI (a + 1)))) from ⟨pz_154 hP1, fun _ => ?_, fun hz => absurd (by rw [hf1]; decide) hz⟩)
    exact am_goX 2 (show (∃ ty, (some .int) = some ty ∧ narrow ty (.int (r)) = .int (r)) ∧ (am_wI h 154 7 (nI (a + 1))).2.2.2.2 = 175 ∧ _ from ⟨⟨.int, rfl, rfl⟩, pz_175 hP1, (by rw [hr5]; exact hQ _ _ k5 hk5 (pk_a hP hf hlt))⟩)
  have kg : ∀ h', pz_P N a c h' → ag_fr pz_F h h' → ¬ h'.1 154 8 = 0 → pz_S 5 (some .int) am_r206 3 Q 19 [(0, .ref 154), (1, .int (Int32.ofInt 1)), (2, .int x), (3, .int b)] [] h' := ?_
  rotate_left
  · intro h' q1 q2 q3
    refine am_goX 3 (show am_sh h' 154 = some (11, 0) ∧ ((h'.1 154 8) ≤ 0 → pz_S 5 (some .int) am_r206 3 Q 30 [(0, .ref 154), (1, .int (Int32.ofInt 1)), (2, .int x), (3, .int b)] [] h') ∧ (¬ ((h'.1 154 8) ≤ 0) → pz_S 5 (some .int) am_r206 3 Q 26 [(0, .ref 154), (1, .int (Int32.ofInt 1)), (2, .int x), (3, .int b)] [] h') from ⟨pz_154 q1, fun hz => absurd hz (fun w => q3 (pz_eq0 q1 w)), fun _ => ?_⟩)
    refine am_goX 6 (show 4 < 5 ∧ am_sh h' 154 = some (11, 0) ∧ (¬ (h'.1 154 8) = 0 → pz_S 5 (some .int) am_r206 3 Q 64 [(4, .int (Int32.ofInt (-1))), (0, .ref 154), (1, .int (Int32.ofInt 1)), (2, .int x), (3, .int b)] [] h') ∧ (¬ ¬ (h'.1 154 8) = 0 → pz_S 5 (some .int) am_r206 3 Q 46 [(4, .int (Int32.ofInt (-1))), (0, .ref 154), (1, .int (Int32.ofInt 1)), (2, .int x), (3, .int b)] [] h') from ⟨by decide, pz_154 q1, fun _ => ?_, fun hz => absurd q3 hz⟩)
    refine am_goX 3 (show am_sh h' 154 = some (11, 0) ∧ (¬ (h'.1 154 8) = 0 → pz_S 5 (some .int) am_r206 3 Q 86 [(4, .int (Int32.ofInt (-1))), (0, .ref 154), (1, .int (Int32.ofInt 1)), (2, .int x), (3, .int b)] [] h') ∧ (¬ ¬ (h'.1 154 8) = 0 → pz_S 5 (some .int) am_r206 3 Q 71 [(4, .int (Int32.ofInt (-1))), (0, .ref 154), (1, .int (Int32.ofInt 1)), (2, .int x), (3, .int b)] [] h') from ⟨pz_154 q1, fun _ => ?_, fun hz => absurd q3 hz⟩)
    exact kf h' _ q1 q2 q3
  refine am_goX 3 (show am_sh h 154 = some (11, 0) ∧ (¬ (h.1 154 8) = 0 → pz_S 5 (some .int) am_r206 3 Q 19 [(0, .ref 154), (1, .int (Int32.ofInt 1)), (2, .int x), (3, .int b)] [] h) ∧ (¬ ¬ (h.1 154 8) = 0 → pz_S 5 (some .int) am_r206 3 Q 7 [(0, .ref 154), (1, .int (Int32.ofInt 1)), (2, .int x), (3, .int b)] [] h) from ⟨pz_154 hP, fun hc => ?_, fun hc => ?_⟩)
  · exact kg h hP (ag_fr.refl h) hc
  · refine am_goX 2 (show am_rc h 154 11 ∧ 0 ≤ 8 ∧ h.2.2.2.2 + am_al 198 ≤ 175 ∧ am_call am_cod 3 198 [.ref 154] h (fun vv h' => pz_S 5 (some .int) am_r206 3 Q 11 [(0, .ref 154), (1, .int (Int32.ofInt 1)), (2, .int x), (3, .int b)] (vv.toList ++ []) h') from ⟨pz_rc hP, by decide, pz_lim hP rfl, pz_isn hP (fun hf hlt => ?_) ?_⟩)
    · refine am_goX 1 (show (¬ 1 = 0 → pz_S 5 (some .int) am_r206 3 Q 19 [(0, .ref 154), (1, .int (Int32.ofInt 1)), (2, .int x), (3, .int b)] [] h) ∧ (¬ ¬ 1 = 0 → pz_S 5 (some .int) am_r206 3 Q 14 [(0, .ref 154), (1, .int (Int32.ofInt 1)), (2, .int x), (3, .int b)] [] h) from ⟨fun _ => ?_, fun hz => absurd (by decide) hz⟩)
      refine am_goX 3 (show am_sh h 154 = some (11, 0) ∧ ((h.1 154 8) ≤ 0 → pz_S 5 (some .int) am_r206 3 Q 30 [(0, .ref 154), (1, .int (Int32.ofInt 1)), (2, .int x), (3, .int b)] [] h) ∧ (¬ ((h.1 154 8) ≤ 0) → pz_S 5 (some .int) am_r206 3 Q 26 [(0, .ref 154), (1, .int (Int32.ofInt 1)), (2, .int x), (3, .int b)] [] h) from ⟨pz_154 hP, fun _ => ?_, fun hz => absurd (by rw [hf]; decide) hz⟩)
      refine am_goX 3 (show am_rc h 154 11 ∧ 0 ≤ 8 ∧ h.2.2.2.2 + am_al 200 ≤ 175 ∧ am_call am_cod 3 200 [.ref 154, .int (Int32.ofInt 1)] h (fun vv h' => pz_S 5 (some .int) am_r206 3 Q 35 [(0, .ref 154), (1, .int (Int32.ofInt 1)), (2, .int x), (3, .int b)] (vv.toList ++ []) h') from ⟨pz_rc hP, by decide, pz_lim hP rfl, am_call.up (pz_nm1 hP (fun r hr => ?_)) (by decide)⟩)
      refine am_goX 6 (show 4 < 5 ∧ am_sh h 154 = some (11, 0) ∧ (¬ (h.1 154 8) = 0 → pz_S 5 (some .int) am_r206 3 Q 64 [(4, .int (r - x)), (0, .ref 154), (1, .int (Int32.ofInt 1)), (2, .int x), (3, .int b)] [] h) ∧ (¬ ¬ (h.1 154 8) = 0 → pz_S 5 (some .int) am_r206 3 Q 46 [(4, .int (r - x)), (0, .ref 154), (1, .int (Int32.ofInt 1)), (2, .int x), (3, .int b)] [] h) from ⟨by decide, pz_154 hP, fun hz => absurd hz (fun w => w hf), fun _ => ?_⟩)
      generalize r - x = r1
      refine am_goX 4 (show 0 ≤ 8 ∧ h.2.2.2.2 + am_al 207 ≤ 175 ∧ am_call am_cod 3 207 [.int r1, .int (Int32.ofInt 0), .int (Int32.ofInt 5)] h (fun vv h' => pz_S 5 (some .int) am_r206 3 Q 53 [(4, .int r1), (0, .ref 154), (1, .int (Int32.ofInt 1)), (2, .int x), (3, .int b)] (vv.toList ++ []) h') from ⟨by decide, pz_lim hP rfl, am_call.up (pz_in05 hP (fun k5 hk5 hr5 => ?_) ?_) (by decide)⟩)
      · refine am_goX 1 (show (¬ 1 = 0 → pz_S 5 (some .int) am_r206 3 Q 64 [(4, .int r1), (0, .ref 154), (1, .int (Int32.ofInt 1)), (2, .int x), (3, .int b)] [] h) ∧ (¬ ¬ 1 = 0 → pz_S 5 (some .int) am_r206 3 Q 56 [(4, .int r1), (0, .ref 154), (1, .int (Int32.ofInt 1)), (2, .int x), (3, .int b)] [] h) from ⟨fun _ => ?_, fun hz => absurd (by decide) hz⟩)
        refine am_goX 3 (show am_sh h 154 = some (11, 0) ∧ (¬ (h.1 154 8) = 0 → pz_S 5 (some .int) am_r206 3 Q 86 [(4, .int r1), (0, .ref 154), (1, .int (Int32.ofInt 1)), (2, .int x), (3, .int b)] [] h) ∧ (¬ ¬ (h.1 154 8) = 0 → pz_S 5 (some .int) am_r206 3 Q 71 [(4, .int r1), (0, .ref 154), (1, .int (Int32.ofInt 1)), (2, .int x), (3, .int b)] [] h) from ⟨pz_154 hP, fun hz => absurd hz (fun w => w hf), fun _ => ?_⟩)
        refine am_goX 7 (show (¬ ((b >>> (r1 &&& 31)) &&& (Int32.ofInt 1)) = (Int32.ofInt 1) → pz_S 5 (some .int) am_r206 3 Q 86 [(4, .int r1), (0, .ref 154), (1, .int (Int32.ofInt 1)), (2, .int x), (3, .int b)] [] h) ∧ (¬ ¬ ((b >>> (r1 &&& 31)) &&& (Int32.ofInt 1)) = (Int32.ofInt 1) → pz_S 5 (some .int) am_r206 3 Q 81 [(4, .int r1), (0, .ref 154), (1, .int (Int32.ofInt 1)), (2, .int x), (3, .int b)] [] h) from ⟨fun hc => ?_, fun hc => ?_⟩)
        · exact kok r1 hf hlt k5 hk5 hr5
        · refine am_goX 3 (show am_rc h 154 11 ∧ 0 ≤ 8 ∧ h.2.2.2.2 + am_al 197 ≤ 175 ∧ am_call am_cod 3 197 [.ref 154, .int (Int32.ofInt 3)] h (fun vv h' => pz_S 5 (some .int) am_r206 3 Q 86 [(4, .int r1), (0, .ref 154), (1, .int (Int32.ofInt 1)), (2, .int x), (3, .int b)] (vv.toList ++ []) h') from ⟨pz_rc hP, by decide, pz_lim hP rfl, am_call.up (pz_wrongF hP (by decide) (fun h' q1 q2 q3 => ?_)) (by decide)⟩)
          exact kf h' r1 q1 q2 q3
      · refine am_goX 1 (show (¬ 0 = 0 → pz_S 5 (some .int) am_r206 3 Q 64 [(4, .int r1), (0, .ref 154), (1, .int (Int32.ofInt 1)), (2, .int x), (3, .int b)] [] h) ∧ (¬ ¬ 0 = 0 → pz_S 5 (some .int) am_r206 3 Q 56 [(4, .int r1), (0, .ref 154), (1, .int (Int32.ofInt 1)), (2, .int x), (3, .int b)] [] h) from ⟨fun hz => absurd hz (fun w => w rfl), fun _ => ?_⟩)
        refine am_goX 3 (show am_rc h 154 11 ∧ 0 ≤ 8 ∧ h.2.2.2.2 + am_al 197 ≤ 175 ∧ am_call am_cod 3 197 [.ref 154, .int (Int32.ofInt 2)] h (fun vv h' => pz_S 5 (some .int) am_r206 3 Q 61 [(4, .int r1), (0, .ref 154), (1, .int (Int32.ofInt 1)), (2, .int x), (3, .int b)] (vv.toList ++ []) h') from ⟨pz_rc hP, by decide, pz_lim hP rfl, am_call.up (pz_wrongF hP (by decide) (fun h' q1 q2 q3 => ?_)) (by decide)⟩)
        exact am_goX 1 (kf h' r1 q1 q2 q3)
    · refine am_goX 1 (show (¬ 0 = 0 → pz_S 5 (some .int) am_r206 3 Q 19 [(0, .ref 154), (1, .int (Int32.ofInt 1)), (2, .int x), (3, .int b)] [] h) ∧ (¬ ¬ 0 = 0 → pz_S 5 (some .int) am_r206 3 Q 14 [(0, .ref 154), (1, .int (Int32.ofInt 1)), (2, .int x), (3, .int b)] [] h) from ⟨fun hz => absurd hz (fun w => w rfl), fun _ => ?_⟩)
      refine am_goX 3 (show am_rc h 154 11 ∧ 0 ≤ 8 ∧ h.2.2.2.2 + am_al 197 ≤ 175 ∧ am_call am_cod 3 197 [.ref 154, .int (Int32.ofInt 1)] h (fun vv h' => pz_S 5 (some .int) am_r206 3 Q 19 [(0, .ref 154), (1, .int (Int32.ofInt 1)), (2, .int x), (3, .int b)] (vv.toList ++ []) h') from ⟨pz_rc hP, by decide, pz_lim hP rfl, am_call.up (pz_wrongF hP (by decide) (fun h' q1 q2 q3 => ?_)) (by decide)⟩)
      exact kg h' q1 q2 q3
theorem pz_told0 {Q : am_Q} {x b : Int32} (hP : pz_P N a c h) (hQ : ∀ a' h' k, k ≤ 5 → pk N a c h a' h' → Q (some (.int (nI k))) h') : am_call am_cod 4 206 [.ref 154, .int (Int32.ofInt 0), .int x, .int b] h Q := by
  refine pz_call (n := 206) (nL := 5) (rt := (some .int)) (rows := am_r206) (d := 3) (by decide +kernel) (by decide +kernel) rfl (by funext pc; rfl) (pz_175 hP) (by exact Nat.le_of_ble_eq_true rfl) ?_
  have kf : ∀ h' r, pz_P N a c h' → ag_fr pz_F h h' → ¬ h'.1 154 8 = 0 → pz_S 5 (some .int) am_r206 3 Q 86 [(4, .int r), (0, .ref 154), (1, .int (Int32.ofInt 0)), (2, .int x), (3, .int b)] [] h' := ?_
  rotate_left
  · intro h' r q1 q2 q3
    refine am_goX 6 (show (Value.ref 154).category = 1 ∧ am_sh h' 154 = some (11, 0) ∧ am_sh h' 154 = some (11, 0) ∧ ((h'.1 154 8) ≤ 0 → pz_S 5 (some .int) am_r206 3 Q 102 [(4, .int r), (0, .ref 154), (1, .int (Int32.ofInt 0)), (2, .int x), (3, .int b)] [.int (h'.1 154 7), .ref 154] h') ∧ (¬ ((h'.1 154 8) ≤ 0) → pz_S 5 (some .int) am_r206 3 Q 98 [(4, .int r), (0, .ref 154), (1, .int (Int32.ofInt 0)), (2, .int x), (3, .int b)] [.int (h'.1 154 7), .ref 154] h') from ⟨rfl, pz_154 q1, pz_154 q1, fun hz => absurd hz (fun w => q3 (pz_eq0 q1 w)), fun _ => ?_⟩)
    refine am_goX 4 (show am_sh h' 154 = some (11, 0) ∧ narrow (am_fty 11 7) (.int (((h'.1 154 7) + (Int32.ofInt 0)))) = .int (((h'.1 154 7) + (Int32.ofInt 0))) ∧ fits (am_fty 11 7) (.int (((h'.1 154 7) + (Int32.ofInt 0)))) = true ∧ pz_S 5 (some .int) am_r206 3 Q 107 [(4, .int r), (0, .ref 154), (1, .int (Int32.ofInt 0)), (2, .int x), (3, .int b)] [] (am_wI h' 154 7 (((h'.1 154 7) + (Int32.ofInt 0)))) from ⟨pz_154 q1, rfl, rfl, ?_⟩)
    rw [pz_same (show h'.1 154 7 = h'.1 154 7 + Int32.ofInt 0 from (Int32.add_zero _).symm)]
    refine am_goX 3 (show am_sh h' 154 = some (11, 0) ∧ ((h'.1 154 8) ≤ 0 → pz_S 5 (some .int) am_r206 3 Q 118 [(4, .int r), (0, .ref 154), (1, .int (Int32.ofInt 0)), (2, .int x), (3, .int b)] [] h') ∧ (¬ ((h'.1 154 8) ≤ 0) → pz_S 5 (some .int) am_r206 3 Q 114 [(4, .int r), (0, .ref 154), (1, .int (Int32.ofInt 0)), (2, .int x), (3, .int b)] [] h') from ⟨pz_154 q1, fun hz => absurd hz (fun w => q3 (pz_eq0 q1 w)), fun _ => ?_⟩)
    exact am_goX 3 (show (∃ ty, (some .int) = some ty ∧ narrow ty (.int ((Int32.ofInt 0))) = .int ((Int32.ofInt 0))) ∧ h'.2.2.2.2 = 175 ∧ _ from ⟨⟨.int, rfl, rfl⟩, pz_175 q1, hQ _ _ 0 (by decide) (pk_f q1 q2 q3)⟩)
  have kok : ∀ r, h.1 154 8 = 0 → a < N → ∀ k5 : Nat, k5 ≤ 5 → r = nI k5 → pz_S 5 (some .int) am_r206 3 Q 86 [(4, .int r), (0, .ref 154), (1, .int (Int32.ofInt 0)), (2, .int x), (3, .int b)] [] h := ?_
  rotate_left
  · intro r hf hlt k5 hk5 hr5
    have hP1 := pz_at (a' := a + 1) hP (by omega)
    refine am_goX 6 (show (Value.ref 154).category = 1 ∧ am_sh h 154 = some (11, 0) ∧ am_sh h 154 = some (11, 0) ∧ ((h.1 154 8) ≤ 0 → pz_S 5 (some .int) am_r206 3 Q 102 [(4, .int r), (0, .ref 154), (1, .int (Int32.ofInt 0)), (2, .int x), (3, .int b)] [.int (h.1 154 7), .ref 154] h) ∧ (¬ ((h.1 154 8) ≤ 0) → pz_S 5 (some .int) am_r206 3 Q 98 [(4, .int r), (0, .ref 154), (1, .int (Int32.ofInt 0)), (2, .int x), (3, .int b)] [.int (h.1 154 7), .ref 154] h) from ⟨rfl, pz_154 hP, pz_154 hP, fun _ => ?_, fun hz => absurd (by rw [hf]; decide) hz⟩)
    refine am_goX 3 (show am_sh h 154 = some (11, 0) ∧ narrow (am_fty 11 7) (.int (((h.1 154 7) + (Int32.ofInt 1)))) = .int (((h.1 154 7) + (Int32.ofInt 1))) ∧ fits (am_fty 11 7) (.int (((h.1 154 7) + (Int32.ofInt 1)))) = true ∧ pz_S 5 (some .int) am_r206 3 Q 107 [(4, .int r), (0, .ref 154), (1, .int (Int32.ofInt 0)), (2, .int x), (3, .int b)] [] (am_wI h 154 7 (((h.1 154 7) + (Int32.ofInt 1)))) from ⟨pz_154 hP, rfl, rfl, ?_⟩)
    rw [hP.2.2.2.1, xw_i1]
    have hf1 : (am_wI h 154 7 (nI (a + 1))).1 154 8 = 0 := by rw [em_wn h _ (by decide)]; exact hf
    refine am_goX 3 (show am_sh (am_wI h 154 7 (nI (a + 1))) 154 = some (11, 0) ∧ (((am_wI h 154 7 (nI (a + 1))).1 154 8) ≤ 0 → pz_S 5 (some .int) am_r206 3 Q 118 [(4, .int r), (0, .ref 154), (1, .int (Int32.ofInt 0)), (2, .int x), (3, .int b)] [] (am_wI h 154 7 (nI (a + 1)))) ∧ (¬ (((am_wI h 154 7 (nI (a + 1))).1 154 8) ≤ 0) → pz_S 5 (some .int) am_r206 3 Q 114 [(4, .int r), (0, .ref 154), (1, .int (Int32.ofInt 0)), (2, .int x), (3, .int b)] [] (am_wI h 154 7 (nI (a + 1)))) from ⟨pz_154 hP1, fun _ => ?_, fun hz => absurd (by rw [hf1]; decide) hz⟩)
    exact am_goX 2 (show (∃ ty, (some .int) = some ty ∧ narrow ty (.int (r)) = .int (r)) ∧ (am_wI h 154 7 (nI (a + 1))).2.2.2.2 = 175 ∧ _ from ⟨⟨.int, rfl, rfl⟩, pz_175 hP1, (by rw [hr5]; exact hQ _ _ k5 hk5 (pk_a hP hf hlt))⟩)
  have kg : ∀ h', pz_P N a c h' → ag_fr pz_F h h' → ¬ h'.1 154 8 = 0 → pz_S 5 (some .int) am_r206 3 Q 19 [(0, .ref 154), (1, .int (Int32.ofInt 0)), (2, .int x), (3, .int b)] [] h' := ?_
  rotate_left
  · intro h' q1 q2 q3
    refine am_goX 3 (show am_sh h' 154 = some (11, 0) ∧ ((h'.1 154 8) ≤ 0 → pz_S 5 (some .int) am_r206 3 Q 30 [(0, .ref 154), (1, .int (Int32.ofInt 0)), (2, .int x), (3, .int b)] [] h') ∧ (¬ ((h'.1 154 8) ≤ 0) → pz_S 5 (some .int) am_r206 3 Q 26 [(0, .ref 154), (1, .int (Int32.ofInt 0)), (2, .int x), (3, .int b)] [] h') from ⟨pz_154 q1, fun hz => absurd hz (fun w => q3 (pz_eq0 q1 w)), fun _ => ?_⟩)
    refine am_goX 6 (show 4 < 5 ∧ am_sh h' 154 = some (11, 0) ∧ (¬ (h'.1 154 8) = 0 → pz_S 5 (some .int) am_r206 3 Q 64 [(4, .int (Int32.ofInt (-1))), (0, .ref 154), (1, .int (Int32.ofInt 0)), (2, .int x), (3, .int b)] [] h') ∧ (¬ ¬ (h'.1 154 8) = 0 → pz_S 5 (some .int) am_r206 3 Q 46 [(4, .int (Int32.ofInt (-1))), (0, .ref 154), (1, .int (Int32.ofInt 0)), (2, .int x), (3, .int b)] [] h') from ⟨by decide, pz_154 q1, fun _ => ?_, fun hz => absurd q3 hz⟩)
    refine am_goX 3 (show am_sh h' 154 = some (11, 0) ∧ (¬ (h'.1 154 8) = 0 → pz_S 5 (some .int) am_r206 3 Q 86 [(4, .int (Int32.ofInt (-1))), (0, .ref 154), (1, .int (Int32.ofInt 0)), (2, .int x), (3, .int b)] [] h') ∧ (¬ ¬ (h'.1 154 8) = 0 → pz_S 5 (some .int) am_r206 3 Q 71 [(4, .int (Int32.ofInt (-1))), (0, .ref 154), (1, .int (Int32.ofInt 0)), (2, .int x), (3, .int b)] [] h') from ⟨pz_154 q1, fun _ => ?_, fun hz => absurd q3 hz⟩)
    exact kf h' _ q1 q2 q3
  refine am_goX 3 (show am_sh h 154 = some (11, 0) ∧ (¬ (h.1 154 8) = 0 → pz_S 5 (some .int) am_r206 3 Q 19 [(0, .ref 154), (1, .int (Int32.ofInt 0)), (2, .int x), (3, .int b)] [] h) ∧ (¬ ¬ (h.1 154 8) = 0 → pz_S 5 (some .int) am_r206 3 Q 7 [(0, .ref 154), (1, .int (Int32.ofInt 0)), (2, .int x), (3, .int b)] [] h) from ⟨pz_154 hP, fun hc => ?_, fun hc => ?_⟩)
  · exact kg h hP (ag_fr.refl h) hc
  · refine am_goX 2 (show am_rc h 154 11 ∧ 0 ≤ 8 ∧ h.2.2.2.2 + am_al 198 ≤ 175 ∧ am_call am_cod 3 198 [.ref 154] h (fun vv h' => pz_S 5 (some .int) am_r206 3 Q 11 [(0, .ref 154), (1, .int (Int32.ofInt 0)), (2, .int x), (3, .int b)] (vv.toList ++ []) h') from ⟨pz_rc hP, by decide, pz_lim hP rfl, pz_isn hP (fun hf hlt => ?_) ?_⟩)
    · refine am_goX 1 (show (¬ 1 = 0 → pz_S 5 (some .int) am_r206 3 Q 19 [(0, .ref 154), (1, .int (Int32.ofInt 0)), (2, .int x), (3, .int b)] [] h) ∧ (¬ ¬ 1 = 0 → pz_S 5 (some .int) am_r206 3 Q 14 [(0, .ref 154), (1, .int (Int32.ofInt 0)), (2, .int x), (3, .int b)] [] h) from ⟨fun _ => ?_, fun hz => absurd (by decide) hz⟩)
      refine am_goX 3 (show am_sh h 154 = some (11, 0) ∧ ((h.1 154 8) ≤ 0 → pz_S 5 (some .int) am_r206 3 Q 30 [(0, .ref 154), (1, .int (Int32.ofInt 0)), (2, .int x), (3, .int b)] [] h) ∧ (¬ ((h.1 154 8) ≤ 0) → pz_S 5 (some .int) am_r206 3 Q 26 [(0, .ref 154), (1, .int (Int32.ofInt 0)), (2, .int x), (3, .int b)] [] h) from ⟨pz_154 hP, fun _ => ?_, fun hz => absurd (by rw [hf]; decide) hz⟩)
      refine am_goX 3 (show am_rc h 154 11 ∧ 0 ≤ 8 ∧ h.2.2.2.2 + am_al 200 ≤ 175 ∧ am_call am_cod 3 200 [.ref 154, .int (Int32.ofInt 0)] h (fun vv h' => pz_S 5 (some .int) am_r206 3 Q 35 [(0, .ref 154), (1, .int (Int32.ofInt 0)), (2, .int x), (3, .int b)] (vv.toList ++ []) h') from ⟨pz_rc hP, by decide, pz_lim hP rfl, am_call.up (pz_nm0 hP (fun r hr => ?_)) (by decide)⟩)
      refine am_goX 6 (show 4 < 5 ∧ am_sh h 154 = some (11, 0) ∧ (¬ (h.1 154 8) = 0 → pz_S 5 (some .int) am_r206 3 Q 64 [(4, .int (r - x)), (0, .ref 154), (1, .int (Int32.ofInt 0)), (2, .int x), (3, .int b)] [] h) ∧ (¬ ¬ (h.1 154 8) = 0 → pz_S 5 (some .int) am_r206 3 Q 46 [(4, .int (r - x)), (0, .ref 154), (1, .int (Int32.ofInt 0)), (2, .int x), (3, .int b)] [] h) from ⟨by decide, pz_154 hP, fun hz => absurd hz (fun w => w hf), fun _ => ?_⟩)
      generalize r - x = r1
      refine am_goX 4 (show 0 ≤ 8 ∧ h.2.2.2.2 + am_al 207 ≤ 175 ∧ am_call am_cod 3 207 [.int r1, .int (Int32.ofInt 0), .int (Int32.ofInt 5)] h (fun vv h' => pz_S 5 (some .int) am_r206 3 Q 53 [(4, .int r1), (0, .ref 154), (1, .int (Int32.ofInt 0)), (2, .int x), (3, .int b)] (vv.toList ++ []) h') from ⟨by decide, pz_lim hP rfl, am_call.up (pz_in05 hP (fun k5 hk5 hr5 => ?_) ?_) (by decide)⟩)
      · refine am_goX 1 (show (¬ 1 = 0 → pz_S 5 (some .int) am_r206 3 Q 64 [(4, .int r1), (0, .ref 154), (1, .int (Int32.ofInt 0)), (2, .int x), (3, .int b)] [] h) ∧ (¬ ¬ 1 = 0 → pz_S 5 (some .int) am_r206 3 Q 56 [(4, .int r1), (0, .ref 154), (1, .int (Int32.ofInt 0)), (2, .int x), (3, .int b)] [] h) from ⟨fun _ => ?_, fun hz => absurd (by decide) hz⟩)
        refine am_goX 3 (show am_sh h 154 = some (11, 0) ∧ (¬ (h.1 154 8) = 0 → pz_S 5 (some .int) am_r206 3 Q 86 [(4, .int r1), (0, .ref 154), (1, .int (Int32.ofInt 0)), (2, .int x), (3, .int b)] [] h) ∧ (¬ ¬ (h.1 154 8) = 0 → pz_S 5 (some .int) am_r206 3 Q 71 [(4, .int r1), (0, .ref 154), (1, .int (Int32.ofInt 0)), (2, .int x), (3, .int b)] [] h) from ⟨pz_154 hP, fun hz => absurd hz (fun w => w hf), fun _ => ?_⟩)
        refine am_goX 7 (show (¬ ((b >>> (r1 &&& 31)) &&& (Int32.ofInt 1)) = (Int32.ofInt 1) → pz_S 5 (some .int) am_r206 3 Q 86 [(4, .int r1), (0, .ref 154), (1, .int (Int32.ofInt 0)), (2, .int x), (3, .int b)] [] h) ∧ (¬ ¬ ((b >>> (r1 &&& 31)) &&& (Int32.ofInt 1)) = (Int32.ofInt 1) → pz_S 5 (some .int) am_r206 3 Q 81 [(4, .int r1), (0, .ref 154), (1, .int (Int32.ofInt 0)), (2, .int x), (3, .int b)] [] h) from ⟨fun hc => ?_, fun hc => ?_⟩)
        · exact kok r1 hf hlt k5 hk5 hr5
        · refine am_goX 3 (show am_rc h 154 11 ∧ 0 ≤ 8 ∧ h.2.2.2.2 + am_al 197 ≤ 175 ∧ am_call am_cod 3 197 [.ref 154, .int (Int32.ofInt 3)] h (fun vv h' => pz_S 5 (some .int) am_r206 3 Q 86 [(4, .int r1), (0, .ref 154), (1, .int (Int32.ofInt 0)), (2, .int x), (3, .int b)] (vv.toList ++ []) h') from ⟨pz_rc hP, by decide, pz_lim hP rfl, am_call.up (pz_wrongF hP (by decide) (fun h' q1 q2 q3 => ?_)) (by decide)⟩)
          exact kf h' r1 q1 q2 q3
      · refine am_goX 1 (show (¬ 0 = 0 → pz_S 5 (some .int) am_r206 3 Q 64 [(4, .int r1), (0, .ref 154), (1, .int (Int32.ofInt 0)), (2, .int x), (3, .int b)] [] h) ∧ (¬ ¬ 0 = 0 → pz_S 5 (some .int) am_r206 3 Q 56 [(4, .int r1), (0, .ref 154), (1, .int (Int32.ofInt 0)), (2, .int x), (3, .int b)] [] h) from ⟨fun hz => absurd hz (fun w => w rfl), fun _ => ?_⟩)
        refine am_goX 3 (show am_rc h 154 11 ∧ 0 ≤ 8 ∧ h.2.2.2.2 + am_al 197 ≤ 175 ∧ am_call am_cod 3 197 [.ref 154, .int (Int32.ofInt 2)] h (fun vv h' => pz_S 5 (some .int) am_r206 3 Q 61 [(4, .int r1), (0, .ref 154), (1, .int (Int32.ofInt 0)), (2, .int x), (3, .int b)] (vv.toList ++ []) h') from ⟨pz_rc hP, by decide, pz_lim hP rfl, am_call.up (pz_wrongF hP (by decide) (fun h' q1 q2 q3 => ?_)) (by decide)⟩)
        exact am_goX 1 (kf h' r1 q1 q2 q3)
    · refine am_goX 1 (show (¬ 0 = 0 → pz_S 5 (some .int) am_r206 3 Q 19 [(0, .ref 154), (1, .int (Int32.ofInt 0)), (2, .int x), (3, .int b)] [] h) ∧ (¬ ¬ 0 = 0 → pz_S 5 (some .int) am_r206 3 Q 14 [(0, .ref 154), (1, .int (Int32.ofInt 0)), (2, .int x), (3, .int b)] [] h) from ⟨fun hz => absurd hz (fun w => w rfl), fun _ => ?_⟩)
      refine am_goX 3 (show am_rc h 154 11 ∧ 0 ≤ 8 ∧ h.2.2.2.2 + am_al 197 ≤ 175 ∧ am_call am_cod 3 197 [.ref 154, .int (Int32.ofInt 1)] h (fun vv h' => pz_S 5 (some .int) am_r206 3 Q 19 [(0, .ref 154), (1, .int (Int32.ofInt 0)), (2, .int x), (3, .int b)] (vv.toList ++ []) h') from ⟨pz_rc hP, by decide, pz_lim hP rfl, am_call.up (pz_wrongF hP (by decide) (fun h' q1 q2 q3 => ?_)) (by decide)⟩)
      exact kg h' q1 q2 q3
