/-! takePart, AND THE GRAMMAR AS A WHOLE -/
theorem pz_part {D d : Nat} (hd : d ≤ 5) (hD : 2 ≤ D) (hrec : ¬ d = 5 → pz_T D 214 (d + 1) ∧ pz_T D 210 (d + 1)) : pz_T (D + 1) 214 d := by
  intro N a c k h Q hP hca hK hQ
  refine pz_call (n := 214) (nL := 4) (rt := none) (rows := am_r214) (d := D) (by decide +kernel) (by decide +kernel) rfl (by funext pc; rfl) (pz_175 hP) (by exact Nat.le_of_ble_eq_true rfl) ?_
  refine am_goX 3 (show am_sh h 154 = some (11, 0) ∧ ((h.1 154 8) ≤ 0 → pz_S 4 none am_r214 D Q 8 [(0, .ref 154), (1, .int (nI d))] [] h) ∧ (¬ ((h.1 154 8) ≤ 0) → pz_S 4 none am_r214 D Q 7 [(0, .ref 154), (1, .int (nI d))] [] h) from ⟨pz_154 hP, fun hc => ?_, fun hc => ?_⟩)
  rotate_left
  · exact am_goX 1 (show (none : Option FieldType) = none ∧ h.2.2.2.2 = 175 ∧ _ from ⟨rfl, pz_175 hP, hQ a c h hP (ag_fr.refl h) (Nat.le_refl _) (Nat.le_refl _) (Or.inl (pz_le0 hP hc))⟩)
  have hf : h.1 154 8 = 0 := pz_eq0 hP hc
  clear hc
  refine am_goX 2 (show am_sh h 154 = some (11, 0) ∧ pz_S 4 none am_r214 D Q 12 [(0, .ref 154), (1, .int (nI d))] [am_rf (h.2.2.1 154 4)] h from ⟨pz_154 hP, ?_⟩)
  rw [pz_r4 hP]
  refine am_goX 3 (show am_sh h 154 = some (11, 0) ∧ ∃ j n : Nat, am_sh h 156 = some (13, n) ∧ j < n ∧ (h.1 154 7) = nI j ∧ pz_S 4 none am_r214 D Q 17 [(0, .ref 154), (1, .int (nI d))] [.int (h.1 156 j)] h from ⟨pz_154 hP, a, 1002, pz_156 hP, pz_al hP, hP.2.2.2.1, ?_⟩)
  suffices key : ∀ nb : Bool, (nb = true → h.1 156 a = 2) → pz_S 4 none am_r214 D Q 26 [(0, .ref 154), (1, .int (nI d))] [.int (pz_b nb)] h by
    refine am_goX 2 (show (¬ (h.1 156 a) = (Int32.ofInt 2) → pz_S 4 none am_r214 D Q 25 [(0, .ref 154), (1, .int (nI d))] [] h) ∧ (¬ ¬ (h.1 156 a) = (Int32.ofInt 2) → pz_S 4 none am_r214 D Q 21 [(0, .ref 154), (1, .int (nI d))] [] h) from ⟨fun hc => ?_, fun hc => ?_⟩)
    · exact am_goX 1 (key false (fun z => by cases z))
    · exact am_goX 2 (key true (fun _ => Decidable.not_not.mp hc))
  intro nb hnb
  refine am_goX 5 (show 2 < 4 ∧ am_rc h 154 11 ∧ 0 ≤ 8 ∧ h.2.2.2.2 + am_al 199 ≤ 175 ∧ am_call am_cod D 199 [.ref 154, .int (Int8.ofInt 17).toInt32, .int (Int32.ofInt 4)] h (fun vv h' => pz_S 4 none am_r214 D Q 34 [(2, .int (pz_b nb)), (0, .ref 154), (1, .int (nI d))] (vv.toList ++ []) h') from ⟨by decide, pz_rc hP, by decide, pz_lim hP rfl, am_call.up (pz_here (f := 17) (m := 4) hP (by decide) (fun r hr => ?_)) hD⟩)
  refine am_goX 1 (show 3 < 4 ∧ pz_S 4 none am_r214 D Q 35 [(3, .int r), (2, .int (pz_b nb)), (0, .ref 154), (1, .int (nI d))] [] h from ⟨by decide, ?_⟩)
  have kflt : ∀ h', pz_P N a c h' → ag_fr pz_M h h' → ¬ h'.1 154 8 = 0 → pz_S 4 none am_r214 D Q 79 [(3, .int r), (2, .int (pz_b nb)), (0, .ref 154), (1, .int (nI d))] [] h' := ?_
  rotate_left
  · intro h' q1 q2 q3
    refine am_goX 3 (show am_sh h' 154 = some (11, 0) ∧ ((h'.1 154 8) ≤ 0 → pz_S 4 none am_r214 D Q 87 [(3, .int r), (2, .int (pz_b nb)), (0, .ref 154), (1, .int (nI d))] [] h') ∧ (¬ ((h'.1 154 8) ≤ 0) → pz_S 4 none am_r214 D Q 86 [(3, .int r), (2, .int (pz_b nb)), (0, .ref 154), (1, .int (nI d))] [] h') from ⟨pz_154 q1, fun hc => ?_, fun hc => ?_⟩)
    · exact absurd (pz_eq0 q1 hc) q3
    · exact am_goX 1 (show (none : Option FieldType) = none ∧ h'.2.2.2.2 = 175 ∧ _ from ⟨rfl, pz_175 q1, hQ a c h' q1 q2 (Nat.le_refl _) (Nat.le_refl _) (Or.inl q3)⟩)
  have k69 : (nb = true ∨ 0 ≤ r ∨ pz_sg h a (Int8.ofInt 40).toInt32 = true ∨ pz_wd h a 14 = true) → pz_S 4 none am_r214 D Q 69 [(3, .int r), (2, .int (pz_b nb)), (0, .ref 154), (1, .int (nI d))] [] h := ?_
  rotate_left
  · intro hz
    refine am_goX 3 (show (¬ (nI d) = (Int32.ofInt 5) → pz_S 4 none am_r214 D Q 79 [(3, .int r), (2, .int (pz_b nb)), (0, .ref 154), (1, .int (nI d))] [] h) ∧ (¬ ¬ (nI d) = (Int32.ofInt 5) → pz_S 4 none am_r214 D Q 74 [(3, .int r), (2, .int (pz_b nb)), (0, .ref 154), (1, .int (nI d))] [] h) from ⟨fun hc => ?_, fun hc => ?_⟩)
    rotate_left
    · refine am_goX 3 (show am_rc h 154 11 ∧ 0 ≤ 8 ∧ h.2.2.2.2 + am_al 197 ≤ 175 ∧ am_call am_cod D 197 [.ref 154, .int (Int32.ofInt 5)] h (fun vv h' => pz_S 4 none am_r214 D Q 79 [(3, .int r), (2, .int (pz_b nb)), (0, .ref 154), (1, .int (nI d))] (vv.toList ++ []) h') from ⟨pz_rc hP, by decide, pz_lim hP rfl, am_call.up (pz_wrong hP (by decide) (fun h' q1 q2 q3 => ?_)) (Nat.le_trans (by decide) hD)⟩)
      exact kflt h' q1 q2 q3
    have hd5 : ¬ d = 5 := fun z => hc (by rw [z]; rfl)
    clear hc
    obtain ⟨hrp, hrw⟩ := hrec hd5
    refine am_goX 3 (show am_sh h 154 = some (11, 0) ∧ ((h.1 154 8) ≤ 0 → pz_S 4 none am_r214 D Q 87 [(3, .int r), (2, .int (pz_b nb)), (0, .ref 154), (1, .int (nI d))] [] h) ∧ (¬ ((h.1 154 8) ≤ 0) → pz_S 4 none am_r214 D Q 86 [(3, .int r), (2, .int (pz_b nb)), (0, .ref 154), (1, .int (nI d))] [] h) from ⟨pz_154 hP, fun hc => ?_, fun hc => ?_⟩)
    rotate_left
    · exact absurd (by rw [hf]; decide) hc
    clear hc
    refine am_goX 3 (show am_rc h 154 11 ∧ 0 ≤ 8 ∧ h.2.2.2.2 + am_al 204 ≤ 175 ∧ am_call am_cod D 204 [.ref 154, .int (Int8.ofInt 14).toInt32] h (fun vv h' => pz_S 4 none am_r214 D Q 93 [(3, .int r), (2, .int (pz_b nb)), (0, .ref 154), (1, .int (nI d))] (vv.toList ++ []) h') from ⟨pz_rc hP, by decide, pz_lim hP rfl, am_call.up (pz_hword (w := 14) hP (by decide) (fun e => ?_) (fun e => ?_)) hD⟩)
    · refine am_goX 1 (show ((1 : Int32) = 0 → pz_S 4 none am_r214 D Q 112 [(3, .int r), (2, .int (pz_b nb)), (0, .ref 154), (1, .int (nI d))] [] (am_wI h 154 7 (nI (a + 1)))) ∧ (¬ (1 : Int32) = 0 → pz_S 4 none am_r214 D Q 96 [(3, .int r), (2, .int (pz_b nb)), (0, .ref 154), (1, .int (nI d))] [] (am_wI h 154 7 (nI (a + 1)))) from ⟨fun z => absurd z (by decide), fun _ => ?_⟩)
      have hlt := (pz_wd_lt hP e).2
      have hP1 := pz_at (a' := a + 1) hP (by omega)
      refine am_goX 5 (show am_rc (am_wI h 154 7 (nI (a + 1))) 154 11 ∧ 0 ≤ 8 ∧ (am_wI h 154 7 (nI (a + 1))).2.2.2.2 + am_al 214 ≤ 175 ∧ am_call am_cod D 214 [.ref 154, .int ((nI d) + (Int32.ofInt 1))] (am_wI h 154 7 (nI (a + 1))) (fun vv h' => pz_S 4 none am_r214 D Q 103 [(3, .int r), (2, .int (pz_b nb)), (0, .ref 154), (1, .int (nI d))] (vv.toList ++ []) h') from ⟨pz_rc hP1, by decide, pz_lim hP1 rfl, ?_⟩)
      rw [xw_i1]
      refine hrp N (a + 1) c k _ _ hP1 (by omega) (pz_atK hK) (fun a2 c2 h2 q1 q2 q3 q4 q5 => ?_)
      refine am_goX 4 (show am_rc h2 154 11 ∧ 0 ≤ 8 ∧ h2.2.2.2.2 + am_al 216 ≤ 175 ∧ am_call am_cod D 216 [.ref 154, .int (Int32.ofInt 3), .int (Int32.ofInt 0)] h2 (fun vv h' => pz_S 4 none am_r214 D Q 109 [(3, .int r), (2, .int (pz_b nb)), (0, .ref 154), (1, .int (nI d))] (vv.toList ++ []) h') from ⟨pz_rc q1, by decide, pz_lim q1 rfl, am_call.up (pz_emit (k := k + 1) (k' := k + 1) q1 (by omega) q5 (Or.inr (Or.inr (Or.inl ⟨rfl, by omega, rfl⟩))) (fun h3 r1 r2 r3 => ?_)) (Nat.le_trans (by decide) hD)⟩)
      exact am_goX 2 (show (none : Option FieldType) = none ∧ h3.2.2.2.2 = 175 ∧ _ from ⟨rfl, pz_175 r1, hQ a2 (c2 + 1) h3 r1 (pz_tr (pz_tr pz_atf q2) r2) (by omega) (by omega) r3⟩)
    · refine am_goX 1 (show ((0 : Int32) = 0 → pz_S 4 none am_r214 D Q 112 [(3, .int r), (2, .int (pz_b nb)), (0, .ref 154), (1, .int (nI d))] [] h) ∧ (¬ (0 : Int32) = 0 → pz_S 4 none am_r214 D Q 96 [(3, .int r), (2, .int (pz_b nb)), (0, .ref 154), (1, .int (nI d))] [] h) from ⟨fun _ => ?_, fun z => absurd rfl z⟩)
      refine am_goX 3 (show am_rc h 154 11 ∧ 0 ≤ 8 ∧ h.2.2.2.2 + am_al 217 ≤ 175 ∧ am_call am_cod D 217 [.ref 154, .int (Int8.ofInt 40).toInt32] h (fun vv h' => pz_S 4 none am_r214 D Q 118 [(3, .int r), (2, .int (pz_b nb)), (0, .ref 154), (1, .int (nI d))] (vv.toList ++ []) h') from ⟨pz_rc hP, by decide, pz_lim hP rfl, am_call.up (pz_hsign hP (fun e2 => ?_) (fun e2 => ?_)) hD⟩)
      · refine am_goX 1 (show ((1 : Int32) = 0 → pz_S 4 none am_r214 D Q 137 [(3, .int r), (2, .int (pz_b nb)), (0, .ref 154), (1, .int (nI d))] [] (am_wI h 154 7 (nI (a + 1)))) ∧ (¬ (1 : Int32) = 0 → pz_S 4 none am_r214 D Q 121 [(3, .int r), (2, .int (pz_b nb)), (0, .ref 154), (1, .int (nI d))] [] (am_wI h 154 7 (nI (a + 1)))) from ⟨fun z => absurd z (by decide), fun _ => ?_⟩)
        have hlt := (pz_sg_lt hP e2).2
        have hP1 := pz_at (a' := a + 1) hP (by omega)
        refine am_goX 5 (show am_rc (am_wI h 154 7 (nI (a + 1))) 154 11 ∧ 0 ≤ 8 ∧ (am_wI h 154 7 (nI (a + 1))).2.2.2.2 + am_al 210 ≤ 175 ∧ am_call am_cod D 210 [.ref 154, .int ((nI d) + (Int32.ofInt 1))] (am_wI h 154 7 (nI (a + 1))) (fun vv h' => pz_S 4 none am_r214 D Q 128 [(3, .int r), (2, .int (pz_b nb)), (0, .ref 154), (1, .int (nI d))] (vv.toList ++ []) h') from ⟨pz_rc hP1, by decide, pz_lim hP1 rfl, ?_⟩)
        rw [xw_i1]
        refine hrw N (a + 1) c k _ _ hP1 (by omega) (pz_atK hK) (fun a2 c2 h2 q1 q2 q3 q4 q5 => ?_)
        refine am_goX 3 (show am_rc h2 154 11 ∧ 0 ≤ 8 ∧ h2.2.2.2.2 + am_al 218 ≤ 175 ∧ am_call am_cod D 218 [.ref 154, .int (Int8.ofInt 41).toInt32] h2 (fun vv h' => pz_S 4 none am_r214 D Q 134 [(3, .int r), (2, .int (pz_b nb)), (0, .ref 154), (1, .int (nI d))] (vv.toList ++ []) h') from ⟨pz_rc q1, by decide, pz_lim q1 rfl, am_call.up (pz_tsign q1 (fun e3 => ?_) (fun h' r1 r2 r3 => ?_)) hD⟩)
        · have hlt2 := (pz_sg_lt q1 e3).2
          have hP2 := pz_at (a' := a2 + 1) q1 (by omega)
          exact am_goX 2 (show (none : Option FieldType) = none ∧ (am_wI h2 154 7 (nI (a2 + 1))).2.2.2.2 = 175 ∧ _ from ⟨rfl, pz_175 hP2, hQ (a2 + 1) c2 _ hP2 (pz_tr (pz_tr pz_atf q2) pz_atf) (by omega) (by omega) (pz_atK q5)⟩)
        · exact am_goX 2 (show (none : Option FieldType) = none ∧ h'.2.2.2.2 = 175 ∧ _ from ⟨rfl, pz_175 r1, hQ a2 c2 h' r1 (pz_tr (pz_tr pz_atf q2) r2) (by omega) (by omega) (Or.inl r3)⟩)
      · refine am_goX 1 (show ((0 : Int32) = 0 → pz_S 4 none am_r214 D Q 137 [(3, .int r), (2, .int (pz_b nb)), (0, .ref 154), (1, .int (nI d))] [] h) ∧ (¬ (0 : Int32) = 0 → pz_S 4 none am_r214 D Q 121 [(3, .int r), (2, .int (pz_b nb)), (0, .ref 154), (1, .int (nI d))] [] h) from ⟨fun _ => ?_, fun z => absurd rfl z⟩)
        have kq : ∀ (x y : Int32), a < N → ((x = 1 ∧ k + 1 = k + 1) ∨ (x = 2 ∧ (∃ a0 : Nat, a0 < 4 ∧ y = nI a0) ∧ k + 1 = k + 1)) → pz_S 4 none am_r214 D Q 165 [(3, .int r), (2, .int (pz_b nb)), (0, .ref 154), (1, .int (nI d))] [.int y, .int x, .ref 154] h := ?_
        rotate_left
        · intro x y hlt hxy
          refine am_goX 1 (show am_rc h 154 11 ∧ 0 ≤ 8 ∧ h.2.2.2.2 + am_al 216 ≤ 175 ∧ am_call am_cod D 216 [.ref 154, .int x, .int y] h (fun vv h' => pz_S 4 none am_r214 D Q 168 [(3, .int r), (2, .int (pz_b nb)), (0, .ref 154), (1, .int (nI d))] (vv.toList ++ []) h') from ⟨pz_rc hP, by decide, pz_lim hP rfl, am_call.up (pz_emit (k := k) (k' := k + 1) hP hca hK (hxy.imp (fun z => z) (fun z => Or.inl z)) (fun h3 r1 r2 r3 => ?_)) (Nat.le_trans (by decide) hD)⟩)
          refine am_goX 6 (show (Value.ref 154).category = 1 ∧ am_sh h3 154 = some (11, 0) ∧ am_sh h3 154 = some (11, 0) ∧ narrow (am_fty 11 7) (.int (((h3.1 154 7) + (Int32.ofInt 1)))) = .int (((h3.1 154 7) + (Int32.ofInt 1))) ∧ fits (am_fty 11 7) (.int (((h3.1 154 7) + (Int32.ofInt 1)))) = true ∧ pz_S 4 none am_r214 D Q 178 [(3, .int r), (2, .int (pz_b nb)), (0, .ref 154), (1, .int (nI d))] [] (am_wI h3 154 7 (((h3.1 154 7) + (Int32.ofInt 1)))) from ⟨rfl, pz_154 r1, pz_154 r1, rfl, rfl, ?_⟩)
          rw [r1.2.2.2.1, xw_i1]
          have hP2 := pz_at (a' := a + 1) r1 (by omega)
          exact am_goX 1 (show (none : Option FieldType) = none ∧ (am_wI h3 154 7 (nI (a + 1))).2.2.2.2 = 175 ∧ _ from ⟨rfl, pz_175 hP2, hQ (a + 1) (c + 1) _ hP2 (pz_tr r2 pz_atf) (by omega) (by omega) (pz_atK r3)⟩)
        cases hb : nb with
        | true =>
          subst hb
          have hlt : a < N := pz_lt hP (by rw [hnb rfl]; decide)
          refine am_goX 3 (show ((pz_b true) = 0 → pz_S 4 none am_r214 D Q 146 [(3, .int r), (2, .int (pz_b true)), (0, .ref 154), (1, .int (nI d))] [.ref 154] h) ∧ (¬ (pz_b true) = 0 → pz_S 4 none am_r214 D Q 142 [(3, .int r), (2, .int (pz_b true)), (0, .ref 154), (1, .int (nI d))] [.ref 154] h) from ⟨fun z => absurd z (by decide), fun _ => ?_⟩)
          refine am_goX 4 (show ((pz_b true) = 0 → pz_S 4 none am_r214 D Q 164 [(3, .int r), (2, .int (pz_b true)), (0, .ref 154), (1, .int (nI d))] [.int (Int32.ofInt 1), .ref 154] h) ∧ (¬ (pz_b true) = 0 → pz_S 4 none am_r214 D Q 151 [(3, .int r), (2, .int (pz_b true)), (0, .ref 154), (1, .int (nI d))] [.int (Int32.ofInt 1), .ref 154] h) from ⟨fun z => absurd z (by decide), fun _ => ?_⟩)
          refine am_goX 2 (show am_sh h 154 = some (11, 0) ∧ pz_S 4 none am_r214 D Q 155 [(3, .int r), (2, .int (pz_b true)), (0, .ref 154), (1, .int (nI d))] [am_rf (h.2.2.1 154 6), .int (Int32.ofInt 1), .ref 154] h from ⟨pz_154 hP, ?_⟩)
          rw [pz_r6 hP]
          refine am_goX 3 (show am_sh h 154 = some (11, 0) ∧ ∃ j n : Nat, am_sh h 158 = some (14, n) ∧ j < n ∧ (h.1 154 7) = nI j ∧ pz_S 4 none am_r214 D Q 160 [(3, .int r), (2, .int (pz_b true)), (0, .ref 154), (1, .int (nI d))] [.long (h.2.1 158 j), .int (Int32.ofInt 1), .ref 154] h from ⟨pz_154 hP, a, 1002, pz_158 hP, pz_al hP, hP.2.2.2.1, ?_⟩)
          refine am_goX 2 (show pz_S 4 none am_r214 D Q 165 [(3, .int r), (2, .int (pz_b true)), (0, .ref 154), (1, .int (nI d))] [.int ((h.2.1 158 a)).toInt32, .int (Int32.ofInt 1), .ref 154] h from ?_)
          exact kq _ _ hlt (Or.inl ⟨rfl, rfl⟩)
        | false =>
          subst hb
          have hr4 : ∃ k0, k0 < 4 ∧ r = nI k0 ∧ pz_wd h a (17 + k0) = true := by
            rcases hr with z | z
            · rcases hz with w | w | w | w
              · cases w
              · rw [z] at w
                exact absurd w (by decide)
              · rw [e2] at w
                cases w
              · rw [e] at w
                cases w
            · exact z
          obtain ⟨k0, g1, g2, g3⟩ := hr4
          have hlt := (pz_wd_lt hP g3).2
          refine am_goX 3 (show ((pz_b false) = 0 → pz_S 4 none am_r214 D Q 146 [(3, .int r), (2, .int (pz_b false)), (0, .ref 154), (1, .int (nI d))] [.ref 154] h) ∧ (¬ (pz_b false) = 0 → pz_S 4 none am_r214 D Q 142 [(3, .int r), (2, .int (pz_b false)), (0, .ref 154), (1, .int (nI d))] [.ref 154] h) from ⟨fun _ => ?_, fun z => absurd rfl z⟩)
          refine am_goX 3 (show ((pz_b false) = 0 → pz_S 4 none am_r214 D Q 164 [(3, .int r), (2, .int (pz_b false)), (0, .ref 154), (1, .int (nI d))] [.int (Int32.ofInt 2), .ref 154] h) ∧ (¬ (pz_b false) = 0 → pz_S 4 none am_r214 D Q 151 [(3, .int r), (2, .int (pz_b false)), (0, .ref 154), (1, .int (nI d))] [.int (Int32.ofInt 2), .ref 154] h) from ⟨fun _ => ?_, fun z => absurd rfl z⟩)
          refine am_goX 1 (show pz_S 4 none am_r214 D Q 165 [(3, .int r), (2, .int (pz_b false)), (0, .ref 154), (1, .int (nI d))] [.int r, .int (Int32.ofInt 2), .ref 154] h from ?_)
          exact kq _ _ hlt (Or.inr ⟨rfl, ⟨k0, g1, g2⟩, rfl⟩)
  refine am_goX 2 (show (0 ≤ r → pz_S 4 none am_r214 D Q 69 [(3, .int r), (2, .int (pz_b nb)), (0, .ref 154), (1, .int (nI d))] [] h) ∧ (¬ (0 ≤ r) → pz_S 4 none am_r214 D Q 39 [(3, .int r), (2, .int (pz_b nb)), (0, .ref 154), (1, .int (nI d))] [] h) from ⟨fun hc => ?_, fun hc => ?_⟩)
  · exact k69 (Or.inr (Or.inl hc))
  · refine am_goX 2 (show (¬ (pz_b nb) = 0 → pz_S 4 none am_r214 D Q 69 [(3, .int r), (2, .int (pz_b nb)), (0, .ref 154), (1, .int (nI d))] [] h) ∧ (¬ ¬ (pz_b nb) = 0 → pz_S 4 none am_r214 D Q 43 [(3, .int r), (2, .int (pz_b nb)), (0, .ref 154), (1, .int (nI d))] [] h) from ⟨fun hc => ?_, fun hc => ?_⟩)
    · refine k69 (Or.inl ?_)
      cases hb : nb with
      | true => rfl
      | false => rw [hb] at hc; exact absurd rfl hc
    · refine am_goX 3 (show am_rc h 154 11 ∧ 0 ≤ 8 ∧ h.2.2.2.2 + am_al 215 ≤ 175 ∧ am_call am_cod D 215 [.ref 154, .int (Int8.ofInt 40).toInt32] h (fun vv h' => pz_S 4 none am_r214 D Q 49 [(3, .int r), (2, .int (pz_b nb)), (0, .ref 154), (1, .int (nI d))] (vv.toList ++ []) h') from ⟨pz_rc hP, by decide, pz_lim hP rfl, am_call.up (pz_sign hP ?_) (Nat.le_trans (by decide) hD)⟩)
      cases e : pz_sg h a (Int8.ofInt 40).toInt32 with
      | true => exact am_goX 1 (show (¬ pz_b true = 0 → pz_S 4 none am_r214 D Q 69 [(3, .int r), (2, .int (pz_b nb)), (0, .ref 154), (1, .int (nI d))] [] h) ∧ (¬ ¬ pz_b true = 0 → pz_S 4 none am_r214 D Q 52 [(3, .int r), (2, .int (pz_b nb)), (0, .ref 154), (1, .int (nI d))] [] h) from ⟨fun _ => k69 (Or.inr (Or.inr (Or.inl e))), fun z => absurd (by decide) z⟩)
      | false =>
        refine am_goX 1 (show (¬ pz_b false = 0 → pz_S 4 none am_r214 D Q 69 [(3, .int r), (2, .int (pz_b nb)), (0, .ref 154), (1, .int (nI d))] [] h) ∧ (¬ ¬ pz_b false = 0 → pz_S 4 none am_r214 D Q 52 [(3, .int r), (2, .int (pz_b nb)), (0, .ref 154), (1, .int (nI d))] [] h) from ⟨fun z => absurd rfl z, fun _ => ?_⟩)
        refine am_goX 3 (show am_rc h 154 11 ∧ 0 ≤ 8 ∧ h.2.2.2.2 + am_al 195 ≤ 175 ∧ am_call am_cod D 195 [.ref 154, .int (Int8.ofInt 14).toInt32] h (fun vv h' => pz_S 4 none am_r214 D Q 58 [(3, .int r), (2, .int (pz_b nb)), (0, .ref 154), (1, .int (nI d))] (vv.toList ++ []) h') from ⟨pz_rc hP, by decide, pz_lim hP rfl, am_call.up (pz_word (w := 14) hP (by decide) ?_) (Nat.le_trans (by decide) hD)⟩)
        cases e4 : pz_wd h a 14 with
        | true => exact am_goX 1 (show (¬ pz_b true = 0 → pz_S 4 none am_r214 D Q 69 [(3, .int r), (2, .int (pz_b nb)), (0, .ref 154), (1, .int (nI d))] [] h) ∧ (¬ ¬ pz_b true = 0 → pz_S 4 none am_r214 D Q 61 [(3, .int r), (2, .int (pz_b nb)), (0, .ref 154), (1, .int (nI d))] [] h) from ⟨fun _ => k69 (Or.inr (Or.inr (Or.inr e4))), fun z => absurd (by decide) z⟩)
        | false =>
          refine am_goX 1 (show (¬ pz_b false = 0 → pz_S 4 none am_r214 D Q 69 [(3, .int r), (2, .int (pz_b nb)), (0, .ref 154), (1, .int (nI d))] [] h) ∧ (¬ ¬ pz_b false = 0 → pz_S 4 none am_r214 D Q 61 [(3, .int r), (2, .int (pz_b nb)), (0, .ref 154), (1, .int (nI d))] [] h) from ⟨fun z => absurd rfl z, fun _ => ?_⟩)
          refine am_goX 3 (show am_rc h 154 11 ∧ 0 ≤ 8 ∧ h.2.2.2.2 + am_al 197 ≤ 175 ∧ am_call am_cod D 197 [.ref 154, .int (Int32.ofInt 1)] h (fun vv h' => pz_S 4 none am_r214 D Q 66 [(3, .int r), (2, .int (pz_b nb)), (0, .ref 154), (1, .int (nI d))] (vv.toList ++ []) h') from ⟨pz_rc hP, by decide, pz_lim hP rfl, am_call.up (pz_wrong hP (by decide) (fun h' q1 q2 q3 => ?_)) (Nat.le_trans (by decide) hD)⟩)
          exact am_goX 1 (kflt h' q1 q2 q3)
/-- all five, at every depth -/
theorem pz_gram : ∀ n d : Nat, d + n = 5 → pz_T (3 + 5 * n) 214 d ∧ pz_T (7 + 5 * n) 210 d
  | 0, d, hd => by
    have h0 : pz_T 3 214 d := pz_part (by omega) (Nat.le_refl _) (fun z => absurd (by omega) z)
    exact ⟨h0, pz_whole (by decide) (pz_test (by decide) (pz_sums (by decide) (pz_products (by decide) h0)))⟩
  | n + 1, d, hd => by
    obtain ⟨h1, h2⟩ := pz_gram n (d + 1) (by omega)
    have e : 3 + 5 * (n + 1) = 7 + 5 * n + 1 := by omega
    have h1' : pz_T (7 + 5 * n) 214 (d + 1) := fun N a c k h Q q1 q2 q3 q4 => am_call.up (h1 N a c k h Q q1 q2 q3 q4) (by omega)
    have h0 : pz_T (7 + 5 * n + 1) 214 d := pz_part (by omega) (by omega) (fun _ => ⟨h1', h2⟩)
    have h3 := pz_whole (by omega) (pz_test (by omega) (pz_sums (by omega) (pz_products (by omega) h0)))
    have e2 : 7 + 5 * (n + 1) = 7 + 5 * n + 1 + 1 + 1 + 1 + 1 := by omega
    rw [e, e2]
    exact ⟨h0, h3⟩
theorem pz_whole0 : pz_T 32 210 0 := (pz_gram 5 0 rfl).2
