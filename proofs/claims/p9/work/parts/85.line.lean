/-! readOnce AND readLine -/
variable {N a c p e z : Nat} {h h0 : am_H}
/-- as ln, but for the law -/
def ls (N a c : Nat) (h0 : am_H) (p e z : Nat) (h : am_H) : Prop := pz_P N a c h ∧ ag_fr pz_Mc h0 h ∧ h.1 154 8 = 0 ∧ h.1 160 40 = nI p ∧ h.1 160 41 = nI e ∧ h.1 154 19 = nI z
theorem ls_ln (q : ls N a c h0 p e z h) (g : plg c h) : ln N a c h0 p e z h := ⟨q.1, q.2.1, q.2.2.1, q.2.2.2.1, q.2.2.2.2.1, q.2.2.2.2.2, g⟩
theorem ln_ls (q : ln N a c h0 p e z h) : ls N a c h0 p e z h := ⟨q.1, q.2.1, q.2.2.1, q.2.2.2.1, q.2.2.2.2.1, q.2.2.2.2.2.1⟩
theorem ls_w {o k : Nat} {v : Int32} (q : ls N a c h0 p e z h) (hm : ag_atM pz_Mc o k = true) (h1 : ¬ (o = 154 ∧ (k = 7 ∨ k = 8 ∨ k = 13 ∨ k = 19))) (h2 : ¬ (o = 160 ∧ (k = 40 ∨ k = 41))) (hkp : ¬ ag_kp o k) (hv : ∀ s ∈ ag_sg o, ag_seg s k v) : ls N a c h0 p e z (am_wI h o k v) := by
  obtain ⟨q1, q2, q3, q4, q5, q6⟩ := q
  refine ⟨pz_w q1 (by omega) hkp hv, pz_trc q2 (pz_fr hm), ?_, ?_, ?_, ?_⟩
  · rw [em_wn h _ (by omega)]
    exact q3
  · rw [em_wn h _ (by omega)]
    exact q4
  · rw [em_wn h _ (by omega)]
    exact q5
  · rw [em_wn h _ (by omega)]
    exact q6
theorem ls_at {a' : Nat} (q : ls N a c h0 p e z h) (ha : a' ≤ N) : ls N a' c h0 p e z (am_wI h 154 7 (nI a')) := by
  obtain ⟨q1, q2, q3, q4, q5, q6⟩ := q
  refine ⟨pz_at q1 ha, pz_trc q2 (pz_fr rfl), ?_, ?_, ?_, ?_⟩
  · rw [em_wn h _ (by omega)]
    exact q3
  · rw [em_wn h _ (by omega)]
    exact q4
  · rw [em_wn h _ (by omega)]
    exact q5
  · rw [em_wn h _ (by omega)]
    exact q6
theorem pz_Msc {h1 h2 : am_H} (f1 : ag_fr pz_Mc h h1) (f2 : ag_fr pz_M h1 h2) : ag_fr pz_Mc h h2 := f1.trans (by decide +kernel) f2
theorem pz_Mk {h' : am_H} (f : ag_fr pz_M h h') : h'.1 160 40 = h.1 160 40 ∧ h'.1 160 41 = h.1 160 41 ∧ h'.1 160 43 = h.1 160 43 ∧ h'.1 154 19 = h.1 154 19 ∧ h'.1 154 20 = h.1 154 20 := ⟨(f.2 160 40 (by decide)).1, (f.2 160 41 (by decide)).1, (f.2 160 43 (by decide)).1, (f.2 154 19 (by decide)).1, (f.2 154 20 (by decide)).1⟩
theorem ls_M {a' c' : Nat} {h' : am_H} (q : ls N a c h0 p e z h) (hP : pz_P N a' c' h') (f : ag_fr pz_M h h') (hf : h'.1 154 8 = 0) : ls N a' c' h0 p e z h' := by
  obtain ⟨q1, q2, q3, q4, q5, q6⟩ := q
  obtain ⟨f1, f2, f3, f4, f5⟩ := pz_Mk f
  exact ⟨hP, pz_Msc q2 f, hf, f1.trans q4, f2.trans q5, f4.trans q6⟩
theorem pz_sg20 : (ag_sg 154).all (fun s => !(Nat.ble s.1 20 && Nat.ble 20 s.2.1)) = true := by decide +kernel
theorem pz_s20 {v : Int32} : ∀ s ∈ ag_sg 154, ag_seg s 20 v := by
  intro s hs k1 k2 _
  have w := List.all_eq_true.mp pz_sg20 s hs
  rw [Nat.ble_eq_true_of_le k1, Nat.ble_eq_true_of_le k2] at w
  cases w
theorem pz_sg43 : (ag_sg 160).all (fun s => !(Nat.ble s.1 43 && Nat.ble 43 s.2.1) || (decide (s.2.2.2.2.1 ≤ 0) && decide (1000 ≤ s.2.2.2.2.2))) = true := by decide +kernel
theorem pz_ronce {Q : am_Q} (l : ln N a c h0 p e z h) (hQ : ∀ a' c' h', a ≤ a' → fl N h0 h' ∨ ln N a' c' h0 p e z h' → Q none h') : am_call am_cod 33 208 [.ref 154] h Q := by
  have hP := l.1
  refine pz_call (n := 208) (nL := 2) (rt := none) (rows := am_r208) (d := 32) (by decide +kernel) (by decide +kernel) rfl (by funext pc; rfl) (pz_175 hP) (by exact Nat.le_of_ble_eq_true rfl) ?_
  refine am_goX 4 (show am_rc h 154 11 ∧ 0 ≤ 8 ∧ h.2.2.2.2 + am_al 199 ≤ 175 ∧ am_call am_cod 32 199 [.ref 154, .int (Int8.ofInt 6).toInt32, .int (Int32.ofInt 2)] h (fun vv h' => pz_S 2 none am_r208 32 Q 7 [(0, .ref 154)] (vv.toList ++ []) h') from ⟨pz_rc hP, by decide, pz_lim hP rfl, am_call.up (pz_here (f := 6) (m := 2) hP (by decide) (fun r hr => ?_)) (by decide)⟩)
  have kf : ∀ h', fl N h0 h' → pz_S 2 none am_r208 32 Q 37 [(1, .int r), (0, .ref 154)] [] h' := ?_
  rotate_left
  · intro h' q1
    obtain ⟨⟨a', c', q4⟩, q2, q3⟩ := id q1
    refine am_goX 3 (show am_sh h' 154 = some (11, 0) ∧ ((h'.1 154 8) ≤ 0 → pz_S 2 none am_r208 32 Q 45 [(1, .int r), (0, .ref 154)] [] h') ∧ (¬ ((h'.1 154 8) ≤ 0) → pz_S 2 none am_r208 32 Q 44 [(1, .int r), (0, .ref 154)] [] h') from ⟨pz_154 q4, fun hz => absurd hz (fun w => q3 (pz_eq0 q4 w)), fun _ => ?_⟩)
    exact am_goX 1 (show (none : Option FieldType) = none ∧ h'.2.2.2.2 = 175 ∧ _ from ⟨rfl, pz_175 q4, hQ a c h' (Nat.le_refl _) (Or.inl q1)⟩)
  refine am_goX 3 (show 1 < 2 ∧ (0 ≤ r → pz_S 2 none am_r208 32 Q 20 [(1, .int r), (0, .ref 154)] [] h) ∧ (¬ (0 ≤ r) → pz_S 2 none am_r208 32 Q 12 [(1, .int r), (0, .ref 154)] [] h) from ⟨by decide, fun hc => ?_, fun hc => ?_⟩)
  rotate_left
  · refine am_goX 3 (show am_rc h 154 11 ∧ 0 ≤ 8 ∧ h.2.2.2.2 + am_al 197 ≤ 175 ∧ am_call am_cod 32 197 [.ref 154, .int (Int32.ofInt 1)] h (fun vv h' => pz_S 2 none am_r208 32 Q 17 [(1, .int r), (0, .ref 154)] (vv.toList ++ []) h') from ⟨pz_rc hP, by decide, pz_lim hP rfl, am_call.up (pz_wrongF hP (by decide) (fun h' q1 q2 q3 => ?_)) (by decide)⟩)
    exact am_goX 1 (kf h' ⟨⟨_, _, q1⟩, pz_Fc l.2.1 q2, q3⟩)
  have hrk : ∃ k, k < 2 ∧ r = nI k ∧ pz_wd h a (6 + k) = true := by
    rcases hr with w | w
    · rw [w] at hc
      exact absurd hc (by decide)
    · exact w
  clear hc hr
  obtain ⟨k, hk, hrk, hwd⟩ := hrk
  obtain ⟨hf, hlt⟩ := pz_wd_lt hP hwd
  refine am_goX 8 (show am_sh h 154 = some (11, 0) ∧ (¬ (((h.1 154 20) >>> (r &&& 31)) &&& (Int32.ofInt 1)) = (Int32.ofInt 1) → pz_S 2 none am_r208 32 Q 37 [(1, .int r), (0, .ref 154)] [] h) ∧ (¬ ¬ (((h.1 154 20) >>> (r &&& 31)) &&& (Int32.ofInt 1)) = (Int32.ofInt 1) → pz_S 2 none am_r208 32 Q 32 [(1, .int r), (0, .ref 154)] [] h) from ⟨pz_154 hP, fun hc => ?_, fun hc => ?_⟩)
  rotate_left
  · refine am_goX 3 (show am_rc h 154 11 ∧ 0 ≤ 8 ∧ h.2.2.2.2 + am_al 197 ≤ 175 ∧ am_call am_cod 32 197 [.ref 154, .int (Int32.ofInt 3)] h (fun vv h' => pz_S 2 none am_r208 32 Q 37 [(1, .int r), (0, .ref 154)] (vv.toList ++ []) h') from ⟨pz_rc hP, by decide, pz_lim hP rfl, am_call.up (pz_wrongF hP (by decide) (fun h' q1 q2 q3 => ?_)) (by decide)⟩)
    exact kf h' ⟨⟨_, _, q1⟩, pz_Fc l.2.1 q2, q3⟩
  refine am_goX 3 (show am_sh h 154 = some (11, 0) ∧ ((h.1 154 8) ≤ 0 → pz_S 2 none am_r208 32 Q 45 [(1, .int r), (0, .ref 154)] [] h) ∧ (¬ ((h.1 154 8) ≤ 0) → pz_S 2 none am_r208 32 Q 44 [(1, .int r), (0, .ref 154)] [] h) from ⟨pz_154 hP, fun _ => ?_, fun hz => absurd (by rw [hf]; decide) hz⟩)
  refine am_goX 8 (show (Value.ref 154).category = 1 ∧ am_sh h 154 = some (11, 0) ∧ am_sh h 154 = some (11, 0) ∧ narrow (am_fty 11 20) (.int (((h.1 154 20) ||| ((Int32.ofInt 1) <<< (r &&& 31))))) = .int (((h.1 154 20) ||| ((Int32.ofInt 1) <<< (r &&& 31)))) ∧ fits (am_fty 11 20) (.int (((h.1 154 20) ||| ((Int32.ofInt 1) <<< (r &&& 31))))) = true ∧ pz_S 2 none am_r208 32 Q 57 [(1, .int r), (0, .ref 154)] [] (am_wI h 154 20 (((h.1 154 20) ||| ((Int32.ofInt 1) <<< (r &&& 31))))) from ⟨rfl, pz_154 hP, pz_154 hP, rfl, rfl, ?_⟩)
  have hk2 : k = 0 ∨ k = 1 := by omega
  have s0 := ln_ls l
  rcases l.2.2.2.2.2.2 with ⟨g43, gc, g20⟩ | ⟨g20, gx⟩
  · rcases g20 with g20 | g20
    · rcases hk2 with rfl | rfl
      · rw [g20, hrk, show (0 : Int32) ||| Int32.ofInt 1 <<< (nI 0 &&& 31) = 1 by decide, ← hrk]
        clear hc
        have s1 := ls_w (o := 154) (k := 20) (v := 1) s0 rfl (by decide) (by decide) (by unfold ag_kp; omega) pz_s20
        have l1 := ls_ln s1 (Or.inl ⟨by rw [em_wn h _ (by decide)]; exact g43, gc, Or.inr (em_we h 154 20 1)⟩)
        clear s1
        generalize am_wI h 154 20 1 = h1 at l1 ⊢
        have hP1 := l1.1
        refine am_goX 6 (show (Value.ref 154).category = 1 ∧ am_sh h1 154 = some (11, 0) ∧ am_sh h1 154 = some (11, 0) ∧ narrow (am_fty 11 7) (.int (((h1.1 154 7) + (Int32.ofInt 1)))) = .int (((h1.1 154 7) + (Int32.ofInt 1))) ∧ fits (am_fty 11 7) (.int (((h1.1 154 7) + (Int32.ofInt 1)))) = true ∧ pz_S 2 none am_r208 32 Q 67 [(1, .int r), (0, .ref 154)] [] (am_wI h1 154 7 (((h1.1 154 7) + (Int32.ofInt 1)))) from ⟨rfl, pz_154 hP1, pz_154 hP1, rfl, rfl, ?_⟩)
        rw [hP1.2.2.2.1, xw_i1]
        have l2 := ln_at (a' := a + 1) l1 (by omega)
        generalize am_wI h1 154 7 (nI (a + 1)) = h2 at l2 ⊢
        have hP2 := l2.1
        refine am_goX 2 (show (¬ r = 0 → pz_S 2 none am_r208 32 Q 78 [(1, .int r), (0, .ref 154)] [] h2) ∧ (¬ ¬ r = 0 → pz_S 2 none am_r208 32 Q 71 [(1, .int r), (0, .ref 154)] [] h2) from ⟨fun hz => absurd hz (fun w => w (by rw [hrk]; rfl)), fun _ => ?_⟩)
        refine am_goX 2 (show am_rc h2 154 11 ∧ 0 ≤ 8 ∧ h2.2.2.2.2 + am_al 209 ≤ 175 ∧ am_call am_cod 32 209 [.ref 154] h2 (fun vv h' => pz_S 2 none am_r208 32 Q 75 [(1, .int r), (0, .ref 154)] (vv.toList ++ []) h') from ⟨pz_rc hP2, by decide, pz_lim hP2 rfl, am_call.up (pz_rsnow l2 (fun a3 h3 ha3 hq3 => ?_)) (by decide)⟩)
        rcases hq3 with hq3 | hq3
        · obtain ⟨a9, c9, w1⟩ := hq3.1
          exact am_goX 2 (show (none : Option FieldType) = none ∧ h3.2.2.2.2 = 175 ∧ _ from ⟨rfl, pz_175 w1, hQ a3 c h3 (by omega) (Or.inl hq3)⟩)
        · have w1 := hq3.1
          exact am_goX 2 (show (none : Option FieldType) = none ∧ h3.2.2.2.2 = 175 ∧ _ from ⟨rfl, pz_175 w1, hQ a3 c h3 (by omega) (Or.inr hq3)⟩)
      · rw [g20, hrk, show (0 : Int32) ||| Int32.ofInt 1 <<< (nI 1 &&& 31) = 2 by decide, ← hrk]
        clear hc
        have s1 := ls_w (o := 154) (k := 20) (v := 2) s0 rfl (by decide) (by decide) (by unfold ag_kp; omega) pz_s20
        have e20 : (am_wI h 154 20 2).1 154 20 = 2 := em_we h 154 20 _
        generalize am_wI h 154 20 2 = h1 at s1 e20 ⊢
        have hP1 := s1.1
        refine am_goX 6 (show (Value.ref 154).category = 1 ∧ am_sh h1 154 = some (11, 0) ∧ am_sh h1 154 = some (11, 0) ∧ narrow (am_fty 11 7) (.int (((h1.1 154 7) + (Int32.ofInt 1)))) = .int (((h1.1 154 7) + (Int32.ofInt 1))) ∧ fits (am_fty 11 7) (.int (((h1.1 154 7) + (Int32.ofInt 1)))) = true ∧ pz_S 2 none am_r208 32 Q 67 [(1, .int r), (0, .ref 154)] [] (am_wI h1 154 7 (((h1.1 154 7) + (Int32.ofInt 1)))) from ⟨rfl, pz_154 hP1, pz_154 hP1, rfl, rfl, ?_⟩)
        rw [hP1.2.2.2.1, xw_i1]
        have s2 := ls_at (a' := a + 1) s1 (by omega)
        have f20 : (am_wI h1 154 7 (nI (a + 1))).1 154 20 = 2 := by rw [em_wn h1 _ (by decide)]; exact e20
        generalize am_wI h1 154 7 (nI (a + 1)) = h2 at s2 f20 ⊢
        have hP2 := s2.1
        refine am_goX 2 (show (¬ r = 0 → pz_S 2 none am_r208 32 Q 78 [(1, .int r), (0, .ref 154)] [] h2) ∧ (¬ ¬ r = 0 → pz_S 2 none am_r208 32 Q 71 [(1, .int r), (0, .ref 154)] [] h2) from ⟨fun _ => ?_, fun hz => absurd (by rw [hrk]; decide) hz⟩)
        refine am_goX 2 (show am_sh h2 154 = some (11, 0) ∧ pz_S 2 none am_r208 32 Q 82 [(1, .int r), (0, .ref 154)] [am_rf (h2.2.2.1 154 10)] h2 from ⟨pz_154 hP2, ?_⟩)
        rw [pz_r10 hP2]
        refine am_goX 4 (show am_sh h2 154 = some (11, 0) ∧ ∃ jj nn : Nat, am_so h2 160 = some (13, nn) ∧ jj < nn ∧ (Int8.ofInt 43).toInt32 = nI jj ∧ pz_S 2 none am_r208 32 Q 89 [(1, .int r), (0, .ref 154)] [] (am_wI h2 160 jj ((h2.1 154 13))) from ⟨pz_154 hP2, 43, 80, pz_w160 hP2, by decide, by decide, ?_⟩)
        subst gc
        rw [hP2.2.2.2.2.2.1]
        have s3 := ls_w (o := 160) (k := 43) (v := nI 0) s2 rfl (by decide) (by decide) (by unfold ag_kp; omega) (pz_sgv pz_sg43 (by decide) (by decide))
        have g20 : (am_wI h2 160 43 (nI 0)).1 154 20 = 2 := by rw [em_wn h2 _ (by decide)]; exact f20
        have k43 : (am_wI h2 160 43 (nI 0)).1 160 43 = 0 := em_we h2 160 43 _
        generalize am_wI h2 160 43 (nI 0) = h3 at s3 g20 k43 ⊢
        have hP3 := s3.1
        refine am_goX 3 (show am_rc h3 154 11 ∧ 0 ≤ 8 ∧ h3.2.2.2.2 + am_al 210 ≤ 175 ∧ am_call am_cod 32 210 [.ref 154, .int (Int32.ofInt 0)] h3 (fun vv h' => pz_S 2 none am_r208 32 Q 94 [(1, .int r), (0, .ref 154)] (vv.toList ++ []) h') from ⟨pz_rc hP3, by decide, pz_lim hP3 rfl, pz_whole0 N (a + 1) 0 0 h3 _ hP3 (Nat.zero_le _) (Or.inr (em_none hP3.2.2.2.2.2.1)) (fun a4 c4 h4 q1 q2 q3 q4 q5 => ?_)⟩)
        have hc4 : c4 ≤ 1000 := by
          have := q1.2.2.1
          have := q1.2.2.2.2.1
          omega
        refine am_goX 4 (show am_rc h4 154 11 ∧ 0 ≤ 8 ∧ h4.2.2.2.2 + am_al 216 ≤ 175 ∧ am_call am_cod 32 216 [.ref 154, .int (Int32.ofInt 0), .int (Int32.ofInt 0)] h4 (fun vv h' => pz_S 2 none am_r208 32 Q 100 [(1, .int r), (0, .ref 154)] (vv.toList ++ []) h') from ⟨pz_rc q1, by decide, pz_lim q1 rfl, am_call.up (em_call q1.1 q1.2.2.2.2.2.1 (by omega) ?_) (by decide)⟩)
        have hP5 : pz_P N a4 (c4 + 1) (em_h h4 c4 (Int32.ofInt 0) (Int32.ofInt 0)) := pz_emP q1 hc4
        have f5 : ag_fr pz_M h4 (em_h h4 c4 (Int32.ofInt 0) (Int32.ofInt 0)) := pz_emf hc4
        have h58 : (em_h h4 c4 (Int32.ofInt 0) (Int32.ofInt 0)).1 154 8 = h4.1 154 8 := em_o h4 c4 _ _ (by omega) (by omega) (by omega)
        refine am_goX 1 (show (none : Option FieldType) = none ∧ (em_h h4 c4 (Int32.ofInt 0) (Int32.ofInt 0)).2.2.2.2 = 175 ∧ _ from ⟨rfl, pz_175 hP5, hQ a4 (c4 + 1) _ (by omega) ?_⟩)
        by_cases h48 : h4.1 154 8 = 0
        · right
          have s5 := ls_M s3 hP5 (pz_tr q2 f5) (h58.trans h48)
          refine ls_ln s5 (Or.inr ⟨Or.inl ?_, ?_⟩)
          · rw [(pz_Mk (pz_tr q2 f5)).2.2.2.2]
            exact g20
          · exact em_last (q5.resolve_left (fun w => w h48)) q1.2.2.2.2.2.1 (by omega) (((pz_Mk q2).2.2.1).trans k43)
        · left
          exact ⟨⟨_, _, hP5⟩, pz_Msc s3.2.1 (pz_tr q2 f5), fun w => h48 (h58.symm.trans w)⟩
    · rcases hk2 with rfl | rfl
      · exact absurd (by rw [g20, hrk]; decide) hc
      · rw [g20, hrk, show (1 : Int32) ||| Int32.ofInt 1 <<< (nI 1 &&& 31) = 3 by decide, ← hrk]
        clear hc
        have s1 := ls_w (o := 154) (k := 20) (v := 3) s0 rfl (by decide) (by decide) (by unfold ag_kp; omega) pz_s20
        have e20 : (am_wI h 154 20 3).1 154 20 = 3 := em_we h 154 20 _
        generalize am_wI h 154 20 3 = h1 at s1 e20 ⊢
        have hP1 := s1.1
        refine am_goX 6 (show (Value.ref 154).category = 1 ∧ am_sh h1 154 = some (11, 0) ∧ am_sh h1 154 = some (11, 0) ∧ narrow (am_fty 11 7) (.int (((h1.1 154 7) + (Int32.ofInt 1)))) = .int (((h1.1 154 7) + (Int32.ofInt 1))) ∧ fits (am_fty 11 7) (.int (((h1.1 154 7) + (Int32.ofInt 1)))) = true ∧ pz_S 2 none am_r208 32 Q 67 [(1, .int r), (0, .ref 154)] [] (am_wI h1 154 7 (((h1.1 154 7) + (Int32.ofInt 1)))) from ⟨rfl, pz_154 hP1, pz_154 hP1, rfl, rfl, ?_⟩)
        rw [hP1.2.2.2.1, xw_i1]
        have s2 := ls_at (a' := a + 1) s1 (by omega)
        have f20 : (am_wI h1 154 7 (nI (a + 1))).1 154 20 = 3 := by rw [em_wn h1 _ (by decide)]; exact e20
        generalize am_wI h1 154 7 (nI (a + 1)) = h2 at s2 f20 ⊢
        have hP2 := s2.1
        refine am_goX 2 (show (¬ r = 0 → pz_S 2 none am_r208 32 Q 78 [(1, .int r), (0, .ref 154)] [] h2) ∧ (¬ ¬ r = 0 → pz_S 2 none am_r208 32 Q 71 [(1, .int r), (0, .ref 154)] [] h2) from ⟨fun _ => ?_, fun hz => absurd (by rw [hrk]; decide) hz⟩)
        refine am_goX 2 (show am_sh h2 154 = some (11, 0) ∧ pz_S 2 none am_r208 32 Q 82 [(1, .int r), (0, .ref 154)] [am_rf (h2.2.2.1 154 10)] h2 from ⟨pz_154 hP2, ?_⟩)
        rw [pz_r10 hP2]
        refine am_goX 4 (show am_sh h2 154 = some (11, 0) ∧ ∃ jj nn : Nat, am_so h2 160 = some (13, nn) ∧ jj < nn ∧ (Int8.ofInt 43).toInt32 = nI jj ∧ pz_S 2 none am_r208 32 Q 89 [(1, .int r), (0, .ref 154)] [] (am_wI h2 160 jj ((h2.1 154 13))) from ⟨pz_154 hP2, 43, 80, pz_w160 hP2, by decide, by decide, ?_⟩)
        subst gc
        rw [hP2.2.2.2.2.2.1]
        have s3 := ls_w (o := 160) (k := 43) (v := nI 0) s2 rfl (by decide) (by decide) (by unfold ag_kp; omega) (pz_sgv pz_sg43 (by decide) (by decide))
        have g20 : (am_wI h2 160 43 (nI 0)).1 154 20 = 3 := by rw [em_wn h2 _ (by decide)]; exact f20
        have k43 : (am_wI h2 160 43 (nI 0)).1 160 43 = 0 := em_we h2 160 43 _
        generalize am_wI h2 160 43 (nI 0) = h3 at s3 g20 k43 ⊢
        have hP3 := s3.1
        refine am_goX 3 (show am_rc h3 154 11 ∧ 0 ≤ 8 ∧ h3.2.2.2.2 + am_al 210 ≤ 175 ∧ am_call am_cod 32 210 [.ref 154, .int (Int32.ofInt 0)] h3 (fun vv h' => pz_S 2 none am_r208 32 Q 94 [(1, .int r), (0, .ref 154)] (vv.toList ++ []) h') from ⟨pz_rc hP3, by decide, pz_lim hP3 rfl, pz_whole0 N (a + 1) 0 0 h3 _ hP3 (Nat.zero_le _) (Or.inr (em_none hP3.2.2.2.2.2.1)) (fun a4 c4 h4 q1 q2 q3 q4 q5 => ?_)⟩)
        have hc4 : c4 ≤ 1000 := by
          have := q1.2.2.1
          have := q1.2.2.2.2.1
          omega
        refine am_goX 4 (show am_rc h4 154 11 ∧ 0 ≤ 8 ∧ h4.2.2.2.2 + am_al 216 ≤ 175 ∧ am_call am_cod 32 216 [.ref 154, .int (Int32.ofInt 0), .int (Int32.ofInt 0)] h4 (fun vv h' => pz_S 2 none am_r208 32 Q 100 [(1, .int r), (0, .ref 154)] (vv.toList ++ []) h') from ⟨pz_rc q1, by decide, pz_lim q1 rfl, am_call.up (em_call q1.1 q1.2.2.2.2.2.1 (by omega) ?_) (by decide)⟩)
        have hP5 : pz_P N a4 (c4 + 1) (em_h h4 c4 (Int32.ofInt 0) (Int32.ofInt 0)) := pz_emP q1 hc4
        have f5 : ag_fr pz_M h4 (em_h h4 c4 (Int32.ofInt 0) (Int32.ofInt 0)) := pz_emf hc4
        have h58 : (em_h h4 c4 (Int32.ofInt 0) (Int32.ofInt 0)).1 154 8 = h4.1 154 8 := em_o h4 c4 _ _ (by omega) (by omega) (by omega)
        refine am_goX 1 (show (none : Option FieldType) = none ∧ (em_h h4 c4 (Int32.ofInt 0) (Int32.ofInt 0)).2.2.2.2 = 175 ∧ _ from ⟨rfl, pz_175 hP5, hQ a4 (c4 + 1) _ (by omega) ?_⟩)
        by_cases h48 : h4.1 154 8 = 0
        · right
          have s5 := ls_M s3 hP5 (pz_tr q2 f5) (h58.trans h48)
          refine ls_ln s5 (Or.inr ⟨Or.inr ?_, ?_⟩)
          · rw [(pz_Mk (pz_tr q2 f5)).2.2.2.2]
            exact g20
          · exact em_last (q5.resolve_left (fun w => w h48)) q1.2.2.2.2.2.1 (by omega) (((pz_Mk q2).2.2.1).trans k43)
        · left
          exact ⟨⟨_, _, hP5⟩, pz_Msc s3.2.1 (pz_tr q2 f5), fun w => h48 (h58.symm.trans w)⟩
  · rcases g20 with g20 | g20
    · rcases hk2 with rfl | rfl
      · rw [g20, hrk, show (2 : Int32) ||| Int32.ofInt 1 <<< (nI 0 &&& 31) = 3 by decide, ← hrk]
        clear hc
        have s1 := ls_w (o := 154) (k := 20) (v := 3) s0 rfl (by decide) (by decide) (by unfold ag_kp; omega) pz_s20
        have gx1 : xf_P 1 0 (am_wI h 154 20 3) := by
          refine xf_keep (fun s hs j j1 j2 => em_wn h _ (fun w => ?_)) gx
          have hs : s ∈ ([(161, 1100, 2199), (162, 1100, 2199), (154, 13, 13), (160, 43, 43)] : ag_M) := hs
          simp only [List.mem_cons, List.not_mem_nil, or_false] at hs
          rcases hs with rfl | rfl | rfl | rfl
          · exact absurd w.1 (by decide)
          · exact absurd w.1 (by decide)
          · have j2 : j ≤ 13 := j2
            omega
          · exact absurd w.1 (by decide)
        have l1 := ls_ln s1 (Or.inr ⟨Or.inr (em_we h 154 20 3), gx1⟩)
        clear s1
        generalize am_wI h 154 20 3 = h1 at l1 ⊢
        have hP1 := l1.1
        refine am_goX 6 (show (Value.ref 154).category = 1 ∧ am_sh h1 154 = some (11, 0) ∧ am_sh h1 154 = some (11, 0) ∧ narrow (am_fty 11 7) (.int (((h1.1 154 7) + (Int32.ofInt 1)))) = .int (((h1.1 154 7) + (Int32.ofInt 1))) ∧ fits (am_fty 11 7) (.int (((h1.1 154 7) + (Int32.ofInt 1)))) = true ∧ pz_S 2 none am_r208 32 Q 67 [(1, .int r), (0, .ref 154)] [] (am_wI h1 154 7 (((h1.1 154 7) + (Int32.ofInt 1)))) from ⟨rfl, pz_154 hP1, pz_154 hP1, rfl, rfl, ?_⟩)
        rw [hP1.2.2.2.1, xw_i1]
        have l2 := ln_at (a' := a + 1) l1 (by omega)
        generalize am_wI h1 154 7 (nI (a + 1)) = h2 at l2 ⊢
        have hP2 := l2.1
        refine am_goX 2 (show (¬ r = 0 → pz_S 2 none am_r208 32 Q 78 [(1, .int r), (0, .ref 154)] [] h2) ∧ (¬ ¬ r = 0 → pz_S 2 none am_r208 32 Q 71 [(1, .int r), (0, .ref 154)] [] h2) from ⟨fun hz => absurd hz (fun w => w (by rw [hrk]; rfl)), fun _ => ?_⟩)
        refine am_goX 2 (show am_rc h2 154 11 ∧ 0 ≤ 8 ∧ h2.2.2.2.2 + am_al 209 ≤ 175 ∧ am_call am_cod 32 209 [.ref 154] h2 (fun vv h' => pz_S 2 none am_r208 32 Q 75 [(1, .int r), (0, .ref 154)] (vv.toList ++ []) h') from ⟨pz_rc hP2, by decide, pz_lim hP2 rfl, am_call.up (pz_rsnow l2 (fun a3 h3 ha3 hq3 => ?_)) (by decide)⟩)
        rcases hq3 with hq3 | hq3
        · obtain ⟨a9, c9, w1⟩ := hq3.1
          exact am_goX 2 (show (none : Option FieldType) = none ∧ h3.2.2.2.2 = 175 ∧ _ from ⟨rfl, pz_175 w1, hQ a3 c h3 (by omega) (Or.inl hq3)⟩)
        · have w1 := hq3.1
          exact am_goX 2 (show (none : Option FieldType) = none ∧ h3.2.2.2.2 = 175 ∧ _ from ⟨rfl, pz_175 w1, hQ a3 c h3 (by omega) (Or.inr hq3)⟩)
      · exact absurd (by rw [g20, hrk]; decide) hc
    · rcases hk2 with rfl | rfl
      · exact absurd (by rw [g20, hrk]; decide) hc
      · exact absurd (by rw [g20, hrk]; decide) hc
theorem pz_i3 {p : Nat} (hp : p ≤ 6) : (Int8.ofInt 44).toInt32 + Int32.ofInt 3 * nI p = nI (44 + 3 * p) := by
  have : p = 0 ∨ p = 1 ∨ p = 2 ∨ p = 3 ∨ p = 4 ∨ p = 5 ∨ p = 6 := by omega
  rcases this with rfl | rfl | rfl | rfl | rfl | rfl | rfl <;> rfl
theorem pz_i2 {p : Nat} (hp : p ≤ 5) : (Int8.ofInt 62).toInt32 + Int32.ofInt 2 * nI p = nI (62 + 2 * p) := by
  have : p = 0 ∨ p = 1 ∨ p = 2 ∨ p = 3 ∨ p = 4 ∨ p = 5 := by omega
  rcases this with rfl | rfl | rfl | rfl | rfl | rfl <;> rfl
theorem pz_i4 {p : Nat} (hp : p ≤ 5) : (Int8.ofInt 44).toInt32 + Int32.ofInt 3 * nI p + Int32.ofInt 2 = nI (46 + 3 * p) := by
  have : p = 0 ∨ p = 1 ∨ p = 2 ∨ p = 3 ∨ p = 4 ∨ p = 5 := by omega
  rcases this with rfl | rfl | rfl | rfl | rfl | rfl <;> rfl
/-- a fault, or all well -/
def us (N a0 a c : Nat) (h0 : am_H) (p e : Nat) (h : am_H) : Prop := pz_P N a c h ∧ ag_fr pz_Mc h0 h ∧ (¬ h.1 154 8 = 0 ∨ (ln N a c h0 p e (p + e) h ∧ a0 ≤ a))
theorem us_q {a0 a' : Nat} {h' : am_H} (u : us N a0 a c h0 p e h) (q : pq N a c h a' h') : us N a0 a' c h0 p e h' := by
  refine ⟨q.1, pz_Fc u.2.1 q.2.1, ?_⟩
  by_cases hf : h'.1 154 8 = 0
  · right
    rcases u.2.2 with w | ⟨w1, w2⟩
    · exact absurd (q.2.2.2 hf) w
    · exact ⟨(ln_F w1 q).resolve_left (fun w => w.2.2 hf), Nat.le_trans w2 q.2.2.1⟩
  · exact Or.inl hf
theorem us_w {a0 k : Nat} {v : Int32} (u : us N a0 a c h0 p e h) (k1 : 44 ≤ k) (k2 : k ≤ 79) : us N a0 a c h0 p e (am_wI h 160 k v) := by
  refine ⟨pz_w u.1 (by omega) (by unfold ag_kp; omega) (pz_s160 (Or.inr k1)), pz_trc u.2.1 (pz_fr (pz_Mc160 (by omega) k2)), ?_⟩
  rcases u.2.2 with w | ⟨w1, w2⟩
  · left
    rw [em_wn h _ (by omega)]
    exact w
  · exact Or.inr ⟨ln_w w1 (pz_Mc160 (by omega) k2) (by decide) (fun _ => Or.inr k1) (pz_s160 (Or.inr k1)), w2⟩
theorem us_f {a0 : Nat} (u : us N a0 a c h0 p e h) (hf : ¬ h.1 154 8 = 0) : fl N h0 h := ⟨⟨_, _, u.1⟩, u.2.1, hf⟩
/-- what a line leaves behind -/
def lo (N a0 : Nat) (h0 h' : am_H) : Prop := fl N h0 h' ∨ ∃ a' c' p' e', a0 ≤ a' ∧ ln N a' c' h0 p' e' (p' + e') h' ∧ p' ≤ 6 ∧ e' ≤ 5
theorem us_lo {a0 : Nat} (u : us N a0 a c h0 p e h) (hp : p ≤ 6) (he : e ≤ 5) : lo N a0 h0 h := by
  rcases u.2.2 with w | ⟨w1, w2⟩
  · exact Or.inl (us_f u w)
  · exact Or.inr ⟨a, c, p, e, w2, w1, hp, he⟩
theorem pz_rline {Q : am_Q} (l : ln N a c h0 p e (p + e) h) (hp : p ≤ 6) (he : e ≤ 5) (hQ : ∀ h', lo N a h0 h' → Q none h') : am_call am_cod 34 194 [.ref 154] h Q := by
  have hP := l.1
  refine pz_call (n := 194) (nL := 4) (rt := none) (rows := am_r194) (d := 33) (by decide +kernel) (by decide +kernel) rfl (by funext pc; rfl) (pz_175 hP) (by exact Nat.le_of_ble_eq_true rfl) ?_
  refine am_goX 3 (show am_rc h 154 11 ∧ 0 ≤ 8 ∧ h.2.2.2.2 + am_al 195 ≤ 175 ∧ am_call am_cod 33 195 [.ref 154, .int (Int32.ofInt 0)] h (fun vv h' => pz_S 4 none am_r194 33 Q 5 [(0, .ref 154)] (vv.toList ++ []) h') from ⟨pz_rc hP, by decide, pz_lim hP rfl, am_call.up (pz_word (w := 0) hP (by decide) ?_) (by decide)⟩)
  cases w0 : pz_wd h a 0 with
  | true =>
    have hlt := (pz_wd_lt hP w0).2
    refine am_goX 1 (show ((pz_b true) = 0 → pz_S 4 none am_r194 33 Q 71 [(0, .ref 154)] [] h) ∧ (¬ ((pz_b true) = 0) → pz_S 4 none am_r194 33 Q 8 [(0, .ref 154)] [] h) from ⟨fun hz => absurd hz (by decide), fun _ => ?_⟩)
    refine am_goX 4 (show am_sh h 154 = some (11, 0) ∧ pz_S 4 none am_r194 33 Q 15 [(0, .ref 154)] [am_rf (h.2.2.1 154 10), .int (Int32.ofInt 3), .int (Int8.ofInt 44).toInt32] h from ⟨pz_154 hP, ?_⟩)
    rw [pz_r10 hP]
    refine am_goX 2 (show ∃ jj nn : Nat, am_sh h 160 = some (13, nn) ∧ jj < nn ∧ (Int8.ofInt 40).toInt32 = nI jj ∧ pz_S 4 none am_r194 33 Q 18 [(0, .ref 154)] [.int (h.1 160 jj), .int (Int32.ofInt 3), .int (Int8.ofInt 44).toInt32] h from ⟨40, 80, pz_160 hP, by decide, by decide, ?_⟩)
    rw [l.2.2.2.1]
    refine am_goX 3 (show 1 < 4 ∧ pz_S 4 none am_r194 33 Q 21 [(1, .int ((Int8.ofInt 44).toInt32 + ((Int32.ofInt 3) * (nI p)))), (0, .ref 154)] [] h from ⟨by decide, ?_⟩)
    rw [pz_i3 hp]
    refine am_goX 5 (show am_rc h 154 11 ∧ 0 ≤ 8 ∧ h.2.2.2.2 + am_al 196 ≤ 175 ∧ am_call am_cod 33 196 [.ref 154, .int (Int32.ofInt 0), .int (Int8.ofInt 6).toInt32, .int (Int32.ofInt 0)] h (fun vv h' => pz_S 4 none am_r194 33 Q 29 [(1, .int (nI (44 + 3 * p))), (0, .ref 154)] (vv.toList ++ []) h') from ⟨pz_rc hP, by decide, pz_lim hP rfl, am_call.up (pz_rname0 l hp he hlt (fun a1 h1 ha1 hq => ?_)) (by decide)⟩)
    have u1 : ∃ a1 c1, us N a a1 c1 h0 (p + 1) (e) h1 := by
      rcases hq with w | ⟨w, -⟩
      · obtain ⟨⟨a9, c9, w1⟩, w2, w3⟩ := w
        exact ⟨a9, c9, w1, w2, Or.inl w3⟩
      · exact ⟨a1, c, w.1, w.2.1, Or.inr ⟨w, ha1⟩⟩
    have hpe : (p + 1) ≤ 6 ∧ (e) ≤ 5 ∨ fl N h0 h1 := by
      rcases hq with w | ⟨-, w⟩
      · exact Or.inr w
      · exact Or.inl ⟨by omega, by omega⟩
    clear hq
    obtain ⟨a2, c2, u1⟩ := u1
    refine am_goX 4 (show am_rc h1 154 11 ∧ 0 ≤ 8 ∧ h1.2.2.2.2 + am_al 201 ≤ 175 ∧ am_call am_cod 33 201 [.ref 154, .int (Int8.ofInt 10).toInt32, .int (Int32.ofInt 4)] h1 (fun vv h' => pz_S 4 none am_r194 33 Q 36 [(1, .int (nI (44 + 3 * p))), (0, .ref 154)] (vv.toList ++ []) h') from ⟨pz_rc u1.1, by decide, pz_lim u1.1 rfl, am_call.up (pz_tone (f := 10) (m := 4) u1.1 (by decide) (fun a3 h2 v2 q2 => ?_)) (by decide)⟩)
    have u2 := us_q u1 (pk_q q2)
    refine am_goX 6 (show 2 < 4 ∧ am_rc h2 154 11 ∧ 0 ≤ 8 ∧ h2.2.2.2.2 + am_al 202 ≤ 175 ∧ am_call am_cod 33 202 [.ref 154, .int (Int32.ofInt 1), .int (Int32.ofInt 0), .int (Int32.ofInt 4)] h2 (fun vv h' => pz_S 4 none am_r194 33 Q 44 [(2, .int v2), (1, .int (nI (44 + 3 * p))), (0, .ref 154)] (vv.toList ++ []) h') from ⟨by decide, pz_rc u2.1, by decide, pz_lim u2.1 rfl, am_call.up (pz_tafter (w := 1) u2.1 (by decide) (fun a4 h3 v3 q3 => ?_)) (by decide)⟩)
    have u3 := us_q u2 q3
    refine am_goX 4 (show 3 < 4 ∧ am_sh h3 154 = some (11, 0) ∧ (¬ (h3.1 154 8) = 0 → pz_S 4 none am_r194 33 Q 68 [(3, .int v3), (2, .int v2), (1, .int (nI (44 + 3 * p))), (0, .ref 154)] [] h3) ∧ (¬ ¬ (h3.1 154 8) = 0 → pz_S 4 none am_r194 33 Q 52 [(3, .int v3), (2, .int v2), (1, .int (nI (44 + 3 * p))), (0, .ref 154)] [] h3) from ⟨by decide, pz_154 u3.1, fun hc => ?_, fun hc => ?_⟩)
    · exact am_goX 2 (show (none : Option FieldType) = none ∧ h3.2.2.2.2 = 175 ∧ _ from ⟨rfl, pz_175 u3.1, hQ _ (Or.inl (us_f u3 hc))⟩)
    · refine am_goX 2 (show am_sh h3 154 = some (11, 0) ∧ pz_S 4 none am_r194 33 Q 56 [(3, .int v3), (2, .int v2), (1, .int (nI (44 + 3 * p))), (0, .ref 154)] [am_rf (h3.2.2.1 154 10)] h3 from ⟨pz_154 u3.1, ?_⟩)
      rw [pz_r10 u3.1]
      refine am_goX 3 (show ∃ jj nn : Nat, am_so h3 160 = some (13, nn) ∧ jj < nn ∧ (nI (44 + 3 * p)) = nI jj ∧ pz_S 4 none am_r194 33 Q 59 [(3, .int v3), (2, .int v2), (1, .int (nI (44 + 3 * p))), (0, .ref 154)] [] (am_wI h3 160 jj (v2)) from ⟨(44 + 3 * p), 80, pz_w160 u3.1, by omega, rfl, ?_⟩)
      have x1 := us_w (k := 44 + 3 * p) (v := v2) u3 (by omega) (by omega)
      have f1 : (am_wI h3 160 (44 + 3 * p) v2).1 154 8 = 0 := by rw [em_wn h3 _ (by omega)]; exact Decidable.not_not.mp hc
      generalize am_wI h3 160 (44 + 3 * p) v2 = g1 at x1 f1 ⊢
      refine am_goX 2 (show am_sh g1 154 = some (11, 0) ∧ pz_S 4 none am_r194 33 Q 63 [(3, .int v3), (2, .int v2), (1, .int (nI (44 + 3 * p))), (0, .ref 154)] [am_rf (g1.2.2.1 154 10)] g1 from ⟨pz_154 x1.1, ?_⟩)
      rw [pz_r10 x1.1]
      refine am_goX 5 (show ∃ jj nn : Nat, am_so g1 160 = some (13, nn) ∧ jj < nn ∧ ((nI (44 + 3 * p)) + (Int32.ofInt 1)) = nI jj ∧ pz_S 4 none am_r194 33 Q 68 [(3, .int v3), (2, .int v2), (1, .int (nI (44 + 3 * p))), (0, .ref 154)] [] (am_wI g1 160 jj (v3)) from ⟨(44 + 3 * p + 1), 80, pz_w160 x1.1, by omega, xw_i1 _, ?_⟩)
      have x2 := us_w (k := 44 + 3 * p + 1) (v := v3) x1 (by omega) (by omega)
      have f2 : (am_wI g1 160 (44 + 3 * p + 1) v3).1 154 8 = 0 := by rw [em_wn g1 _ (by omega)]; exact f1
      generalize am_wI g1 160 (44 + 3 * p + 1) v3 = g2 at x2 f2 ⊢
      have hpe2 : (p + 1) ≤ 6 ∧ (e) ≤ 5 := by
        rcases hpe with w | w
        · exact w
        · exfalso
          have b0 := Decidable.not_not.mp hc
          have b1 := q3.2.2.2 b0
          have b2 := (pk_q q2).2.2.2 b1
          exact w.2.2 b2
      exact am_goX 2 (show (none : Option FieldType) = none ∧ g2.2.2.2.2 = 175 ∧ _ from ⟨rfl, pz_175 x2.1, hQ _ (us_lo x2 hpe2.1 hpe2.2)⟩)
  | false =>
    refine am_goX 1 (show ((pz_b false) = 0 → pz_S 4 none am_r194 33 Q 71 [(0, .ref 154)] [] h) ∧ (¬ ((pz_b false) = 0) → pz_S 4 none am_r194 33 Q 8 [(0, .ref 154)] [] h) from ⟨fun _ => ?_, fun hz => absurd rfl hz⟩)
    refine am_goX 3 (show am_rc h 154 11 ∧ 0 ≤ 8 ∧ h.2.2.2.2 + am_al 195 ≤ 175 ∧ am_call am_cod 33 195 [.ref 154, .int (Int32.ofInt 2)] h (fun vv h' => pz_S 4 none am_r194 33 Q 76 [(0, .ref 154)] (vv.toList ++ []) h') from ⟨pz_rc hP, by decide, pz_lim hP rfl, am_call.up (pz_word (w := 2) hP (by decide) ?_) (by decide)⟩)
    cases w2 : pz_wd h a 2 with
    | true =>
      have hlt := (pz_wd_lt hP w2).2
      refine am_goX 1 (show ((pz_b true) = 0 → pz_S 4 none am_r194 33 Q 144 [(0, .ref 154)] [] h) ∧ (¬ ((pz_b true) = 0) → pz_S 4 none am_r194 33 Q 79 [(0, .ref 154)] [] h) from ⟨fun hz => absurd hz (by decide), fun _ => ?_⟩)
      refine am_goX 4 (show am_sh h 154 = some (11, 0) ∧ pz_S 4 none am_r194 33 Q 86 [(0, .ref 154)] [am_rf (h.2.2.1 154 10), .int (Int32.ofInt 2), .int (Int8.ofInt 62).toInt32] h from ⟨pz_154 hP, ?_⟩)
      rw [pz_r10 hP]
      refine am_goX 2 (show ∃ jj nn : Nat, am_sh h 160 = some (13, nn) ∧ jj < nn ∧ (Int8.ofInt 41).toInt32 = nI jj ∧ pz_S 4 none am_r194 33 Q 89 [(0, .ref 154)] [.int (h.1 160 jj), .int (Int32.ofInt 2), .int (Int8.ofInt 62).toInt32] h from ⟨41, 80, pz_160 hP, by decide, by decide, ?_⟩)
      rw [l.2.2.2.2.1]
      refine am_goX 3 (show 1 < 4 ∧ pz_S 4 none am_r194 33 Q 92 [(1, .int ((Int8.ofInt 62).toInt32 + ((Int32.ofInt 2) * (nI e)))), (0, .ref 154)] [] h from ⟨by decide, ?_⟩)
      rw [pz_i2 he]
      refine am_goX 5 (show am_rc h 154 11 ∧ 0 ≤ 8 ∧ h.2.2.2.2 + am_al 196 ≤ 175 ∧ am_call am_cod 33 196 [.ref 154, .int (Int32.ofInt 1), .int (Int32.ofInt 5), .int (Int8.ofInt 20).toInt32] h (fun vv h' => pz_S 4 none am_r194 33 Q 100 [(1, .int (nI (62 + 2 * e))), (0, .ref 154)] (vv.toList ++ []) h') from ⟨pz_rc hP, by decide, pz_lim hP rfl, am_call.up (pz_rname1 l hp he hlt (fun a1 h1 ha1 hq => ?_)) (by decide)⟩)
      have u1 : ∃ a1 c1, us N a a1 c1 h0 (p) (e + 1) h1 := by
        rcases hq with w | ⟨w, -⟩
        · obtain ⟨⟨a9, c9, w1⟩, w2, w3⟩ := w
          exact ⟨a9, c9, w1, w2, Or.inl w3⟩
        · exact ⟨a1, c, w.1, w.2.1, Or.inr ⟨w, ha1⟩⟩
      have hpe : (p) ≤ 6 ∧ (e + 1) ≤ 5 ∨ fl N h0 h1 := by
        rcases hq with w | ⟨-, w⟩
        · exact Or.inr w
        · exact Or.inl ⟨by omega, by omega⟩
      clear hq
      obtain ⟨a2, c2, u1⟩ := u1
      refine am_goX 5 (show am_rc h1 154 11 ∧ 0 ≤ 8 ∧ h1.2.2.2.2 + am_al 202 ≤ 175 ∧ am_call am_cod 33 202 [.ref 154, .int (Int32.ofInt 3), .int (Int32.ofInt 0), .int (Int8.ofInt 6).toInt32] h1 (fun vv h' => pz_S 4 none am_r194 33 Q 108 [(1, .int (nI (62 + 2 * e))), (0, .ref 154)] (vv.toList ++ []) h') from ⟨pz_rc u1.1, by decide, pz_lim u1.1 rfl, am_call.up (pz_tafter (w := 3) u1.1 (by decide) (fun a3 h2 v2 q2 => ?_)) (by decide)⟩)
      have u2 := us_q u1 q2
      refine am_goX 6 (show 2 < 4 ∧ am_rc h2 154 11 ∧ 0 ≤ 8 ∧ h2.2.2.2.2 + am_al 202 ≤ 175 ∧ am_call am_cod 33 202 [.ref 154, .int (Int32.ofInt 4), .int (Int32.ofInt 1), .int (Int8.ofInt 6).toInt32] h2 (fun vv h' => pz_S 4 none am_r194 33 Q 117 [(2, .int v2), (1, .int (nI (62 + 2 * e))), (0, .ref 154)] (vv.toList ++ []) h') from ⟨by decide, pz_rc u2.1, by decide, pz_lim u2.1 rfl, am_call.up (pz_tafter (w := 4) u2.1 (by decide) (fun a4 h3 v3 q3 => ?_)) (by decide)⟩)
      have u3 := us_q u2 q3
      refine am_goX 4 (show 3 < 4 ∧ am_sh h3 154 = some (11, 0) ∧ (¬ (h3.1 154 8) = 0 → pz_S 4 none am_r194 33 Q 141 [(3, .int v3), (2, .int v2), (1, .int (nI (62 + 2 * e))), (0, .ref 154)] [] h3) ∧ (¬ ¬ (h3.1 154 8) = 0 → pz_S 4 none am_r194 33 Q 125 [(3, .int v3), (2, .int v2), (1, .int (nI (62 + 2 * e))), (0, .ref 154)] [] h3) from ⟨by decide, pz_154 u3.1, fun hc => ?_, fun hc => ?_⟩)
      · exact am_goX 2 (show (none : Option FieldType) = none ∧ h3.2.2.2.2 = 175 ∧ _ from ⟨rfl, pz_175 u3.1, hQ _ (Or.inl (us_f u3 hc))⟩)
      · refine am_goX 2 (show am_sh h3 154 = some (11, 0) ∧ pz_S 4 none am_r194 33 Q 129 [(3, .int v3), (2, .int v2), (1, .int (nI (62 + 2 * e))), (0, .ref 154)] [am_rf (h3.2.2.1 154 10)] h3 from ⟨pz_154 u3.1, ?_⟩)
        rw [pz_r10 u3.1]
        refine am_goX 3 (show ∃ jj nn : Nat, am_so h3 160 = some (13, nn) ∧ jj < nn ∧ (nI (62 + 2 * e)) = nI jj ∧ pz_S 4 none am_r194 33 Q 132 [(3, .int v3), (2, .int v2), (1, .int (nI (62 + 2 * e))), (0, .ref 154)] [] (am_wI h3 160 jj (v2)) from ⟨(62 + 2 * e), 80, pz_w160 u3.1, by omega, rfl, ?_⟩)
        have x1 := us_w (k := 62 + 2 * e) (v := v2) u3 (by omega) (by omega)
        have f1 : (am_wI h3 160 (62 + 2 * e) v2).1 154 8 = 0 := by rw [em_wn h3 _ (by omega)]; exact Decidable.not_not.mp hc
        generalize am_wI h3 160 (62 + 2 * e) v2 = g1 at x1 f1 ⊢
        refine am_goX 2 (show am_sh g1 154 = some (11, 0) ∧ pz_S 4 none am_r194 33 Q 136 [(3, .int v3), (2, .int v2), (1, .int (nI (62 + 2 * e))), (0, .ref 154)] [am_rf (g1.2.2.1 154 10)] g1 from ⟨pz_154 x1.1, ?_⟩)
        rw [pz_r10 x1.1]
        refine am_goX 5 (show ∃ jj nn : Nat, am_so g1 160 = some (13, nn) ∧ jj < nn ∧ ((nI (62 + 2 * e)) + (Int32.ofInt 1)) = nI jj ∧ pz_S 4 none am_r194 33 Q 141 [(3, .int v3), (2, .int v2), (1, .int (nI (62 + 2 * e))), (0, .ref 154)] [] (am_wI g1 160 jj (v3)) from ⟨(62 + 2 * e + 1), 80, pz_w160 x1.1, by omega, xw_i1 _, ?_⟩)
        have x2 := us_w (k := 62 + 2 * e + 1) (v := v3) x1 (by omega) (by omega)
        have f2 : (am_wI g1 160 (62 + 2 * e + 1) v3).1 154 8 = 0 := by rw [em_wn g1 _ (by omega)]; exact f1
        generalize am_wI g1 160 (62 + 2 * e + 1) v3 = g2 at x2 f2 ⊢
        have hpe2 : (p) ≤ 6 ∧ (e + 1) ≤ 5 := by
          rcases hpe with w | w
          · exact w
          · exfalso
            have b0 := Decidable.not_not.mp hc
            have b1 := q3.2.2.2 b0
            have b2 := q2.2.2.2 b1
            exact w.2.2 b2
        exact am_goX 2 (show (none : Option FieldType) = none ∧ g2.2.2.2.2 = 175 ∧ _ from ⟨rfl, pz_175 x2.1, hQ _ (us_lo x2 hpe2.1 hpe2.2)⟩)
    | false =>
      refine am_goX 1 (show ((pz_b false) = 0 → pz_S 4 none am_r194 33 Q 144 [(0, .ref 154)] [] h) ∧ (¬ ((pz_b false) = 0) → pz_S 4 none am_r194 33 Q 79 [(0, .ref 154)] [] h) from ⟨fun _ => ?_, fun hz => absurd rfl hz⟩)
      refine am_goX 3 (show am_rc h 154 11 ∧ 0 ≤ 8 ∧ h.2.2.2.2 + am_al 195 ≤ 175 ∧ am_call am_cod 33 195 [.ref 154, .int (Int32.ofInt 5)] h (fun vv h' => pz_S 4 none am_r194 33 Q 149 [(0, .ref 154)] (vv.toList ++ []) h') from ⟨pz_rc hP, by decide, pz_lim hP rfl, am_call.up (pz_word (w := 5) hP (by decide) ?_) (by decide)⟩)
      cases w5 : pz_wd h a 5 with
      | true =>
        have hlt := (pz_wd_lt hP w5).2
        refine am_goX 1 (show ((pz_b true) = 0 → pz_S 4 none am_r194 33 Q 217 [(0, .ref 154)] [] h) ∧ (¬ ((pz_b true) = 0) → pz_S 4 none am_r194 33 Q 152 [(0, .ref 154)] [] h) from ⟨fun hz => absurd hz (by decide), fun _ => ?_⟩)
        refine am_goX 6 (show (Value.ref 154).category = 1 ∧ am_sh h 154 = some (11, 0) ∧ am_sh h 154 = some (11, 0) ∧ narrow (am_fty 11 7) (.int (((h.1 154 7) + (Int32.ofInt 1)))) = .int (((h.1 154 7) + (Int32.ofInt 1))) ∧ fits (am_fty 11 7) (.int (((h.1 154 7) + (Int32.ofInt 1)))) = true ∧ pz_S 4 none am_r194 33 Q 162 [(0, .ref 154)] [] (am_wI h 154 7 (((h.1 154 7) + (Int32.ofInt 1)))) from ⟨rfl, pz_154 hP, pz_154 hP, rfl, rfl, ?_⟩)
        rw [hP.2.2.2.1, xw_i1]
        have l1 := ln_at (a' := a + 1) l (by omega)
        generalize am_wI h 154 7 (nI (a + 1)) = h1 at l1 ⊢
        have u1 : us N a (a + 1) c h0 p e h1 := ⟨l1.1, l1.2.1, Or.inr ⟨l1, by omega⟩⟩
        refine am_goX 7 (show am_rc h1 154 11 ∧ 2 ≤ 8 ∧ h1.2.2.2.2 + am_al 206 ≤ 175 ∧ am_call am_cod 33 206 [.ref 154, .int (Int32.ofInt 1), .int (Int32.ofInt 0), .int (Int32.ofInt 0)] h1 (fun vv h' => pz_S 4 none am_r194 33 Q 172 [(0, .ref 154)] (vv.toList ++ [.int (Int32.ofInt 3), .int (Int8.ofInt 44).toInt32]) h') from ⟨pz_rc u1.1, by decide, pz_lim u1.1 rfl, am_call.up (pz_told1 u1.1 (fun a2 h2 k hk q2 => ?_)) (by decide)⟩)
        have u2 := us_q u1 (pk_q q2)
        refine am_goX 5 (show 1 < 4 ∧ pz_S 4 none am_r194 33 Q 177 [(1, .int (((Int8.ofInt 44).toInt32 + ((Int32.ofInt 3) * (nI k))) + (Int32.ofInt 2))), (0, .ref 154)] [] h2 from ⟨by decide, ?_⟩)
        rw [pz_i4 hk]
        refine am_goX 5 (show am_sh h2 154 = some (11, 0) ∧ pz_S 4 none am_r194 33 Q 185 [(1, .int (nI (46 + 3 * k))), (0, .ref 154)] [am_rf (h2.2.2.1 154 10), .int (Int8.ofInt 20).toInt32, .int (Int32.ofInt 1), .ref 154] h2 from ⟨pz_154 u2.1, ?_⟩)
        rw [pz_r10 u2.1]
        refine am_goX 2 (show ∃ jj nn : Nat, am_sh h2 160 = some (13, nn) ∧ jj < nn ∧ (nI (46 + 3 * k)) = nI jj ∧ pz_S 4 none am_r194 33 Q 187 [(1, .int (nI (46 + 3 * k))), (0, .ref 154)] [.int (h2.1 160 jj), .int (Int8.ofInt 20).toInt32, .int (Int32.ofInt 1), .ref 154] h2 from ⟨(46 + 3 * k), 80, pz_160 u2.1, by omega, rfl, ?_⟩)
        refine am_goX 1 (show am_rc h2 154 11 ∧ 0 ≤ 8 ∧ h2.2.2.2.2 + am_al 206 ≤ 175 ∧ am_call am_cod 33 206 [.ref 154, .int (Int32.ofInt 1), .int (Int8.ofInt 20).toInt32, .int (h2.1 160 (46 + 3 * k))] h2 (fun vv h' => pz_S 4 none am_r194 33 Q 190 [(1, .int (nI (46 + 3 * k))), (0, .ref 154)] (vv.toList ++ []) h') from ⟨pz_rc u2.1, by decide, pz_lim u2.1 rfl, am_call.up (pz_told1 u2.1 (fun a3 h3 k3 hk3 q3 => ?_)) (by decide)⟩)
        have u3 := us_q u2 (pk_q q3)
        refine am_goX 3 (show 2 < 4 ∧ am_sh h3 154 = some (11, 0) ∧ pz_S 4 none am_r194 33 Q 195 [(2, .int (nI k3)), (1, .int (nI (46 + 3 * k))), (0, .ref 154)] [am_rf (h3.2.2.1 154 10)] h3 from ⟨by decide, pz_154 u3.1, ?_⟩)
        rw [pz_r10 u3.1]
        refine am_goX 3 (show (Value.int (nI (46 + 3 * k))).category = 1 ∧ (Value.ref 160).category = 1 ∧ ∃ jj nn : Nat, am_sh h3 160 = some (13, nn) ∧ jj < nn ∧ (nI (46 + 3 * k)) = nI jj ∧ pz_S 4 none am_r194 33 Q 198 [(2, .int (nI k3)), (1, .int (nI (46 + 3 * k))), (0, .ref 154)] [.int (h3.1 160 jj), .int (nI (46 + 3 * k)), .ref 160] h3 from ⟨rfl, rfl, (46 + 3 * k), 80, pz_160 u3.1, by omega, rfl, ?_⟩)
        refine am_goX 3 (show am_sh h3 154 = some (11, 0) ∧ ((h3.1 154 8) ≤ 0 → pz_S 4 none am_r194 33 Q 209 [(2, .int (nI k3)), (1, .int (nI (46 + 3 * k))), (0, .ref 154)] [.int (h3.1 160 (46 + 3 * k)), .int (nI (46 + 3 * k)), .ref 160] h3) ∧ (¬ ((h3.1 154 8) ≤ 0) → pz_S 4 none am_r194 33 Q 205 [(2, .int (nI k3)), (1, .int (nI (46 + 3 * k))), (0, .ref 154)] [.int (h3.1 160 (46 + 3 * k)), .int (nI (46 + 3 * k)), .ref 160] h3) from ⟨pz_154 u3.1, fun hc => ?_, fun hc => ?_⟩)
        · refine am_goX 5 (show ∃ jj nn : Nat, am_so h3 160 = some (13, nn) ∧ jj < nn ∧ (nI (46 + 3 * k)) = nI jj ∧ pz_S 4 none am_r194 33 Q 214 [(2, .int (nI k3)), (1, .int (nI (46 + 3 * k))), (0, .ref 154)] [] (am_wI h3 160 jj (((h3.1 160 (46 + 3 * k)) ||| ((Int32.ofInt 1) <<< ((nI k3) &&& 31))))) from ⟨(46 + 3 * k), 80, pz_w160 u3.1, by omega, rfl, ?_⟩)
          generalize ((h3.1 160 (46 + 3 * k)) ||| ((Int32.ofInt 1) <<< ((nI k3) &&& 31))) = vv
          have x1 := us_w (k := 46 + 3 * k) (v := vv) u3 (by omega) (by omega)
          generalize am_wI h3 160 (46 + 3 * k) vv = g1 at x1 ⊢
          exact am_goX 2 (show (none : Option FieldType) = none ∧ g1.2.2.2.2 = 175 ∧ _ from ⟨rfl, pz_175 x1.1, hQ _ (us_lo x1 hp he)⟩)
        · refine am_goX 4 (show ∃ jj nn : Nat, am_so h3 160 = some (13, nn) ∧ jj < nn ∧ (nI (46 + 3 * k)) = nI jj ∧ pz_S 4 none am_r194 33 Q 214 [(2, .int (nI k3)), (1, .int (nI (46 + 3 * k))), (0, .ref 154)] [] (am_wI h3 160 jj (((h3.1 160 (46 + 3 * k)) ||| (Int32.ofInt 0)))) from ⟨(46 + 3 * k), 80, pz_w160 u3.1, by omega, rfl, ?_⟩)
          generalize ((h3.1 160 (46 + 3 * k)) ||| (Int32.ofInt 0)) = vv
          have x1 := us_w (k := 46 + 3 * k) (v := vv) u3 (by omega) (by omega)
          generalize am_wI h3 160 (46 + 3 * k) vv = g1 at x1 ⊢
          exact am_goX 2 (show (none : Option FieldType) = none ∧ g1.2.2.2.2 = 175 ∧ _ from ⟨rfl, pz_175 x1.1, hQ _ (us_lo x1 hp he)⟩)
      | false =>
        refine am_goX 1 (show ((pz_b false) = 0 → pz_S 4 none am_r194 33 Q 217 [(0, .ref 154)] [] h) ∧ (¬ ((pz_b false) = 0) → pz_S 4 none am_r194 33 Q 152 [(0, .ref 154)] [] h) from ⟨fun _ => ?_, fun hz => absurd rfl hz⟩)
        refine am_goX 2 (show am_rc h 154 11 ∧ 0 ≤ 8 ∧ h.2.2.2.2 + am_al 208 ≤ 175 ∧ am_call am_cod 33 208 [.ref 154] h (fun vv h' => pz_S 4 none am_r194 33 Q 221 [(0, .ref 154)] (vv.toList ++ []) h') from ⟨pz_rc hP, by decide, pz_lim hP rfl, pz_ronce l (fun a1 c1 h1 ha1 hq => ?_)⟩)
        have hlo : lo N a h0 h1 := by
          rcases hq with w | w
          · exact Or.inl w
          · exact Or.inr ⟨a1, c1, p, e, ha1, w, hp, he⟩
        have w1 : ∃ a9 c9, pz_P N a9 c9 h1 := by
          rcases hq with w | w
          · exact w.1
          · exact ⟨_, _, w.1⟩
        obtain ⟨a9, c9, w1⟩ := w1
        exact am_goX 1 (show (none : Option FieldType) = none ∧ h1.2.2.2.2 = 175 ∧ _ from ⟨rfl, pz_175 w1, hQ _ hlo⟩)
