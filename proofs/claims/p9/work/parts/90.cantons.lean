/-! canton AS A WHOLE -/
variable {N a c p e z : Nat} {h h0 : am_H}
/-- nothing but what the parser writes -/
def rf (h h' : am_H) : Prop := ag_fr pz_Mz h h'
theorem rf_of {M : ag_M} {h' : am_H} (hM : ag_Msb M pz_Mz = true) (f : ag_fr M h h') : rf h h' := (ag_fr.refl h).trans hM f
theorem rf_t {h1 h2 : am_H} (f1 : rf h h1) (f2 : rf h1 h2) : rf h h2 := ag_fr.trans (M' := pz_Mz) (by decide +kernel) f1 f2
/-- what is left of the class's own, and of the tapes' lengths -/
def rg (h h' : am_H) : Prop := (∀ k, h'.2.2.1 0 k = h.2.2.1 0 k) ∧ h'.1 1 1 = h.1 1 1 ∧ h'.1 154 2 = 0 ∧ (∀ q, h'.2.1 159 q = h.2.1 159 q) ∧ h'.2.2.2 = h.2.2.2
theorem pz_a9 (k : Nat) : ag_atM pz_Mz 159 k = false ∧ ag_atM pz_Mt 159 k = false := by
  unfold ag_atM pz_Mz pz_Mt
  simp [List.any]
theorem pz_a0 (k : Nat) : ag_atM pz_Mz 0 k = false ∧ ag_atM pz_Mt 0 k = false := by
  unfold ag_atM pz_Mz pz_Mt
  simp [List.any]
theorem rg_of {h1 h2 h3 : am_H} (e1 : h1.1 1 1 = h.1 1 1 ∧ h1.2 = h.2) (f2 : ag_fr pz_Mt h1 h2) (t2 : h2.1 154 2 = 0) (f3 : rf h2 h3) : rg h h3 :=
  ⟨fun k => ((f3.2 0 k (pz_a0 k).1).2.2).trans (((f2.2 0 k (pz_a0 k).2).2.2).trans (by rw [e1.2])), ((f3.2 1 1 (by decide)).1).trans (((f2.2 1 1 (by decide)).1).trans e1.1), ((f3.2 154 2 (by decide)).1).trans t2, fun q => ((f3.2 159 q (pz_a9 q).1).2.1).trans (((f2.2 159 q (pz_a9 q).2).2.1).trans (by rw [e1.2])), by rw [f3.1, f2.1, e1.2]⟩
theorem pz_c62 {Q : am_Q} (f : fl N h0 h) (hQ : ∀ x : Int32, Q (some (.int x)) h) : pz_S 2 (some .int) am_r188 35 Q 62 [(0, .ref 154)] [] h := by
  obtain ⟨⟨a9, c9, hP⟩, -, hf⟩ := f
  refine am_goX 3 (show am_sh h 154 = some (11, 0) ∧ ((h.1 154 8) ≤ 0 → pz_S 2 (some .int) am_r188 35 Q 74 [(0, .ref 154)] [] h) ∧ (¬ ((h.1 154 8) ≤ 0) → pz_S 2 (some .int) am_r188 35 Q 69 [(0, .ref 154)] [] h) from ⟨pz_154 hP, fun hz => absurd hz (fun w => hf (pz_eq0 hP w)), fun _ => ?_⟩)
  exact am_goX 3 (show am_sh h 154 = some (11, 0) ∧ (∃ ty, (some .int) = some ty ∧ narrow ty (.int ((h.1 154 8))) = .int ((h.1 154 8))) ∧ h.2.2.2.2 = 175 ∧ _ from ⟨pz_154 hP, ⟨.int, rfl, rfl⟩, pz_175 hP, hQ _⟩)
theorem pz_c30 {Q : am_Q} (f : fl N h0 h) (hQ : ∀ x : Int32, Q (some (.int x)) h) : pz_S 2 (some .int) am_r188 35 Q 30 [(0, .ref 154)] [] h := by
  obtain ⟨⟨a9, c9, hP⟩, -, hf⟩ := id f
  refine am_goX 3 (show am_sh h 154 = some (11, 0) ∧ (¬ (h.1 154 8) = 0 → pz_S 2 (some .int) am_r188 35 Q 62 [(0, .ref 154)] [] h) ∧ (¬ ¬ (h.1 154 8) = 0 → pz_S 2 (some .int) am_r188 35 Q 37 [(0, .ref 154)] [] h) from ⟨pz_154 hP, fun _ => ?_, fun hz => absurd hf hz⟩)
  exact pz_c62 f hQ
theorem pz_cnl {Q : am_Q} (hbad : ∀ h1 x, fl N h0 h1 → Q (some (.int x)) h1) (hok : ∀ h1 a c p e, ln N a c h0 p e (p + e) h1 → p ≤ 6 → e ≤ 5 → pz_S 2 (some .int) am_r188 35 Q 74 [(0, .ref 154)] [] h1) : ∀ (m a c p e : Nat) (h : am_H), N ≤ a + m → ln N a c h0 p e (p + e) h → p ≤ 6 → e ≤ 5 → pz_S 2 (some .int) am_r188 35 Q 30 [(0, .ref 154)] [] h := by
  intro m
  induction m with
  | zero =>
    intro a c p e h hm l hp he
    have hP := l.1
    have hf := l.2.2.1
    refine am_goX 3 (show am_sh h 154 = some (11, 0) ∧ (¬ (h.1 154 8) = 0 → pz_S 2 (some .int) am_r188 35 Q 62 [(0, .ref 154)] [] h) ∧ (¬ ¬ (h.1 154 8) = 0 → pz_S 2 (some .int) am_r188 35 Q 37 [(0, .ref 154)] [] h) from ⟨pz_154 hP, fun hz => absurd hz (fun w => w hf), fun _ => ?_⟩)
    refine am_goX 2 (show am_sh h 154 = some (11, 0) ∧ pz_S 2 (some .int) am_r188 35 Q 41 [(0, .ref 154)] [am_rf (h.2.2.1 154 4)] h from ⟨pz_154 hP, ?_⟩)
    rw [pz_r4 hP]
    refine am_goX 3 (show am_sh h 154 = some (11, 0) ∧ ∃ jj nn : Nat, am_sh h 156 = some (13, nn) ∧ jj < nn ∧ (h.1 154 7) = nI jj ∧ pz_S 2 (some .int) am_r188 35 Q 46 [(0, .ref 154)] [.int (h.1 156 jj)] h from ⟨pz_154 hP, a, 1002, pz_156 hP, pz_al hP, hP.2.2.2.1, ?_⟩)
    refine am_goX 1 (show ((h.1 156 a) = 0 → pz_S 2 (some .int) am_r188 35 Q 62 [(0, .ref 154)] [] h) ∧ (¬ ((h.1 156 a) = 0) → pz_S 2 (some .int) am_r188 35 Q 49 [(0, .ref 154)] [] h) from ⟨fun hc => ?_, fun hc => ?_⟩)
    · refine am_goX 3 (show am_sh h 154 = some (11, 0) ∧ ((h.1 154 8) ≤ 0 → pz_S 2 (some .int) am_r188 35 Q 74 [(0, .ref 154)] [] h) ∧ (¬ ((h.1 154 8) ≤ 0) → pz_S 2 (some .int) am_r188 35 Q 69 [(0, .ref 154)] [] h) from ⟨pz_154 hP, fun _ => ?_, fun hz => absurd (by rw [hf]; decide) hz⟩)
      exact hok h a c p e l hp he
    · exact absurd (pz_lt hP hc) (by omega)
  | succ m ih =>
    intro a c p e h hm l hp he
    have hP := l.1
    have hf := l.2.2.1
    refine am_goX 3 (show am_sh h 154 = some (11, 0) ∧ (¬ (h.1 154 8) = 0 → pz_S 2 (some .int) am_r188 35 Q 62 [(0, .ref 154)] [] h) ∧ (¬ ¬ (h.1 154 8) = 0 → pz_S 2 (some .int) am_r188 35 Q 37 [(0, .ref 154)] [] h) from ⟨pz_154 hP, fun hz => absurd hz (fun w => w hf), fun _ => ?_⟩)
    refine am_goX 2 (show am_sh h 154 = some (11, 0) ∧ pz_S 2 (some .int) am_r188 35 Q 41 [(0, .ref 154)] [am_rf (h.2.2.1 154 4)] h from ⟨pz_154 hP, ?_⟩)
    rw [pz_r4 hP]
    refine am_goX 3 (show am_sh h 154 = some (11, 0) ∧ ∃ jj nn : Nat, am_sh h 156 = some (13, nn) ∧ jj < nn ∧ (h.1 154 7) = nI jj ∧ pz_S 2 (some .int) am_r188 35 Q 46 [(0, .ref 154)] [.int (h.1 156 jj)] h from ⟨pz_154 hP, a, 1002, pz_156 hP, pz_al hP, hP.2.2.2.1, ?_⟩)
    refine am_goX 1 (show ((h.1 156 a) = 0 → pz_S 2 (some .int) am_r188 35 Q 62 [(0, .ref 154)] [] h) ∧ (¬ ((h.1 156 a) = 0) → pz_S 2 (some .int) am_r188 35 Q 49 [(0, .ref 154)] [] h) from ⟨fun hc => ?_, fun hc => ?_⟩)
    · refine am_goX 3 (show am_sh h 154 = some (11, 0) ∧ ((h.1 154 8) ≤ 0 → pz_S 2 (some .int) am_r188 35 Q 74 [(0, .ref 154)] [] h) ∧ (¬ ((h.1 154 8) ≤ 0) → pz_S 2 (some .int) am_r188 35 Q 69 [(0, .ref 154)] [] h) from ⟨pz_154 hP, fun _ => ?_, fun hz => absurd (by rw [hf]; decide) hz⟩)
      exact hok h a c p e l hp he
    · refine am_goX 2 (show am_rc h 154 11 ∧ 0 ≤ 8 ∧ h.2.2.2.2 + am_al 194 ≤ 175 ∧ am_call am_cod 35 194 [.ref 154] h (fun vv h' => pz_S 2 (some .int) am_r188 35 Q 53 [(0, .ref 154)] (vv.toList ++ []) h') from ⟨pz_rc hP, by decide, pz_lim hP rfl, am_call.up (pz_rline l hp he (fun h1 hlo => ?_)) (by decide)⟩)
      rcases hlo with w | ⟨a1, c1, p1, e1, ha1, l1, hp1, he1⟩
      · obtain ⟨⟨a9, c9, hP1⟩, w2, w3⟩ := w
        refine am_goX 3 (show am_rc h1 154 11 ∧ 0 ≤ 8 ∧ h1.2.2.2.2 + am_al 218 ≤ 175 ∧ am_call am_cod 35 218 [.ref 154, .int (Int8.ofInt 59).toInt32] h1 (fun vv h' => pz_S 2 (some .int) am_r188 35 Q 59 [(0, .ref 154)] (vv.toList ++ []) h') from ⟨pz_rc hP1, by decide, pz_lim hP1 rfl, am_call.up (pz_tsignF hP1 (fun a2 h2 q2 => ?_)) (by decide)⟩)
        exact am_goX 1 (pz_c30 (fl_F w2 w3 (pk_q q2)) (fun x => hbad h2 x (fl_F w2 w3 (pk_q q2))))
      · have hP1 := l1.1
        refine am_goX 3 (show am_rc h1 154 11 ∧ 0 ≤ 8 ∧ h1.2.2.2.2 + am_al 218 ≤ 175 ∧ am_call am_cod 35 218 [.ref 154, .int (Int8.ofInt 59).toInt32] h1 (fun vv h' => pz_S 2 (some .int) am_r188 35 Q 59 [(0, .ref 154)] (vv.toList ++ []) h') from ⟨pz_rc hP1, by decide, pz_lim hP1 rfl, am_call.up (pz_tsignF hP1 (fun a2 h2 q2 => ?_)) (by decide)⟩)
        rcases ln_F l1 (pk_q q2) with w | w
        · exact am_goX 1 (pz_c30 w (fun x => hbad h2 x w))
        · have ha2 : a2 = a1 + 1 := by
            rcases q2.2.2 with y | y
            · exact absurd w.2.2.1 y.1
            · exact y.2.2
          exact am_goX 1 (ih a2 c1 p1 e1 h2 (by omega) w hp1 he1)
theorem pz_sg0 : (ag_sg 154).all (fun s => !(Nat.ble s.1 0 && Nat.ble 0 s.2.1)) = true := by decide +kernel
theorem pz_s0 {v : Int32} : ∀ s ∈ ag_sg 154, ag_seg s 0 v := by
  intro s hs k1 k2 _
  have w := List.all_eq_true.mp pz_sg0 s hs
  rw [Nat.ble_eq_true_of_le k1, Nat.ble_eq_true_of_le k2] at w
  cases w
theorem pz_c0 (hP : pz_P N a c h) : pz_P N a 0 (am_wI h 154 13 (Int32.ofInt 0)) := by
  obtain ⟨p1, p2, p3, p4, p5, p6, p7⟩ := hP
  refine ⟨pz_wW p1 (by decide) (pz_sgv pz_sg13 (by decide) (by decide)), pz_wX p2 (by unfold ag_kp; omega), p3, ?_, p5, em_we h 154 13 _, Nat.zero_le _⟩
  rw [em_wn h _ (by omega)]
  exact p4
theorem pz_canton {Q : am_Q} (hP0 : pz_P N a c h) (hQ : ∀ N' a' c' h' x, pz_P N' a' c' h' → rg h h' → Q (some (.int x)) h') : am_call am_cod 36 188 [.ref 154] h Q := by
  refine pz_call (n := 188) (nL := 2) (rt := (some .int)) (rows := am_r188) (d := 35) (by decide +kernel) (by decide +kernel) rfl (by funext pc; rfl) (pz_175 hP0) (by exact Nat.le_of_ble_eq_true rfl) ?_
  refine am_goX 3 (show am_sh h 154 = some (11, 0) ∧ narrow (am_fty 11 0) (.int ((Int32.ofInt 0))) = .int ((Int32.ofInt 0)) ∧ fits (am_fty 11 0) (.int ((Int32.ofInt 0))) = true ∧ pz_S 2 (some .int) am_r188 35 Q 5 [(0, .ref 154)] [] (am_wI h 154 0 ((Int32.ofInt 0))) from ⟨pz_154 hP0, rfl, rfl, ?_⟩)
  have hP1 := pz_w (o := 154) (k := 0) (v := Int32.ofInt 0) hP0 (by omega) (by unfold ag_kp; omega) pz_s0
  have r1 : (am_wI h 154 0 (Int32.ofInt 0)).1 1 1 = h.1 1 1 ∧ (am_wI h 154 0 (Int32.ofInt 0)).2 = h.2 := ⟨em_wn h _ (by omega), rfl⟩
  generalize am_wI h 154 0 (Int32.ofInt 0) = h1 at hP1 r1 ⊢
  refine am_goX 2 (show am_rc h1 154 11 ∧ 0 ≤ 8 ∧ h1.2.2.2.2 + am_al 189 ≤ 175 ∧ am_call am_cod 35 189 [.ref 154] h1 (fun vv h' => pz_S 2 (some .int) am_r188 35 Q 9 [(0, .ref 154)] (vv.toList ++ []) h') from ⟨pz_rc hP1, by decide, pz_lim hP1 rfl, am_call.up (pz_cutall hP1 (fun N2 h2 hP2 f2 b2 t2 => ?_)) (by decide)⟩)
  have r2 : rf h2 h2 := ag_fr.refl h2
  refine am_goX 3 (show am_sh h2 154 = some (11, 0) ∧ narrow (am_fty 11 13) (.int ((Int32.ofInt 0))) = .int ((Int32.ofInt 0)) ∧ fits (am_fty 11 13) (.int ((Int32.ofInt 0))) = true ∧ pz_S 2 (some .int) am_r188 35 Q 14 [(0, .ref 154)] [] (am_wI h2 154 13 ((Int32.ofInt 0))) from ⟨pz_154 hP2, rfl, rfl, ?_⟩)
  have hP3 := pz_c0 hP2
  have b3 : (am_wI h2 154 13 (Int32.ofInt 0)).1 154 8 = 0 := by rw [em_wn h2 _ (by omega)]; exact b2
  have r3 : rf h2 (am_wI h2 154 13 (Int32.ofInt 0)) := rf_t r2 (pz_fr (by decide))
  generalize am_wI h2 154 13 (Int32.ofInt 0) = h3 at hP3 b3 r3 ⊢
  refine am_goX 3 (show am_sh h3 154 = some (11, 0) ∧ narrow (am_fty 11 19) (.int ((Int32.ofInt 0))) = .int ((Int32.ofInt 0)) ∧ fits (am_fty 11 19) (.int ((Int32.ofInt 0))) = true ∧ pz_S 2 (some .int) am_r188 35 Q 19 [(0, .ref 154)] [] (am_wI h3 154 19 ((Int32.ofInt 0))) from ⟨pz_154 hP3, rfl, rfl, ?_⟩)
  have hP4 := pz_w (o := 154) (k := 19) (v := Int32.ofInt 0) hP3 (by omega) (by unfold ag_kp; omega) (pz_sgv pz_sg19 (by decide) (by decide))
  have b4 : (am_wI h3 154 19 (Int32.ofInt 0)).1 154 8 = 0 := by rw [em_wn h3 _ (by omega)]; exact b3
  have c4 : (am_wI h3 154 19 (Int32.ofInt 0)).1 154 19 = 0 := em_we h3 154 19 _
  have r4 : rf h2 (am_wI h3 154 19 (Int32.ofInt 0)) := rf_t r3 (pz_fr (by decide))
  generalize am_wI h3 154 19 (Int32.ofInt 0) = h4 at hP4 b4 c4 r4 ⊢
  refine am_goX 3 (show am_sh h4 154 = some (11, 0) ∧ narrow (am_fty 11 20) (.int ((Int32.ofInt 0))) = .int ((Int32.ofInt 0)) ∧ fits (am_fty 11 20) (.int ((Int32.ofInt 0))) = true ∧ pz_S 2 (some .int) am_r188 35 Q 24 [(0, .ref 154)] [] (am_wI h4 154 20 ((Int32.ofInt 0))) from ⟨pz_154 hP4, rfl, rfl, ?_⟩)
  have hP5 := pz_w (o := 154) (k := 20) (v := Int32.ofInt 0) hP4 (by omega) (by unfold ag_kp; omega) pz_s20
  have b5 : (am_wI h4 154 20 (Int32.ofInt 0)).1 154 8 = 0 := by rw [em_wn h4 _ (by omega)]; exact b4
  have c5 : (am_wI h4 154 20 (Int32.ofInt 0)).1 154 19 = 0 := by rw [em_wn h4 _ (by omega)]; exact c4
  have d5 : (am_wI h4 154 20 (Int32.ofInt 0)).1 154 20 = 0 := em_we h4 154 20 _
  have r5 : rf h2 (am_wI h4 154 20 (Int32.ofInt 0)) := rf_t r4 (pz_fr (by decide))
  generalize am_wI h4 154 20 (Int32.ofInt 0) = h5 at hP5 b5 c5 d5 r5 ⊢
  refine am_goX 3 (show am_rc h5 154 11 ∧ 0 ≤ 8 ∧ h5.2.2.2.2 + am_al 180 ≤ 175 ∧ am_call am_cod 35 180 [.ref 154, .int (Int8.ofInt 40).toInt32] h5 (fun vv h' => pz_S 2 (some .int) am_r188 35 Q 30 [(0, .ref 154)] (vv.toList ++ []) h') from ⟨pz_rc hP5, by decide, pz_lim hP5 rfl, am_call.up (pz_std hP5 (fun h6 hP6 f6 x40 x41 x43 => ?_)) (by decide)⟩)
  have r6 : rf h2 h6 := rf_t r5 (rf_of (by decide +kernel) f6)
  have l6 : ln N2 0 0 h6 0 0 (0 + 0) h6 := ⟨hP6, ag_fr.refl h6, ((f6.2 154 8 (by decide)).1).trans b5, x40, x41, ((f6.2 154 19 (by decide)).1).trans c5, Or.inl ⟨x43, rfl, Or.inl (((f6.2 154 20 (by decide)).1).trans d5)⟩⟩
  refine pz_cnl (fun h7 x f7 => ?_) (fun h7 a7 c7 p7 e7 l7 hp7 he7 => ?_) N2 0 0 0 0 h6 (by omega) l6 (by decide) (by decide)
  · obtain ⟨⟨a9, c9, w1⟩, w2, w3⟩ := f7
    exact hQ N2 a9 c9 h7 x w1 (rg_of r1 f2 t2 (rf_t r6 (rf_of (by decide +kernel) w2)))
  · exact pz_cnE l7 (by omega) hp7 he7 (fun h8 hP8 r8 => hQ N2 a7 c7 h8 _ hP8 (rg_of r1 f2 t2 (rf_t (rf_t r6 (rf_of (by decide +kernel) l7.2.1)) r8)))
