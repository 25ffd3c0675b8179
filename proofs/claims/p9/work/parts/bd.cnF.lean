/-! canton OF THE REFERENCE, WITH ALL THAT IT LEAVES -/
variable {N a c p e z : Nat} {h h0 : am_H}
/-- names told as they were read -/
def nmc (hA : am_H) (k : Nat) (g : am_H) : Prop := ∀ j, j < k → g.2.1 163 j = hA.2.1 164 j ∧ g.1 165 j = hA.1 166 j
/-- what was read, told: the copies -/
def cqF (hA : am_H) (c z : Nat) (g : am_H) : Prop := ag_fr pz_Mk2 hA g ∧ (∀ j, j < 40 → g.1 160 j = hA.1 160 (40 + j)) ∧ (∀ j, j < c → g.1 161 j = hA.1 161 (1100 + j) ∧ g.1 162 j = hA.1 162 (1100 + j)) ∧ nmc hA z g ∧ g.1 154 18 = nI z
theorem pf_cn3 {Q : am_Q} {hA : am_H} (l : ln N a c h0 p e z hA) (hz : z ≤ 11) (hend : ∀ g, cq hA 40 c g → nmc hA z g → pz_S 2 (some .int) am_r188 35 Q 191 [(0, .ref 154)] [] g) : ∀ (m k : Nat) (g : am_H), k + m = z → cq hA 40 c g → nmc hA k g → pz_S 2 (some .int) am_r188 35 Q 153 [(1, .int (nI k)), (0, .ref 154)] [] g := by
  intro m
  induction m with
  | zero =>
    intro k g hk q nn
    have hP := q.1
    have e19 : g.1 154 19 = nI z := ((q.2.1.2 154 19 (by decide)).1).trans l.2.2.2.2.2.1
    refine am_goX 3 (show am_sh g 154 = some (11, 0) ∧ pz_S 2 (some .int) am_r188 35 Q 158 [(1, .int (nI k)), (0, .ref 154)] [.int (g.1 154 19), .int (nI k)] g from ⟨px_154 hP, ?_⟩)
    rw [e19]
    refine am_goX 1 (show ((nI z) ≤ (nI k) → pz_S 2 (some .int) am_r188 35 Q 191 [(1, .int (nI k)), (0, .ref 154)] [] g) ∧ (¬ ((nI z) ≤ (nI k)) → pz_S 2 (some .int) am_r188 35 Q 161 [(1, .int (nI k)), (0, .ref 154)] [] g) from ⟨fun hc => ?_, fun hc => ?_⟩)
    · exact sv_S sv_188 (by intro q hq; simp only [List.mem_cons, List.not_mem_nil, or_false] at hq; rcases hq with rfl <;> rfl) (hend g q (fun j hj => nn j (by omega)))
    · exact absurd (nI_le (by omega) (by omega)) hc
  | succ m ih =>
    intro k g hk q nn
    have hP := q.1
    have e19 : g.1 154 19 = nI z := ((q.2.1.2 154 19 (by decide)).1).trans l.2.2.2.2.2.1
    refine am_goX 3 (show am_sh g 154 = some (11, 0) ∧ pz_S 2 (some .int) am_r188 35 Q 158 [(1, .int (nI k)), (0, .ref 154)] [.int (g.1 154 19), .int (nI k)] g from ⟨px_154 hP, ?_⟩)
    rw [e19]
    refine am_goX 1 (show ((nI z) ≤ (nI k) → pz_S 2 (some .int) am_r188 35 Q 191 [(1, .int (nI k)), (0, .ref 154)] [] g) ∧ (¬ ((nI z) ≤ (nI k)) → pz_S 2 (some .int) am_r188 35 Q 161 [(1, .int (nI k)), (0, .ref 154)] [] g) from ⟨fun hc => ?_, fun hc => ?_⟩)
    · exact absurd hc (nI_ge (by omega) (by omega))
    · refine am_goX 2 (show am_sh g 154 = some (11, 0) ∧ pz_S 2 (some .int) am_r188 35 Q 165 [(1, .int (nI k)), (0, .ref 154)] [am_rf (g.2.2.1 154 14)] g from ⟨px_154 hP, ?_⟩)
      rw [px_r14 hP]
      refine am_goX 3 (show am_sh g 154 = some (11, 0) ∧ pz_S 2 (some .int) am_r188 35 Q 170 [(1, .int (nI k)), (0, .ref 154)] [am_rf (g.2.2.1 154 15), .int (nI k), .ref 163] g from ⟨px_154 hP, ?_⟩)
      rw [px_r15 hP]
      refine am_goX 2 (show ∃ jj nn : Nat, am_sh g 164 = some (14, nn) ∧ jj < nn ∧ (nI k) = nI jj ∧ pz_S 2 (some .int) am_r188 35 Q 172 [(1, .int (nI k)), (0, .ref 154)] [.long (g.2.1 164 jj), .int (nI k), .ref 163] g from ⟨k, 11, px_164 hP, by omega, rfl, ?_⟩)
      refine am_goX 1 (show ∃ jj nn : Nat, am_so g 163 = some (14, nn) ∧ jj < nn ∧ (nI k) = nI jj ∧ pz_S 2 (some .int) am_r188 35 Q 173 [(1, .int (nI k)), (0, .ref 154)] [] (am_wL g 163 jj ((g.2.1 164 k))) from ⟨k, 11, px_w163 hP, by omega, rfl, ?_⟩)
      have q1 := cq_163 (k := k) (v := g.2.1 164 k) q (by omega)
      have e1 : (am_wL g 163 k (g.2.1 164 k)).1 166 k = hA.1 166 k := (q.2.1.2 166 k (by simp [ag_atM, pz_Mk2])).1
      have n1 : (∀ j, j < k → (am_wL g 163 k (g.2.1 164 k)).2.1 163 j = hA.2.1 164 j ∧ (am_wL g 163 k (g.2.1 164 k)).1 165 j = hA.1 166 j) ∧ (am_wL g 163 k (g.2.1 164 k)).2.1 163 k = hA.2.1 164 k := ⟨fun j hj => ⟨(ex_ln (by omega)).trans (nn j hj).1, (nn j hj).2⟩, (ex_lq _ _ _).trans (q.2.1.2 164 k (by simp [ag_atM, pz_Mk2])).2.1⟩
      generalize am_wL g 163 k (g.2.1 164 k) = g1 at q1 e1 n1 ⊢
      have hP1 := q1.1
      refine am_goX 2 (show am_sh g1 154 = some (11, 0) ∧ pz_S 2 (some .int) am_r188 35 Q 177 [(1, .int (nI k)), (0, .ref 154)] [am_rf (g1.2.2.1 154 16)] g1 from ⟨px_154 hP1, ?_⟩)
      rw [px_r16 hP1]
      refine am_goX 3 (show am_sh g1 154 = some (11, 0) ∧ pz_S 2 (some .int) am_r188 35 Q 182 [(1, .int (nI k)), (0, .ref 154)] [am_rf (g1.2.2.1 154 17), .int (nI k), .ref 165] g1 from ⟨px_154 hP1, ?_⟩)
      rw [px_r17 hP1]
      refine am_goX 2 (show ∃ jj nn : Nat, am_sh g1 166 = some (13, nn) ∧ jj < nn ∧ (nI k) = nI jj ∧ pz_S 2 (some .int) am_r188 35 Q 184 [(1, .int (nI k)), (0, .ref 154)] [.int (g1.1 166 jj), .int (nI k), .ref 165] g1 from ⟨k, 11, px_166 hP1, by omega, rfl, ?_⟩)
      refine am_goX 1 (show ∃ jj nn : Nat, am_so g1 165 = some (13, nn) ∧ jj < nn ∧ (nI k) = nI jj ∧ pz_S 2 (some .int) am_r188 35 Q 185 [(1, .int (nI k)), (0, .ref 154)] [] (am_wI g1 165 jj ((g1.1 166 k))) from ⟨k, 11, px_w165 hP1, by omega, rfl, ?_⟩)
      have q2 := cq_165 (k := k) (v := g1.1 166 k) q1 (by omega) (by rw [e1]; exact (pz_nof l.1 (by omega)).2)
      have n2 : nmc hA (k + 1) (am_wI g1 165 k (g1.1 166 k)) := by
        intro j hj
        by_cases ej : j = k
        · rw [ej]
          exact ⟨n1.2, (em_we _ _ _ _).trans e1⟩
        · exact ⟨(n1.1 j (by omega)).1, by rw [em_wn _ _ (by omega)]; exact (n1.1 j (by omega)).2⟩
      generalize am_wI g1 165 k (g1.1 166 k) = g2 at q2 n2 ⊢
      have hP2 := q2.1
      refine am_goX 2 (show 1 < 2 ∧ pz_S 2 (some .int) am_r188 35 Q 153 [(1, .int ((nI k) + Int32.ofInt 1)), (0, .ref 154)] [] g2 from ⟨by decide, ?_⟩)
      rw [xw_i1]
      exact ih (k + 1) g2 (by omega) q2 n2
theorem pf_cnE {Q : am_Q} {hA : am_H} (l : ln N a c h0 p e z hA) (hz : z ≤ 11) (hp : p ≤ 6) (he : e ≤ 5) (hb : hA.2.2.2.1 ≤ 4096) (hQ : ∀ g h', pz_P N a c h' → ag_fr pz_Mz hA h' → cqF hA c z g → bR p e g h' → Q (some (.int (Int32.ofInt 0))) h') : pz_S 2 (some .int) am_r188 35 Q 74 [(0, .ref 154)] [] hA := by
  have hA0 : cq hA 0 0 hA := ⟨⟨l.1.1.1, l.1.1.2.1⟩, ag_fr.refl hA, fun j hj => absurd hj (by omega), fun j hj => absurd hj (by omega)⟩
  have hPA := hA0.1
  refine am_goX 2 (show 1 < 2 ∧ pz_S 2 (some .int) am_r188 35 Q 76 [(1, .int (Int32.ofInt 0)), (0, .ref 154)] [] hA from ⟨by decide, ?_⟩)
  refine pz_cn1 l hp he (fun g q => ?_) 40 0 hA rfl hA0
  have hP := q.1
  refine am_goX 2 (show 1 < 2 ∧ pz_S 2 (some .int) am_r188 35 Q 105 [(1, .int (Int32.ofInt 0)), (0, .ref 154)] [] g from ⟨by decide, ?_⟩)
  refine pz_cn2 l (fun g1 q1 => ?_) c 0 g (Nat.zero_add c) q
  have hP1 := q1.1
  refine am_goX 2 (show 1 < 2 ∧ pz_S 2 (some .int) am_r188 35 Q 153 [(1, .int (Int32.ofInt 0)), (0, .ref 154)] [] g1 from ⟨by decide, ?_⟩)
  refine pf_cn3 l hz (fun g2 q2 nn => ?_) z 0 g1 (Nat.zero_add z) q1 (fun j hj => absurd hj (Nat.not_lt_zero j))
  have hP2 := q2.1
  refine am_goX 4 (show am_sh g2 154 = some (11, 0) ∧ am_sh g2 154 = some (11, 0) ∧ narrow (am_fty 11 18) (.int ((g2.1 154 19))) = .int ((g2.1 154 19)) ∧ fits (am_fty 11 18) (.int ((g2.1 154 19))) = true ∧ pz_S 2 (some .int) am_r188 35 Q 199 [(0, .ref 154)] [] (am_wI g2 154 18 ((g2.1 154 19))) from ⟨px_154 hP2, px_154 hP2, rfl, rfl, ?_⟩)
  rw [((q2.2.1.2 154 19 (by decide)).1).trans l.2.2.2.2.2.1]
  have q3 := cq_18 q2 hz
  have n3 : cqF hA c z (am_wI g2 154 18 (nI z)) := ⟨q3.2.1, q3.2.2.1, q3.2.2.2, fun j hj => ⟨(nn j hj).1, by rw [em_wn _ _ (by omega)]; exact (nn j hj).2⟩, em_we _ _ _ _⟩
  generalize am_wI g2 154 18 (nI z) = g3 at q3 n3 ⊢
  have f3 := q3.2.1
  have hP3 : pz_P N a c g3 := by
    obtain ⟨p1, p2, p3, p4, p5, p6, p7⟩ := l.1
    refine ⟨⟨q3.1.1, q3.1.2, p1.2.2.1, ?_⟩, pz_told l q3, p3, ((f3.2 154 7 (by decide)).1).trans p4, p5, ((f3.2 154 13 (by decide)).1).trans p6, p7⟩
    rw [(f3.2 156 (N : Int).toNat (by simp [ag_atM, pz_Mk2])).1]
    exact p1.2.2.2
  refine am_goX 2 (show am_rc g3 154 11 ∧ 0 ≤ 8 ∧ g3.2.2.2.2 + am_al 181 ≤ 175 ∧ am_call am_cod 35 181 [.ref 154] g3 (fun vv h' => pz_S 2 (some .int) am_r188 35 Q 203 [(0, .ref 154)] (vv.toList ++ []) h') from ⟨pz_rc hP3, by decide, pz_lim hP3 rfl, am_call.up (am_det (by rw [f3.1]; exact hb) (pb_call (Q := fun v h4 => v = none ∧ pz_P N a c h4 ∧ ag_fr [(154, 25, 25), (167, 0, 0), (170, 0, 24), (171, 0, 3), (172, 0, 4)] g3 h4) hP3 (fun h4 q4 f4 => ⟨rfl, q4, f4⟩)) (b_181 (P := p) (E := e) (Q := fun v h4 => bR p e g3 h4) hp he (ex_G hP3.1.1 hP3.1.2.1) ((n3.2.1 0 (by decide)).trans l.2.2.2.1) ((n3.2.1 1 (by decide)).trans l.2.2.2.2.1) (fun h4 _ q => q)) ?_) (by decide)⟩)
  rintro v h4 ⟨rfl, q4, f4⟩ b4
  exact am_goX 2 (show (∃ ty, (some .int) = some ty ∧ narrow ty (.int ((Int32.ofInt 0))) = .int ((Int32.ofInt 0))) ∧ h4.2.2.2.2 = 175 ∧ _ from ⟨⟨.int, rfl, rfl⟩, pz_175 q4, hQ g3 h4 q4 ((ag_fr.refl hA).trans (by decide +kernel) (f3) |>.trans (by decide +kernel) f4) n3 b4⟩)
def pz_Mq : ag_M := [(154, 13, 13), (154, 19, 20), (160, 40, 79)]
def pz_Mf : ag_M := [(154, 0, 0), (154, 2, 3), (154, 7, 8), (154, 13, 13), (154, 19, 20), (156, 0, 1001), (157, 0, 1001), (158, 0, 1001), (160, 40, 79), (161, 1100, 2199), (162, 1100, 2199), (164, 0, 10), (166, 0, 10)]
theorem rf_canton {Q : am_Q} {sz : Nat} (hb : h.2.2.2.1 ≤ 4096) (hsz : h.1 154 2 = nI sz) (hz : sz ≤ 1000) (hw : ∀ w, w < 21 → h.2.1 159 w = rw_w w) (hP0 : pz_P N a c h) (hF : ∀ N' a' c' h' F, sp_canton (tt (h.1 155) sz) = .inl F → pz_P N' a' c' h' → rg h h' → ag_fr pz_Mf h h' → Q (some (.int F)) h') (hQ : ∀ N' a' c' p e s h6 hA g h', sp_canton (tt (h.1 155) sz) = .inr s → (p ≤ 6 ∧ e ≤ 5) → pz_P N' a' c' h' → rg h h' → ag_fr pz_Mf h hA → rr h6 (rz s.2) (tt (h.1 155) sz) N' s hA → ln N' a' c' h6 p e (p + e) hA → cqF hA c' (p + e) g → bR p e g h' → Q (some (.int (Int32.ofInt 0))) h') : am_call am_cod 36 188 [.ref 154] h Q := by
  refine pz_call (n := 188) (nL := 2) (rt := (some .int)) (rows := am_r188) (d := 35) (by decide +kernel) (by decide +kernel) rfl (by funext pc; rfl) (pz_175 hP0) (by exact Nat.le_of_ble_eq_true rfl) ?_
  refine am_goX 3 (show am_sh h 154 = some (11, 0) ∧ narrow (am_fty 11 0) (.int ((Int32.ofInt 0))) = .int ((Int32.ofInt 0)) ∧ fits (am_fty 11 0) (.int ((Int32.ofInt 0))) = true ∧ pz_S 2 (some .int) am_r188 35 Q 5 [(0, .ref 154)] [] (am_wI h 154 0 ((Int32.ofInt 0))) from ⟨pz_154 hP0, rfl, rfl, ?_⟩)
  have hP1 := pz_w (o := 154) (k := 0) (v := Int32.ofInt 0) hP0 (by omega) (by unfold ag_kp; omega) pz_s0
  have r1 : (am_wI h 154 0 (Int32.ofInt 0)).1 1 1 = h.1 1 1 ∧ (am_wI h 154 0 (Int32.ofInt 0)).2 = h.2 := ⟨em_wn h _ (by omega), rfl⟩
  have sz1 : (am_wI h 154 0 (Int32.ofInt 0)).1 154 2 = nI sz := by rw [em_wn h _ (by omega)]; exact hsz
  have hw1 : ∀ w, w < 21 → (am_wI h 154 0 (Int32.ofInt 0)).2.1 159 w = rw_w w := hw
  have hb1 : (am_wI h 154 0 (Int32.ofInt 0)).2.2.2.1 ≤ 4096 := hb
  have hT : (am_wI h 154 0 (Int32.ofInt 0)).1 155 = h.1 155 := by funext q; exact em_wn h _ (by omega)
  rw [← hT] at hQ hF
  have fm1 : ag_fr pz_Mf h (am_wI h 154 0 (Int32.ofInt 0)) := pz_fr (by decide)
  generalize am_wI h 154 0 (Int32.ofInt 0) = h1 at hP1 r1 sz1 hw1 hb1 hQ hF fm1 ⊢
  refine am_goX 2 (show am_rc h1 154 11 ∧ 0 ≤ 8 ∧ h1.2.2.2.2 + am_al 189 ≤ 175 ∧ am_call am_cod 35 189 [.ref 154] h1 (fun vv h' => pz_S 2 (some .int) am_r188 35 Q 9 [(0, .ref 154)] (vv.toList ++ []) h') from ⟨pz_rc hP1, by decide, pz_lim hP1 rfl, am_call.up (rx_cutall hP1 sz1 hz (fun N2 h2 hP2 f2 b2 t2 nsz k2 ep2 y6 y7 => ?_)) (by decide)⟩)
  have hw2 : ∀ w, w < 21 → h2.2.1 159 w = rw_w w := fun w hw => ((f2.2 159 w (at155 w).2.1).2.1).trans (hw1 w hw)
  have hb2 : h2.2.2.2.1 ≤ 4096 := by rw [f2.1]; exact hb1
  have g2 : gx (h1.1 155) sz N2 h2 := ⟨k2, y6, y7, hw2, hb2⟩
  have r2 : rf h2 h2 := ag_fr.refl h2
  refine am_goX 3 (show am_sh h2 154 = some (11, 0) ∧ narrow (am_fty 11 13) (.int ((Int32.ofInt 0))) = .int ((Int32.ofInt 0)) ∧ fits (am_fty 11 13) (.int ((Int32.ofInt 0))) = true ∧ pz_S 2 (some .int) am_r188 35 Q 14 [(0, .ref 154)] [] (am_wI h2 154 13 ((Int32.ofInt 0))) from ⟨pz_154 hP2, rfl, rfl, ?_⟩)
  have hP3 := pz_c0 hP2
  have b3 : (am_wI h2 154 13 (Int32.ofInt 0)).1 154 8 = 0 := by rw [em_wn h2 _ (by omega)]; exact b2
  have s3 : ag_fr pz_Mq h2 (am_wI h2 154 13 (Int32.ofInt 0)) := pz_fr (by decide)
  have r3 : rf h2 (am_wI h2 154 13 (Int32.ofInt 0)) := rf_t r2 (pz_fr (by decide))
  have g3 := gx_w (k := 13) (v := Int32.ofInt 0) g2
  have z3 : (am_wI h2 154 13 (Int32.ofInt 0)).1 154 13 = 0 := em_we h2 154 13 _
  generalize am_wI h2 154 13 (Int32.ofInt 0) = h3 at hP3 b3 r3 g3 z3 s3 ⊢
  refine am_goX 3 (show am_sh h3 154 = some (11, 0) ∧ narrow (am_fty 11 19) (.int ((Int32.ofInt 0))) = .int ((Int32.ofInt 0)) ∧ fits (am_fty 11 19) (.int ((Int32.ofInt 0))) = true ∧ pz_S 2 (some .int) am_r188 35 Q 19 [(0, .ref 154)] [] (am_wI h3 154 19 ((Int32.ofInt 0))) from ⟨pz_154 hP3, rfl, rfl, ?_⟩)
  have hP4 := pz_w (o := 154) (k := 19) (v := Int32.ofInt 0) hP3 (by omega) (by unfold ag_kp; omega) (pz_sgv pz_sg19 (by decide) (by decide))
  have b4 : (am_wI h3 154 19 (Int32.ofInt 0)).1 154 8 = 0 := by rw [em_wn h3 _ (by omega)]; exact b3
  have c4 : (am_wI h3 154 19 (Int32.ofInt 0)).1 154 19 = 0 := em_we h3 154 19 _
  have s4 : ag_fr pz_Mq h2 (am_wI h3 154 19 (Int32.ofInt 0)) := s3.trans (by decide +kernel) (pz_fr (M := pz_Mq) (by decide))
  have r4 : rf h2 (am_wI h3 154 19 (Int32.ofInt 0)) := rf_t r3 (pz_fr (by decide))
  have g4 := gx_w (k := 19) (v := Int32.ofInt 0) g3
  have z4 : (am_wI h3 154 19 (Int32.ofInt 0)).1 154 13 = 0 := by rw [em_wn h3 _ (by omega)]; exact z3
  generalize am_wI h3 154 19 (Int32.ofInt 0) = h4 at hP4 b4 c4 r4 g4 z4 s4 ⊢
  refine am_goX 3 (show am_sh h4 154 = some (11, 0) ∧ narrow (am_fty 11 20) (.int ((Int32.ofInt 0))) = .int ((Int32.ofInt 0)) ∧ fits (am_fty 11 20) (.int ((Int32.ofInt 0))) = true ∧ pz_S 2 (some .int) am_r188 35 Q 24 [(0, .ref 154)] [] (am_wI h4 154 20 ((Int32.ofInt 0))) from ⟨pz_154 hP4, rfl, rfl, ?_⟩)
  have hP5 := pz_w (o := 154) (k := 20) (v := Int32.ofInt 0) hP4 (by omega) (by unfold ag_kp; omega) pz_s20
  have b5 : (am_wI h4 154 20 (Int32.ofInt 0)).1 154 8 = 0 := by rw [em_wn h4 _ (by omega)]; exact b4
  have c5 : (am_wI h4 154 20 (Int32.ofInt 0)).1 154 19 = 0 := by rw [em_wn h4 _ (by omega)]; exact c4
  have d5 : (am_wI h4 154 20 (Int32.ofInt 0)).1 154 20 = 0 := em_we h4 154 20 _
  have s5 : ag_fr pz_Mq h2 (am_wI h4 154 20 (Int32.ofInt 0)) := s4.trans (by decide +kernel) (pz_fr (M := pz_Mq) (by decide))
  have r5 : rf h2 (am_wI h4 154 20 (Int32.ofInt 0)) := rf_t r4 (pz_fr (by decide))
  have g5 := gx_w (k := 20) (v := Int32.ofInt 0) g4
  have z5 : (am_wI h4 154 20 (Int32.ofInt 0)).1 154 13 = 0 := by rw [em_wn h4 _ (by omega)]; exact z4
  generalize am_wI h4 154 20 (Int32.ofInt 0) = h5 at hP5 b5 c5 d5 r5 g5 z5 s5 ⊢
  refine am_goX 3 (show am_rc h5 154 11 ∧ 0 ≤ 8 ∧ h5.2.2.2.2 + am_al 180 ≤ 175 ∧ am_call am_cod 35 180 [.ref 154, .int (Int8.ofInt 40).toInt32] h5 (fun vv h' => pz_S 2 (some .int) am_r188 35 Q 30 [(0, .ref 154)] (vv.toList ++ []) h') from ⟨pz_rc hP5, by decide, pz_lim hP5 rfl, am_call.up (rx_std hP5 (fun h6 hP6 f6 x40 x41 x43 xx => ?_)) (by decide)⟩)
  have r6 : rf h2 h6 := rf_t r5 (rf_of (by decide +kernel) f6)
  have rr6 : ag_fr pz_Mq h2 h6 := s5.trans (by decide +kernel) f6
  have l6 : ln N2 0 0 h6 0 0 (0 + 0) h6 := ⟨hP6, ag_fr.refl h6, ((f6.2 154 8 (by decide)).1).trans b5, x40, x41, ((f6.2 154 19 (by decide)).1).trans c5, Or.inl ⟨x43, rfl, Or.inl (((f6.2 154 20 (by decide)).1).trans d5)⟩⟩
  have g6 := gx_f g5 f6
  have fm2 : ag_fr pz_Mf h h2 := fm1.trans (by decide +kernel) f2
  have fm6 : ag_fr pz_Mf h h6 := fm2.trans (by decide +kernel) rr6
  have lx : rr h6 (rz sp_C0) (tt (h1.1 155) sz) N2 (0, sp_C0) h6 := by
    refine ⟨⟨rt_of (ex_G hP6.1.1 hP6.1.2.1) hz nsz g6.1 ep2 g6.2.1 g6.2.2.1 g6.2.2.2.1, ⟨hP6.2.2.2.1, Nat.zero_le _⟩, l6.2.2.1⟩, ⟨⟨x40, by decide, fun i hi => absurd hi (Nat.not_lt_zero i)⟩, ⟨x41, by decide, fun i hi => absurd hi (Nat.not_lt_zero i)⟩, fun p e hp he => ?_, ⟨xx 42 (by decide) (by decide) (by decide), fun _ => rfl, (by show sp_28 0; unfold sp_28; decide)⟩, ?_, ⟨?_, fun j hj => absurd hj (Nat.not_lt_zero j), fun q => absurd q (by decide), fun _ => rfl, x43⟩, ⟨l6.2.2.2.2.2.1, fun k hk => absurd hk (Nat.not_lt_zero k), fun i hi => absurd hi (Nat.not_lt_zero i), fun i hi => absurd hi (Nat.not_lt_zero i), fun k k' hk => absurd hk (Nat.not_lt_zero k)⟩⟩, ⟨rfl, fun o k _ => ⟨rfl, rfl⟩⟩, Nat.zero_le _⟩
    · rw [xx (46 + 3 * p) (by omega) (by omega) (by omega)]
      have key : ∀ e, e < 5 → sp_bit 0 (nI e) = false := by decide +kernel
      refine ⟨?_, by decide⟩
      rw [key e he]
      show false = (decide (e < 0) && _)
      rw [decide_eq_false (Nat.not_lt_zero e)]
      rfl
    · show h6.1 154 20 = rb2 false false
      exact ((f6.2 154 20 (by decide)).1).trans d5
    · show h6.1 154 13 = nI 0
      exact ((f6.2 154 13 (by decide)).1).trans z5
  refine rx_cnl (r := sp_canton (tt (h1.1 155) sz)) g6.2.2.2.2 (fun h7 F er7 f7 => ?_) (fun h7 a7 c7 p7 e7 s7 er7 l7 lx7 hp7 he7 => ?_) 1001 0 0 0 0 (0, sp_C0) h6 (by omega) rfl lx l6 (by decide) (by decide)
  · obtain ⟨⟨a9, c9, w1⟩, w2, w3⟩ := f7
    exact hF N2 a9 c9 h7 F er7 w1 (rg_of r1 f2 t2 (rf_t r6 (rf_of (by decide +kernel) w2))) (fm6.trans (by decide +kernel) w2)
  · exact pf_cnE l7 (by omega) hp7 he7 (by rw [l7.2.1.1]; exact g6.2.2.2.2) (fun g h8 hP8 r8 cq8 bR8 => hQ N2 a7 c7 p7 e7 s7 h6 h7 g h8 er7 ⟨hp7, he7⟩ hP8 (rg_of r1 f2 t2 (rf_t (rf_t r6 (rf_of (by decide +kernel) l7.2.1)) r8)) (fm6.trans (by decide +kernel) l7.2.1) lx7 l7 cq8 bR8)
