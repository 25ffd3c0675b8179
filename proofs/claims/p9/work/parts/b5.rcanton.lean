/-! cutAll AND canton OF THE REFERENCE, EXACTLY -/
theorem nm_2 {T : Nat → Int32} {sz p : Nat} (e : kz T sz p = 2) : ∃ D : Nat, D ≤ 9999 ∧ tk_vl T sz p = Int64.ofNat D := by
  have hps : p < sz := kz_lt (by rw [e]; decide)
  cases hl : pz_let (T p) with
  | true =>
    rw [(cs_kw hps hl).1] at e
    cases hb : Nat.blt 8 (tk_go pz_let T sz p - p) with
    | true => rw [hb] at e; exact absurd e (by decide)
    | false => rw [hb] at e; exact absurd e (by decide)
  | false =>
    cases hd : pz_dig (T p) with
    | true =>
      obtain ⟨k1, k2, k3⟩ := cs_kn hps hl hd
      have hge := tk_ge pz_dig T (Nat.le_of_lt hps)
      rw [k1] at e
      cases hb : Nat.blt 4 (tk_go pz_dig T sz p - p) with
      | true => rw [hb] at e; exact absurd e (by decide)
      | false =>
        have hn : tk_go pz_dig T sz p - p ≤ 4 := by
          rcases Nat.lt_or_ge 4 (tk_go pz_dig T sz p - p) with w | w
          · rw [tk_blt.mpr w] at hb
            cases hb
          · exact w
        have hall := tk_all (T := T) (f := pz_dig) (sz := sz) sz p (by omega) (by omega)
        obtain ⟨w1, w2, w3⟩ := cn_eq (T := T) (p := p) (n := tk_go pz_dig T sz p - p) (fun j hj => hall (p + j) (by omega) (by omega)) hn
        have h5 := cn_lt w3
        have h6 : 10 ^ (tk_go pz_dig T sz p - p) ≤ 10 ^ 4 := Nat.pow_le_pow_right (by omega) hn
        rw [k3]
        exact ⟨_, by omega, w1⟩
    | false =>
      rw [(cs_ks hps hl hd).1] at e
      cases hb : tk_sn (T p) with
      | true => rw [hb] at e; exact absurd e (by decide)
      | false => rw [hb] at e; exact absurd e (by decide)
def TK (T : Nat → Int32) (sz n : Nat) (h : am_H) : Prop := ∀ j, j < n → h.1 157 j = nI (tk_pl T sz j) ∧ h.1 156 j = tk_kd T sz (tk_pl T sz j) ∧ h.2.1 158 j = tk_vl T sz (tk_pl T sz j) ∧ tk_pl T sz j < sz
theorem TK_w {T : Nat → Int32} {sz n o k : Nat} {h : am_H} {v : Int32} (q : TK T sz n h) (hk : (o = 156 ∨ o = 157) → n ≤ k) : TK T sz n (am_wI h o k v) := by
  intro j hj
  obtain ⟨q1, q2, q3, q4⟩ := q j hj
  exact ⟨by rw [em_wn _ _ (by omega)]; exact q1, by rw [em_wn _ _ (by omega)]; exact q2, q3, q4⟩
/-- the tokens of the reference are those of the tape -/
theorem rt_of {T : Nat → Int32} {sz n : Nat} {h : am_H} (hP : ex_P h) (hz : sz ≤ 1000) (hn : n ≤ sz) (q : TK T sz n h) (ep : tk_pl T sz n = sz) (e1 : h.1 156 n = 0) (e2 : h.1 157 n = nI sz) (hw : ∀ w, w < 21 → h.2.1 159 w = rw_w w) : rt (tt T sz) n h := by
  refine ⟨hP, by omega, fun i hi => ?_, fun i hi => (q i hi).2.2.1, ?_, hw, fun i hi => nm_2 hi⟩
  · by_cases ei : i = n
    · have hk : kz T sz (tk_pl T sz n) = 0 := (cs_ke (by omega)).1
      rw [ei]
      refine ⟨e1.trans hk.symm, ?_, ?_⟩
      · rw [e2]
        show nI sz = nI (tk_pl T sz n)
        rw [ep]
      · show tk_pl T sz n ≤ 1000
        omega
    · obtain ⟨q1, q2, q3, q4⟩ := q i (by omega)
      refine ⟨?_, q1, ?_⟩
      · rw [q2]
        show _ = kz T sz (tk_pl T sz i)
        unfold kz
        rw [tk_blt.mpr q4]
        rfl
      · show tk_pl T sz i ≤ 1000
        omega
  · exact (cs_ke (by omega)).1
variable {N a c p e z : Nat} {h h0 : am_H}
theorem at155 (q : Nat) : ag_atM pz_Mt 155 q = false ∧ ag_atM pz_Mt 159 q = false ∧ ag_atM pz_Mz 159 q = false ∧ ag_atM pz_Mc 159 q = false := by
  unfold ag_atM pz_Mz pz_Mt pz_Mc
  simp [List.any]
theorem rx_cutall {Q : am_Q} {N a c sz : Nat} (hP0 : pz_P N a c h) (hsz : h.1 154 2 = nI sz) (hz : sz ≤ 1000) (hQ : ∀ N' h', pz_P N' 0 c h' → ag_fr pz_Mt h h' → h'.1 154 8 = 0 → h'.1 154 2 = 0 → N' ≤ sz → TK (h.1 155) sz N' h' → tk_pl (h.1 155) sz N' = sz → h'.1 156 N' = 0 → h'.1 157 N' = nI sz → Q none h') : am_call am_cod 3 189 [.ref 154] h Q := by
  have hP : pc_P h := ⟨hP0.1.1, hP0.1.2.1, hP0.2.1⟩
  have hszt : (nI sz).toInt = sz := nI_toInt (by omega)
  refine pz_call (n := 189) (nL := 7) (rt := none) (rows := am_r189) (d := 2) (by decide +kernel) (by decide +kernel) rfl (by funext pc; rfl) (pc_175 hP) (by exact Nat.le_of_ble_eq_true rfl) ?_
  refine am_goX 4 (show am_sh h 154 = some (11, 0) ∧ am_sh h 154 = some (11, 0) ∧ narrow (am_fty 11 3) (.int ((h.1 154 2))) = .int ((h.1 154 2)) ∧ fits (am_fty 11 3) (.int ((h.1 154 2))) = true ∧ pz_S 7 none am_r189 2 Q 8 [(0, .ref 154)] [] (am_wI h 154 3 ((h.1 154 2))) from ⟨pc_154 hP, pc_154 hP, rfl, rfl, ?_⟩)
  rw [hsz]
  have l0 : pc_P (am_wI h 154 3 (nI sz)) ∧ ag_fr pz_Mt h (am_wI h 154 3 (nI sz)) ∧ (am_wI h 154 3 (nI sz)).1 154 3 = nI sz := ⟨⟨hP.1, pz_wG hP.2.1 (pz_sgv pz_sg3 (by omega) (by omega)), pc_wX hP.2.2 (by decide)⟩, pz_fr rfl, em_we h 154 3 _⟩
  generalize am_wI h 154 3 (nI sz) = h1 at l0 ⊢
  refine am_goX 3 (show am_sh h1 154 = some (11, 0) ∧ narrow (am_fty 11 2) (.int ((Int32.ofInt 0))) = .int ((Int32.ofInt 0)) ∧ fits (am_fty 11 2) (.int ((Int32.ofInt 0))) = true ∧ pz_S 7 none am_r189 2 Q 13 [(0, .ref 154)] [] (am_wI h1 154 2 ((Int32.ofInt 0))) from ⟨pc_154 l0.1, rfl, rfl, ?_⟩)
  have l1 : ct h sz (am_wI h1 154 2 (Int32.ofInt 0)) := ⟨⟨l0.1.1, pz_wG l0.1.2.1 (pz_sgv pz_sg2 (by decide) (by decide)), pc_wX l0.1.2.2 (by decide)⟩, pz_trt l0.2.1 (pz_fr rfl), by rw [em_wn h1 _ (by omega)]; exact l0.2.2, em_we h1 154 2 _⟩
  generalize am_wI h1 154 2 (Int32.ofInt 0) = h2 at l1 ⊢
  refine am_goX 4 (show 1 < 7 ∧ 2 < 7 ∧ pz_S 7 none am_r189 2 Q 17 [(2, .int (Int32.ofInt 0)), (1, .int (Int32.ofInt 0)), (0, .ref 154)] [] h2 from ⟨by decide, by decide, ?_⟩)
  refine tk_cut_l (T := h.1 155) hz (fun n h3 hn t3 ep => ?_) sz 0 0 h2 (by omega) (Nat.le_refl _) (Nat.zero_le _) ⟨l1, fun q => (l1.2.1.2 155 q (at155 q).1).1, fun j hj => absurd hj (Nat.not_lt_zero j)⟩ rfl
  have l3 := t3.1
  have k3 : TK (h.1 155) sz n h3 := t3.2.2
  have hnt : (nI n).toInt = n := nI_toInt (by omega)
  have hP3 := l3.1
  refine am_goX 2 (show am_sh h3 154 = some (11, 0) ∧ pz_S 7 none am_r189 2 Q 283 [(1, .int (nI n)), (0, .ref 154)] [am_rf (h3.2.2.1 154 4)] h3 from ⟨pc_154 hP3, ?_⟩)
  rw [pc_r4 hP3]
  refine am_goX 3 (show ∃ jj nn : Nat, am_so h3 156 = some (13, nn) ∧ jj < nn ∧ (nI n) = nI jj ∧ pz_S 7 none am_r189 2 Q 286 [(1, .int (nI n)), (0, .ref 154)] [] (am_wI h3 156 jj ((Int32.ofInt 0))) from ⟨n, 1002, pc_w156 hP3, by omega, rfl, ?_⟩)
  have l4 := ct_w (o := 156) (k := n) (v := Int32.ofInt 0) l3 (pz_Mtk (Or.inl rfl) (by omega)) (by omega) (by decide) (pz_sga pz_sg156 (by decide) (by decide))
  have e4 : (am_wI h3 156 n (Int32.ofInt 0)).1 156 n = 0 := em_we h3 156 n _
  have k4 := TK_w (o := 156) (k := n) (v := Int32.ofInt 0) k3 (fun _ => Nat.le_refl n)
  generalize am_wI h3 156 n (Int32.ofInt 0) = h4 at l4 e4 k4 ⊢
  refine am_goX 2 (show am_sh h4 154 = some (11, 0) ∧ pz_S 7 none am_r189 2 Q 290 [(1, .int (nI n)), (0, .ref 154)] [am_rf (h4.2.2.1 154 5)] h4 from ⟨pc_154 l4.1, ?_⟩)
  rw [pc_r5 l4.1]
  refine am_goX 3 (show am_sh h4 154 = some (11, 0) ∧ pz_S 7 none am_r189 2 Q 295 [(1, .int (nI n)), (0, .ref 154)] [.int (h4.1 154 3), .int (nI n), .ref 157] h4 from ⟨pc_154 l4.1, ?_⟩)
  rw [l4.2.2.1]
  refine am_goX 1 (show ∃ jj nn : Nat, am_so h4 157 = some (13, nn) ∧ jj < nn ∧ (nI n) = nI jj ∧ pz_S 7 none am_r189 2 Q 296 [(1, .int (nI n)), (0, .ref 154)] [] (am_wI h4 157 jj ((nI sz))) from ⟨n, 1002, pc_w157 l4.1, by omega, rfl, ?_⟩)
  have l5 := ct_w (o := 157) (k := n) (v := nI sz) l4 (pz_Mtk (Or.inr (Or.inl rfl)) (by omega)) (by omega) (by decide) (pz_sga pz_sg157 (by omega) (by omega))
  have e5 : (am_wI h4 157 n (nI sz)).1 156 n = 0 := by rw [em_wn h4 _ (by omega)]; exact e4
  have k5 := TK_w (o := 157) (k := n) (v := nI sz) k4 (fun _ => Nat.le_refl n)
  have p5 : (am_wI h4 157 n (nI sz)).1 157 n = nI sz := em_we h4 157 n _
  generalize am_wI h4 157 n (nI sz) = h5 at l5 e5 k5 p5 ⊢
  refine am_goX 3 (show am_sh h5 154 = some (11, 0) ∧ narrow (am_fty 11 7) (.int ((Int32.ofInt 0))) = .int ((Int32.ofInt 0)) ∧ fits (am_fty 11 7) (.int ((Int32.ofInt 0))) = true ∧ pz_S 7 none am_r189 2 Q 301 [(1, .int (nI n)), (0, .ref 154)] [] (am_wI h5 154 7 ((Int32.ofInt 0))) from ⟨pc_154 l5.1, rfl, rfl, ?_⟩)
  have l6 := ct_w (o := 154) (k := 7) (v := Int32.ofInt 0) l5 rfl (by decide) (by decide) (pz_sgv pz_sg7 (by decide) (by decide))
  have e6 : (am_wI h5 154 7 (Int32.ofInt 0)).1 156 n = 0 := by rw [em_wn h5 _ (by omega)]; exact e5
  have a6 : (am_wI h5 154 7 (Int32.ofInt 0)).1 154 7 = nI 0 := em_we h5 154 7 _
  have k6 := TK_w (o := 154) (k := 7) (v := Int32.ofInt 0) k5 (by omega)
  have p6 : (am_wI h5 154 7 (Int32.ofInt 0)).1 157 n = nI sz := by rw [em_wn h5 _ (by omega)]; exact p5
  generalize am_wI h5 154 7 (Int32.ofInt 0) = h6 at l6 e6 a6 k6 p6 ⊢
  refine am_goX 3 (show am_sh h6 154 = some (11, 0) ∧ narrow (am_fty 11 8) (.int ((Int32.ofInt 0))) = .int ((Int32.ofInt 0)) ∧ fits (am_fty 11 8) (.int ((Int32.ofInt 0))) = true ∧ pz_S 7 none am_r189 2 Q 306 [(1, .int (nI n)), (0, .ref 154)] [] (am_wI h6 154 8 ((Int32.ofInt 0))) from ⟨pc_154 l6.1, rfl, rfl, ?_⟩)
  have l7 := ct_w (o := 154) (k := 8) (v := Int32.ofInt 0) l6 rfl (by decide) (by decide) (pz_sgv pz_sg8 (by decide) (by decide))
  have e7 : (am_wI h6 154 8 (Int32.ofInt 0)).1 156 n = 0 := by rw [em_wn h6 _ (by omega)]; exact e6
  have a7 : (am_wI h6 154 8 (Int32.ofInt 0)).1 154 7 = nI 0 := by rw [em_wn h6 _ (by omega)]; exact a6
  have b7 : (am_wI h6 154 8 (Int32.ofInt 0)).1 154 8 = 0 := em_we h6 154 8 _
  have k7 := TK_w (o := 154) (k := 8) (v := Int32.ofInt 0) k6 (by omega)
  have p7 : (am_wI h6 154 8 (Int32.ofInt 0)).1 157 n = nI sz := by rw [em_wn h6 _ (by omega)]; exact p6
  generalize am_wI h6 154 8 (Int32.ofInt 0) = h7 at l7 e7 a7 b7 k7 p7 ⊢
  have hP7 : pz_P n 0 c h7 := ⟨⟨l7.1.1, l7.1.2.1, Int.natCast_nonneg n, e7⟩, l7.1.2.2, by omega, a7, Nat.zero_le _, ((l7.2.1.2 154 13 (by decide)).1).trans hP0.2.2.2.2.2.1, hP0.2.2.2.2.2.2⟩
  exact am_goX 1 (show (none : Option FieldType) = none ∧ h7.2.2.2.2 = 175 ∧ _ from ⟨rfl, pc_175 l7.1, hQ n h7 hP7 l7.2.1 b7 l7.2.2.2 hn k7 ep e7 p7⟩)
theorem rx_std {Q : am_Q} (hP : pz_P N a c h) (hQ : ∀ h', pz_P N a c h' → ag_fr [(160, 40, 79)] h h' → h'.1 160 40 = 0 → h'.1 160 41 = 0 → h'.1 160 43 = -1 → (∀ k, 40 ≤ k → k < 80 → ¬ k = 43 → h'.1 160 k = 0) → Q none h') : am_call am_cod 1 180 [.ref 154, .int (Int8.ofInt 40).toInt32] h Q := by
  refine pz_call (n := 180) (nL := 3) (rt := none) (rows := am_r180) (d := 0) (by decide +kernel) (by decide +kernel) rfl (by funext pc; rfl) (pz_175 hP) (by exact Nat.le_of_ble_eq_true rfl) ?_
  refine am_goX 2 (show 2 < 3 ∧ pz_S 3 none am_r180 0 Q 2 [(2, .int (Int32.ofInt 0)), (0, .ref 154), (1, .int (Int8.ofInt 40).toInt32)] [] h from ⟨by decide, ?_⟩)
  refine pz_std_l (fun h1 hP1 hf1 hj1 => ?_) 40 0 h rfl hP (ag_fr.refl h) (fun j hj => absurd hj (by omega))
  refine am_goX 2 (show am_sh h1 154 = some (11, 0) ∧ pz_S 3 none am_r180 0 Q 27 [(0, .ref 154), (1, .int (Int8.ofInt 40).toInt32)] [am_rf (h1.2.2.1 154 10)] h1 from ⟨pz_154 hP1, ?_⟩)
  rw [pz_r10 hP1]
  refine am_goX 5 (show ∃ jj nn : Nat, am_so h1 160 = some (13, nn) ∧ jj < nn ∧ ((Int8.ofInt 40).toInt32 + (Int32.ofInt 3)) = nI jj ∧ pz_S 3 none am_r180 0 Q 32 [(0, .ref 154), (1, .int (Int8.ofInt 40).toInt32)] [] (am_wI h1 160 jj ((Int32.ofInt (-1)))) from ⟨43, 80, pz_w160 hP1, by decide, by decide, ?_⟩)
  have hP2 := pz_w (o := 160) (k := 43) (v := Int32.ofInt (-1)) hP1 (by omega) (by unfold ag_kp; omega) (pz_sgv pz_sg43m (by decide) (by decide))
  exact am_goX 1 (show (none : Option FieldType) = none ∧ (am_wI h1 160 43 (Int32.ofInt (-1))).2.2.2.2 = 175 ∧ _ from ⟨rfl, pz_175 hP2, hQ _ hP2 (hf1.trans (by decide +kernel) (pz_fr (M := [(160, 40, 79)]) (by decide))) (by rw [em_wn h1 _ (by omega)]; exact hj1 0 (by decide)) (by rw [em_wn h1 _ (by omega)]; exact hj1 1 (by decide)) (em_we h1 160 43 _) (fun k g1 g2 g3 => by
    rw [em_wn h1 _ (by omega)]
    have := hj1 (k - 40) (by omega)
    rw [show 40 + (k - 40) = k by omega] at this
    exact this)⟩)
theorem rx_c62 {Q : am_Q} (f : fl N h0 h) (hQ : Q (some (.int (h.1 154 8))) h) : pz_S 2 (some .int) am_r188 35 Q 62 [(0, .ref 154)] [] h := by
  obtain ⟨⟨a9, c9, hP⟩, -, hf⟩ := f
  refine am_goX 3 (show am_sh h 154 = some (11, 0) ∧ ((h.1 154 8) ≤ 0 → pz_S 2 (some .int) am_r188 35 Q 74 [(0, .ref 154)] [] h) ∧ (¬ ((h.1 154 8) ≤ 0) → pz_S 2 (some .int) am_r188 35 Q 69 [(0, .ref 154)] [] h) from ⟨pz_154 hP, fun hz => absurd hz (fun w => hf (pz_eq0 hP w)), fun _ => ?_⟩)
  exact am_goX 3 (show am_sh h 154 = some (11, 0) ∧ (∃ ty, (some .int) = some ty ∧ narrow ty (.int ((h.1 154 8))) = .int ((h.1 154 8))) ∧ h.2.2.2.2 = 175 ∧ _ from ⟨pz_154 hP, ⟨.int, rfl, rfl⟩, pz_175 hP, hQ⟩)
theorem rx_c30 {Q : am_Q} (f : fl N h0 h) (hQ : Q (some (.int (h.1 154 8))) h) : pz_S 2 (some .int) am_r188 35 Q 30 [(0, .ref 154)] [] h := by
  obtain ⟨⟨a9, c9, hP⟩, -, hf⟩ := id f
  refine am_goX 3 (show am_sh h 154 = some (11, 0) ∧ (¬ (h.1 154 8) = 0 → pz_S 2 (some .int) am_r188 35 Q 62 [(0, .ref 154)] [] h) ∧ (¬ ¬ (h.1 154 8) = 0 → pz_S 2 (some .int) am_r188 35 Q 37 [(0, .ref 154)] [] h) from ⟨pz_154 hP, fun _ => ?_, fun hz => absurd hf hz⟩)
  exact rx_c62 f hQ
theorem rx_cnl {Q : am_Q} {τ : sp_T} {h9 : am_H} {r : sp_R} (hb : h9.2.2.2.1 ≤ 4096) (hbad : ∀ h1 F, r = .inl F → fl N h0 h1 → Q (some (.int F)) h1) (hok : ∀ h1 a c p e s, r = .inr s → ln N a c h0 p e (p + e) h1 → rr h9 (rz s.2) τ N s h1 → p ≤ 6 → e ≤ 5 → pz_S 2 (some .int) am_r188 35 Q 74 [(0, .ref 154)] [] h1) : ∀ (m a c p e : Nat) (s : sp_S) (h : am_H), N ≤ a + m → r = sp_all τ m s → rr h9 (rz s.2) τ N s h → ln N a c h0 p e (p + e) h → p ≤ 6 → e ≤ 5 → pz_S 2 (some .int) am_r188 35 Q 30 [(0, .ref 154)] [] h := by
  intro m
  induction m with
  | zero =>
    intro a c p e s h hm er lx l hp he
    have ea : s.1 = a := by
      have w := (r_a lx).symm.trans l.1.2.2.2.1
      have w2 := congrArg Int32.toInt w
      have w3 := r_N lx
      have w4 := l.1.2.2.1
      have w5 := l.1.2.2.2.2.1
      rw [nI_toInt (by omega), nI_toInt (by omega)] at w2
      omega
    have ek : h.1 156 a = (τ s.1).1 := by
      rw [← ea]
      exact r_k lx
    have hP := l.1
    have hf := l.2.2.1
    refine am_goX 3 (show am_sh h 154 = some (11, 0) ∧ (¬ (h.1 154 8) = 0 → pz_S 2 (some .int) am_r188 35 Q 62 [(0, .ref 154)] [] h) ∧ (¬ ¬ (h.1 154 8) = 0 → pz_S 2 (some .int) am_r188 35 Q 37 [(0, .ref 154)] [] h) from ⟨pz_154 hP, fun hz => absurd hz (fun w => w hf), fun _ => ?_⟩)
    refine am_goX 2 (show am_sh h 154 = some (11, 0) ∧ pz_S 2 (some .int) am_r188 35 Q 41 [(0, .ref 154)] [am_rf (h.2.2.1 154 4)] h from ⟨pz_154 hP, ?_⟩)
    rw [pz_r4 hP]
    refine am_goX 3 (show am_sh h 154 = some (11, 0) ∧ ∃ jj nn : Nat, am_sh h 156 = some (13, nn) ∧ jj < nn ∧ (h.1 154 7) = nI jj ∧ pz_S 2 (some .int) am_r188 35 Q 46 [(0, .ref 154)] [.int (h.1 156 jj)] h from ⟨pz_154 hP, a, 1002, pz_156 hP, pz_al hP, hP.2.2.2.1, ?_⟩)
    refine am_goX 1 (show ((h.1 156 a) = 0 → pz_S 2 (some .int) am_r188 35 Q 62 [(0, .ref 154)] [] h) ∧ (¬ ((h.1 156 a) = 0) → pz_S 2 (some .int) am_r188 35 Q 49 [(0, .ref 154)] [] h) from ⟨fun hc => ?_, fun hc => ?_⟩)
    · refine am_goX 3 (show am_sh h 154 = some (11, 0) ∧ ((h.1 154 8) ≤ 0 → pz_S 2 (some .int) am_r188 35 Q 74 [(0, .ref 154)] [] h) ∧ (¬ ((h.1 154 8) ≤ 0) → pz_S 2 (some .int) am_r188 35 Q 69 [(0, .ref 154)] [] h) from ⟨pz_154 hP, fun _ => ?_, fun hz => absurd (by rw [hf]; decide) hz⟩)
      exact hok h a c p e s (by rw [er]; unfold sp_all; first | rfl | (rw [show sp_k τ s.1 0 = true from decide_eq_true (ek.symm.trans hc)]; rfl)) l lx hp he
    · exact absurd (pz_lt hP hc) (by omega)
  | succ m ih =>
    intro a c p e s h hm er lx l hp he
    have ea : s.1 = a := by
      have w := (r_a lx).symm.trans l.1.2.2.2.1
      have w2 := congrArg Int32.toInt w
      have w3 := r_N lx
      have w4 := l.1.2.2.1
      have w5 := l.1.2.2.2.2.1
      rw [nI_toInt (by omega), nI_toInt (by omega)] at w2
      omega
    have ek : h.1 156 a = (τ s.1).1 := by
      rw [← ea]
      exact r_k lx
    have hP := l.1
    have hf := l.2.2.1
    refine am_goX 3 (show am_sh h 154 = some (11, 0) ∧ (¬ (h.1 154 8) = 0 → pz_S 2 (some .int) am_r188 35 Q 62 [(0, .ref 154)] [] h) ∧ (¬ ¬ (h.1 154 8) = 0 → pz_S 2 (some .int) am_r188 35 Q 37 [(0, .ref 154)] [] h) from ⟨pz_154 hP, fun hz => absurd hz (fun w => w hf), fun _ => ?_⟩)
    refine am_goX 2 (show am_sh h 154 = some (11, 0) ∧ pz_S 2 (some .int) am_r188 35 Q 41 [(0, .ref 154)] [am_rf (h.2.2.1 154 4)] h from ⟨pz_154 hP, ?_⟩)
    rw [pz_r4 hP]
    refine am_goX 3 (show am_sh h 154 = some (11, 0) ∧ ∃ jj nn : Nat, am_sh h 156 = some (13, nn) ∧ jj < nn ∧ (h.1 154 7) = nI jj ∧ pz_S 2 (some .int) am_r188 35 Q 46 [(0, .ref 154)] [.int (h.1 156 jj)] h from ⟨pz_154 hP, a, 1002, pz_156 hP, pz_al hP, hP.2.2.2.1, ?_⟩)
    refine am_goX 1 (show ((h.1 156 a) = 0 → pz_S 2 (some .int) am_r188 35 Q 62 [(0, .ref 154)] [] h) ∧ (¬ ((h.1 156 a) = 0) → pz_S 2 (some .int) am_r188 35 Q 49 [(0, .ref 154)] [] h) from ⟨fun hc => ?_, fun hc => ?_⟩)
    · refine am_goX 3 (show am_sh h 154 = some (11, 0) ∧ ((h.1 154 8) ≤ 0 → pz_S 2 (some .int) am_r188 35 Q 74 [(0, .ref 154)] [] h) ∧ (¬ ((h.1 154 8) ≤ 0) → pz_S 2 (some .int) am_r188 35 Q 69 [(0, .ref 154)] [] h) from ⟨pz_154 hP, fun _ => ?_, fun hz => absurd (by rw [hf]; decide) hz⟩)
      exact hok h a c p e s (by rw [er]; unfold sp_all; first | rfl | (rw [show sp_k τ s.1 0 = true from decide_eq_true (ek.symm.trans hc)]; rfl)) l lx hp he
    · have e0 : sp_k τ s.1 0 = false := decide_eq_false (fun w => hc (ek.trans w))
      have er2 : r = sp_b (sp_b (sq_line τ s) (sp_tS τ (Int8.ofInt 59).toInt32)) (sp_all τ m) := by
        rw [er, ← sq_ok]
        show (bif sp_k τ s.1 0 then _ else _) = _
        rw [e0]
        rfl
      have hb1 : h.2.2.2.1 ≤ 4096 := by
        rw [lx.2.2.1.1]
        exact hb
      refine am_goX 2 (show am_rc h 154 11 ∧ 0 ≤ 8 ∧ h.2.2.2.2 + am_al 194 ≤ 175 ∧ am_call am_cod 35 194 [.ref 154] h (fun vv h' => pz_S 2 (some .int) am_r188 35 Q 53 [(0, .ref 154)] (vv.toList ++ []) h') from ⟨pz_rc hP, by decide, pz_lim hP rfl, am_call.up (am_det hb1 (pz_rline (Q := fun v h1 => v = none ∧ lo N a h0 h1) l hp he (fun h1 hlo => ⟨rfl, hlo⟩)) (r_194 (Q := fun v h1 => (∃ F c', sq_line τ s = .inl F ∧ rx h9 F c' h1) ∨ (∃ t, sq_line τ s = .inr t ∧ rr h9 (rz t.2) τ N t h1)) lx (fun F h1 c' q1 q2 => Or.inl ⟨F, c', q1, q2⟩) (fun h1 t q1 q2 => Or.inr ⟨t, q1, q2⟩)) ?_) (by decide)⟩)
      rintro v h1 ⟨rfl, hlo⟩ hx
      rcases hx with ⟨F, c', q1, x⟩ | ⟨t, q1, lt⟩
      · -- a fault in the line
        have w : fl N h0 h1 := by
          rcases hlo with w | ⟨a1, c1, p1, e1, ha1, l1, hp1, he1⟩
          · exact w
          · exact absurd (x.2.1.1.symm.trans l1.2.2.1) (rx_ne x)
        obtain ⟨⟨a9, c9, hP1⟩, w2, w3⟩ := id w
        refine am_goX 3 (show am_rc h1 154 11 ∧ 0 ≤ 8 ∧ h1.2.2.2.2 + am_al 218 ≤ 175 ∧ am_call am_cod 35 218 [.ref 154, .int (Int8.ofInt 59).toInt32] h1 (fun vv h' => pz_S 2 (some .int) am_r188 35 Q 59 [(0, .ref 154)] (vv.toList ++ []) h') from ⟨pz_rc hP1, by decide, pz_lim hP1 rfl, am_call.up (d_218 x ?_) (by decide)⟩)
        exact am_goX 1 (rx_c30 w (by
          rw [x.2.1.1]
          exact hbad h1 F (by rw [er2, q1]; rfl) w))
      · have wl : ∃ a1 c1 p1 e1, a ≤ a1 ∧ ln N a1 c1 h0 p1 e1 (p1 + e1) h1 ∧ p1 ≤ 6 ∧ e1 ≤ 5 := by
          rcases hlo with w | w
          · exact absurd (r_f lt) w.2.2
          · exact w
        obtain ⟨a1, c1, p1, e1, ha1, l1, hp1, he1⟩ := wl
        have hP1 := l1.1
        have hb2 : h1.2.2.2.1 ≤ 4096 := by
          rw [lt.2.2.1.1]
          exact hb
        refine am_goX 3 (show am_rc h1 154 11 ∧ 0 ≤ 8 ∧ h1.2.2.2.2 + am_al 218 ≤ 175 ∧ am_call am_cod 35 218 [.ref 154, .int (Int8.ofInt 59).toInt32] h1 (fun vv h' => pz_S 2 (some .int) am_r188 35 Q 59 [(0, .ref 154)] (vv.toList ++ []) h') from ⟨pz_rc hP1, by decide, pz_lim hP1 rfl, am_call.up (am_det hb2 (pz_tsignF (Q := fun v h2 => v = none ∧ ∃ a2, pk N a1 c1 h1 a2 h2) hP1 (fun a2 h2 q2 => ⟨rfl, a2, q2⟩)) (r_218 (Q := fun v h2 => (∃ F, sp_tS τ (Int8.ofInt 59).toInt32 t = .inl F ∧ rx h9 F (t.2.2.2.2.2.1 + rz t.2) h2) ∨ (sp_tS τ (Int8.ofInt 59).toInt32 t = .inr (t.1 + 1, t.2) ∧ rr h9 (rz t.2) τ N (t.1 + 1, t.2) h2)) lt (fun F h2 q3 q4 => Or.inl ⟨F, q3, q4⟩) (fun h2 q3 q4 => Or.inr ⟨q3, q4⟩)) ?_) (by decide)⟩)
        rintro v h2 ⟨rfl, a2, q2⟩ hy
        rcases hy with ⟨F, q3, x⟩ | ⟨q3, l2⟩
        · have w : fl N h0 h2 := by
            rcases ln_F l1 (pk_q q2) with w | w
            · exact w
            · exact absurd (x.2.1.1.symm.trans w.2.2.1) (rx_ne x)
          exact am_goX 1 (rx_c30 w (by
            rw [x.2.1.1]
            exact hbad h2 F (by rw [er2, q1]; show sp_b (sp_tS τ _ t) _ = _; rw [q3]; rfl) w))
        · have w : ln N a2 c1 h0 p1 e1 (p1 + e1) h2 := by
            rcases ln_F l1 (pk_q q2) with w | w
            · exact absurd (r_f l2) w.2.2
            · exact w
          have ha2 : a2 = a1 + 1 := by
            rcases q2.2.2 with y | y
            · exact absurd w.2.2.1 y.1
            · exact y.2.2
          exact am_goX 1 (ih a2 c1 p1 e1 (t.1 + 1, t.2) h2 (by omega) (by rw [er2, q1]; show sp_b (sp_tS τ _ t) _ = _; rw [q3]; rfl) l2 w hp1 he1)
def gx (T : Nat → Int32) (sz n : Nat) (h : am_H) : Prop := TK T sz n h ∧ h.1 156 n = 0 ∧ h.1 157 n = nI sz ∧ (∀ w, w < 21 → h.2.1 159 w = rw_w w) ∧ h.2.2.2.1 ≤ 4096
theorem gx_w {T : Nat → Int32} {sz n k : Nat} {v : Int32} (g : gx T sz n h) : gx T sz n (am_wI h 154 k v) := ⟨TK_w g.1 (by omega), by rw [em_wn _ _ (by omega)]; exact g.2.1, by rw [em_wn _ _ (by omega)]; exact g.2.2.1, g.2.2.2.1, g.2.2.2.2⟩
theorem at6 (q : Nat) : ag_atM [(160, 40, 79)] 156 q = false ∧ ag_atM [(160, 40, 79)] 157 q = false ∧ ag_atM [(160, 40, 79)] 158 q = false ∧ ag_atM [(160, 40, 79)] 159 q = false := by
  unfold ag_atM
  simp [List.any]
theorem gx_f {T : Nat → Int32} {sz n : Nat} {h' : am_H} (g : gx T sz n h) (f : ag_fr [(160, 40, 79)] h h') : gx T sz n h' := by
  refine ⟨fun j hj => ?_, ?_, ?_, fun w hw => ?_, ?_⟩
  · obtain ⟨q1, q2, q3, q4⟩ := g.1 j hj
    exact ⟨((f.2 157 j (at6 j).2.1).1).trans q1, ((f.2 156 j (at6 j).1).1).trans q2, ((f.2 158 j (at6 j).2.2.1).2.1).trans q3, q4⟩
  · exact ((f.2 156 n (at6 n).1).1).trans g.2.1
  · exact ((f.2 157 n (at6 n).2.1).1).trans g.2.2.1
  · exact ((f.2 159 w (at6 w).2.2.2).2.1).trans (g.2.2.2.1 w hw)
  · rw [f.1]
    exact g.2.2.2.2
theorem rx_canton {Q : am_Q} {sz : Nat} (hb : h.2.2.2.1 ≤ 4096) (hsz : h.1 154 2 = nI sz) (hz : sz ≤ 1000) (hw : ∀ w, w < 21 → h.2.1 159 w = rw_w w) (hP0 : pz_P N a c h) (hQ : ∀ N' a' c' h', pz_P N' a' c' h' → rg h h' → Q (some (.int (sp_ans (sp_canton (tt (h.1 155) sz))))) h') : am_call am_cod 36 188 [.ref 154] h Q := by
  refine pz_call (n := 188) (nL := 2) (rt := (some .int)) (rows := am_r188) (d := 35) (by decide +kernel) (by decide +kernel) rfl (by funext pc; rfl) (pz_175 hP0) (by exact Nat.le_of_ble_eq_true rfl) ?_
  refine am_goX 3 (show am_sh h 154 = some (11, 0) ∧ narrow (am_fty 11 0) (.int ((Int32.ofInt 0))) = .int ((Int32.ofInt 0)) ∧ fits (am_fty 11 0) (.int ((Int32.ofInt 0))) = true ∧ pz_S 2 (some .int) am_r188 35 Q 5 [(0, .ref 154)] [] (am_wI h 154 0 ((Int32.ofInt 0))) from ⟨pz_154 hP0, rfl, rfl, ?_⟩)
  have hP1 := pz_w (o := 154) (k := 0) (v := Int32.ofInt 0) hP0 (by omega) (by unfold ag_kp; omega) pz_s0
  have r1 : (am_wI h 154 0 (Int32.ofInt 0)).1 1 1 = h.1 1 1 ∧ (am_wI h 154 0 (Int32.ofInt 0)).2 = h.2 := ⟨em_wn h _ (by omega), rfl⟩
  have sz1 : (am_wI h 154 0 (Int32.ofInt 0)).1 154 2 = nI sz := by rw [em_wn h _ (by omega)]; exact hsz
  have hw1 : ∀ w, w < 21 → (am_wI h 154 0 (Int32.ofInt 0)).2.1 159 w = rw_w w := hw
  have hb1 : (am_wI h 154 0 (Int32.ofInt 0)).2.2.2.1 ≤ 4096 := hb
  have hT : (am_wI h 154 0 (Int32.ofInt 0)).1 155 = h.1 155 := by funext q; exact em_wn h _ (by omega)
  rw [← hT] at hQ
  generalize am_wI h 154 0 (Int32.ofInt 0) = h1 at hP1 r1 sz1 hw1 hb1 hQ ⊢
  refine am_goX 2 (show am_rc h1 154 11 ∧ 0 ≤ 8 ∧ h1.2.2.2.2 + am_al 189 ≤ 175 ∧ am_call am_cod 35 189 [.ref 154] h1 (fun vv h' => pz_S 2 (some .int) am_r188 35 Q 9 [(0, .ref 154)] (vv.toList ++ []) h') from ⟨pz_rc hP1, by decide, pz_lim hP1 rfl, am_call.up (rx_cutall hP1 sz1 hz (fun N2 h2 hP2 f2 b2 t2 nsz k2 ep2 y6 y7 => ?_)) (by decide)⟩)
  have hw2 : ∀ w, w < 21 → h2.2.1 159 w = rw_w w := fun w hw => ((f2.2 159 w (at155 w).2.1).2.1).trans (hw1 w hw)
  have hb2 : h2.2.2.2.1 ≤ 4096 := by rw [f2.1]; exact hb1
  have g2 : gx (h1.1 155) sz N2 h2 := ⟨k2, y6, y7, hw2, hb2⟩
  have r2 : rf h2 h2 := ag_fr.refl h2
  refine am_goX 3 (show am_sh h2 154 = some (11, 0) ∧ narrow (am_fty 11 13) (.int ((Int32.ofInt 0))) = .int ((Int32.ofInt 0)) ∧ fits (am_fty 11 13) (.int ((Int32.ofInt 0))) = true ∧ pz_S 2 (some .int) am_r188 35 Q 14 [(0, .ref 154)] [] (am_wI h2 154 13 ((Int32.ofInt 0))) from ⟨pz_154 hP2, rfl, rfl, ?_⟩)
  have hP3 := pz_c0 hP2
  have b3 : (am_wI h2 154 13 (Int32.ofInt 0)).1 154 8 = 0 := by rw [em_wn h2 _ (by omega)]; exact b2
  have r3 : rf h2 (am_wI h2 154 13 (Int32.ofInt 0)) := rf_t r2 (pz_fr (by decide))
  have g3 := gx_w (k := 13) (v := Int32.ofInt 0) g2
  have z3 : (am_wI h2 154 13 (Int32.ofInt 0)).1 154 13 = 0 := em_we h2 154 13 _
  generalize am_wI h2 154 13 (Int32.ofInt 0) = h3 at hP3 b3 r3 g3 z3 ⊢
  refine am_goX 3 (show am_sh h3 154 = some (11, 0) ∧ narrow (am_fty 11 19) (.int ((Int32.ofInt 0))) = .int ((Int32.ofInt 0)) ∧ fits (am_fty 11 19) (.int ((Int32.ofInt 0))) = true ∧ pz_S 2 (some .int) am_r188 35 Q 19 [(0, .ref 154)] [] (am_wI h3 154 19 ((Int32.ofInt 0))) from ⟨pz_154 hP3, rfl, rfl, ?_⟩)
  have hP4 := pz_w (o := 154) (k := 19) (v := Int32.ofInt 0) hP3 (by omega) (by unfold ag_kp; omega) (pz_sgv pz_sg19 (by decide) (by decide))
  have b4 : (am_wI h3 154 19 (Int32.ofInt 0)).1 154 8 = 0 := by rw [em_wn h3 _ (by omega)]; exact b3
  have c4 : (am_wI h3 154 19 (Int32.ofInt 0)).1 154 19 = 0 := em_we h3 154 19 _
  have r4 : rf h2 (am_wI h3 154 19 (Int32.ofInt 0)) := rf_t r3 (pz_fr (by decide))
  have g4 := gx_w (k := 19) (v := Int32.ofInt 0) g3
  have z4 : (am_wI h3 154 19 (Int32.ofInt 0)).1 154 13 = 0 := by rw [em_wn h3 _ (by omega)]; exact z3
  generalize am_wI h3 154 19 (Int32.ofInt 0) = h4 at hP4 b4 c4 r4 g4 z4 ⊢
  refine am_goX 3 (show am_sh h4 154 = some (11, 0) ∧ narrow (am_fty 11 20) (.int ((Int32.ofInt 0))) = .int ((Int32.ofInt 0)) ∧ fits (am_fty 11 20) (.int ((Int32.ofInt 0))) = true ∧ pz_S 2 (some .int) am_r188 35 Q 24 [(0, .ref 154)] [] (am_wI h4 154 20 ((Int32.ofInt 0))) from ⟨pz_154 hP4, rfl, rfl, ?_⟩)
  have hP5 := pz_w (o := 154) (k := 20) (v := Int32.ofInt 0) hP4 (by omega) (by unfold ag_kp; omega) pz_s20
  have b5 : (am_wI h4 154 20 (Int32.ofInt 0)).1 154 8 = 0 := by rw [em_wn h4 _ (by omega)]; exact b4
  have c5 : (am_wI h4 154 20 (Int32.ofInt 0)).1 154 19 = 0 := by rw [em_wn h4 _ (by omega)]; exact c4
  have d5 : (am_wI h4 154 20 (Int32.ofInt 0)).1 154 20 = 0 := em_we h4 154 20 _
  have r5 : rf h2 (am_wI h4 154 20 (Int32.ofInt 0)) := rf_t r4 (pz_fr (by decide))
  have g5 := gx_w (k := 20) (v := Int32.ofInt 0) g4
  have z5 : (am_wI h4 154 20 (Int32.ofInt 0)).1 154 13 = 0 := by rw [em_wn h4 _ (by omega)]; exact z4
  generalize am_wI h4 154 20 (Int32.ofInt 0) = h5 at hP5 b5 c5 d5 r5 g5 z5 ⊢
  refine am_goX 3 (show am_rc h5 154 11 ∧ 0 ≤ 8 ∧ h5.2.2.2.2 + am_al 180 ≤ 175 ∧ am_call am_cod 35 180 [.ref 154, .int (Int8.ofInt 40).toInt32] h5 (fun vv h' => pz_S 2 (some .int) am_r188 35 Q 30 [(0, .ref 154)] (vv.toList ++ []) h') from ⟨pz_rc hP5, by decide, pz_lim hP5 rfl, am_call.up (rx_std hP5 (fun h6 hP6 f6 x40 x41 x43 xx => ?_)) (by decide)⟩)
  have r6 : rf h2 h6 := rf_t r5 (rf_of (by decide +kernel) f6)
  have l6 : ln N2 0 0 h6 0 0 (0 + 0) h6 := ⟨hP6, ag_fr.refl h6, ((f6.2 154 8 (by decide)).1).trans b5, x40, x41, ((f6.2 154 19 (by decide)).1).trans c5, Or.inl ⟨x43, rfl, Or.inl (((f6.2 154 20 (by decide)).1).trans d5)⟩⟩
  have g6 := gx_f g5 f6
  have lx : rr h6 (rz sp_C0) (tt (h1.1 155) sz) N2 (0, sp_C0) h6 := by
    refine ⟨⟨rt_of (ex_G hP6.1.1 hP6.1.2.1) hz nsz g6.1 ep2 g6.2.1 g6.2.2.1 g6.2.2.2.1, ⟨hP6.2.2.2.1, Nat.zero_le _⟩, l6.2.2.1⟩, ⟨⟨x40, by decide, fun i hi => absurd hi (Nat.not_lt_zero i)⟩, ⟨x41, by decide, fun i hi => absurd hi (Nat.not_lt_zero i)⟩, fun p e hp he => ?_, ⟨xx 42 (by decide) (by decide) (by decide), fun _ => rfl, (by show sp_28 0; unfold sp_28; decide)⟩, ?_, ⟨?_, fun j hj => absurd hj (Nat.not_lt_zero j), fun q => absurd q (by decide), fun _ => rfl, x43⟩, ⟨l6.2.2.2.2.2.1, fun k hk => absurd hk (Nat.not_lt_zero k), fun i hi => absurd hi (Nat.not_lt_zero i), fun i hi => absurd hi (Nat.not_lt_zero i), fun k k' hk => absurd hk (Nat.not_lt_zero k)⟩⟩, ⟨rfl, fun o k _ => ⟨rfl, rfl⟩⟩, Nat.zero_le _⟩
    · rw [xx (46 + 3 * p) (by omega) (by omega) (by omega)]
      have key : ∀ e, e < 5 → sp_bit 0 (nI e) = false := by decide +kernel
      refine ⟨?_, by decide⟩
      rw [key e he]
      show false = (decide (e < 0) && _)
      rw [decide_eq_false (Nat.not_lt_zero e)]
      rfl
    · show h6.1 154 20 = rb2 false false
      exact ((f6.2 154 20 (by decide)).1).trans d5
    · show h6.1 154 13 = nI 0
      exact ((f6.2 154 13 (by decide)).1).trans z5
  refine rx_cnl (r := sp_canton (tt (h1.1 155) sz)) g6.2.2.2.2 (fun h7 F er7 f7 => ?_) (fun h7 a7 c7 p7 e7 s7 er7 l7 _ hp7 he7 => ?_) 1001 0 0 0 0 (0, sp_C0) h6 (by omega) rfl lx l6 (by decide) (by decide)
  · obtain ⟨⟨a9, c9, w1⟩, w2, w3⟩ := f7
    rw [er7] at hQ
    exact hQ N2 a9 c9 h7 w1 (rg_of r1 f2 t2 (rf_t r6 (rf_of (by decide +kernel) w2)))
  · rw [er7] at hQ
    exact pz_cnE l7 (by omega) hp7 he7 (fun h8 hP8 r8 => hQ N2 a7 c7 h8 hP8 (rg_of r1 f2 t2 (rf_t (rf_t r6 (rf_of (by decide +kernel) l7.2.1)) r8)))
