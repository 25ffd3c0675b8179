/-! standsAsAlways, canton -/
variable {N a c p e z : Nat} {h h0 : am_H}
theorem pz_sgz : (ag_sg 160).all (fun s => decide (s.2.2.2.2.1 ≤ 0) && decide ((0 : Int) ≤ s.2.2.2.2.2)) = true := by decide +kernel
theorem pz_sg43m : (ag_sg 160).all (fun s => !(Nat.ble s.1 43 && Nat.ble 43 s.2.1) || (decide (s.2.2.2.2.1 ≤ -1) && decide (0 ≤ s.2.2.2.2.2))) = true := by decide +kernel
theorem pz_M40 {k : Nat} (h1 : 40 ≤ k) (h2 : k ≤ 79) : ag_atM [(160, 40, 79)] 160 k = true := by
  have e1 : Nat.ble 40 k = true := Nat.ble_eq_true_of_le h1
  have e2 : Nat.ble k 79 = true := Nat.ble_eq_true_of_le h2
  unfold ag_atM
  simp [List.any, e1, e2]
theorem pz_std_l {Q : am_Q} (hend : ∀ h1, pz_P N a c h1 → ag_fr [(160, 40, 79)] h0 h1 → (∀ j, j < 40 → h1.1 160 (40 + j) = 0) → pz_S 3 none am_r180 0 Q 23 [(0, .ref 154), (1, .int (Int8.ofInt 40).toInt32)] [] h1) : ∀ (m k : Nat) (h : am_H), k + m = 40 → pz_P N a c h → ag_fr [(160, 40, 79)] h0 h → (∀ j, j < k → h.1 160 (40 + j) = 0) → pz_S 3 none am_r180 0 Q 2 [(2, .int (nI k)), (0, .ref 154), (1, .int (Int8.ofInt 40).toInt32)] [] h := by
  intro m
  induction m with
  | zero =>
    intro k h hk hP hf hj
    refine am_goX 3 (show ((Int8.ofInt 40).toInt32 ≤ (nI k) → pz_S 3 none am_r180 0 Q 23 [(2, .int (nI k)), (0, .ref 154), (1, .int (Int8.ofInt 40).toInt32)] [] h) ∧ (¬ ((Int8.ofInt 40).toInt32 ≤ (nI k)) → pz_S 3 none am_r180 0 Q 8 [(2, .int (nI k)), (0, .ref 154), (1, .int (Int8.ofInt 40).toInt32)] [] h) from ⟨fun hc => ?_, fun hc => ?_⟩)
    · have ek : k = 40 := by omega
      subst ek
      exact sv_S (by decide +kernel) (by intro q hq; simp only [List.mem_cons, List.not_mem_nil, or_false] at hq; rcases hq with rfl | rfl <;> rfl) (hend h hP hf hj)
    · exact absurd (show (Int8.ofInt 40).toInt32 ≤ nI k by rw [show k = 40 by omega]; decide) hc
  | succ m ih =>
    intro k h hk hP hf hj
    refine am_goX 3 (show ((Int8.ofInt 40).toInt32 ≤ (nI k) → pz_S 3 none am_r180 0 Q 23 [(2, .int (nI k)), (0, .ref 154), (1, .int (Int8.ofInt 40).toInt32)] [] h) ∧ (¬ ((Int8.ofInt 40).toInt32 ≤ (nI k)) → pz_S 3 none am_r180 0 Q 8 [(2, .int (nI k)), (0, .ref 154), (1, .int (Int8.ofInt 40).toInt32)] [] h) from ⟨fun hc => ?_, fun hc => ?_⟩)
    · exact absurd hc (nI_ge (b := 40) (by omega) (by omega))
    · refine am_goX 2 (show am_sh h 154 = some (11, 0) ∧ pz_S 3 none am_r180 0 Q 12 [(2, .int (nI k)), (0, .ref 154), (1, .int (Int8.ofInt 40).toInt32)] [am_rf (h.2.2.1 154 10)] h from ⟨pz_154 hP, ?_⟩)
      rw [pz_r10 hP]
      refine am_goX 5 (show ∃ jj nn : Nat, am_so h 160 = some (13, nn) ∧ jj < nn ∧ ((Int8.ofInt 40).toInt32 + (nI k)) = nI jj ∧ pz_S 3 none am_r180 0 Q 17 [(2, .int (nI k)), (0, .ref 154), (1, .int (Int8.ofInt 40).toInt32)] [] (am_wI h 160 jj ((Int32.ofInt 0))) from ⟨(40 + k), 80, pz_w160 hP, by omega, nI_add 40 k, ?_⟩)
      have hP1 := pz_w (o := 160) (k := 40 + k) (v := Int32.ofInt 0) hP (by omega) (by unfold ag_kp; omega) (pz_sga pz_sgz (by decide) (by decide))
      have hf1 : ag_fr [(160, 40, 79)] h0 (am_wI h 160 (40 + k) (Int32.ofInt 0)) := hf.trans (by decide +kernel) (pz_fr (M := [(160, 40, 79)]) (pz_M40 (by omega) (by omega)))
      have hj1 : ∀ j, j < k + 1 → (am_wI h 160 (40 + k) (Int32.ofInt 0)).1 160 (40 + j) = 0 := fun j hj2 => by
        by_cases ej : j = k
        · subst ej
          exact em_we h 160 _ _
        · rw [em_wn h _ (by omega)]
          exact hj j (by omega)
      generalize am_wI h 160 (40 + k) (Int32.ofInt 0) = h1 at hP1 hf1 hj1 ⊢
      refine am_goX 2 (show 2 < 3 ∧ pz_S 3 none am_r180 0 Q 2 [(2, .int ((nI k) + Int32.ofInt 1)), (0, .ref 154), (1, .int (Int8.ofInt 40).toInt32)] [] h1 from ⟨by decide, ?_⟩)
      rw [xw_i1]
      exact ih (k + 1) h1 (by omega) hP1 hf1 hj1
theorem pz_std {Q : am_Q} (hP : pz_P N a c h) (hQ : ∀ h', pz_P N a c h' → ag_fr [(160, 40, 79)] h h' → h'.1 160 40 = 0 → h'.1 160 41 = 0 → h'.1 160 43 = -1 → Q none h') : am_call am_cod 1 180 [.ref 154, .int (Int8.ofInt 40).toInt32] h Q := by
  refine pz_call (n := 180) (nL := 3) (rt := none) (rows := am_r180) (d := 0) (by decide +kernel) (by decide +kernel) rfl (by funext pc; rfl) (pz_175 hP) (by exact Nat.le_of_ble_eq_true rfl) ?_
  refine am_goX 2 (show 2 < 3 ∧ pz_S 3 none am_r180 0 Q 2 [(2, .int (Int32.ofInt 0)), (0, .ref 154), (1, .int (Int8.ofInt 40).toInt32)] [] h from ⟨by decide, ?_⟩)
  refine pz_std_l (fun h1 hP1 hf1 hj1 => ?_) 40 0 h rfl hP (ag_fr.refl h) (fun j hj => absurd hj (by omega))
  refine am_goX 2 (show am_sh h1 154 = some (11, 0) ∧ pz_S 3 none am_r180 0 Q 27 [(0, .ref 154), (1, .int (Int8.ofInt 40).toInt32)] [am_rf (h1.2.2.1 154 10)] h1 from ⟨pz_154 hP1, ?_⟩)
  rw [pz_r10 hP1]
  refine am_goX 5 (show ∃ jj nn : Nat, am_so h1 160 = some (13, nn) ∧ jj < nn ∧ ((Int8.ofInt 40).toInt32 + (Int32.ofInt 3)) = nI jj ∧ pz_S 3 none am_r180 0 Q 32 [(0, .ref 154), (1, .int (Int8.ofInt 40).toInt32)] [] (am_wI h1 160 jj ((Int32.ofInt (-1)))) from ⟨43, 80, pz_w160 hP1, by decide, by decide, ?_⟩)
  have hP2 := pz_w (o := 160) (k := 43) (v := Int32.ofInt (-1)) hP1 (by omega) (by unfold ag_kp; omega) (pz_sgv pz_sg43m (by decide) (by decide))
  exact am_goX 1 (show (none : Option FieldType) = none ∧ (am_wI h1 160 43 (Int32.ofInt (-1))).2.2.2.2 = 175 ∧ _ from ⟨rfl, pz_175 hP2, hQ _ hP2 (hf1.trans (by decide +kernel) (pz_fr (M := [(160, 40, 79)]) (by decide))) (by rw [em_wn h1 _ (by omega)]; exact hj1 0 (by decide)) (by rw [em_wn h1 _ (by omega)]; exact hj1 1 (by decide)) (em_we h1 160 43 _)⟩)
/-! what was read is told -/
def px_P (h : am_H) : Prop := h.2.2.2.2 = 175 ∧ ag_G ag_DD h
theorem px_175 (hP : px_P h) : h.2.2.2.2 = 175 := hP.1
theorem px_so (hP : px_P h) {o : Nat} {e : Nat × Nat} (he : ag_so ag_DD o = some e) : am_so h o = some e ∧ am_sh h o = some e := ag_so_ok (D := ag_DD) ag_DD_sh hP.1 he
theorem px_rc (hP : px_P h) : am_rc h 154 11 := Or.inl ⟨by decide, (px_so hP (by decide +kernel)).2⟩
theorem px_lim (hP : px_P h) {n : Nat} (hn : am_al n = 0) : h.2.2.2.2 + am_al n ≤ 175 := by
  rw [px_175 hP, hn]
  exact Nat.le_refl _
theorem px_154 (hP : px_P h) : am_sh h 154 = some (11, 0) := (px_so hP (by decide +kernel)).2
theorem px_160 (hP : px_P h) : am_sh h 160 = some (13, 80) := (px_so hP (by decide +kernel)).2
theorem px_w160 (hP : px_P h) : am_so h 160 = some (13, 80) := (px_so hP (by decide +kernel)).1
theorem px_161 (hP : px_P h) : am_sh h 161 = some (13, 2200) := (px_so hP (by decide +kernel)).2
theorem px_w161 (hP : px_P h) : am_so h 161 = some (13, 2200) := (px_so hP (by decide +kernel)).1
theorem px_162 (hP : px_P h) : am_sh h 162 = some (13, 2200) := (px_so hP (by decide +kernel)).2
theorem px_w162 (hP : px_P h) : am_so h 162 = some (13, 2200) := (px_so hP (by decide +kernel)).1
theorem px_163 (hP : px_P h) : am_sh h 163 = some (14, 11) := (px_so hP (by decide +kernel)).2
theorem px_w163 (hP : px_P h) : am_so h 163 = some (14, 11) := (px_so hP (by decide +kernel)).1
theorem px_164 (hP : px_P h) : am_sh h 164 = some (14, 11) := (px_so hP (by decide +kernel)).2
theorem px_w164 (hP : px_P h) : am_so h 164 = some (14, 11) := (px_so hP (by decide +kernel)).1
theorem px_165 (hP : px_P h) : am_sh h 165 = some (13, 11) := (px_so hP (by decide +kernel)).2
theorem px_w165 (hP : px_P h) : am_so h 165 = some (13, 11) := (px_so hP (by decide +kernel)).1
theorem px_166 (hP : px_P h) : am_sh h 166 = some (13, 11) := (px_so hP (by decide +kernel)).2
theorem px_w166 (hP : px_P h) : am_so h 166 = some (13, 11) := (px_so hP (by decide +kernel)).1
theorem px_r10 (hP : px_P h) : h.2.2.1 154 10 = some 160 := hP.2.2.2 154 10 160 (by decide +kernel)
theorem px_r11 (hP : px_P h) : h.2.2.1 154 11 = some 161 := hP.2.2.2 154 11 161 (by decide +kernel)
theorem px_r12 (hP : px_P h) : h.2.2.1 154 12 = some 162 := hP.2.2.2 154 12 162 (by decide +kernel)
theorem px_r14 (hP : px_P h) : h.2.2.1 154 14 = some 163 := hP.2.2.2 154 14 163 (by decide +kernel)
theorem px_r15 (hP : px_P h) : h.2.2.1 154 15 = some 164 := hP.2.2.2 154 15 164 (by decide +kernel)
theorem px_r16 (hP : px_P h) : h.2.2.1 154 16 = some 165 := hP.2.2.2 154 16 165 (by decide +kernel)
theorem px_r17 (hP : px_P h) : h.2.2.1 154 17 = some 166 := hP.2.2.2 154 17 166 (by decide +kernel)
def pz_Mz : ag_M := [(154, 0, 0), (154, 3, 3), (154, 7, 8), (154, 13, 13), (154, 18, 20), (154, 25, 25), (156, 0, 1001), (157, 0, 1001), (158, 0, 1001), (160, 0, 79), (161, 0, 2199), (162, 0, 2199), (163, 0, 10), (164, 0, 10), (165, 0, 10), (166, 0, 10), (167, 0, 249), (170, 0, 24), (171, 0, 3), (172, 0, 4)]
def pz_Mk2 : ag_M := [(154, 18, 18), (160, 0, 39), (161, 0, 1099), (162, 0, 1099), (163, 0, 10), (165, 0, 10)]
theorem pz_atk {o k lo hi : Nat} (h1 : lo ≤ k) (h2 : k ≤ hi) (hm : (o, lo, hi) ∈ pz_Mk2) : ag_atM pz_Mk2 o k = true := by
  unfold ag_atM
  refine List.any_eq_true.mpr ⟨_, hm, ?_⟩
  rw [Bool.and_eq_true, Bool.and_eq_true]
  exact ⟨Nat.beq_refl o, Nat.ble_eq_true_of_le h1, Nat.ble_eq_true_of_le h2⟩
theorem pz_bf {a b : Nat} (h : b < a) : Nat.ble a b = false := by
  cases hb : Nat.ble a b with
  | false => rfl
  | true => exact absurd (Nat.le_of_ble_eq_true hb) (by omega)
theorem pz_n161 (k : Nat) : ag_atM pz_Mk2 161 (1100 + k) = false ∧ ag_atM pz_Mk2 162 (1100 + k) = false := by
  have e : Nat.ble (1100 + k) 1099 = false := pz_bf (by omega)
  unfold ag_atM pz_Mk2
  simp [List.any, e]
theorem pz_n160 (k : Nat) : ag_atM pz_Mk2 160 (40 + k) = false := by
  have e : Nat.ble (40 + k) 39 = false := pz_bf (by omega)
  unfold ag_atM pz_Mk2
  simp [List.any, e]
theorem pz_trk {h1 h2 : am_H} (f1 : ag_fr pz_Mk2 h h1) (f2 : ag_fr pz_Mk2 h1 h2) : ag_fr pz_Mk2 h h2 := f1.trans (by decide +kernel) f2
theorem px_w {o k : Nat} {v : Int32} (hP : px_P h) (hv : ∀ s ∈ ag_sg o, ag_seg s k v) : px_P (am_wI h o k v) := ⟨hP.1, pz_wG hP.2 hv⟩
theorem px_wl {o k : Nat} {v : Int64} (hP : px_P h) (ho : ¬ o = 154) : px_P (am_wL h o k v) := by
  refine ⟨hP.1, hP.2.1, fun o' k' => ?_, hP.2.2.2⟩
  by_cases z : o' = o
  · subst z
    rw [ag_DD_lg o' k' ho]
    exact ag_i64r _
  · have e9 : (am_wL h o k v).2.1 o' k' = h.2.1 o' k' := if_neg (fun w => z w.1)
    rw [e9]
    exact hP.2.2.1 o' k'
/-- so many of the first row, of the codes -/
def cq (hA : am_H) (k1 k2 : Nat) (g : am_H) : Prop := px_P g ∧ ag_fr pz_Mk2 hA g ∧ (∀ j, j < k1 → g.1 160 j = hA.1 160 (40 + j)) ∧ (∀ j, j < k2 → g.1 161 j = hA.1 161 (1100 + j) ∧ g.1 162 j = hA.1 162 (1100 + j))
theorem cq_160 {hA g : am_H} {k : Nat} (q : cq hA k 0 g) (hk : k < 40) (hv : ∀ s ∈ ag_sg 160, ag_seg s k (hA.1 160 (40 + k))) : cq hA (k + 1) 0 (am_wI g 160 k (hA.1 160 (40 + k))) := by
  refine ⟨px_w q.1 hv, pz_trk q.2.1 (pz_fr (pz_atk (Nat.zero_le _) (Nat.le_of_lt_succ hk) (by decide))), fun j hj => ?_, fun j hj => absurd hj (by omega)⟩
  by_cases ej : j = k
  · subst ej
    exact em_we g 160 _ _
  · rw [em_wn g _ (by omega)]
    exact q.2.2.1 j (by omega)
theorem cq_161 {hA g : am_H} {k : Nat} (q : cq hA 40 k g) (hk : k < 1100) : cq hA 40 k (am_wI g 161 k (hA.1 161 (1100 + k))) ∧ (am_wI g 161 k (hA.1 161 (1100 + k))).1 161 k = hA.1 161 (1100 + k) := by
  refine ⟨⟨px_w q.1 (fun s hs => by rw [pz_e161.1] at hs; exact absurd hs List.not_mem_nil), pz_trk q.2.1 (pz_fr (pz_atk (Nat.zero_le _) (Nat.le_of_lt_succ hk) (by decide))), fun j hj => ?_, fun j hj => ?_⟩, em_we g 161 k _⟩
  · rw [em_wn g _ (by omega)]
    exact q.2.2.1 j hj
  · rw [em_wn g _ (by omega), em_wn g _ (by omega)]
    exact q.2.2.2 j hj
theorem cq_162 {hA g : am_H} {k : Nat} (q : cq hA 40 k g) (hk : k < 1100) (e1 : g.1 161 k = hA.1 161 (1100 + k)) : cq hA 40 (k + 1) (am_wI g 162 k (hA.1 162 (1100 + k))) := by
  refine ⟨px_w q.1 (fun s hs => by rw [pz_e161.2] at hs; exact absurd hs List.not_mem_nil), pz_trk q.2.1 (pz_fr (pz_atk (Nat.zero_le _) (Nat.le_of_lt_succ hk) (by decide))), fun j hj => ?_, fun j hj => ?_⟩
  · rw [em_wn g _ (by omega)]
    exact q.2.2.1 j hj
  · rw [em_wn g _ (by omega)]
    by_cases ej : j = k
    · subst ej
      exact ⟨e1, em_we g 162 _ _⟩
    · rw [em_wn g _ (by omega)]
      exact q.2.2.2 j (by omega)
theorem cq_163 {hA g : am_H} {k c : Nat} {v : Int64} (q : cq hA 40 c g) (hk : k ≤ 10) : cq hA 40 c (am_wL g 163 k v) := ⟨px_wl q.1 (by decide), pz_trk q.2.1 (pz_frL (pz_atk (Nat.zero_le _) hk (by decide))), q.2.2.1, q.2.2.2⟩
theorem pz_sg165 : (ag_sg 165).all (fun s => decide (s.2.2.2.2.1 ≤ 0) && decide (24 ≤ s.2.2.2.2.2)) = true := by decide +kernel
theorem cq_165 {hA g : am_H} {k c : Nat} {v : Int32} (q : cq hA 40 c g) (hk : k ≤ 10) (hv : 0 ≤ v.toInt ∧ v.toInt ≤ 24) : cq hA 40 c (am_wI g 165 k v) := by
  refine ⟨px_w q.1 (pz_sga pz_sg165 hv.1 hv.2), pz_trk q.2.1 (pz_fr (pz_atk (Nat.zero_le _) hk (by decide))), fun j hj => ?_, fun j hj => ?_⟩
  · rw [em_wn g _ (by omega)]
    exact q.2.2.1 j hj
  · rw [em_wn g _ (by omega), em_wn g _ (by omega)]
    exact q.2.2.2 j hj
theorem pz_sg18 : (ag_sg 154).all (fun s => !(Nat.ble s.1 18 && Nat.ble 18 s.2.1) || (decide (s.2.2.2.2.1 ≤ 0) && decide (11 ≤ s.2.2.2.2.2))) = true := by decide +kernel
theorem cq_18 {hA g : am_H} {c z : Nat} (q : cq hA 40 c g) (hz : z ≤ 11) : cq hA 40 c (am_wI g 154 18 (nI z)) := by
  have ht : (nI z).toInt = z := nI_toInt (by omega)
  refine ⟨px_w q.1 (pz_sgv pz_sg18 (by omega) (by omega)), pz_trk q.2.1 (pz_fr (by decide)), fun j hj => ?_, fun j hj => ?_⟩
  · rw [em_wn g _ (by omega)]
    exact q.2.2.1 j hj
  · rw [em_wn g _ (by omega), em_wn g _ (by omega)]
    exact q.2.2.2 j hj
theorem pz_sg160k : (ag_sg 160).all (fun s => Nat.beq s.1 s.2.1 && ((Nat.beq s.1 0 && (decide (s.2.2.2.2.1 ≤ 0) && decide (6 ≤ s.2.2.2.2.2))) || ((Nat.beq s.1 1 && (decide (s.2.2.2.2.1 ≤ 0) && decide (5 ≤ s.2.2.2.2.2))) || ((Nat.beq s.1 3 && (decide (s.2.2.2.2.1 ≤ -1) && decide (0 ≤ s.2.2.2.2.2))) || Nat.ble 40 s.1)))) = true := by decide +kernel
theorem pz_row {hA : am_H} (l : ln N a c h0 p e z hA) (hp : p ≤ 6) (he : e ≤ 5) : ∀ k, k < 40 → ∀ s ∈ ag_sg 160, ag_seg s k (hA.1 160 (40 + k)) := by
  intro k hk s hs k1 k2 _
  have w := List.all_eq_true.mp pz_sg160k s hs
  simp only [Bool.and_eq_true, Bool.or_eq_true, decide_eq_true_eq] at w
  have e1 := Nat.eq_of_beq_eq_true w.1
  rcases w.2 with ⟨z1, z2⟩ | ⟨z1, z2⟩ | ⟨z1, z2⟩ | z1
  · have := Nat.eq_of_beq_eq_true z1
    have ek : k = 0 := by omega
    subst ek
    rw [show hA.1 160 (40 + 0) = nI p from l.2.2.2.1, nI_toInt (by omega)]
    omega
  · have := Nat.eq_of_beq_eq_true z1
    have ek : k = 1 := by omega
    subst ek
    rw [show hA.1 160 (40 + 1) = nI e from l.2.2.2.2.1, nI_toInt (by omega)]
    omega
  · have := Nat.eq_of_beq_eq_true z1
    have ek : k = 3 := by omega
    subst ek
    show _ ≤ (hA.1 160 43).toInt ∧ (hA.1 160 43).toInt ≤ _
    rcases l.2.2.2.2.2.2 with ⟨g, -⟩ | ⟨-, g⟩
    · rw [g, show (-1 : Int32).toInt = -1 by decide]
      omega
    · obtain ⟨m, dep, -, -, g3, -⟩ := (show ∃ (m : Nat) (dep : Nat → Nat), hA.1 154 13 = nI (m + 1) ∧ m < 1099 ∧ hA.1 160 43 = 0 ∧ hA.1 161 (1100 + m) = 0 ∧ dep 0 = 0 ∧ ∀ i, i < m → xf_st hA 1100 dep i from g)
      rw [g3, show (0 : Int32).toInt = 0 by decide]
      omega
  · have := Nat.le_of_ble_eq_true z1
    omega
/-- the law that was read is the law that is told -/
theorem pz_told {hA g : am_H} (l : ln N a c h0 p e z hA) (q : cq hA 40 c g) : xw_X g := by
  have e3 : g.1 160 3 = hA.1 160 43 := q.2.2.1 3 (by decide)
  rcases l.2.2.2.2.2.2 with ⟨w, -⟩ | ⟨-, w⟩
  · exact Or.inl (e3.trans w)
  · obtain ⟨m, dep, w1, w2, w3, w4, w5, w6⟩ := (show ∃ (m : Nat) (dep : Nat → Nat), hA.1 154 13 = nI (m + 1) ∧ m < 1099 ∧ hA.1 160 43 = 0 ∧ hA.1 161 (1100 + m) = 0 ∧ dep 0 = 0 ∧ ∀ i, i < m → xf_st hA 1100 dep i from w)
    have ec : c = m + 1 := by
      have h1 := l.1.2.2.2.2.2.1
      have h2 := l.1.2.2.2.2.2.2
      rw [w1, nI_eq (by omega) (by omega)] at h1
      exact h1.symm
    refine Or.inr ⟨e3.trans w3, m, by omega, (q.2.2.2 m (by omega)).1.trans w4, dep, w5, fun i hi => ?_⟩
    have := w6 i hi
    unfold xf_st at this
    unfold xw_st
    rw [(q.2.2.2 i (by omega)).1, (q.2.2.2 i (by omega)).2]
    exact this
theorem pz_cn3 {Q : am_Q} {hA : am_H} (l : ln N a c h0 p e z hA) (hz : z ≤ 11) (hend : ∀ g, cq hA 40 c g → pz_S 2 (some .int) am_r188 35 Q 191 [(0, .ref 154)] [] g) : ∀ (m k : Nat) (g : am_H), k + m = z → cq hA 40 c g → pz_S 2 (some .int) am_r188 35 Q 153 [(1, .int (nI k)), (0, .ref 154)] [] g := by
  intro m
  induction m with
  | zero =>
    intro k g hk q
    have hP := q.1
    have e19 : g.1 154 19 = nI z := ((q.2.1.2 154 19 (by decide)).1).trans l.2.2.2.2.2.1
    refine am_goX 3 (show am_sh g 154 = some (11, 0) ∧ pz_S 2 (some .int) am_r188 35 Q 158 [(1, .int (nI k)), (0, .ref 154)] [.int (g.1 154 19), .int (nI k)] g from ⟨px_154 hP, ?_⟩)
    rw [e19]
    refine am_goX 1 (show ((nI z) ≤ (nI k) → pz_S 2 (some .int) am_r188 35 Q 191 [(1, .int (nI k)), (0, .ref 154)] [] g) ∧ (¬ ((nI z) ≤ (nI k)) → pz_S 2 (some .int) am_r188 35 Q 161 [(1, .int (nI k)), (0, .ref 154)] [] g) from ⟨fun hc => ?_, fun hc => ?_⟩)
    · exact sv_S sv_188 (by intro q hq; simp only [List.mem_cons, List.not_mem_nil, or_false] at hq; rcases hq with rfl <;> rfl) (hend g q)
    · exact absurd (nI_le (by omega) (by omega)) hc
  | succ m ih =>
    intro k g hk q
    have hP := q.1
    have e19 : g.1 154 19 = nI z := ((q.2.1.2 154 19 (by decide)).1).trans l.2.2.2.2.2.1
    refine am_goX 3 (show am_sh g 154 = some (11, 0) ∧ pz_S 2 (some .int) am_r188 35 Q 158 [(1, .int (nI k)), (0, .ref 154)] [.int (g.1 154 19), .int (nI k)] g from ⟨px_154 hP, ?_⟩)
    rw [e19]
    refine am_goX 1 (show ((nI z) ≤ (nI k) → pz_S 2 (some .int) am_r188 35 Q 191 [(1, .int (nI k)), (0, .ref 154)] [] g) ∧ (¬ ((nI z) ≤ (nI k)) → pz_S 2 (some .int) am_r188 35 Q 161 [(1, .int (nI k)), (0, .ref 154)] [] g) from ⟨fun hc => ?_, fun hc => ?_⟩)
    · exact absurd hc (nI_ge (by omega) (by omega))
    · refine am_goX 2 (show am_sh g 154 = some (11, 0) ∧ pz_S 2 (some .int) am_r188 35 Q 165 [(1, .int (nI k)), (0, .ref 154)] [am_rf (g.2.2.1 154 14)] g from ⟨px_154 hP, ?_⟩)
      rw [px_r14 hP]
      refine am_goX 3 (show am_sh g 154 = some (11, 0) ∧ pz_S 2 (some .int) am_r188 35 Q 170 [(1, .int (nI k)), (0, .ref 154)] [am_rf (g.2.2.1 154 15), .int (nI k), .ref 163] g from ⟨px_154 hP, ?_⟩)
      rw [px_r15 hP]
      refine am_goX 2 (show ∃ jj nn : Nat, am_sh g 164 = some (14, nn) ∧ jj < nn ∧ (nI k) = nI jj ∧ pz_S 2 (some .int) am_r188 35 Q 172 [(1, .int (nI k)), (0, .ref 154)] [.long (g.2.1 164 jj), .int (nI k), .ref 163] g from ⟨k, 11, px_164 hP, by omega, rfl, ?_⟩)
      refine am_goX 1 (show ∃ jj nn : Nat, am_so g 163 = some (14, nn) ∧ jj < nn ∧ (nI k) = nI jj ∧ pz_S 2 (some .int) am_r188 35 Q 173 [(1, .int (nI k)), (0, .ref 154)] [] (am_wL g 163 jj ((g.2.1 164 k))) from ⟨k, 11, px_w163 hP, by omega, rfl, ?_⟩)
      have q1 := cq_163 (k := k) (v := g.2.1 164 k) q (by omega)
      have e1 : (am_wL g 163 k (g.2.1 164 k)).1 166 k = hA.1 166 k := (q.2.1.2 166 k (by simp [ag_atM, pz_Mk2])).1
      generalize am_wL g 163 k (g.2.1 164 k) = g1 at q1 e1 ⊢
      have hP1 := q1.1
      refine am_goX 2 (show am_sh g1 154 = some (11, 0) ∧ pz_S 2 (some .int) am_r188 35 Q 177 [(1, .int (nI k)), (0, .ref 154)] [am_rf (g1.2.2.1 154 16)] g1 from ⟨px_154 hP1, ?_⟩)
      rw [px_r16 hP1]
      refine am_goX 3 (show am_sh g1 154 = some (11, 0) ∧ pz_S 2 (some .int) am_r188 35 Q 182 [(1, .int (nI k)), (0, .ref 154)] [am_rf (g1.2.2.1 154 17), .int (nI k), .ref 165] g1 from ⟨px_154 hP1, ?_⟩)
      rw [px_r17 hP1]
      refine am_goX 2 (show ∃ jj nn : Nat, am_sh g1 166 = some (13, nn) ∧ jj < nn ∧ (nI k) = nI jj ∧ pz_S 2 (some .int) am_r188 35 Q 184 [(1, .int (nI k)), (0, .ref 154)] [.int (g1.1 166 jj), .int (nI k), .ref 165] g1 from ⟨k, 11, px_166 hP1, by omega, rfl, ?_⟩)
      refine am_goX 1 (show ∃ jj nn : Nat, am_so g1 165 = some (13, nn) ∧ jj < nn ∧ (nI k) = nI jj ∧ pz_S 2 (some .int) am_r188 35 Q 185 [(1, .int (nI k)), (0, .ref 154)] [] (am_wI g1 165 jj ((g1.1 166 k))) from ⟨k, 11, px_w165 hP1, by omega, rfl, ?_⟩)
      have q2 := cq_165 (k := k) (v := g1.1 166 k) q1 (by omega) (by rw [e1]; exact (pz_nof l.1 (by omega)).2)
      generalize am_wI g1 165 k (g1.1 166 k) = g2 at q2 ⊢
      have hP2 := q2.1
      refine am_goX 2 (show 1 < 2 ∧ pz_S 2 (some .int) am_r188 35 Q 153 [(1, .int ((nI k) + Int32.ofInt 1)), (0, .ref 154)] [] g2 from ⟨by decide, ?_⟩)
      rw [xw_i1]
      exact ih (k + 1) g2 (by omega) q2
theorem pz_cn2 {Q : am_Q} {hA : am_H} (l : ln N a c h0 p e z hA) (hend : ∀ g, cq hA 40 c g → pz_S 2 (some .int) am_r188 35 Q 151 [(0, .ref 154)] [] g) : ∀ (m k : Nat) (g : am_H), k + m = c → cq hA 40 k g → pz_S 2 (some .int) am_r188 35 Q 105 [(1, .int (nI k)), (0, .ref 154)] [] g := by
  have hc11 := l.1.2.2.2.2.2.2
  intro m
  induction m with
  | zero =>
    intro k g hk q
    have hP := q.1
    have e13 : g.1 154 13 = nI c := ((q.2.1.2 154 13 (by decide)).1).trans l.1.2.2.2.2.2.1
    refine am_goX 3 (show am_sh g 154 = some (11, 0) ∧ pz_S 2 (some .int) am_r188 35 Q 110 [(1, .int (nI k)), (0, .ref 154)] [.int (g.1 154 13), .int (nI k)] g from ⟨px_154 hP, ?_⟩)
    rw [e13]
    refine am_goX 1 (show ((nI c) ≤ (nI k) → pz_S 2 (some .int) am_r188 35 Q 151 [(1, .int (nI k)), (0, .ref 154)] [] g) ∧ (¬ ((nI c) ≤ (nI k)) → pz_S 2 (some .int) am_r188 35 Q 113 [(1, .int (nI k)), (0, .ref 154)] [] g) from ⟨fun hc => ?_, fun hc => ?_⟩)
    · have ek : k = c := by omega
      subst ek
      exact sv_S sv_188 (by intro q hq; simp only [List.mem_cons, List.not_mem_nil, or_false] at hq; rcases hq with rfl <;> rfl) (hend g q)
    · exact absurd (nI_le (by omega) (by omega)) hc
  | succ m ih =>
    intro k g hk q
    have hP := q.1
    have e13 : g.1 154 13 = nI c := ((q.2.1.2 154 13 (by decide)).1).trans l.1.2.2.2.2.2.1
    refine am_goX 3 (show am_sh g 154 = some (11, 0) ∧ pz_S 2 (some .int) am_r188 35 Q 110 [(1, .int (nI k)), (0, .ref 154)] [.int (g.1 154 13), .int (nI k)] g from ⟨px_154 hP, ?_⟩)
    rw [e13]
    refine am_goX 1 (show ((nI c) ≤ (nI k) → pz_S 2 (some .int) am_r188 35 Q 151 [(1, .int (nI k)), (0, .ref 154)] [] g) ∧ (¬ ((nI c) ≤ (nI k)) → pz_S 2 (some .int) am_r188 35 Q 113 [(1, .int (nI k)), (0, .ref 154)] [] g) from ⟨fun hc => ?_, fun hc => ?_⟩)
    · exact absurd hc (nI_ge (by omega) (by omega))
    · refine am_goX 2 (show am_sh g 154 = some (11, 0) ∧ pz_S 2 (some .int) am_r188 35 Q 117 [(1, .int (nI k)), (0, .ref 154)] [am_rf (g.2.2.1 154 11)] g from ⟨px_154 hP, ?_⟩)
      rw [px_r11 hP]
      refine am_goX 3 (show am_sh g 154 = some (11, 0) ∧ pz_S 2 (some .int) am_r188 35 Q 122 [(1, .int (nI k)), (0, .ref 154)] [am_rf (g.2.2.1 154 11), .int (nI k), .ref 161] g from ⟨px_154 hP, ?_⟩)
      rw [px_r11 hP]
      refine am_goX 4 (show ∃ jj nn : Nat, am_sh g 161 = some (13, nn) ∧ jj < nn ∧ ((Int16.ofInt 1100).toInt32 + (nI k)) = nI jj ∧ pz_S 2 (some .int) am_r188 35 Q 128 [(1, .int (nI k)), (0, .ref 154)] [.int (g.1 161 jj), .int (nI k), .ref 161] g from ⟨(1100 + k), 2200, px_161 hP, by omega, em_1100 k, ?_⟩)
      rw [(q.2.1.2 161 (1100 + k) (pz_n161 k).1).1]
      refine am_goX 1 (show ∃ jj nn : Nat, am_so g 161 = some (13, nn) ∧ jj < nn ∧ (nI k) = nI jj ∧ pz_S 2 (some .int) am_r188 35 Q 129 [(1, .int (nI k)), (0, .ref 154)] [] (am_wI g 161 jj ((hA.1 161 (1100 + k)))) from ⟨k, 2200, px_w161 hP, by omega, rfl, ?_⟩)
      obtain ⟨q1, e1⟩ := cq_161 q (by omega)
      generalize am_wI g 161 k (hA.1 161 (1100 + k)) = g1 at q1 e1 ⊢
      have hP1 := q1.1
      refine am_goX 2 (show am_sh g1 154 = some (11, 0) ∧ pz_S 2 (some .int) am_r188 35 Q 133 [(1, .int (nI k)), (0, .ref 154)] [am_rf (g1.2.2.1 154 12)] g1 from ⟨px_154 hP1, ?_⟩)
      rw [px_r12 hP1]
      refine am_goX 3 (show am_sh g1 154 = some (11, 0) ∧ pz_S 2 (some .int) am_r188 35 Q 138 [(1, .int (nI k)), (0, .ref 154)] [am_rf (g1.2.2.1 154 12), .int (nI k), .ref 162] g1 from ⟨px_154 hP1, ?_⟩)
      rw [px_r12 hP1]
      refine am_goX 4 (show ∃ jj nn : Nat, am_sh g1 162 = some (13, nn) ∧ jj < nn ∧ ((Int16.ofInt 1100).toInt32 + (nI k)) = nI jj ∧ pz_S 2 (some .int) am_r188 35 Q 144 [(1, .int (nI k)), (0, .ref 154)] [.int (g1.1 162 jj), .int (nI k), .ref 162] g1 from ⟨(1100 + k), 2200, px_162 hP1, by omega, em_1100 k, ?_⟩)
      rw [(q1.2.1.2 162 (1100 + k) (pz_n161 k).2).1]
      refine am_goX 1 (show ∃ jj nn : Nat, am_so g1 162 = some (13, nn) ∧ jj < nn ∧ (nI k) = nI jj ∧ pz_S 2 (some .int) am_r188 35 Q 145 [(1, .int (nI k)), (0, .ref 154)] [] (am_wI g1 162 jj ((hA.1 162 (1100 + k)))) from ⟨k, 2200, px_w162 hP1, by omega, rfl, ?_⟩)
      have q2 := cq_162 q1 (by omega) e1
      generalize am_wI g1 162 k (hA.1 162 (1100 + k)) = g2 at q2 ⊢
      have hP2 := q2.1
      refine am_goX 2 (show 1 < 2 ∧ pz_S 2 (some .int) am_r188 35 Q 105 [(1, .int ((nI k) + Int32.ofInt 1)), (0, .ref 154)] [] g2 from ⟨by decide, ?_⟩)
      rw [xw_i1]
      exact ih (k + 1) g2 (by omega) q2
theorem pz_cn1 {Q : am_Q} {hA : am_H} (l : ln N a c h0 p e z hA) (hp : p ≤ 6) (he : e ≤ 5) (hend : ∀ g, cq hA 40 0 g → pz_S 2 (some .int) am_r188 35 Q 103 [(0, .ref 154)] [] g) : ∀ (m k : Nat) (g : am_H), k + m = 40 → cq hA k 0 g → pz_S 2 (some .int) am_r188 35 Q 76 [(1, .int (nI k)), (0, .ref 154)] [] g := by
  intro m
  induction m with
  | zero =>
    intro k g hk q
    have hP := q.1
    refine am_goX 3 (show ((Int8.ofInt 40).toInt32 ≤ (nI k) → pz_S 2 (some .int) am_r188 35 Q 103 [(1, .int (nI k)), (0, .ref 154)] [] g) ∧ (¬ ((Int8.ofInt 40).toInt32 ≤ (nI k)) → pz_S 2 (some .int) am_r188 35 Q 82 [(1, .int (nI k)), (0, .ref 154)] [] g) from ⟨fun hc => ?_, fun hc => ?_⟩)
    · have ek : k = 40 := by omega
      subst ek
      exact sv_S sv_188 (by intro q hq; simp only [List.mem_cons, List.not_mem_nil, or_false] at hq; rcases hq with rfl <;> rfl) (hend g q)
    · exact absurd (show (Int8.ofInt 40).toInt32 ≤ nI k by rw [show k = 40 by omega]; decide) hc
  | succ m ih =>
    intro k g hk q
    have hP := q.1
    refine am_goX 3 (show ((Int8.ofInt 40).toInt32 ≤ (nI k) → pz_S 2 (some .int) am_r188 35 Q 103 [(1, .int (nI k)), (0, .ref 154)] [] g) ∧ (¬ ((Int8.ofInt 40).toInt32 ≤ (nI k)) → pz_S 2 (some .int) am_r188 35 Q 82 [(1, .int (nI k)), (0, .ref 154)] [] g) from ⟨fun hc => ?_, fun hc => ?_⟩)
    · exact absurd hc (nI_ge (b := 40) (by omega) (by omega))
    · refine am_goX 2 (show am_sh g 154 = some (11, 0) ∧ pz_S 2 (some .int) am_r188 35 Q 86 [(1, .int (nI k)), (0, .ref 154)] [am_rf (g.2.2.1 154 10)] g from ⟨px_154 hP, ?_⟩)
      rw [px_r10 hP]
      refine am_goX 3 (show am_sh g 154 = some (11, 0) ∧ pz_S 2 (some .int) am_r188 35 Q 91 [(1, .int (nI k)), (0, .ref 154)] [am_rf (g.2.2.1 154 10), .int (nI k), .ref 160] g from ⟨px_154 hP, ?_⟩)
      rw [px_r10 hP]
      refine am_goX 4 (show ∃ jj nn : Nat, am_sh g 160 = some (13, nn) ∧ jj < nn ∧ ((Int8.ofInt 40).toInt32 + (nI k)) = nI jj ∧ pz_S 2 (some .int) am_r188 35 Q 96 [(1, .int (nI k)), (0, .ref 154)] [.int (g.1 160 jj), .int (nI k), .ref 160] g from ⟨(40 + k), 80, px_160 hP, by omega, nI_add 40 k, ?_⟩)
      rw [(q.2.1.2 160 (40 + k) (pz_n160 k)).1]
      refine am_goX 1 (show ∃ jj nn : Nat, am_so g 160 = some (13, nn) ∧ jj < nn ∧ (nI k) = nI jj ∧ pz_S 2 (some .int) am_r188 35 Q 97 [(1, .int (nI k)), (0, .ref 154)] [] (am_wI g 160 jj ((hA.1 160 (40 + k)))) from ⟨k, 80, px_w160 hP, by omega, rfl, ?_⟩)
      have q1 := cq_160 q (by omega) (pz_row l hp he k (by omega))
      generalize am_wI g 160 k (hA.1 160 (40 + k)) = g1 at q1 ⊢
      have hP1 := q1.1
      refine am_goX 2 (show 1 < 2 ∧ pz_S 2 (some .int) am_r188 35 Q 76 [(1, .int ((nI k) + Int32.ofInt 1)), (0, .ref 154)] [] g1 from ⟨by decide, ?_⟩)
      rw [xw_i1]
      exact ih (k + 1) g1 (by omega) q1
theorem pz_cnE {Q : am_Q} {hA : am_H} (l : ln N a c h0 p e z hA) (hz : z ≤ 11) (hp : p ≤ 6) (he : e ≤ 5) (hQ : ∀ h', pz_P N a c h' → ag_fr pz_Mz hA h' → Q (some (.int (Int32.ofInt 0))) h') : pz_S 2 (some .int) am_r188 35 Q 74 [(0, .ref 154)] [] hA := by
  have hA0 : cq hA 0 0 hA := ⟨⟨l.1.1.1, l.1.1.2.1⟩, ag_fr.refl hA, fun j hj => absurd hj (by omega), fun j hj => absurd hj (by omega)⟩
  have hPA := hA0.1
  refine am_goX 2 (show 1 < 2 ∧ pz_S 2 (some .int) am_r188 35 Q 76 [(1, .int (Int32.ofInt 0)), (0, .ref 154)] [] hA from ⟨by decide, ?_⟩)
  refine pz_cn1 l hp he (fun g q => ?_) 40 0 hA rfl hA0
  have hP := q.1
  refine am_goX 2 (show 1 < 2 ∧ pz_S 2 (some .int) am_r188 35 Q 105 [(1, .int (Int32.ofInt 0)), (0, .ref 154)] [] g from ⟨by decide, ?_⟩)
  refine pz_cn2 l (fun g1 q1 => ?_) c 0 g (Nat.zero_add c) q
  have hP1 := q1.1
  refine am_goX 2 (show 1 < 2 ∧ pz_S 2 (some .int) am_r188 35 Q 153 [(1, .int (Int32.ofInt 0)), (0, .ref 154)] [] g1 from ⟨by decide, ?_⟩)
  refine pz_cn3 l hz (fun g2 q2 => ?_) z 0 g1 (Nat.zero_add z) q1
  have hP2 := q2.1
  refine am_goX 4 (show am_sh g2 154 = some (11, 0) ∧ am_sh g2 154 = some (11, 0) ∧ narrow (am_fty 11 18) (.int ((g2.1 154 19))) = .int ((g2.1 154 19)) ∧ fits (am_fty 11 18) (.int ((g2.1 154 19))) = true ∧ pz_S 2 (some .int) am_r188 35 Q 199 [(0, .ref 154)] [] (am_wI g2 154 18 ((g2.1 154 19))) from ⟨px_154 hP2, px_154 hP2, rfl, rfl, ?_⟩)
  rw [((q2.2.1.2 154 19 (by decide)).1).trans l.2.2.2.2.2.1]
  have q3 := cq_18 q2 hz
  generalize am_wI g2 154 18 (nI z) = g3 at q3 ⊢
  have f3 := q3.2.1
  have hP3 : pz_P N a c g3 := by
    obtain ⟨p1, p2, p3, p4, p5, p6, p7⟩ := l.1
    refine ⟨⟨q3.1.1, q3.1.2, p1.2.2.1, ?_⟩, pz_told l q3, p3, ((f3.2 154 7 (by decide)).1).trans p4, p5, ((f3.2 154 13 (by decide)).1).trans p6, p7⟩
    rw [(f3.2 156 (N : Int).toNat (by simp [ag_atM, pz_Mk2])).1]
    exact p1.2.2.2
  refine am_goX 2 (show am_rc g3 154 11 ∧ 0 ≤ 8 ∧ g3.2.2.2.2 + am_al 181 ≤ 175 ∧ am_call am_cod 35 181 [.ref 154] g3 (fun vv h' => pz_S 2 (some .int) am_r188 35 Q 203 [(0, .ref 154)] (vv.toList ++ []) h') from ⟨pz_rc hP3, by decide, pz_lim hP3 rfl, am_call.up (pb_call hP3 (fun h4 q4 f4 => ?_)) (by decide)⟩)
  exact am_goX 2 (show (∃ ty, (some .int) = some ty ∧ narrow ty (.int ((Int32.ofInt 0))) = .int ((Int32.ofInt 0))) ∧ h4.2.2.2.2 = 175 ∧ _ from ⟨⟨.int, rfl, rfl⟩, pz_175 q4, hQ h4 q4 ((ag_fr.refl hA).trans (by decide +kernel) (f3) |>.trans (by decide +kernel) f4)⟩)
