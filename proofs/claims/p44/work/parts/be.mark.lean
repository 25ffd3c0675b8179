/-! mark OF BOTH, EXACTLY -/
/-- a State copied -/
def scp (D S : Nat) (h h1 : am_H) : Prop := (h1.1 D 0 = h.1 S 0 ∧ h1.1 D 1 = h.1 S 1) ∧ (∀ i, i < 6 → h1.1 (D + 1) i = h.1 (S + 1) i ∧ h1.1 (D + 2) i = h.1 (S + 2) i) ∧ (∀ i, i < 5 → h1.1 (D + 3) i = h.1 (S + 3) i ∧ h1.1 (D + 4) i = h.1 (S + 4) i)
def mfl (h h1 : am_H) : Prop := ∀ j, j < 4 → h1.1 (130 + 6 * j) 0 = h.1 (130 + 6 * j) 0
def mf7 (h h1 : am_H) : Prop := ∀ j, j < 4 → h1.1 171 j = h.1 171 j
def mkC (k b : Int32) (h : am_H) (r : Int32) (h1 : am_H) : Prop := mf7 h h1 ∧ (∀ j, h1.1 3000000 j = h.1 3000000 j) ∧ ((¬ (Int32.ofInt 0 ≤ k ∧ k ≤ Int32.ofInt 3) ∧ r = 0 ∧ mfl h h1) ∨ (∃ m, m < 4 ∧ k = nI m ∧ ((b = 0 ∧ r = 1 ∧ h1.1 (130 + 6 * m) 0 = 1 ∧ (∀ j, j < 4 → ¬ j = m → h1.1 (130 + 6 * j) 0 = h.1 (130 + 6 * j) 0)) ∨ (¬ b = 0 ∧ h.1 (130 + 6 * m) 0 = 0 ∧ r = 0 ∧ mfl h h1) ∨ (¬ b = 0 ∧ ¬ h.1 (130 + 6 * m) 0 = 0 ∧ r = 1 ∧ mfl h h1))))
def mkR (k b : Int32) (h : am_H) (r : Int32) (h1 : am_H) : Prop := mfl h h1 ∧ ((¬ (Int32.ofInt 0 ≤ k ∧ k ≤ Int32.ofInt 3) ∧ r = 0 ∧ mf7 h h1) ∨ (∃ m, m < 4 ∧ k = nI m ∧ ((¬ b = 0 ∧ h.1 171 m = 0 ∧ r = 0 ∧ mf7 h h1) ∨ ((b = 0 ∨ ¬ h.1 171 m = 0) ∧ r = 1 ∧ h1.1 171 m = 1 ∧ (∀ j, j < 4 → ¬ j = m → h1.1 171 j = h.1 171 j)))))
theorem in03 {k : Int32} (h1 : Int32.ofInt 0 ≤ k) (h2 : k ≤ Int32.ofInt 3) : k = nI 0 ∨ k = nI 1 ∨ k = nI 2 ∨ k = nI 3 := by
  have a := Int32.le_iff_toInt_le.mp h1
  have b := Int32.le_iff_toInt_le.mp h2
  have e0 : (Int32.ofInt 0).toInt = 0 := by decide
  have e3 : (Int32.ofInt 3).toInt = 3 := by decide
  have c : k.toInt = 0 ∨ k.toInt = 1 ∨ k.toInt = 2 ∨ k.toInt = 3 := by omega
  rcases c with c | c | c | c
  · exact Or.inl (Int32.toInt_inj.mp (c.trans (by decide)))
  · exact Or.inr (Or.inl (Int32.toInt_inj.mp (c.trans (by decide))))
  · exact Or.inr (Or.inr (Or.inl (Int32.toInt_inj.mp (c.trans (by decide)))))
  · exact Or.inr (Or.inr (Or.inr (Int32.toInt_inj.mp (c.trans (by decide)))))
variable {h h0 : am_H} {Q : am_Q}
theorem ex_131 {h : am_H} (hP : ex_P h) : am_sh h 131 = some (6, 0) := (ex_so hP (by decide +kernel)).2
theorem ex_132 {h : am_H} (hP : ex_P h) : am_sh h 132 = some (13, 6) := (ex_so hP (by decide +kernel)).2
theorem ex_w132 {h : am_H} (hP : ex_P h) : am_so h 132 = some (13, 6) := (ex_so hP (by decide +kernel)).1
theorem ex_133 {h : am_H} (hP : ex_P h) : am_sh h 133 = some (13, 6) := (ex_so hP (by decide +kernel)).2
theorem ex_w133 {h : am_H} (hP : ex_P h) : am_so h 133 = some (13, 6) := (ex_so hP (by decide +kernel)).1
theorem ex_134 {h : am_H} (hP : ex_P h) : am_sh h 134 = some (13, 5) := (ex_so hP (by decide +kernel)).2
theorem ex_w134 {h : am_H} (hP : ex_P h) : am_so h 134 = some (13, 5) := (ex_so hP (by decide +kernel)).1
theorem ex_135 {h : am_H} (hP : ex_P h) : am_sh h 135 = some (13, 5) := (ex_so hP (by decide +kernel)).2
theorem ex_w135 {h : am_H} (hP : ex_P h) : am_so h 135 = some (13, 5) := (ex_so hP (by decide +kernel)).1
theorem ex_137 {h : am_H} (hP : ex_P h) : am_sh h 137 = some (6, 0) := (ex_so hP (by decide +kernel)).2
theorem ex_138 {h : am_H} (hP : ex_P h) : am_sh h 138 = some (13, 6) := (ex_so hP (by decide +kernel)).2
theorem ex_w138 {h : am_H} (hP : ex_P h) : am_so h 138 = some (13, 6) := (ex_so hP (by decide +kernel)).1
theorem ex_139 {h : am_H} (hP : ex_P h) : am_sh h 139 = some (13, 6) := (ex_so hP (by decide +kernel)).2
theorem ex_w139 {h : am_H} (hP : ex_P h) : am_so h 139 = some (13, 6) := (ex_so hP (by decide +kernel)).1
theorem ex_140 {h : am_H} (hP : ex_P h) : am_sh h 140 = some (13, 5) := (ex_so hP (by decide +kernel)).2
theorem ex_w140 {h : am_H} (hP : ex_P h) : am_so h 140 = some (13, 5) := (ex_so hP (by decide +kernel)).1
theorem ex_141 {h : am_H} (hP : ex_P h) : am_sh h 141 = some (13, 5) := (ex_so hP (by decide +kernel)).2
theorem ex_w141 {h : am_H} (hP : ex_P h) : am_so h 141 = some (13, 5) := (ex_so hP (by decide +kernel)).1
theorem ex_143 {h : am_H} (hP : ex_P h) : am_sh h 143 = some (6, 0) := (ex_so hP (by decide +kernel)).2
theorem ex_144 {h : am_H} (hP : ex_P h) : am_sh h 144 = some (13, 6) := (ex_so hP (by decide +kernel)).2
theorem ex_w144 {h : am_H} (hP : ex_P h) : am_so h 144 = some (13, 6) := (ex_so hP (by decide +kernel)).1
theorem ex_145 {h : am_H} (hP : ex_P h) : am_sh h 145 = some (13, 6) := (ex_so hP (by decide +kernel)).2
theorem ex_w145 {h : am_H} (hP : ex_P h) : am_so h 145 = some (13, 6) := (ex_so hP (by decide +kernel)).1
theorem ex_146 {h : am_H} (hP : ex_P h) : am_sh h 146 = some (13, 5) := (ex_so hP (by decide +kernel)).2
theorem ex_w146 {h : am_H} (hP : ex_P h) : am_so h 146 = some (13, 5) := (ex_so hP (by decide +kernel)).1
theorem ex_147 {h : am_H} (hP : ex_P h) : am_sh h 147 = some (13, 5) := (ex_so hP (by decide +kernel)).2
theorem ex_w147 {h : am_H} (hP : ex_P h) : am_so h 147 = some (13, 5) := (ex_so hP (by decide +kernel)).1
theorem ex_149 {h : am_H} (hP : ex_P h) : am_sh h 149 = some (6, 0) := (ex_so hP (by decide +kernel)).2
theorem ex_150 {h : am_H} (hP : ex_P h) : am_sh h 150 = some (13, 6) := (ex_so hP (by decide +kernel)).2
theorem ex_w150 {h : am_H} (hP : ex_P h) : am_so h 150 = some (13, 6) := (ex_so hP (by decide +kernel)).1
theorem ex_151 {h : am_H} (hP : ex_P h) : am_sh h 151 = some (13, 6) := (ex_so hP (by decide +kernel)).2
theorem ex_w151 {h : am_H} (hP : ex_P h) : am_so h 151 = some (13, 6) := (ex_so hP (by decide +kernel)).1
theorem ex_152 {h : am_H} (hP : ex_P h) : am_sh h 152 = some (13, 5) := (ex_so hP (by decide +kernel)).2
theorem ex_w152 {h : am_H} (hP : ex_P h) : am_so h 152 = some (13, 5) := (ex_so hP (by decide +kernel)).1
theorem ex_153 {h : am_H} (hP : ex_P h) : am_sh h 153 = some (13, 5) := (ex_so hP (by decide +kernel)).2
theorem ex_w153 {h : am_H} (hP : ex_P h) : am_so h 153 = some (13, 5) := (ex_so hP (by decide +kernel)).1
theorem ex_r130_1 {h : am_H} (hP : ex_P h) : h.2.2.1 130 1 = some 131 := hP.2 130 1 131 (by decide +kernel)
theorem ex_r131_2 {h : am_H} (hP : ex_P h) : h.2.2.1 131 2 = some 132 := hP.2 131 2 132 (by decide +kernel)
theorem ex_r131_3 {h : am_H} (hP : ex_P h) : h.2.2.1 131 3 = some 133 := hP.2 131 3 133 (by decide +kernel)
theorem ex_r131_4 {h : am_H} (hP : ex_P h) : h.2.2.1 131 4 = some 134 := hP.2 131 4 134 (by decide +kernel)
theorem ex_r131_5 {h : am_H} (hP : ex_P h) : h.2.2.1 131 5 = some 135 := hP.2 131 5 135 (by decide +kernel)
theorem ex_r136_1 {h : am_H} (hP : ex_P h) : h.2.2.1 136 1 = some 137 := hP.2 136 1 137 (by decide +kernel)
theorem ex_r137_2 {h : am_H} (hP : ex_P h) : h.2.2.1 137 2 = some 138 := hP.2 137 2 138 (by decide +kernel)
theorem ex_r137_3 {h : am_H} (hP : ex_P h) : h.2.2.1 137 3 = some 139 := hP.2 137 3 139 (by decide +kernel)
theorem ex_r137_4 {h : am_H} (hP : ex_P h) : h.2.2.1 137 4 = some 140 := hP.2 137 4 140 (by decide +kernel)
theorem ex_r137_5 {h : am_H} (hP : ex_P h) : h.2.2.1 137 5 = some 141 := hP.2 137 5 141 (by decide +kernel)
theorem ex_r142_1 {h : am_H} (hP : ex_P h) : h.2.2.1 142 1 = some 143 := hP.2 142 1 143 (by decide +kernel)
theorem ex_r143_2 {h : am_H} (hP : ex_P h) : h.2.2.1 143 2 = some 144 := hP.2 143 2 144 (by decide +kernel)
theorem ex_r143_3 {h : am_H} (hP : ex_P h) : h.2.2.1 143 3 = some 145 := hP.2 143 3 145 (by decide +kernel)
theorem ex_r143_4 {h : am_H} (hP : ex_P h) : h.2.2.1 143 4 = some 146 := hP.2 143 4 146 (by decide +kernel)
theorem ex_r143_5 {h : am_H} (hP : ex_P h) : h.2.2.1 143 5 = some 147 := hP.2 143 5 147 (by decide +kernel)
theorem ex_r148_1 {h : am_H} (hP : ex_P h) : h.2.2.1 148 1 = some 149 := hP.2 148 1 149 (by decide +kernel)
theorem ex_r149_2 {h : am_H} (hP : ex_P h) : h.2.2.1 149 2 = some 150 := hP.2 149 2 150 (by decide +kernel)
theorem ex_r149_3 {h : am_H} (hP : ex_P h) : h.2.2.1 149 3 = some 151 := hP.2 149 3 151 (by decide +kernel)
theorem ex_r149_4 {h : am_H} (hP : ex_P h) : h.2.2.1 149 4 = some 152 := hP.2 149 4 152 (by decide +kernel)
theorem ex_r149_5 {h : am_H} (hP : ex_P h) : h.2.2.1 149 5 = some 153 := hP.2 149 5 153 (by decide +kernel)
theorem c_99b_131_36 : ∀ (m i : Nat) (h : am_H), i + m = 5 → ex_P h → (∀ j, j < i → h.1 134 j = h.1 39 j ∧ h.1 135 j = h.1 40 j) → (∀ h1, ex_P h1 → h1.2 = h.2 → (∀ o k, ¬ (o = 134 ∨ o = 135) → h1.1 o k = h.1 o k) → (∀ j, j < 5 → h1.1 134 j = h.1 39 j ∧ h1.1 135 j = h.1 40 j) → Q none h1) → pz_S 3 none am_r99 0 Q 56 [(2, .int (nI i)), (0, .ref 131), (1, .ref 36)] [] h := by
  intro m
  induction m with
  | zero =>
    intro i h hi hP hj hQ
    refine am_goX 3 (show ((Int32.ofInt 5) ≤ (nI i) → pz_S 3 none am_r99 0 Q 91 [(2, .int (nI i)), (0, .ref 131), (1, .ref 36)] [] h) ∧ (¬ ((Int32.ofInt 5) ≤ (nI i)) → pz_S 3 none am_r99 0 Q 61 [(2, .int (nI i)), (0, .ref 131), (1, .ref 36)] [] h) from ⟨fun _ => ?_, fun hz => absurd (show nI 5 ≤ nI i from nI_le (by omega) (by omega)) hz⟩)
    exact am_goX 1 (show (none : Option FieldType) = none ∧ h.2.2.2.2 = 175 ∧ _ from ⟨rfl, ex_175 hP, hQ _ hP rfl (fun _ _ _ => rfl) (fun j hj1 => hj j (by omega))⟩)
  | succ m ih =>
    intro i h hi hP hj hQ
    refine am_goX 3 (show ((Int32.ofInt 5) ≤ (nI i) → pz_S 3 none am_r99 0 Q 91 [(2, .int (nI i)), (0, .ref 131), (1, .ref 36)] [] h) ∧ (¬ ((Int32.ofInt 5) ≤ (nI i)) → pz_S 3 none am_r99 0 Q 61 [(2, .int (nI i)), (0, .ref 131), (1, .ref 36)] [] h) from ⟨fun hz => absurd hz (show ¬ nI 5 ≤ nI i by rw [nI_leI (by omega) (by omega)]; omega), fun _ => ?_⟩)
    refine am_goX 2 (show am_sh h 131 = some (6, 0) ∧ pz_S 3 none am_r99 0 Q 65 [(2, .int (nI i)), (0, .ref 131), (1, .ref 36)] [am_rf (h.2.2.1 131 4)] h from ⟨ex_131 hP, ?_⟩)
    rw [ex_r131_4 (h := h) hP]
    refine am_goX 3 (show am_sh h 36 = some (6, 0) ∧ pz_S 3 none am_r99 0 Q 70 [(2, .int (nI i)), (0, .ref 131), (1, .ref 36)] [am_rf (h.2.2.1 36 4), .int (nI i), .ref 134] h from ⟨ex_36 hP, ?_⟩)
    rw [ex_r36_4 (h := h) hP]
    refine am_goX 2 (show ∃ jj nn : Nat, am_sh h 39 = some (13, nn) ∧ jj < nn ∧ (nI i) = nI jj ∧ pz_S 3 none am_r99 0 Q 72 [(2, .int (nI i)), (0, .ref 131), (1, .ref 36)] [.int (h.1 39 jj), .int (nI i), .ref 134] h from ⟨i, 5, ex_39 hP, by omega, rfl, ?_⟩)
    refine am_goX 1 (show ∃ jj nn : Nat, am_so h 134 = some (13, nn) ∧ jj < nn ∧ (nI i) = nI jj ∧ pz_S 3 none am_r99 0 Q 73 [(2, .int (nI i)), (0, .ref 131), (1, .ref 36)] [] (am_wI h 134 jj (h.1 39 i)) from ⟨i, 5, ex_w134 hP, by omega, rfl, ?_⟩)
    refine am_goX 2 (show am_sh (am_wI h 134 (i) (h.1 39 i)) 131 = some (6, 0) ∧ pz_S 3 none am_r99 0 Q 77 [(2, .int (nI i)), (0, .ref 131), (1, .ref 36)] [am_rf ((am_wI h 134 (i) (h.1 39 i)).2.2.1 131 5)] (am_wI h 134 (i) (h.1 39 i)) from ⟨ex_131 hP, ?_⟩)
    rw [ex_r131_5 (h := am_wI h 134 (i) (h.1 39 i)) hP]
    refine am_goX 3 (show am_sh (am_wI h 134 (i) (h.1 39 i)) 36 = some (6, 0) ∧ pz_S 3 none am_r99 0 Q 82 [(2, .int (nI i)), (0, .ref 131), (1, .ref 36)] [am_rf ((am_wI h 134 (i) (h.1 39 i)).2.2.1 36 5), .int (nI i), .ref 135] (am_wI h 134 (i) (h.1 39 i)) from ⟨ex_36 hP, ?_⟩)
    rw [ex_r36_5 (h := am_wI h 134 (i) (h.1 39 i)) hP]
    refine am_goX 2 (show ∃ jj nn : Nat, am_sh (am_wI h 134 (i) (h.1 39 i)) 40 = some (13, nn) ∧ jj < nn ∧ (nI i) = nI jj ∧ pz_S 3 none am_r99 0 Q 84 [(2, .int (nI i)), (0, .ref 131), (1, .ref 36)] [.int ((am_wI h 134 (i) (h.1 39 i)).1 40 jj), .int (nI i), .ref 135] (am_wI h 134 (i) (h.1 39 i)) from ⟨i, 5, ex_40 hP, by omega, rfl, ?_⟩)
    rw [show (am_wI h 134 (i) (h.1 39 i)).1 40 i = h.1 40 i from em_wn _ _ (by omega)]
    refine am_goX 1 (show ∃ jj nn : Nat, am_so (am_wI h 134 (i) (h.1 39 i)) 135 = some (13, nn) ∧ jj < nn ∧ (nI i) = nI jj ∧ pz_S 3 none am_r99 0 Q 85 [(2, .int (nI i)), (0, .ref 131), (1, .ref 36)] [] (am_wI (am_wI h 134 (i) (h.1 39 i)) 135 jj (h.1 40 i)) from ⟨i, 5, ex_w135 hP, by omega, rfl, ?_⟩)
    refine am_goX 2 (show 2 < 3 ∧ pz_S 3 none am_r99 0 Q 56 [(2, .int ((nI i) + Int32.ofInt 1)), (0, .ref 131), (1, .ref 36)] [] (am_wI (am_wI h 134 (i) (h.1 39 i)) 135 (i) (h.1 40 i)) from ⟨by decide, ?_⟩)
    rw [xw_i1]
    refine ih (i + 1) _ (by omega) hP (fun j hj1 => ?_) (fun h1 p1 p2 p3 p4 => hQ h1 p1 p2 (fun o k hn => (p3 o k hn).trans (by rw [em_wn _ _ (by omega), em_wn _ _ (by omega)])) (fun j hj1 => by
      have w := p4 j hj1
      rw [em_wn _ _ (by omega), em_wn _ _ (by omega), em_wn _ _ (by omega), em_wn _ _ (by omega)] at w
      exact w))
    by_cases ej : j = i
    · rw [ej, em_wn _ _ (by omega), em_we, em_we, em_wn _ _ (by omega), em_wn _ _ (by omega), em_wn _ _ (by omega), em_wn _ _ (by omega)]
      exact ⟨rfl, rfl⟩
    · rw [em_wn _ _ (by omega), em_wn _ _ (by omega), em_wn _ _ (by omega), em_wn _ _ (by omega), em_wn _ _ (by omega), em_wn _ _ (by omega), em_wn _ _ (by omega), em_wn _ _ (by omega)]
      exact hj j (by omega)
theorem c_99a_131_36 : ∀ (m i : Nat) (h : am_H), i + m = 6 → ex_P h → (∀ j, j < i → h.1 132 j = h.1 37 j ∧ h.1 133 j = h.1 38 j) → (∀ h1, ex_P h1 → h1.2 = h.2 → (∀ o k, ¬ (132 ≤ o ∧ o ≤ 135) → h1.1 o k = h.1 o k) → (∀ j, j < 6 → h1.1 132 j = h.1 37 j ∧ h1.1 133 j = h.1 38 j) → (∀ j, j < 5 → h1.1 134 j = h.1 39 j ∧ h1.1 135 j = h.1 40 j) → Q none h1) → pz_S 3 none am_r99 0 Q 18 [(2, .int (nI i)), (0, .ref 131), (1, .ref 36)] [] h := by
  intro m
  induction m with
  | zero =>
    intro i h hi hP hj hQ
    refine am_goX 3 (show ((Int8.ofInt 6).toInt32 ≤ (nI i) → pz_S 3 none am_r99 0 Q 54 [(2, .int (nI i)), (0, .ref 131), (1, .ref 36)] [] h) ∧ (¬ ((Int8.ofInt 6).toInt32 ≤ (nI i)) → pz_S 3 none am_r99 0 Q 24 [(2, .int (nI i)), (0, .ref 131), (1, .ref 36)] [] h) from ⟨fun _ => ?_, fun hz => absurd (show nI 6 ≤ nI i from nI_le (by omega) (by omega)) hz⟩)
    refine am_goX 2 (show 2 < 3 ∧ pz_S 3 none am_r99 0 Q 56 [(2, .int (Int32.ofInt 0)), (0, .ref 131), (1, .ref 36)] [] h from ⟨by decide, ?_⟩)
    exact c_99b_131_36 5 0 _ rfl hP (fun j hj1 => absurd hj1 (Nat.not_lt_zero j)) (fun h1 p1 p2 p3 p4 => hQ h1 p1 p2 (fun o k hn => p3 o k (by omega)) (fun j hj1 => by rw [p3 132 j (by omega), p3 133 j (by omega)]; exact hj j (by omega)) p4)
  | succ m ih =>
    intro i h hi hP hj hQ
    refine am_goX 3 (show ((Int8.ofInt 6).toInt32 ≤ (nI i) → pz_S 3 none am_r99 0 Q 54 [(2, .int (nI i)), (0, .ref 131), (1, .ref 36)] [] h) ∧ (¬ ((Int8.ofInt 6).toInt32 ≤ (nI i)) → pz_S 3 none am_r99 0 Q 24 [(2, .int (nI i)), (0, .ref 131), (1, .ref 36)] [] h) from ⟨fun hz => absurd hz (show ¬ nI 6 ≤ nI i by rw [nI_leI (by omega) (by omega)]; omega), fun _ => ?_⟩)
    refine am_goX 2 (show am_sh h 131 = some (6, 0) ∧ pz_S 3 none am_r99 0 Q 28 [(2, .int (nI i)), (0, .ref 131), (1, .ref 36)] [am_rf (h.2.2.1 131 2)] h from ⟨ex_131 hP, ?_⟩)
    rw [ex_r131_2 (h := h) hP]
    refine am_goX 3 (show am_sh h 36 = some (6, 0) ∧ pz_S 3 none am_r99 0 Q 33 [(2, .int (nI i)), (0, .ref 131), (1, .ref 36)] [am_rf (h.2.2.1 36 2), .int (nI i), .ref 132] h from ⟨ex_36 hP, ?_⟩)
    rw [ex_r36_2 (h := h) hP]
    refine am_goX 2 (show ∃ jj nn : Nat, am_sh h 37 = some (13, nn) ∧ jj < nn ∧ (nI i) = nI jj ∧ pz_S 3 none am_r99 0 Q 35 [(2, .int (nI i)), (0, .ref 131), (1, .ref 36)] [.int (h.1 37 jj), .int (nI i), .ref 132] h from ⟨i, 6, ex_37 hP, by omega, rfl, ?_⟩)
    refine am_goX 1 (show ∃ jj nn : Nat, am_so h 132 = some (13, nn) ∧ jj < nn ∧ (nI i) = nI jj ∧ pz_S 3 none am_r99 0 Q 36 [(2, .int (nI i)), (0, .ref 131), (1, .ref 36)] [] (am_wI h 132 jj (h.1 37 i)) from ⟨i, 6, ex_w132 hP, by omega, rfl, ?_⟩)
    refine am_goX 2 (show am_sh (am_wI h 132 (i) (h.1 37 i)) 131 = some (6, 0) ∧ pz_S 3 none am_r99 0 Q 40 [(2, .int (nI i)), (0, .ref 131), (1, .ref 36)] [am_rf ((am_wI h 132 (i) (h.1 37 i)).2.2.1 131 3)] (am_wI h 132 (i) (h.1 37 i)) from ⟨ex_131 hP, ?_⟩)
    rw [ex_r131_3 (h := am_wI h 132 (i) (h.1 37 i)) hP]
    refine am_goX 3 (show am_sh (am_wI h 132 (i) (h.1 37 i)) 36 = some (6, 0) ∧ pz_S 3 none am_r99 0 Q 45 [(2, .int (nI i)), (0, .ref 131), (1, .ref 36)] [am_rf ((am_wI h 132 (i) (h.1 37 i)).2.2.1 36 3), .int (nI i), .ref 133] (am_wI h 132 (i) (h.1 37 i)) from ⟨ex_36 hP, ?_⟩)
    rw [ex_r36_3 (h := am_wI h 132 (i) (h.1 37 i)) hP]
    refine am_goX 2 (show ∃ jj nn : Nat, am_sh (am_wI h 132 (i) (h.1 37 i)) 38 = some (13, nn) ∧ jj < nn ∧ (nI i) = nI jj ∧ pz_S 3 none am_r99 0 Q 47 [(2, .int (nI i)), (0, .ref 131), (1, .ref 36)] [.int ((am_wI h 132 (i) (h.1 37 i)).1 38 jj), .int (nI i), .ref 133] (am_wI h 132 (i) (h.1 37 i)) from ⟨i, 6, ex_38 hP, by omega, rfl, ?_⟩)
    rw [show (am_wI h 132 (i) (h.1 37 i)).1 38 i = h.1 38 i from em_wn _ _ (by omega)]
    refine am_goX 1 (show ∃ jj nn : Nat, am_so (am_wI h 132 (i) (h.1 37 i)) 133 = some (13, nn) ∧ jj < nn ∧ (nI i) = nI jj ∧ pz_S 3 none am_r99 0 Q 48 [(2, .int (nI i)), (0, .ref 131), (1, .ref 36)] [] (am_wI (am_wI h 132 (i) (h.1 37 i)) 133 jj (h.1 38 i)) from ⟨i, 6, ex_w133 hP, by omega, rfl, ?_⟩)
    refine am_goX 2 (show 2 < 3 ∧ pz_S 3 none am_r99 0 Q 18 [(2, .int ((nI i) + Int32.ofInt 1)), (0, .ref 131), (1, .ref 36)] [] (am_wI (am_wI h 132 (i) (h.1 37 i)) 133 (i) (h.1 38 i)) from ⟨by decide, ?_⟩)
    rw [xw_i1]
    refine ih (i + 1) _ (by omega) hP (fun j hj1 => ?_) (fun h1 p1 p2 p3 p4 p5 => hQ h1 p1 p2 (fun o k hn => (p3 o k hn).trans (by rw [em_wn _ _ (by omega), em_wn _ _ (by omega)])) (fun j hj1 => by
      have w := p4 j hj1
      rw [em_wn _ _ (by omega), em_wn _ _ (by omega), em_wn _ _ (by omega), em_wn _ _ (by omega)] at w
      exact w) (fun j hj1 => by
      have w := p5 j hj1
      rw [em_wn (o' := 39) _ _ (by omega), em_wn (o' := 39) _ _ (by omega), em_wn (o' := 40) _ _ (by omega), em_wn (o' := 40) _ _ (by omega)] at w
      exact w))
    by_cases ej : j = i
    · rw [ej, em_wn _ _ (by omega), em_we, em_we, em_wn _ _ (by omega), em_wn _ _ (by omega), em_wn _ _ (by omega), em_wn _ _ (by omega)]
      exact ⟨rfl, rfl⟩
    · rw [em_wn _ _ (by omega), em_wn _ _ (by omega), em_wn _ _ (by omega), em_wn _ _ (by omega), em_wn _ _ (by omega), em_wn _ _ (by omega), em_wn _ _ (by omega), em_wn _ _ (by omega)]
      exact hj j (by omega)
theorem c_99_131_36 (hP : ex_P h) (hQ : ∀ h1, ex_P h1 → h1.2 = h.2 → (∀ o k, ¬ (131 ≤ o ∧ o ≤ 135) → h1.1 o k = h.1 o k) → scp 131 36 h h1 → Q none h1) : am_call am_cod 1 99 [.ref 131, .ref 36] h Q := by
  refine pz_call (n := 99) (nL := 3) (rt := none) (rows := am_r99) (d := 0) (by decide +kernel) (by decide +kernel) rfl (by funext pc; rfl) (ex_175 hP) (by exact Nat.le_of_ble_eq_true rfl) ?_
  refine am_goX 4 (show am_sh h 36 = some (6, 0) ∧ am_sh h 131 = some (6, 0) ∧ narrow (am_fty 6 0) (.int ((h.1 36 0))) = .int ((h.1 36 0)) ∧ fits (am_fty 6 0) (.int ((h.1 36 0))) = true ∧ pz_S 3 none am_r99 0 Q 8 [(0, .ref 131), (1, .ref 36)] [] (am_wI h 131 0 ((h.1 36 0))) from ⟨ex_36 hP, ex_131 hP, rfl, rfl, ?_⟩)
  refine am_goX 4 (show am_sh (am_wI h 131 0 ((h.1 36 0))) 36 = some (6, 0) ∧ am_sh (am_wI h 131 0 ((h.1 36 0))) 131 = some (6, 0) ∧ narrow (am_fty 6 1) (.int (((am_wI h 131 0 ((h.1 36 0))).1 36 1))) = .int (((am_wI h 131 0 ((h.1 36 0))).1 36 1)) ∧ fits (am_fty 6 1) (.int (((am_wI h 131 0 ((h.1 36 0))).1 36 1))) = true ∧ pz_S 3 none am_r99 0 Q 16 [(0, .ref 131), (1, .ref 36)] [] (am_wI (am_wI h 131 0 ((h.1 36 0))) 131 1 (((am_wI h 131 0 ((h.1 36 0))).1 36 1))) from ⟨ex_36 hP, ex_131 hP, rfl, rfl, ?_⟩)
  rw [show (am_wI h 131 0 ((h.1 36 0))).1 36 1 = h.1 36 1 from em_wn _ _ (by omega)]
  refine am_goX 2 (show 2 < 3 ∧ pz_S 3 none am_r99 0 Q 18 [(2, .int (Int32.ofInt 0)), (0, .ref 131), (1, .ref 36)] [] (am_wI (am_wI h 131 0 ((h.1 36 0))) 131 1 (h.1 36 1)) from ⟨by decide, ?_⟩)
  exact c_99a_131_36 6 0 _ rfl hP (fun j hj1 => absurd hj1 (Nat.not_lt_zero j)) (fun h1 p1 p2 p3 p4 p5 => hQ h1 p1 p2 (fun o k hn => by rw [p3 o k (by omega), em_wn _ _ (by omega), em_wn _ _ (by omega)]) ⟨⟨by rw [p3 131 0 (by omega), em_wn _ _ (by omega), em_we], by rw [p3 131 1 (by omega), em_we]⟩, fun j hj1 => by
    have w := p4 j hj1
    rw [em_wn _ _ (by omega), em_wn _ _ (by omega), em_wn _ _ (by omega), em_wn _ _ (by omega)] at w
    exact w, fun j hj1 => by
    have w := p5 j hj1
    rw [em_wn _ _ (by omega), em_wn _ _ (by omega), em_wn _ _ (by omega), em_wn _ _ (by omega)] at w
    exact w⟩)
theorem c_99b_137_36 : ∀ (m i : Nat) (h : am_H), i + m = 5 → ex_P h → (∀ j, j < i → h.1 140 j = h.1 39 j ∧ h.1 141 j = h.1 40 j) → (∀ h1, ex_P h1 → h1.2 = h.2 → (∀ o k, ¬ (o = 140 ∨ o = 141) → h1.1 o k = h.1 o k) → (∀ j, j < 5 → h1.1 140 j = h.1 39 j ∧ h1.1 141 j = h.1 40 j) → Q none h1) → pz_S 3 none am_r99 0 Q 56 [(2, .int (nI i)), (0, .ref 137), (1, .ref 36)] [] h := by
  intro m
  induction m with
  | zero =>
    intro i h hi hP hj hQ
    refine am_goX 3 (show ((Int32.ofInt 5) ≤ (nI i) → pz_S 3 none am_r99 0 Q 91 [(2, .int (nI i)), (0, .ref 137), (1, .ref 36)] [] h) ∧ (¬ ((Int32.ofInt 5) ≤ (nI i)) → pz_S 3 none am_r99 0 Q 61 [(2, .int (nI i)), (0, .ref 137), (1, .ref 36)] [] h) from ⟨fun _ => ?_, fun hz => absurd (show nI 5 ≤ nI i from nI_le (by omega) (by omega)) hz⟩)
    exact am_goX 1 (show (none : Option FieldType) = none ∧ h.2.2.2.2 = 175 ∧ _ from ⟨rfl, ex_175 hP, hQ _ hP rfl (fun _ _ _ => rfl) (fun j hj1 => hj j (by omega))⟩)
  | succ m ih =>
    intro i h hi hP hj hQ
    refine am_goX 3 (show ((Int32.ofInt 5) ≤ (nI i) → pz_S 3 none am_r99 0 Q 91 [(2, .int (nI i)), (0, .ref 137), (1, .ref 36)] [] h) ∧ (¬ ((Int32.ofInt 5) ≤ (nI i)) → pz_S 3 none am_r99 0 Q 61 [(2, .int (nI i)), (0, .ref 137), (1, .ref 36)] [] h) from ⟨fun hz => absurd hz (show ¬ nI 5 ≤ nI i by rw [nI_leI (by omega) (by omega)]; omega), fun _ => ?_⟩)
    refine am_goX 2 (show am_sh h 137 = some (6, 0) ∧ pz_S 3 none am_r99 0 Q 65 [(2, .int (nI i)), (0, .ref 137), (1, .ref 36)] [am_rf (h.2.2.1 137 4)] h from ⟨ex_137 hP, ?_⟩)
    rw [ex_r137_4 (h := h) hP]
    refine am_goX 3 (show am_sh h 36 = some (6, 0) ∧ pz_S 3 none am_r99 0 Q 70 [(2, .int (nI i)), (0, .ref 137), (1, .ref 36)] [am_rf (h.2.2.1 36 4), .int (nI i), .ref 140] h from ⟨ex_36 hP, ?_⟩)
    rw [ex_r36_4 (h := h) hP]
    refine am_goX 2 (show ∃ jj nn : Nat, am_sh h 39 = some (13, nn) ∧ jj < nn ∧ (nI i) = nI jj ∧ pz_S 3 none am_r99 0 Q 72 [(2, .int (nI i)), (0, .ref 137), (1, .ref 36)] [.int (h.1 39 jj), .int (nI i), .ref 140] h from ⟨i, 5, ex_39 hP, by omega, rfl, ?_⟩)
    refine am_goX 1 (show ∃ jj nn : Nat, am_so h 140 = some (13, nn) ∧ jj < nn ∧ (nI i) = nI jj ∧ pz_S 3 none am_r99 0 Q 73 [(2, .int (nI i)), (0, .ref 137), (1, .ref 36)] [] (am_wI h 140 jj (h.1 39 i)) from ⟨i, 5, ex_w140 hP, by omega, rfl, ?_⟩)
    refine am_goX 2 (show am_sh (am_wI h 140 (i) (h.1 39 i)) 137 = some (6, 0) ∧ pz_S 3 none am_r99 0 Q 77 [(2, .int (nI i)), (0, .ref 137), (1, .ref 36)] [am_rf ((am_wI h 140 (i) (h.1 39 i)).2.2.1 137 5)] (am_wI h 140 (i) (h.1 39 i)) from ⟨ex_137 hP, ?_⟩)
    rw [ex_r137_5 (h := am_wI h 140 (i) (h.1 39 i)) hP]
    refine am_goX 3 (show am_sh (am_wI h 140 (i) (h.1 39 i)) 36 = some (6, 0) ∧ pz_S 3 none am_r99 0 Q 82 [(2, .int (nI i)), (0, .ref 137), (1, .ref 36)] [am_rf ((am_wI h 140 (i) (h.1 39 i)).2.2.1 36 5), .int (nI i), .ref 141] (am_wI h 140 (i) (h.1 39 i)) from ⟨ex_36 hP, ?_⟩)
    rw [ex_r36_5 (h := am_wI h 140 (i) (h.1 39 i)) hP]
    refine am_goX 2 (show ∃ jj nn : Nat, am_sh (am_wI h 140 (i) (h.1 39 i)) 40 = some (13, nn) ∧ jj < nn ∧ (nI i) = nI jj ∧ pz_S 3 none am_r99 0 Q 84 [(2, .int (nI i)), (0, .ref 137), (1, .ref 36)] [.int ((am_wI h 140 (i) (h.1 39 i)).1 40 jj), .int (nI i), .ref 141] (am_wI h 140 (i) (h.1 39 i)) from ⟨i, 5, ex_40 hP, by omega, rfl, ?_⟩)
    rw [show (am_wI h 140 (i) (h.1 39 i)).1 40 i = h.1 40 i from em_wn _ _ (by omega)]
    refine am_goX 1 (show ∃ jj nn : Nat, am_so (am_wI h 140 (i) (h.1 39 i)) 141 = some (13, nn) ∧ jj < nn ∧ (nI i) = nI jj ∧ pz_S 3 none am_r99 0 Q 85 [(2, .int (nI i)), (0, .ref 137), (1, .ref 36)] [] (am_wI (am_wI h 140 (i) (h.1 39 i)) 141 jj (h.1 40 i)) from ⟨i, 5, ex_w141 hP, by omega, rfl, ?_⟩)
    refine am_goX 2 (show 2 < 3 ∧ pz_S 3 none am_r99 0 Q 56 [(2, .int ((nI i) + Int32.ofInt 1)), (0, .ref 137), (1, .ref 36)] [] (am_wI (am_wI h 140 (i) (h.1 39 i)) 141 (i) (h.1 40 i)) from ⟨by decide, ?_⟩)
    rw [xw_i1]
    refine ih (i + 1) _ (by omega) hP (fun j hj1 => ?_) (fun h1 p1 p2 p3 p4 => hQ h1 p1 p2 (fun o k hn => (p3 o k hn).trans (by rw [em_wn _ _ (by omega), em_wn _ _ (by omega)])) (fun j hj1 => by
      have w := p4 j hj1
      rw [em_wn _ _ (by omega), em_wn _ _ (by omega), em_wn _ _ (by omega), em_wn _ _ (by omega)] at w
      exact w))
    by_cases ej : j = i
    · rw [ej, em_wn _ _ (by omega), em_we, em_we, em_wn _ _ (by omega), em_wn _ _ (by omega), em_wn _ _ (by omega), em_wn _ _ (by omega)]
      exact ⟨rfl, rfl⟩
    · rw [em_wn _ _ (by omega), em_wn _ _ (by omega), em_wn _ _ (by omega), em_wn _ _ (by omega), em_wn _ _ (by omega), em_wn _ _ (by omega), em_wn _ _ (by omega), em_wn _ _ (by omega)]
      exact hj j (by omega)
theorem c_99a_137_36 : ∀ (m i : Nat) (h : am_H), i + m = 6 → ex_P h → (∀ j, j < i → h.1 138 j = h.1 37 j ∧ h.1 139 j = h.1 38 j) → (∀ h1, ex_P h1 → h1.2 = h.2 → (∀ o k, ¬ (138 ≤ o ∧ o ≤ 141) → h1.1 o k = h.1 o k) → (∀ j, j < 6 → h1.1 138 j = h.1 37 j ∧ h1.1 139 j = h.1 38 j) → (∀ j, j < 5 → h1.1 140 j = h.1 39 j ∧ h1.1 141 j = h.1 40 j) → Q none h1) → pz_S 3 none am_r99 0 Q 18 [(2, .int (nI i)), (0, .ref 137), (1, .ref 36)] [] h := by
  intro m
  induction m with
  | zero =>
    intro i h hi hP hj hQ
    refine am_goX 3 (show ((Int8.ofInt 6).toInt32 ≤ (nI i) → pz_S 3 none am_r99 0 Q 54 [(2, .int (nI i)), (0, .ref 137), (1, .ref 36)] [] h) ∧ (¬ ((Int8.ofInt 6).toInt32 ≤ (nI i)) → pz_S 3 none am_r99 0 Q 24 [(2, .int (nI i)), (0, .ref 137), (1, .ref 36)] [] h) from ⟨fun _ => ?_, fun hz => absurd (show nI 6 ≤ nI i from nI_le (by omega) (by omega)) hz⟩)
    refine am_goX 2 (show 2 < 3 ∧ pz_S 3 none am_r99 0 Q 56 [(2, .int (Int32.ofInt 0)), (0, .ref 137), (1, .ref 36)] [] h from ⟨by decide, ?_⟩)
    exact c_99b_137_36 5 0 _ rfl hP (fun j hj1 => absurd hj1 (Nat.not_lt_zero j)) (fun h1 p1 p2 p3 p4 => hQ h1 p1 p2 (fun o k hn => p3 o k (by omega)) (fun j hj1 => by rw [p3 138 j (by omega), p3 139 j (by omega)]; exact hj j (by omega)) p4)
  | succ m ih =>
    intro i h hi hP hj hQ
    refine am_goX 3 (show ((Int8.ofInt 6).toInt32 ≤ (nI i) → pz_S 3 none am_r99 0 Q 54 [(2, .int (nI i)), (0, .ref 137), (1, .ref 36)] [] h) ∧ (¬ ((Int8.ofInt 6).toInt32 ≤ (nI i)) → pz_S 3 none am_r99 0 Q 24 [(2, .int (nI i)), (0, .ref 137), (1, .ref 36)] [] h) from ⟨fun hz => absurd hz (show ¬ nI 6 ≤ nI i by rw [nI_leI (by omega) (by omega)]; omega), fun _ => ?_⟩)
    refine am_goX 2 (show am_sh h 137 = some (6, 0) ∧ pz_S 3 none am_r99 0 Q 28 [(2, .int (nI i)), (0, .ref 137), (1, .ref 36)] [am_rf (h.2.2.1 137 2)] h from ⟨ex_137 hP, ?_⟩)
    rw [ex_r137_2 (h := h) hP]
    refine am_goX 3 (show am_sh h 36 = some (6, 0) ∧ pz_S 3 none am_r99 0 Q 33 [(2, .int (nI i)), (0, .ref 137), (1, .ref 36)] [am_rf (h.2.2.1 36 2), .int (nI i), .ref 138] h from ⟨ex_36 hP, ?_⟩)
    rw [ex_r36_2 (h := h) hP]
    refine am_goX 2 (show ∃ jj nn : Nat, am_sh h 37 = some (13, nn) ∧ jj < nn ∧ (nI i) = nI jj ∧ pz_S 3 none am_r99 0 Q 35 [(2, .int (nI i)), (0, .ref 137), (1, .ref 36)] [.int (h.1 37 jj), .int (nI i), .ref 138] h from ⟨i, 6, ex_37 hP, by omega, rfl, ?_⟩)
    refine am_goX 1 (show ∃ jj nn : Nat, am_so h 138 = some (13, nn) ∧ jj < nn ∧ (nI i) = nI jj ∧ pz_S 3 none am_r99 0 Q 36 [(2, .int (nI i)), (0, .ref 137), (1, .ref 36)] [] (am_wI h 138 jj (h.1 37 i)) from ⟨i, 6, ex_w138 hP, by omega, rfl, ?_⟩)
    refine am_goX 2 (show am_sh (am_wI h 138 (i) (h.1 37 i)) 137 = some (6, 0) ∧ pz_S 3 none am_r99 0 Q 40 [(2, .int (nI i)), (0, .ref 137), (1, .ref 36)] [am_rf ((am_wI h 138 (i) (h.1 37 i)).2.2.1 137 3)] (am_wI h 138 (i) (h.1 37 i)) from ⟨ex_137 hP, ?_⟩)
    rw [ex_r137_3 (h := am_wI h 138 (i) (h.1 37 i)) hP]
    refine am_goX 3 (show am_sh (am_wI h 138 (i) (h.1 37 i)) 36 = some (6, 0) ∧ pz_S 3 none am_r99 0 Q 45 [(2, .int (nI i)), (0, .ref 137), (1, .ref 36)] [am_rf ((am_wI h 138 (i) (h.1 37 i)).2.2.1 36 3), .int (nI i), .ref 139] (am_wI h 138 (i) (h.1 37 i)) from ⟨ex_36 hP, ?_⟩)
    rw [ex_r36_3 (h := am_wI h 138 (i) (h.1 37 i)) hP]
    refine am_goX 2 (show ∃ jj nn : Nat, am_sh (am_wI h 138 (i) (h.1 37 i)) 38 = some (13, nn) ∧ jj < nn ∧ (nI i) = nI jj ∧ pz_S 3 none am_r99 0 Q 47 [(2, .int (nI i)), (0, .ref 137), (1, .ref 36)] [.int ((am_wI h 138 (i) (h.1 37 i)).1 38 jj), .int (nI i), .ref 139] (am_wI h 138 (i) (h.1 37 i)) from ⟨i, 6, ex_38 hP, by omega, rfl, ?_⟩)
    rw [show (am_wI h 138 (i) (h.1 37 i)).1 38 i = h.1 38 i from em_wn _ _ (by omega)]
    refine am_goX 1 (show ∃ jj nn : Nat, am_so (am_wI h 138 (i) (h.1 37 i)) 139 = some (13, nn) ∧ jj < nn ∧ (nI i) = nI jj ∧ pz_S 3 none am_r99 0 Q 48 [(2, .int (nI i)), (0, .ref 137), (1, .ref 36)] [] (am_wI (am_wI h 138 (i) (h.1 37 i)) 139 jj (h.1 38 i)) from ⟨i, 6, ex_w139 hP, by omega, rfl, ?_⟩)
    refine am_goX 2 (show 2 < 3 ∧ pz_S 3 none am_r99 0 Q 18 [(2, .int ((nI i) + Int32.ofInt 1)), (0, .ref 137), (1, .ref 36)] [] (am_wI (am_wI h 138 (i) (h.1 37 i)) 139 (i) (h.1 38 i)) from ⟨by decide, ?_⟩)
    rw [xw_i1]
    refine ih (i + 1) _ (by omega) hP (fun j hj1 => ?_) (fun h1 p1 p2 p3 p4 p5 => hQ h1 p1 p2 (fun o k hn => (p3 o k hn).trans (by rw [em_wn _ _ (by omega), em_wn _ _ (by omega)])) (fun j hj1 => by
      have w := p4 j hj1
      rw [em_wn _ _ (by omega), em_wn _ _ (by omega), em_wn _ _ (by omega), em_wn _ _ (by omega)] at w
      exact w) (fun j hj1 => by
      have w := p5 j hj1
      rw [em_wn (o' := 39) _ _ (by omega), em_wn (o' := 39) _ _ (by omega), em_wn (o' := 40) _ _ (by omega), em_wn (o' := 40) _ _ (by omega)] at w
      exact w))
    by_cases ej : j = i
    · rw [ej, em_wn _ _ (by omega), em_we, em_we, em_wn _ _ (by omega), em_wn _ _ (by omega), em_wn _ _ (by omega), em_wn _ _ (by omega)]
      exact ⟨rfl, rfl⟩
    · rw [em_wn _ _ (by omega), em_wn _ _ (by omega), em_wn _ _ (by omega), em_wn _ _ (by omega), em_wn _ _ (by omega), em_wn _ _ (by omega), em_wn _ _ (by omega), em_wn _ _ (by omega)]
      exact hj j (by omega)
theorem c_99_137_36 (hP : ex_P h) (hQ : ∀ h1, ex_P h1 → h1.2 = h.2 → (∀ o k, ¬ (137 ≤ o ∧ o ≤ 141) → h1.1 o k = h.1 o k) → scp 137 36 h h1 → Q none h1) : am_call am_cod 1 99 [.ref 137, .ref 36] h Q := by
  refine pz_call (n := 99) (nL := 3) (rt := none) (rows := am_r99) (d := 0) (by decide +kernel) (by decide +kernel) rfl (by funext pc; rfl) (ex_175 hP) (by exact Nat.le_of_ble_eq_true rfl) ?_
  refine am_goX 4 (show am_sh h 36 = some (6, 0) ∧ am_sh h 137 = some (6, 0) ∧ narrow (am_fty 6 0) (.int ((h.1 36 0))) = .int ((h.1 36 0)) ∧ fits (am_fty 6 0) (.int ((h.1 36 0))) = true ∧ pz_S 3 none am_r99 0 Q 8 [(0, .ref 137), (1, .ref 36)] [] (am_wI h 137 0 ((h.1 36 0))) from ⟨ex_36 hP, ex_137 hP, rfl, rfl, ?_⟩)
  refine am_goX 4 (show am_sh (am_wI h 137 0 ((h.1 36 0))) 36 = some (6, 0) ∧ am_sh (am_wI h 137 0 ((h.1 36 0))) 137 = some (6, 0) ∧ narrow (am_fty 6 1) (.int (((am_wI h 137 0 ((h.1 36 0))).1 36 1))) = .int (((am_wI h 137 0 ((h.1 36 0))).1 36 1)) ∧ fits (am_fty 6 1) (.int (((am_wI h 137 0 ((h.1 36 0))).1 36 1))) = true ∧ pz_S 3 none am_r99 0 Q 16 [(0, .ref 137), (1, .ref 36)] [] (am_wI (am_wI h 137 0 ((h.1 36 0))) 137 1 (((am_wI h 137 0 ((h.1 36 0))).1 36 1))) from ⟨ex_36 hP, ex_137 hP, rfl, rfl, ?_⟩)
  rw [show (am_wI h 137 0 ((h.1 36 0))).1 36 1 = h.1 36 1 from em_wn _ _ (by omega)]
  refine am_goX 2 (show 2 < 3 ∧ pz_S 3 none am_r99 0 Q 18 [(2, .int (Int32.ofInt 0)), (0, .ref 137), (1, .ref 36)] [] (am_wI (am_wI h 137 0 ((h.1 36 0))) 137 1 (h.1 36 1)) from ⟨by decide, ?_⟩)
  exact c_99a_137_36 6 0 _ rfl hP (fun j hj1 => absurd hj1 (Nat.not_lt_zero j)) (fun h1 p1 p2 p3 p4 p5 => hQ h1 p1 p2 (fun o k hn => by rw [p3 o k (by omega), em_wn _ _ (by omega), em_wn _ _ (by omega)]) ⟨⟨by rw [p3 137 0 (by omega), em_wn _ _ (by omega), em_we], by rw [p3 137 1 (by omega), em_we]⟩, fun j hj1 => by
    have w := p4 j hj1
    rw [em_wn _ _ (by omega), em_wn _ _ (by omega), em_wn _ _ (by omega), em_wn _ _ (by omega)] at w
    exact w, fun j hj1 => by
    have w := p5 j hj1
    rw [em_wn _ _ (by omega), em_wn _ _ (by omega), em_wn _ _ (by omega), em_wn _ _ (by omega)] at w
    exact w⟩)
theorem c_99b_143_36 : ∀ (m i : Nat) (h : am_H), i + m = 5 → ex_P h → (∀ j, j < i → h.1 146 j = h.1 39 j ∧ h.1 147 j = h.1 40 j) → (∀ h1, ex_P h1 → h1.2 = h.2 → (∀ o k, ¬ (o = 146 ∨ o = 147) → h1.1 o k = h.1 o k) → (∀ j, j < 5 → h1.1 146 j = h.1 39 j ∧ h1.1 147 j = h.1 40 j) → Q none h1) → pz_S 3 none am_r99 0 Q 56 [(2, .int (nI i)), (0, .ref 143), (1, .ref 36)] [] h := by
  intro m
  induction m with
  | zero =>
    intro i h hi hP hj hQ
    refine am_goX 3 (show ((Int32.ofInt 5) ≤ (nI i) → pz_S 3 none am_r99 0 Q 91 [(2, .int (nI i)), (0, .ref 143), (1, .ref 36)] [] h) ∧ (¬ ((Int32.ofInt 5) ≤ (nI i)) → pz_S 3 none am_r99 0 Q 61 [(2, .int (nI i)), (0, .ref 143), (1, .ref 36)] [] h) from ⟨fun _ => ?_, fun hz => absurd (show nI 5 ≤ nI i from nI_le (by omega) (by omega)) hz⟩)
    exact am_goX 1 (show (none : Option FieldType) = none ∧ h.2.2.2.2 = 175 ∧ _ from ⟨rfl, ex_175 hP, hQ _ hP rfl (fun _ _ _ => rfl) (fun j hj1 => hj j (by omega))⟩)
  | succ m ih =>
    intro i h hi hP hj hQ
    refine am_goX 3 (show ((Int32.ofInt 5) ≤ (nI i) → pz_S 3 none am_r99 0 Q 91 [(2, .int (nI i)), (0, .ref 143), (1, .ref 36)] [] h) ∧ (¬ ((Int32.ofInt 5) ≤ (nI i)) → pz_S 3 none am_r99 0 Q 61 [(2, .int (nI i)), (0, .ref 143), (1, .ref 36)] [] h) from ⟨fun hz => absurd hz (show ¬ nI 5 ≤ nI i by rw [nI_leI (by omega) (by omega)]; omega), fun _ => ?_⟩)
    refine am_goX 2 (show am_sh h 143 = some (6, 0) ∧ pz_S 3 none am_r99 0 Q 65 [(2, .int (nI i)), (0, .ref 143), (1, .ref 36)] [am_rf (h.2.2.1 143 4)] h from ⟨ex_143 hP, ?_⟩)
    rw [ex_r143_4 (h := h) hP]
    refine am_goX 3 (show am_sh h 36 = some (6, 0) ∧ pz_S 3 none am_r99 0 Q 70 [(2, .int (nI i)), (0, .ref 143), (1, .ref 36)] [am_rf (h.2.2.1 36 4), .int (nI i), .ref 146] h from ⟨ex_36 hP, ?_⟩)
    rw [ex_r36_4 (h := h) hP]
    refine am_goX 2 (show ∃ jj nn : Nat, am_sh h 39 = some (13, nn) ∧ jj < nn ∧ (nI i) = nI jj ∧ pz_S 3 none am_r99 0 Q 72 [(2, .int (nI i)), (0, .ref 143), (1, .ref 36)] [.int (h.1 39 jj), .int (nI i), .ref 146] h from ⟨i, 5, ex_39 hP, by omega, rfl, ?_⟩)
    refine am_goX 1 (show ∃ jj nn : Nat, am_so h 146 = some (13, nn) ∧ jj < nn ∧ (nI i) = nI jj ∧ pz_S 3 none am_r99 0 Q 73 [(2, .int (nI i)), (0, .ref 143), (1, .ref 36)] [] (am_wI h 146 jj (h.1 39 i)) from ⟨i, 5, ex_w146 hP, by omega, rfl, ?_⟩)
    refine am_goX 2 (show am_sh (am_wI h 146 (i) (h.1 39 i)) 143 = some (6, 0) ∧ pz_S 3 none am_r99 0 Q 77 [(2, .int (nI i)), (0, .ref 143), (1, .ref 36)] [am_rf ((am_wI h 146 (i) (h.1 39 i)).2.2.1 143 5)] (am_wI h 146 (i) (h.1 39 i)) from ⟨ex_143 hP, ?_⟩)
    rw [ex_r143_5 (h := am_wI h 146 (i) (h.1 39 i)) hP]
    refine am_goX 3 (show am_sh (am_wI h 146 (i) (h.1 39 i)) 36 = some (6, 0) ∧ pz_S 3 none am_r99 0 Q 82 [(2, .int (nI i)), (0, .ref 143), (1, .ref 36)] [am_rf ((am_wI h 146 (i) (h.1 39 i)).2.2.1 36 5), .int (nI i), .ref 147] (am_wI h 146 (i) (h.1 39 i)) from ⟨ex_36 hP, ?_⟩)
    rw [ex_r36_5 (h := am_wI h 146 (i) (h.1 39 i)) hP]
    refine am_goX 2 (show ∃ jj nn : Nat, am_sh (am_wI h 146 (i) (h.1 39 i)) 40 = some (13, nn) ∧ jj < nn ∧ (nI i) = nI jj ∧ pz_S 3 none am_r99 0 Q 84 [(2, .int (nI i)), (0, .ref 143), (1, .ref 36)] [.int ((am_wI h 146 (i) (h.1 39 i)).1 40 jj), .int (nI i), .ref 147] (am_wI h 146 (i) (h.1 39 i)) from ⟨i, 5, ex_40 hP, by omega, rfl, ?_⟩)
    rw [show (am_wI h 146 (i) (h.1 39 i)).1 40 i = h.1 40 i from em_wn _ _ (by omega)]
    refine am_goX 1 (show ∃ jj nn : Nat, am_so (am_wI h 146 (i) (h.1 39 i)) 147 = some (13, nn) ∧ jj < nn ∧ (nI i) = nI jj ∧ pz_S 3 none am_r99 0 Q 85 [(2, .int (nI i)), (0, .ref 143), (1, .ref 36)] [] (am_wI (am_wI h 146 (i) (h.1 39 i)) 147 jj (h.1 40 i)) from ⟨i, 5, ex_w147 hP, by omega, rfl, ?_⟩)
    refine am_goX 2 (show 2 < 3 ∧ pz_S 3 none am_r99 0 Q 56 [(2, .int ((nI i) + Int32.ofInt 1)), (0, .ref 143), (1, .ref 36)] [] (am_wI (am_wI h 146 (i) (h.1 39 i)) 147 (i) (h.1 40 i)) from ⟨by decide, ?_⟩)
    rw [xw_i1]
    refine ih (i + 1) _ (by omega) hP (fun j hj1 => ?_) (fun h1 p1 p2 p3 p4 => hQ h1 p1 p2 (fun o k hn => (p3 o k hn).trans (by rw [em_wn _ _ (by omega), em_wn _ _ (by omega)])) (fun j hj1 => by
      have w := p4 j hj1
      rw [em_wn _ _ (by omega), em_wn _ _ (by omega), em_wn _ _ (by omega), em_wn _ _ (by omega)] at w
      exact w))
    by_cases ej : j = i
    · rw [ej, em_wn _ _ (by omega), em_we, em_we, em_wn _ _ (by omega), em_wn _ _ (by omega), em_wn _ _ (by omega), em_wn _ _ (by omega)]
      exact ⟨rfl, rfl⟩
    · rw [em_wn _ _ (by omega), em_wn _ _ (by omega), em_wn _ _ (by omega), em_wn _ _ (by omega), em_wn _ _ (by omega), em_wn _ _ (by omega), em_wn _ _ (by omega), em_wn _ _ (by omega)]
      exact hj j (by omega)
theorem c_99a_143_36 : ∀ (m i : Nat) (h : am_H), i + m = 6 → ex_P h → (∀ j, j < i → h.1 144 j = h.1 37 j ∧ h.1 145 j = h.1 38 j) → (∀ h1, ex_P h1 → h1.2 = h.2 → (∀ o k, ¬ (144 ≤ o ∧ o ≤ 147) → h1.1 o k = h.1 o k) → (∀ j, j < 6 → h1.1 144 j = h.1 37 j ∧ h1.1 145 j = h.1 38 j) → (∀ j, j < 5 → h1.1 146 j = h.1 39 j ∧ h1.1 147 j = h.1 40 j) → Q none h1) → pz_S 3 none am_r99 0 Q 18 [(2, .int (nI i)), (0, .ref 143), (1, .ref 36)] [] h := by
  intro m
  induction m with
  | zero =>
    intro i h hi hP hj hQ
    refine am_goX 3 (show ((Int8.ofInt 6).toInt32 ≤ (nI i) → pz_S 3 none am_r99 0 Q 54 [(2, .int (nI i)), (0, .ref 143), (1, .ref 36)] [] h) ∧ (¬ ((Int8.ofInt 6).toInt32 ≤ (nI i)) → pz_S 3 none am_r99 0 Q 24 [(2, .int (nI i)), (0, .ref 143), (1, .ref 36)] [] h) from ⟨fun _ => ?_, fun hz => absurd (show nI 6 ≤ nI i from nI_le (by omega) (by omega)) hz⟩)
    refine am_goX 2 (show 2 < 3 ∧ pz_S 3 none am_r99 0 Q 56 [(2, .int (Int32.ofInt 0)), (0, .ref 143), (1, .ref 36)] [] h from ⟨by decide, ?_⟩)
    exact c_99b_143_36 5 0 _ rfl hP (fun j hj1 => absurd hj1 (Nat.not_lt_zero j)) (fun h1 p1 p2 p3 p4 => hQ h1 p1 p2 (fun o k hn => p3 o k (by omega)) (fun j hj1 => by rw [p3 144 j (by omega), p3 145 j (by omega)]; exact hj j (by omega)) p4)
  | succ m ih =>
    intro i h hi hP hj hQ
    refine am_goX 3 (show ((Int8.ofInt 6).toInt32 ≤ (nI i) → pz_S 3 none am_r99 0 Q 54 [(2, .int (nI i)), (0, .ref 143), (1, .ref 36)] [] h) ∧ (¬ ((Int8.ofInt 6).toInt32 ≤ (nI i)) → pz_S 3 none am_r99 0 Q 24 [(2, .int (nI i)), (0, .ref 143), (1, .ref 36)] [] h) from ⟨fun hz => absurd hz (show ¬ nI 6 ≤ nI i by rw [nI_leI (by omega) (by omega)]; omega), fun _ => ?_⟩)
    refine am_goX 2 (show am_sh h 143 = some (6, 0) ∧ pz_S 3 none am_r99 0 Q 28 [(2, .int (nI i)), (0, .ref 143), (1, .ref 36)] [am_rf (h.2.2.1 143 2)] h from ⟨ex_143 hP, ?_⟩)
    rw [ex_r143_2 (h := h) hP]
    refine am_goX 3 (show am_sh h 36 = some (6, 0) ∧ pz_S 3 none am_r99 0 Q 33 [(2, .int (nI i)), (0, .ref 143), (1, .ref 36)] [am_rf (h.2.2.1 36 2), .int (nI i), .ref 144] h from ⟨ex_36 hP, ?_⟩)
    rw [ex_r36_2 (h := h) hP]
    refine am_goX 2 (show ∃ jj nn : Nat, am_sh h 37 = some (13, nn) ∧ jj < nn ∧ (nI i) = nI jj ∧ pz_S 3 none am_r99 0 Q 35 [(2, .int (nI i)), (0, .ref 143), (1, .ref 36)] [.int (h.1 37 jj), .int (nI i), .ref 144] h from ⟨i, 6, ex_37 hP, by omega, rfl, ?_⟩)
    refine am_goX 1 (show ∃ jj nn : Nat, am_so h 144 = some (13, nn) ∧ jj < nn ∧ (nI i) = nI jj ∧ pz_S 3 none am_r99 0 Q 36 [(2, .int (nI i)), (0, .ref 143), (1, .ref 36)] [] (am_wI h 144 jj (h.1 37 i)) from ⟨i, 6, ex_w144 hP, by omega, rfl, ?_⟩)
    refine am_goX 2 (show am_sh (am_wI h 144 (i) (h.1 37 i)) 143 = some (6, 0) ∧ pz_S 3 none am_r99 0 Q 40 [(2, .int (nI i)), (0, .ref 143), (1, .ref 36)] [am_rf ((am_wI h 144 (i) (h.1 37 i)).2.2.1 143 3)] (am_wI h 144 (i) (h.1 37 i)) from ⟨ex_143 hP, ?_⟩)
    rw [ex_r143_3 (h := am_wI h 144 (i) (h.1 37 i)) hP]
    refine am_goX 3 (show am_sh (am_wI h 144 (i) (h.1 37 i)) 36 = some (6, 0) ∧ pz_S 3 none am_r99 0 Q 45 [(2, .int (nI i)), (0, .ref 143), (1, .ref 36)] [am_rf ((am_wI h 144 (i) (h.1 37 i)).2.2.1 36 3), .int (nI i), .ref 145] (am_wI h 144 (i) (h.1 37 i)) from ⟨ex_36 hP, ?_⟩)
    rw [ex_r36_3 (h := am_wI h 144 (i) (h.1 37 i)) hP]
    refine am_goX 2 (show ∃ jj nn : Nat, am_sh (am_wI h 144 (i) (h.1 37 i)) 38 = some (13, nn) ∧ jj < nn ∧ (nI i) = nI jj ∧ pz_S 3 none am_r99 0 Q 47 [(2, .int (nI i)), (0, .ref 143), (1, .ref 36)] [.int ((am_wI h 144 (i) (h.1 37 i)).1 38 jj), .int (nI i), .ref 145] (am_wI h 144 (i) (h.1 37 i)) from ⟨i, 6, ex_38 hP, by omega, rfl, ?_⟩)
    rw [show (am_wI h 144 (i) (h.1 37 i)).1 38 i = h.1 38 i from em_wn _ _ (by omega)]
    refine am_goX 1 (show ∃ jj nn : Nat, am_so (am_wI h 144 (i) (h.1 37 i)) 145 = some (13, nn) ∧ jj < nn ∧ (nI i) = nI jj ∧ pz_S 3 none am_r99 0 Q 48 [(2, .int (nI i)), (0, .ref 143), (1, .ref 36)] [] (am_wI (am_wI h 144 (i) (h.1 37 i)) 145 jj (h.1 38 i)) from ⟨i, 6, ex_w145 hP, by omega, rfl, ?_⟩)
    refine am_goX 2 (show 2 < 3 ∧ pz_S 3 none am_r99 0 Q 18 [(2, .int ((nI i) + Int32.ofInt 1)), (0, .ref 143), (1, .ref 36)] [] (am_wI (am_wI h 144 (i) (h.1 37 i)) 145 (i) (h.1 38 i)) from ⟨by decide, ?_⟩)
    rw [xw_i1]
    refine ih (i + 1) _ (by omega) hP (fun j hj1 => ?_) (fun h1 p1 p2 p3 p4 p5 => hQ h1 p1 p2 (fun o k hn => (p3 o k hn).trans (by rw [em_wn _ _ (by omega), em_wn _ _ (by omega)])) (fun j hj1 => by
      have w := p4 j hj1
      rw [em_wn _ _ (by omega), em_wn _ _ (by omega), em_wn _ _ (by omega), em_wn _ _ (by omega)] at w
      exact w) (fun j hj1 => by
      have w := p5 j hj1
      rw [em_wn (o' := 39) _ _ (by omega), em_wn (o' := 39) _ _ (by omega), em_wn (o' := 40) _ _ (by omega), em_wn (o' := 40) _ _ (by omega)] at w
      exact w))
    by_cases ej : j = i
    · rw [ej, em_wn _ _ (by omega), em_we, em_we, em_wn _ _ (by omega), em_wn _ _ (by omega), em_wn _ _ (by omega), em_wn _ _ (by omega)]
      exact ⟨rfl, rfl⟩
    · rw [em_wn _ _ (by omega), em_wn _ _ (by omega), em_wn _ _ (by omega), em_wn _ _ (by omega), em_wn _ _ (by omega), em_wn _ _ (by omega), em_wn _ _ (by omega), em_wn _ _ (by omega)]
      exact hj j (by omega)
theorem c_99_143_36 (hP : ex_P h) (hQ : ∀ h1, ex_P h1 → h1.2 = h.2 → (∀ o k, ¬ (143 ≤ o ∧ o ≤ 147) → h1.1 o k = h.1 o k) → scp 143 36 h h1 → Q none h1) : am_call am_cod 1 99 [.ref 143, .ref 36] h Q := by
  refine pz_call (n := 99) (nL := 3) (rt := none) (rows := am_r99) (d := 0) (by decide +kernel) (by decide +kernel) rfl (by funext pc; rfl) (ex_175 hP) (by exact Nat.le_of_ble_eq_true rfl) ?_
  refine am_goX 4 (show am_sh h 36 = some (6, 0) ∧ am_sh h 143 = some (6, 0) ∧ narrow (am_fty 6 0) (.int ((h.1 36 0))) = .int ((h.1 36 0)) ∧ fits (am_fty 6 0) (.int ((h.1 36 0))) = true ∧ pz_S 3 none am_r99 0 Q 8 [(0, .ref 143), (1, .ref 36)] [] (am_wI h 143 0 ((h.1 36 0))) from ⟨ex_36 hP, ex_143 hP, rfl, rfl, ?_⟩)
  refine am_goX 4 (show am_sh (am_wI h 143 0 ((h.1 36 0))) 36 = some (6, 0) ∧ am_sh (am_wI h 143 0 ((h.1 36 0))) 143 = some (6, 0) ∧ narrow (am_fty 6 1) (.int (((am_wI h 143 0 ((h.1 36 0))).1 36 1))) = .int (((am_wI h 143 0 ((h.1 36 0))).1 36 1)) ∧ fits (am_fty 6 1) (.int (((am_wI h 143 0 ((h.1 36 0))).1 36 1))) = true ∧ pz_S 3 none am_r99 0 Q 16 [(0, .ref 143), (1, .ref 36)] [] (am_wI (am_wI h 143 0 ((h.1 36 0))) 143 1 (((am_wI h 143 0 ((h.1 36 0))).1 36 1))) from ⟨ex_36 hP, ex_143 hP, rfl, rfl, ?_⟩)
  rw [show (am_wI h 143 0 ((h.1 36 0))).1 36 1 = h.1 36 1 from em_wn _ _ (by omega)]
  refine am_goX 2 (show 2 < 3 ∧ pz_S 3 none am_r99 0 Q 18 [(2, .int (Int32.ofInt 0)), (0, .ref 143), (1, .ref 36)] [] (am_wI (am_wI h 143 0 ((h.1 36 0))) 143 1 (h.1 36 1)) from ⟨by decide, ?_⟩)
  exact c_99a_143_36 6 0 _ rfl hP (fun j hj1 => absurd hj1 (Nat.not_lt_zero j)) (fun h1 p1 p2 p3 p4 p5 => hQ h1 p1 p2 (fun o k hn => by rw [p3 o k (by omega), em_wn _ _ (by omega), em_wn _ _ (by omega)]) ⟨⟨by rw [p3 143 0 (by omega), em_wn _ _ (by omega), em_we], by rw [p3 143 1 (by omega), em_we]⟩, fun j hj1 => by
    have w := p4 j hj1
    rw [em_wn _ _ (by omega), em_wn _ _ (by omega), em_wn _ _ (by omega), em_wn _ _ (by omega)] at w
    exact w, fun j hj1 => by
    have w := p5 j hj1
    rw [em_wn _ _ (by omega), em_wn _ _ (by omega), em_wn _ _ (by omega), em_wn _ _ (by omega)] at w
    exact w⟩)
theorem c_99b_149_36 : ∀ (m i : Nat) (h : am_H), i + m = 5 → ex_P h → (∀ j, j < i → h.1 152 j = h.1 39 j ∧ h.1 153 j = h.1 40 j) → (∀ h1, ex_P h1 → h1.2 = h.2 → (∀ o k, ¬ (o = 152 ∨ o = 153) → h1.1 o k = h.1 o k) → (∀ j, j < 5 → h1.1 152 j = h.1 39 j ∧ h1.1 153 j = h.1 40 j) → Q none h1) → pz_S 3 none am_r99 0 Q 56 [(2, .int (nI i)), (0, .ref 149), (1, .ref 36)] [] h := by
  intro m
  induction m with
  | zero =>
    intro i h hi hP hj hQ
    refine am_goX 3 (show ((Int32.ofInt 5) ≤ (nI i) → pz_S 3 none am_r99 0 Q 91 [(2, .int (nI i)), (0, .ref 149), (1, .ref 36)] [] h) ∧ (¬ ((Int32.ofInt 5) ≤ (nI i)) → pz_S 3 none am_r99 0 Q 61 [(2, .int (nI i)), (0, .ref 149), (1, .ref 36)] [] h) from ⟨fun _ => ?_, fun hz => absurd (show nI 5 ≤ nI i from nI_le (by omega) (by omega)) hz⟩)
    exact am_goX 1 (show (none : Option FieldType) = none ∧ h.2.2.2.2 = 175 ∧ _ from ⟨rfl, ex_175 hP, hQ _ hP rfl (fun _ _ _ => rfl) (fun j hj1 => hj j (by omega))⟩)
  | succ m ih =>
    intro i h hi hP hj hQ
    refine am_goX 3 (show ((Int32.ofInt 5) ≤ (nI i) → pz_S 3 none am_r99 0 Q 91 [(2, .int (nI i)), (0, .ref 149), (1, .ref 36)] [] h) ∧ (¬ ((Int32.ofInt 5) ≤ (nI i)) → pz_S 3 none am_r99 0 Q 61 [(2, .int (nI i)), (0, .ref 149), (1, .ref 36)] [] h) from ⟨fun hz => absurd hz (show ¬ nI 5 ≤ nI i by rw [nI_leI (by omega) (by omega)]; omega), fun _ => ?_⟩)
    refine am_goX 2 (show am_sh h 149 = some (6, 0) ∧ pz_S 3 none am_r99 0 Q 65 [(2, .int (nI i)), (0, .ref 149), (1, .ref 36)] [am_rf (h.2.2.1 149 4)] h from ⟨ex_149 hP, ?_⟩)
    rw [ex_r149_4 (h := h) hP]
    refine am_goX 3 (show am_sh h 36 = some (6, 0) ∧ pz_S 3 none am_r99 0 Q 70 [(2, .int (nI i)), (0, .ref 149), (1, .ref 36)] [am_rf (h.2.2.1 36 4), .int (nI i), .ref 152] h from ⟨ex_36 hP, ?_⟩)
    rw [ex_r36_4 (h := h) hP]
    refine am_goX 2 (show ∃ jj nn : Nat, am_sh h 39 = some (13, nn) ∧ jj < nn ∧ (nI i) = nI jj ∧ pz_S 3 none am_r99 0 Q 72 [(2, .int (nI i)), (0, .ref 149), (1, .ref 36)] [.int (h.1 39 jj), .int (nI i), .ref 152] h from ⟨i, 5, ex_39 hP, by omega, rfl, ?_⟩)
    refine am_goX 1 (show ∃ jj nn : Nat, am_so h 152 = some (13, nn) ∧ jj < nn ∧ (nI i) = nI jj ∧ pz_S 3 none am_r99 0 Q 73 [(2, .int (nI i)), (0, .ref 149), (1, .ref 36)] [] (am_wI h 152 jj (h.1 39 i)) from ⟨i, 5, ex_w152 hP, by omega, rfl, ?_⟩)
    refine am_goX 2 (show am_sh (am_wI h 152 (i) (h.1 39 i)) 149 = some (6, 0) ∧ pz_S 3 none am_r99 0 Q 77 [(2, .int (nI i)), (0, .ref 149), (1, .ref 36)] [am_rf ((am_wI h 152 (i) (h.1 39 i)).2.2.1 149 5)] (am_wI h 152 (i) (h.1 39 i)) from ⟨ex_149 hP, ?_⟩)
    rw [ex_r149_5 (h := am_wI h 152 (i) (h.1 39 i)) hP]
    refine am_goX 3 (show am_sh (am_wI h 152 (i) (h.1 39 i)) 36 = some (6, 0) ∧ pz_S 3 none am_r99 0 Q 82 [(2, .int (nI i)), (0, .ref 149), (1, .ref 36)] [am_rf ((am_wI h 152 (i) (h.1 39 i)).2.2.1 36 5), .int (nI i), .ref 153] (am_wI h 152 (i) (h.1 39 i)) from ⟨ex_36 hP, ?_⟩)
    rw [ex_r36_5 (h := am_wI h 152 (i) (h.1 39 i)) hP]
    refine am_goX 2 (show ∃ jj nn : Nat, am_sh (am_wI h 152 (i) (h.1 39 i)) 40 = some (13, nn) ∧ jj < nn ∧ (nI i) = nI jj ∧ pz_S 3 none am_r99 0 Q 84 [(2, .int (nI i)), (0, .ref 149), (1, .ref 36)] [.int ((am_wI h 152 (i) (h.1 39 i)).1 40 jj), .int (nI i), .ref 153] (am_wI h 152 (i) (h.1 39 i)) from ⟨i, 5, ex_40 hP, by omega, rfl, ?_⟩)
    rw [show (am_wI h 152 (i) (h.1 39 i)).1 40 i = h.1 40 i from em_wn _ _ (by omega)]
    refine am_goX 1 (show ∃ jj nn : Nat, am_so (am_wI h 152 (i) (h.1 39 i)) 153 = some (13, nn) ∧ jj < nn ∧ (nI i) = nI jj ∧ pz_S 3 none am_r99 0 Q 85 [(2, .int (nI i)), (0, .ref 149), (1, .ref 36)] [] (am_wI (am_wI h 152 (i) (h.1 39 i)) 153 jj (h.1 40 i)) from ⟨i, 5, ex_w153 hP, by omega, rfl, ?_⟩)
    refine am_goX 2 (show 2 < 3 ∧ pz_S 3 none am_r99 0 Q 56 [(2, .int ((nI i) + Int32.ofInt 1)), (0, .ref 149), (1, .ref 36)] [] (am_wI (am_wI h 152 (i) (h.1 39 i)) 153 (i) (h.1 40 i)) from ⟨by decide, ?_⟩)
    rw [xw_i1]
    refine ih (i + 1) _ (by omega) hP (fun j hj1 => ?_) (fun h1 p1 p2 p3 p4 => hQ h1 p1 p2 (fun o k hn => (p3 o k hn).trans (by rw [em_wn _ _ (by omega), em_wn _ _ (by omega)])) (fun j hj1 => by
      have w := p4 j hj1
      rw [em_wn _ _ (by omega), em_wn _ _ (by omega), em_wn _ _ (by omega), em_wn _ _ (by omega)] at w
      exact w))
    by_cases ej : j = i
    · rw [ej, em_wn _ _ (by omega), em_we, em_we, em_wn _ _ (by omega), em_wn _ _ (by omega), em_wn _ _ (by omega), em_wn _ _ (by omega)]
      exact ⟨rfl, rfl⟩
    · rw [em_wn _ _ (by omega), em_wn _ _ (by omega), em_wn _ _ (by omega), em_wn _ _ (by omega), em_wn _ _ (by omega), em_wn _ _ (by omega), em_wn _ _ (by omega), em_wn _ _ (by omega)]
      exact hj j (by omega)
theorem c_99a_149_36 : ∀ (m i : Nat) (h : am_H), i + m = 6 → ex_P h → (∀ j, j < i → h.1 150 j = h.1 37 j ∧ h.1 151 j = h.1 38 j) → (∀ h1, ex_P h1 → h1.2 = h.2 → (∀ o k, ¬ (150 ≤ o ∧ o ≤ 153) → h1.1 o k = h.1 o k) → (∀ j, j < 6 → h1.1 150 j = h.1 37 j ∧ h1.1 151 j = h.1 38 j) → (∀ j, j < 5 → h1.1 152 j = h.1 39 j ∧ h1.1 153 j = h.1 40 j) → Q none h1) → pz_S 3 none am_r99 0 Q 18 [(2, .int (nI i)), (0, .ref 149), (1, .ref 36)] [] h := by
  intro m
  induction m with
  | zero =>
    intro i h hi hP hj hQ
    refine am_goX 3 (show ((Int8.ofInt 6).toInt32 ≤ (nI i) → pz_S 3 none am_r99 0 Q 54 [(2, .int (nI i)), (0, .ref 149), (1, .ref 36)] [] h) ∧ (¬ ((Int8.ofInt 6).toInt32 ≤ (nI i)) → pz_S 3 none am_r99 0 Q 24 [(2, .int (nI i)), (0, .ref 149), (1, .ref 36)] [] h) from ⟨fun _ => ?_, fun hz => absurd (show nI 6 ≤ nI i from nI_le (by omega) (by omega)) hz⟩)
    refine am_goX 2 (show 2 < 3 ∧ pz_S 3 none am_r99 0 Q 56 [(2, .int (Int32.ofInt 0)), (0, .ref 149), (1, .ref 36)] [] h from ⟨by decide, ?_⟩)
    exact c_99b_149_36 5 0 _ rfl hP (fun j hj1 => absurd hj1 (Nat.not_lt_zero j)) (fun h1 p1 p2 p3 p4 => hQ h1 p1 p2 (fun o k hn => p3 o k (by omega)) (fun j hj1 => by rw [p3 150 j (by omega), p3 151 j (by omega)]; exact hj j (by omega)) p4)
  | succ m ih =>
    intro i h hi hP hj hQ
    refine am_goX 3 (show ((Int8.ofInt 6).toInt32 ≤ (nI i) → pz_S 3 none am_r99 0 Q 54 [(2, .int (nI i)), (0, .ref 149), (1, .ref 36)] [] h) ∧ (¬ ((Int8.ofInt 6).toInt32 ≤ (nI i)) → pz_S 3 none am_r99 0 Q 24 [(2, .int (nI i)), (0, .ref 149), (1, .ref 36)] [] h) from ⟨fun hz => absurd hz (show ¬ nI 6 ≤ nI i by rw [nI_leI (by omega) (by omega)]; omega), fun _ => ?_⟩)
    refine am_goX 2 (show am_sh h 149 = some (6, 0) ∧ pz_S 3 none am_r99 0 Q 28 [(2, .int (nI i)), (0, .ref 149), (1, .ref 36)] [am_rf (h.2.2.1 149 2)] h from ⟨ex_149 hP, ?_⟩)
    rw [ex_r149_2 (h := h) hP]
    refine am_goX 3 (show am_sh h 36 = some (6, 0) ∧ pz_S 3 none am_r99 0 Q 33 [(2, .int (nI i)), (0, .ref 149), (1, .ref 36)] [am_rf (h.2.2.1 36 2), .int (nI i), .ref 150] h from ⟨ex_36 hP, ?_⟩)
    rw [ex_r36_2 (h := h) hP]
    refine am_goX 2 (show ∃ jj nn : Nat, am_sh h 37 = some (13, nn) ∧ jj < nn ∧ (nI i) = nI jj ∧ pz_S 3 none am_r99 0 Q 35 [(2, .int (nI i)), (0, .ref 149), (1, .ref 36)] [.int (h.1 37 jj), .int (nI i), .ref 150] h from ⟨i, 6, ex_37 hP, by omega, rfl, ?_⟩)
    refine am_goX 1 (show ∃ jj nn : Nat, am_so h 150 = some (13, nn) ∧ jj < nn ∧ (nI i) = nI jj ∧ pz_S 3 none am_r99 0 Q 36 [(2, .int (nI i)), (0, .ref 149), (1, .ref 36)] [] (am_wI h 150 jj (h.1 37 i)) from ⟨i, 6, ex_w150 hP, by omega, rfl, ?_⟩)
    refine am_goX 2 (show am_sh (am_wI h 150 (i) (h.1 37 i)) 149 = some (6, 0) ∧ pz_S 3 none am_r99 0 Q 40 [(2, .int (nI i)), (0, .ref 149), (1, .ref 36)] [am_rf ((am_wI h 150 (i) (h.1 37 i)).2.2.1 149 3)] (am_wI h 150 (i) (h.1 37 i)) from ⟨ex_149 hP, ?_⟩)
    rw [ex_r149_3 (h := am_wI h 150 (i) (h.1 37 i)) hP]
    refine am_goX 3 (show am_sh (am_wI h 150 (i) (h.1 37 i)) 36 = some (6, 0) ∧ pz_S 3 none am_r99 0 Q 45 [(2, .int (nI i)), (0, .ref 149), (1, .ref 36)] [am_rf ((am_wI h 150 (i) (h.1 37 i)).2.2.1 36 3), .int (nI i), .ref 151] (am_wI h 150 (i) (h.1 37 i)) from ⟨ex_36 hP, ?_⟩)
    rw [ex_r36_3 (h := am_wI h 150 (i) (h.1 37 i)) hP]
    refine am_goX 2 (show ∃ jj nn : Nat, am_sh (am_wI h 150 (i) (h.1 37 i)) 38 = some (13, nn) ∧ jj < nn ∧ (nI i) = nI jj ∧ pz_S 3 none am_r99 0 Q 47 [(2, .int (nI i)), (0, .ref 149), (1, .ref 36)] [.int ((am_wI h 150 (i) (h.1 37 i)).1 38 jj), .int (nI i), .ref 151] (am_wI h 150 (i) (h.1 37 i)) from ⟨i, 6, ex_38 hP, by omega, rfl, ?_⟩)
    rw [show (am_wI h 150 (i) (h.1 37 i)).1 38 i = h.1 38 i from em_wn _ _ (by omega)]
    refine am_goX 1 (show ∃ jj nn : Nat, am_so (am_wI h 150 (i) (h.1 37 i)) 151 = some (13, nn) ∧ jj < nn ∧ (nI i) = nI jj ∧ pz_S 3 none am_r99 0 Q 48 [(2, .int (nI i)), (0, .ref 149), (1, .ref 36)] [] (am_wI (am_wI h 150 (i) (h.1 37 i)) 151 jj (h.1 38 i)) from ⟨i, 6, ex_w151 hP, by omega, rfl, ?_⟩)
    refine am_goX 2 (show 2 < 3 ∧ pz_S 3 none am_r99 0 Q 18 [(2, .int ((nI i) + Int32.ofInt 1)), (0, .ref 149), (1, .ref 36)] [] (am_wI (am_wI h 150 (i) (h.1 37 i)) 151 (i) (h.1 38 i)) from ⟨by decide, ?_⟩)
    rw [xw_i1]
    refine ih (i + 1) _ (by omega) hP (fun j hj1 => ?_) (fun h1 p1 p2 p3 p4 p5 => hQ h1 p1 p2 (fun o k hn => (p3 o k hn).trans (by rw [em_wn _ _ (by omega), em_wn _ _ (by omega)])) (fun j hj1 => by
      have w := p4 j hj1
      rw [em_wn _ _ (by omega), em_wn _ _ (by omega), em_wn _ _ (by omega), em_wn _ _ (by omega)] at w
      exact w) (fun j hj1 => by
      have w := p5 j hj1
      rw [em_wn (o' := 39) _ _ (by omega), em_wn (o' := 39) _ _ (by omega), em_wn (o' := 40) _ _ (by omega), em_wn (o' := 40) _ _ (by omega)] at w
      exact w))
    by_cases ej : j = i
    · rw [ej, em_wn _ _ (by omega), em_we, em_we, em_wn _ _ (by omega), em_wn _ _ (by omega), em_wn _ _ (by omega), em_wn _ _ (by omega)]
      exact ⟨rfl, rfl⟩
    · rw [em_wn _ _ (by omega), em_wn _ _ (by omega), em_wn _ _ (by omega), em_wn _ _ (by omega), em_wn _ _ (by omega), em_wn _ _ (by omega), em_wn _ _ (by omega), em_wn _ _ (by omega)]
      exact hj j (by omega)
theorem c_99_149_36 (hP : ex_P h) (hQ : ∀ h1, ex_P h1 → h1.2 = h.2 → (∀ o k, ¬ (149 ≤ o ∧ o ≤ 153) → h1.1 o k = h.1 o k) → scp 149 36 h h1 → Q none h1) : am_call am_cod 1 99 [.ref 149, .ref 36] h Q := by
  refine pz_call (n := 99) (nL := 3) (rt := none) (rows := am_r99) (d := 0) (by decide +kernel) (by decide +kernel) rfl (by funext pc; rfl) (ex_175 hP) (by exact Nat.le_of_ble_eq_true rfl) ?_
  refine am_goX 4 (show am_sh h 36 = some (6, 0) ∧ am_sh h 149 = some (6, 0) ∧ narrow (am_fty 6 0) (.int ((h.1 36 0))) = .int ((h.1 36 0)) ∧ fits (am_fty 6 0) (.int ((h.1 36 0))) = true ∧ pz_S 3 none am_r99 0 Q 8 [(0, .ref 149), (1, .ref 36)] [] (am_wI h 149 0 ((h.1 36 0))) from ⟨ex_36 hP, ex_149 hP, rfl, rfl, ?_⟩)
  refine am_goX 4 (show am_sh (am_wI h 149 0 ((h.1 36 0))) 36 = some (6, 0) ∧ am_sh (am_wI h 149 0 ((h.1 36 0))) 149 = some (6, 0) ∧ narrow (am_fty 6 1) (.int (((am_wI h 149 0 ((h.1 36 0))).1 36 1))) = .int (((am_wI h 149 0 ((h.1 36 0))).1 36 1)) ∧ fits (am_fty 6 1) (.int (((am_wI h 149 0 ((h.1 36 0))).1 36 1))) = true ∧ pz_S 3 none am_r99 0 Q 16 [(0, .ref 149), (1, .ref 36)] [] (am_wI (am_wI h 149 0 ((h.1 36 0))) 149 1 (((am_wI h 149 0 ((h.1 36 0))).1 36 1))) from ⟨ex_36 hP, ex_149 hP, rfl, rfl, ?_⟩)
  rw [show (am_wI h 149 0 ((h.1 36 0))).1 36 1 = h.1 36 1 from em_wn _ _ (by omega)]
  refine am_goX 2 (show 2 < 3 ∧ pz_S 3 none am_r99 0 Q 18 [(2, .int (Int32.ofInt 0)), (0, .ref 149), (1, .ref 36)] [] (am_wI (am_wI h 149 0 ((h.1 36 0))) 149 1 (h.1 36 1)) from ⟨by decide, ?_⟩)
  exact c_99a_149_36 6 0 _ rfl hP (fun j hj1 => absurd hj1 (Nat.not_lt_zero j)) (fun h1 p1 p2 p3 p4 p5 => hQ h1 p1 p2 (fun o k hn => by rw [p3 o k (by omega), em_wn _ _ (by omega), em_wn _ _ (by omega)]) ⟨⟨by rw [p3 149 0 (by omega), em_wn _ _ (by omega), em_we], by rw [p3 149 1 (by omega), em_we]⟩, fun j hj1 => by
    have w := p4 j hj1
    rw [em_wn _ _ (by omega), em_wn _ _ (by omega), em_wn _ _ (by omega), em_wn _ _ (by omega)] at w
    exact w, fun j hj1 => by
    have w := p5 j hj1
    rw [em_wn _ _ (by omega), em_wn _ _ (by omega), em_wn _ _ (by omega), em_wn _ _ (by omega)] at w
    exact w⟩)
theorem c_99b_36_131 : ∀ (m i : Nat) (h : am_H), i + m = 5 → ex_P h → (∀ j, j < i → h.1 39 j = h.1 134 j ∧ h.1 40 j = h.1 135 j) → (∀ h1, ex_P h1 → h1.2 = h.2 → (∀ o k, ¬ (o = 39 ∨ o = 40) → h1.1 o k = h.1 o k) → (∀ j, j < 5 → h1.1 39 j = h.1 134 j ∧ h1.1 40 j = h.1 135 j) → Q none h1) → pz_S 3 none am_r99 0 Q 56 [(2, .int (nI i)), (0, .ref 36), (1, .ref 131)] [] h := by
  intro m
  induction m with
  | zero =>
    intro i h hi hP hj hQ
    refine am_goX 3 (show ((Int32.ofInt 5) ≤ (nI i) → pz_S 3 none am_r99 0 Q 91 [(2, .int (nI i)), (0, .ref 36), (1, .ref 131)] [] h) ∧ (¬ ((Int32.ofInt 5) ≤ (nI i)) → pz_S 3 none am_r99 0 Q 61 [(2, .int (nI i)), (0, .ref 36), (1, .ref 131)] [] h) from ⟨fun _ => ?_, fun hz => absurd (show nI 5 ≤ nI i from nI_le (by omega) (by omega)) hz⟩)
    exact am_goX 1 (show (none : Option FieldType) = none ∧ h.2.2.2.2 = 175 ∧ _ from ⟨rfl, ex_175 hP, hQ _ hP rfl (fun _ _ _ => rfl) (fun j hj1 => hj j (by omega))⟩)
  | succ m ih =>
    intro i h hi hP hj hQ
    refine am_goX 3 (show ((Int32.ofInt 5) ≤ (nI i) → pz_S 3 none am_r99 0 Q 91 [(2, .int (nI i)), (0, .ref 36), (1, .ref 131)] [] h) ∧ (¬ ((Int32.ofInt 5) ≤ (nI i)) → pz_S 3 none am_r99 0 Q 61 [(2, .int (nI i)), (0, .ref 36), (1, .ref 131)] [] h) from ⟨fun hz => absurd hz (show ¬ nI 5 ≤ nI i by rw [nI_leI (by omega) (by omega)]; omega), fun _ => ?_⟩)
    refine am_goX 2 (show am_sh h 36 = some (6, 0) ∧ pz_S 3 none am_r99 0 Q 65 [(2, .int (nI i)), (0, .ref 36), (1, .ref 131)] [am_rf (h.2.2.1 36 4)] h from ⟨ex_36 hP, ?_⟩)
    rw [ex_r36_4 (h := h) hP]
    refine am_goX 3 (show am_sh h 131 = some (6, 0) ∧ pz_S 3 none am_r99 0 Q 70 [(2, .int (nI i)), (0, .ref 36), (1, .ref 131)] [am_rf (h.2.2.1 131 4), .int (nI i), .ref 39] h from ⟨ex_131 hP, ?_⟩)
    rw [ex_r131_4 (h := h) hP]
    refine am_goX 2 (show ∃ jj nn : Nat, am_sh h 134 = some (13, nn) ∧ jj < nn ∧ (nI i) = nI jj ∧ pz_S 3 none am_r99 0 Q 72 [(2, .int (nI i)), (0, .ref 36), (1, .ref 131)] [.int (h.1 134 jj), .int (nI i), .ref 39] h from ⟨i, 5, ex_134 hP, by omega, rfl, ?_⟩)
    refine am_goX 1 (show ∃ jj nn : Nat, am_so h 39 = some (13, nn) ∧ jj < nn ∧ (nI i) = nI jj ∧ pz_S 3 none am_r99 0 Q 73 [(2, .int (nI i)), (0, .ref 36), (1, .ref 131)] [] (am_wI h 39 jj (h.1 134 i)) from ⟨i, 5, ex_w39 hP, by omega, rfl, ?_⟩)
    refine am_goX 2 (show am_sh (am_wI h 39 (i) (h.1 134 i)) 36 = some (6, 0) ∧ pz_S 3 none am_r99 0 Q 77 [(2, .int (nI i)), (0, .ref 36), (1, .ref 131)] [am_rf ((am_wI h 39 (i) (h.1 134 i)).2.2.1 36 5)] (am_wI h 39 (i) (h.1 134 i)) from ⟨ex_36 hP, ?_⟩)
    rw [ex_r36_5 (h := am_wI h 39 (i) (h.1 134 i)) hP]
    refine am_goX 3 (show am_sh (am_wI h 39 (i) (h.1 134 i)) 131 = some (6, 0) ∧ pz_S 3 none am_r99 0 Q 82 [(2, .int (nI i)), (0, .ref 36), (1, .ref 131)] [am_rf ((am_wI h 39 (i) (h.1 134 i)).2.2.1 131 5), .int (nI i), .ref 40] (am_wI h 39 (i) (h.1 134 i)) from ⟨ex_131 hP, ?_⟩)
    rw [ex_r131_5 (h := am_wI h 39 (i) (h.1 134 i)) hP]
    refine am_goX 2 (show ∃ jj nn : Nat, am_sh (am_wI h 39 (i) (h.1 134 i)) 135 = some (13, nn) ∧ jj < nn ∧ (nI i) = nI jj ∧ pz_S 3 none am_r99 0 Q 84 [(2, .int (nI i)), (0, .ref 36), (1, .ref 131)] [.int ((am_wI h 39 (i) (h.1 134 i)).1 135 jj), .int (nI i), .ref 40] (am_wI h 39 (i) (h.1 134 i)) from ⟨i, 5, ex_135 hP, by omega, rfl, ?_⟩)
    rw [show (am_wI h 39 (i) (h.1 134 i)).1 135 i = h.1 135 i from em_wn _ _ (by omega)]
    refine am_goX 1 (show ∃ jj nn : Nat, am_so (am_wI h 39 (i) (h.1 134 i)) 40 = some (13, nn) ∧ jj < nn ∧ (nI i) = nI jj ∧ pz_S 3 none am_r99 0 Q 85 [(2, .int (nI i)), (0, .ref 36), (1, .ref 131)] [] (am_wI (am_wI h 39 (i) (h.1 134 i)) 40 jj (h.1 135 i)) from ⟨i, 5, ex_w40 hP, by omega, rfl, ?_⟩)
    refine am_goX 2 (show 2 < 3 ∧ pz_S 3 none am_r99 0 Q 56 [(2, .int ((nI i) + Int32.ofInt 1)), (0, .ref 36), (1, .ref 131)] [] (am_wI (am_wI h 39 (i) (h.1 134 i)) 40 (i) (h.1 135 i)) from ⟨by decide, ?_⟩)
    rw [xw_i1]
    refine ih (i + 1) _ (by omega) hP (fun j hj1 => ?_) (fun h1 p1 p2 p3 p4 => hQ h1 p1 p2 (fun o k hn => (p3 o k hn).trans (by rw [em_wn _ _ (by omega), em_wn _ _ (by omega)])) (fun j hj1 => by
      have w := p4 j hj1
      rw [em_wn _ _ (by omega), em_wn _ _ (by omega), em_wn _ _ (by omega), em_wn _ _ (by omega)] at w
      exact w))
    by_cases ej : j = i
    · rw [ej, em_wn _ _ (by omega), em_we, em_we, em_wn _ _ (by omega), em_wn _ _ (by omega), em_wn _ _ (by omega), em_wn _ _ (by omega)]
      exact ⟨rfl, rfl⟩
    · rw [em_wn _ _ (by omega), em_wn _ _ (by omega), em_wn _ _ (by omega), em_wn _ _ (by omega), em_wn _ _ (by omega), em_wn _ _ (by omega), em_wn _ _ (by omega), em_wn _ _ (by omega)]
      exact hj j (by omega)
theorem c_99a_36_131 : ∀ (m i : Nat) (h : am_H), i + m = 6 → ex_P h → (∀ j, j < i → h.1 37 j = h.1 132 j ∧ h.1 38 j = h.1 133 j) → (∀ h1, ex_P h1 → h1.2 = h.2 → (∀ o k, ¬ (37 ≤ o ∧ o ≤ 40) → h1.1 o k = h.1 o k) → (∀ j, j < 6 → h1.1 37 j = h.1 132 j ∧ h1.1 38 j = h.1 133 j) → (∀ j, j < 5 → h1.1 39 j = h.1 134 j ∧ h1.1 40 j = h.1 135 j) → Q none h1) → pz_S 3 none am_r99 0 Q 18 [(2, .int (nI i)), (0, .ref 36), (1, .ref 131)] [] h := by
  intro m
  induction m with
  | zero =>
    intro i h hi hP hj hQ
    refine am_goX 3 (show ((Int8.ofInt 6).toInt32 ≤ (nI i) → pz_S 3 none am_r99 0 Q 54 [(2, .int (nI i)), (0, .ref 36), (1, .ref 131)] [] h) ∧ (¬ ((Int8.ofInt 6).toInt32 ≤ (nI i)) → pz_S 3 none am_r99 0 Q 24 [(2, .int (nI i)), (0, .ref 36), (1, .ref 131)] [] h) from ⟨fun _ => ?_, fun hz => absurd (show nI 6 ≤ nI i from nI_le (by omega) (by omega)) hz⟩)
    refine am_goX 2 (show 2 < 3 ∧ pz_S 3 none am_r99 0 Q 56 [(2, .int (Int32.ofInt 0)), (0, .ref 36), (1, .ref 131)] [] h from ⟨by decide, ?_⟩)
    exact c_99b_36_131 5 0 _ rfl hP (fun j hj1 => absurd hj1 (Nat.not_lt_zero j)) (fun h1 p1 p2 p3 p4 => hQ h1 p1 p2 (fun o k hn => p3 o k (by omega)) (fun j hj1 => by rw [p3 37 j (by omega), p3 38 j (by omega)]; exact hj j (by omega)) p4)
  | succ m ih =>
    intro i h hi hP hj hQ
    refine am_goX 3 (show ((Int8.ofInt 6).toInt32 ≤ (nI i) → pz_S 3 none am_r99 0 Q 54 [(2, .int (nI i)), (0, .ref 36), (1, .ref 131)] [] h) ∧ (¬ ((Int8.ofInt 6).toInt32 ≤ (nI i)) → pz_S 3 none am_r99 0 Q 24 [(2, .int (nI i)), (0, .ref 36), (1, .ref 131)] [] h) from ⟨fun hz => absurd hz (show ¬ nI 6 ≤ nI i by rw [nI_leI (by omega) (by omega)]; omega), fun _ => ?_⟩)
    refine am_goX 2 (show am_sh h 36 = some (6, 0) ∧ pz_S 3 none am_r99 0 Q 28 [(2, .int (nI i)), (0, .ref 36), (1, .ref 131)] [am_rf (h.2.2.1 36 2)] h from ⟨ex_36 hP, ?_⟩)
    rw [ex_r36_2 (h := h) hP]
    refine am_goX 3 (show am_sh h 131 = some (6, 0) ∧ pz_S 3 none am_r99 0 Q 33 [(2, .int (nI i)), (0, .ref 36), (1, .ref 131)] [am_rf (h.2.2.1 131 2), .int (nI i), .ref 37] h from ⟨ex_131 hP, ?_⟩)
    rw [ex_r131_2 (h := h) hP]
    refine am_goX 2 (show ∃ jj nn : Nat, am_sh h 132 = some (13, nn) ∧ jj < nn ∧ (nI i) = nI jj ∧ pz_S 3 none am_r99 0 Q 35 [(2, .int (nI i)), (0, .ref 36), (1, .ref 131)] [.int (h.1 132 jj), .int (nI i), .ref 37] h from ⟨i, 6, ex_132 hP, by omega, rfl, ?_⟩)
    refine am_goX 1 (show ∃ jj nn : Nat, am_so h 37 = some (13, nn) ∧ jj < nn ∧ (nI i) = nI jj ∧ pz_S 3 none am_r99 0 Q 36 [(2, .int (nI i)), (0, .ref 36), (1, .ref 131)] [] (am_wI h 37 jj (h.1 132 i)) from ⟨i, 6, ex_w37 hP, by omega, rfl, ?_⟩)
    refine am_goX 2 (show am_sh (am_wI h 37 (i) (h.1 132 i)) 36 = some (6, 0) ∧ pz_S 3 none am_r99 0 Q 40 [(2, .int (nI i)), (0, .ref 36), (1, .ref 131)] [am_rf ((am_wI h 37 (i) (h.1 132 i)).2.2.1 36 3)] (am_wI h 37 (i) (h.1 132 i)) from ⟨ex_36 hP, ?_⟩)
    rw [ex_r36_3 (h := am_wI h 37 (i) (h.1 132 i)) hP]
    refine am_goX 3 (show am_sh (am_wI h 37 (i) (h.1 132 i)) 131 = some (6, 0) ∧ pz_S 3 none am_r99 0 Q 45 [(2, .int (nI i)), (0, .ref 36), (1, .ref 131)] [am_rf ((am_wI h 37 (i) (h.1 132 i)).2.2.1 131 3), .int (nI i), .ref 38] (am_wI h 37 (i) (h.1 132 i)) from ⟨ex_131 hP, ?_⟩)
    rw [ex_r131_3 (h := am_wI h 37 (i) (h.1 132 i)) hP]
    refine am_goX 2 (show ∃ jj nn : Nat, am_sh (am_wI h 37 (i) (h.1 132 i)) 133 = some (13, nn) ∧ jj < nn ∧ (nI i) = nI jj ∧ pz_S 3 none am_r99 0 Q 47 [(2, .int (nI i)), (0, .ref 36), (1, .ref 131)] [.int ((am_wI h 37 (i) (h.1 132 i)).1 133 jj), .int (nI i), .ref 38] (am_wI h 37 (i) (h.1 132 i)) from ⟨i, 6, ex_133 hP, by omega, rfl, ?_⟩)
    rw [show (am_wI h 37 (i) (h.1 132 i)).1 133 i = h.1 133 i from em_wn _ _ (by omega)]
    refine am_goX 1 (show ∃ jj nn : Nat, am_so (am_wI h 37 (i) (h.1 132 i)) 38 = some (13, nn) ∧ jj < nn ∧ (nI i) = nI jj ∧ pz_S 3 none am_r99 0 Q 48 [(2, .int (nI i)), (0, .ref 36), (1, .ref 131)] [] (am_wI (am_wI h 37 (i) (h.1 132 i)) 38 jj (h.1 133 i)) from ⟨i, 6, ex_w38 hP, by omega, rfl, ?_⟩)
    refine am_goX 2 (show 2 < 3 ∧ pz_S 3 none am_r99 0 Q 18 [(2, .int ((nI i) + Int32.ofInt 1)), (0, .ref 36), (1, .ref 131)] [] (am_wI (am_wI h 37 (i) (h.1 132 i)) 38 (i) (h.1 133 i)) from ⟨by decide, ?_⟩)
    rw [xw_i1]
    refine ih (i + 1) _ (by omega) hP (fun j hj1 => ?_) (fun h1 p1 p2 p3 p4 p5 => hQ h1 p1 p2 (fun o k hn => (p3 o k hn).trans (by rw [em_wn _ _ (by omega), em_wn _ _ (by omega)])) (fun j hj1 => by
      have w := p4 j hj1
      rw [em_wn _ _ (by omega), em_wn _ _ (by omega), em_wn _ _ (by omega), em_wn _ _ (by omega)] at w
      exact w) (fun j hj1 => by
      have w := p5 j hj1
      rw [em_wn (o' := 134) _ _ (by omega), em_wn (o' := 134) _ _ (by omega), em_wn (o' := 135) _ _ (by omega), em_wn (o' := 135) _ _ (by omega)] at w
      exact w))
    by_cases ej : j = i
    · rw [ej, em_wn _ _ (by omega), em_we, em_we, em_wn _ _ (by omega), em_wn _ _ (by omega), em_wn _ _ (by omega), em_wn _ _ (by omega)]
      exact ⟨rfl, rfl⟩
    · rw [em_wn _ _ (by omega), em_wn _ _ (by omega), em_wn _ _ (by omega), em_wn _ _ (by omega), em_wn _ _ (by omega), em_wn _ _ (by omega), em_wn _ _ (by omega), em_wn _ _ (by omega)]
      exact hj j (by omega)
theorem c_99_36_131 (hP : ex_P h) (hQ : ∀ h1, ex_P h1 → h1.2 = h.2 → (∀ o k, ¬ (36 ≤ o ∧ o ≤ 40) → h1.1 o k = h.1 o k) → scp 36 131 h h1 → Q none h1) : am_call am_cod 1 99 [.ref 36, .ref 131] h Q := by
  refine pz_call (n := 99) (nL := 3) (rt := none) (rows := am_r99) (d := 0) (by decide +kernel) (by decide +kernel) rfl (by funext pc; rfl) (ex_175 hP) (by exact Nat.le_of_ble_eq_true rfl) ?_
  refine am_goX 4 (show am_sh h 131 = some (6, 0) ∧ am_sh h 36 = some (6, 0) ∧ narrow (am_fty 6 0) (.int ((h.1 131 0))) = .int ((h.1 131 0)) ∧ fits (am_fty 6 0) (.int ((h.1 131 0))) = true ∧ pz_S 3 none am_r99 0 Q 8 [(0, .ref 36), (1, .ref 131)] [] (am_wI h 36 0 ((h.1 131 0))) from ⟨ex_131 hP, ex_36 hP, rfl, rfl, ?_⟩)
  refine am_goX 4 (show am_sh (am_wI h 36 0 ((h.1 131 0))) 131 = some (6, 0) ∧ am_sh (am_wI h 36 0 ((h.1 131 0))) 36 = some (6, 0) ∧ narrow (am_fty 6 1) (.int (((am_wI h 36 0 ((h.1 131 0))).1 131 1))) = .int (((am_wI h 36 0 ((h.1 131 0))).1 131 1)) ∧ fits (am_fty 6 1) (.int (((am_wI h 36 0 ((h.1 131 0))).1 131 1))) = true ∧ pz_S 3 none am_r99 0 Q 16 [(0, .ref 36), (1, .ref 131)] [] (am_wI (am_wI h 36 0 ((h.1 131 0))) 36 1 (((am_wI h 36 0 ((h.1 131 0))).1 131 1))) from ⟨ex_131 hP, ex_36 hP, rfl, rfl, ?_⟩)
  rw [show (am_wI h 36 0 ((h.1 131 0))).1 131 1 = h.1 131 1 from em_wn _ _ (by omega)]
  refine am_goX 2 (show 2 < 3 ∧ pz_S 3 none am_r99 0 Q 18 [(2, .int (Int32.ofInt 0)), (0, .ref 36), (1, .ref 131)] [] (am_wI (am_wI h 36 0 ((h.1 131 0))) 36 1 (h.1 131 1)) from ⟨by decide, ?_⟩)
  exact c_99a_36_131 6 0 _ rfl hP (fun j hj1 => absurd hj1 (Nat.not_lt_zero j)) (fun h1 p1 p2 p3 p4 p5 => hQ h1 p1 p2 (fun o k hn => by rw [p3 o k (by omega), em_wn _ _ (by omega), em_wn _ _ (by omega)]) ⟨⟨by rw [p3 36 0 (by omega), em_wn _ _ (by omega), em_we], by rw [p3 36 1 (by omega), em_we]⟩, fun j hj1 => by
    have w := p4 j hj1
    rw [em_wn _ _ (by omega), em_wn _ _ (by omega), em_wn _ _ (by omega), em_wn _ _ (by omega)] at w
    exact w, fun j hj1 => by
    have w := p5 j hj1
    rw [em_wn _ _ (by omega), em_wn _ _ (by omega), em_wn _ _ (by omega), em_wn _ _ (by omega)] at w
    exact w⟩)
theorem c_99b_36_137 : ∀ (m i : Nat) (h : am_H), i + m = 5 → ex_P h → (∀ j, j < i → h.1 39 j = h.1 140 j ∧ h.1 40 j = h.1 141 j) → (∀ h1, ex_P h1 → h1.2 = h.2 → (∀ o k, ¬ (o = 39 ∨ o = 40) → h1.1 o k = h.1 o k) → (∀ j, j < 5 → h1.1 39 j = h.1 140 j ∧ h1.1 40 j = h.1 141 j) → Q none h1) → pz_S 3 none am_r99 0 Q 56 [(2, .int (nI i)), (0, .ref 36), (1, .ref 137)] [] h := by
  intro m
  induction m with
  | zero =>
    intro i h hi hP hj hQ
    refine am_goX 3 (show ((Int32.ofInt 5) ≤ (nI i) → pz_S 3 none am_r99 0 Q 91 [(2, .int (nI i)), (0, .ref 36), (1, .ref 137)] [] h) ∧ (¬ ((Int32.ofInt 5) ≤ (nI i)) → pz_S 3 none am_r99 0 Q 61 [(2, .int (nI i)), (0, .ref 36), (1, .ref 137)] [] h) from ⟨fun _ => ?_, fun hz => absurd (show nI 5 ≤ nI i from nI_le (by omega) (by omega)) hz⟩)
    exact am_goX 1 (show (none : Option FieldType) = none ∧ h.2.2.2.2 = 175 ∧ _ from ⟨rfl, ex_175 hP, hQ _ hP rfl (fun _ _ _ => rfl) (fun j hj1 => hj j (by omega))⟩)
  | succ m ih =>
    intro i h hi hP hj hQ
    refine am_goX 3 (show ((Int32.ofInt 5) ≤ (nI i) → pz_S 3 none am_r99 0 Q 91 [(2, .int (nI i)), (0, .ref 36), (1, .ref 137)] [] h) ∧ (¬ ((Int32.ofInt 5) ≤ (nI i)) → pz_S 3 none am_r99 0 Q 61 [(2, .int (nI i)), (0, .ref 36), (1, .ref 137)] [] h) from ⟨fun hz => absurd hz (show ¬ nI 5 ≤ nI i by rw [nI_leI (by omega) (by omega)]; omega), fun _ => ?_⟩)
    refine am_goX 2 (show am_sh h 36 = some (6, 0) ∧ pz_S 3 none am_r99 0 Q 65 [(2, .int (nI i)), (0, .ref 36), (1, .ref 137)] [am_rf (h.2.2.1 36 4)] h from ⟨ex_36 hP, ?_⟩)
    rw [ex_r36_4 (h := h) hP]
    refine am_goX 3 (show am_sh h 137 = some (6, 0) ∧ pz_S 3 none am_r99 0 Q 70 [(2, .int (nI i)), (0, .ref 36), (1, .ref 137)] [am_rf (h.2.2.1 137 4), .int (nI i), .ref 39] h from ⟨ex_137 hP, ?_⟩)
    rw [ex_r137_4 (h := h) hP]
    refine am_goX 2 (show ∃ jj nn : Nat, am_sh h 140 = some (13, nn) ∧ jj < nn ∧ (nI i) = nI jj ∧ pz_S 3 none am_r99 0 Q 72 [(2, .int (nI i)), (0, .ref 36), (1, .ref 137)] [.int (h.1 140 jj), .int (nI i), .ref 39] h from ⟨i, 5, ex_140 hP, by omega, rfl, ?_⟩)
    refine am_goX 1 (show ∃ jj nn : Nat, am_so h 39 = some (13, nn) ∧ jj < nn ∧ (nI i) = nI jj ∧ pz_S 3 none am_r99 0 Q 73 [(2, .int (nI i)), (0, .ref 36), (1, .ref 137)] [] (am_wI h 39 jj (h.1 140 i)) from ⟨i, 5, ex_w39 hP, by omega, rfl, ?_⟩)
    refine am_goX 2 (show am_sh (am_wI h 39 (i) (h.1 140 i)) 36 = some (6, 0) ∧ pz_S 3 none am_r99 0 Q 77 [(2, .int (nI i)), (0, .ref 36), (1, .ref 137)] [am_rf ((am_wI h 39 (i) (h.1 140 i)).2.2.1 36 5)] (am_wI h 39 (i) (h.1 140 i)) from ⟨ex_36 hP, ?_⟩)
    rw [ex_r36_5 (h := am_wI h 39 (i) (h.1 140 i)) hP]
    refine am_goX 3 (show am_sh (am_wI h 39 (i) (h.1 140 i)) 137 = some (6, 0) ∧ pz_S 3 none am_r99 0 Q 82 [(2, .int (nI i)), (0, .ref 36), (1, .ref 137)] [am_rf ((am_wI h 39 (i) (h.1 140 i)).2.2.1 137 5), .int (nI i), .ref 40] (am_wI h 39 (i) (h.1 140 i)) from ⟨ex_137 hP, ?_⟩)
    rw [ex_r137_5 (h := am_wI h 39 (i) (h.1 140 i)) hP]
    refine am_goX 2 (show ∃ jj nn : Nat, am_sh (am_wI h 39 (i) (h.1 140 i)) 141 = some (13, nn) ∧ jj < nn ∧ (nI i) = nI jj ∧ pz_S 3 none am_r99 0 Q 84 [(2, .int (nI i)), (0, .ref 36), (1, .ref 137)] [.int ((am_wI h 39 (i) (h.1 140 i)).1 141 jj), .int (nI i), .ref 40] (am_wI h 39 (i) (h.1 140 i)) from ⟨i, 5, ex_141 hP, by omega, rfl, ?_⟩)
    rw [show (am_wI h 39 (i) (h.1 140 i)).1 141 i = h.1 141 i from em_wn _ _ (by omega)]
    refine am_goX 1 (show ∃ jj nn : Nat, am_so (am_wI h 39 (i) (h.1 140 i)) 40 = some (13, nn) ∧ jj < nn ∧ (nI i) = nI jj ∧ pz_S 3 none am_r99 0 Q 85 [(2, .int (nI i)), (0, .ref 36), (1, .ref 137)] [] (am_wI (am_wI h 39 (i) (h.1 140 i)) 40 jj (h.1 141 i)) from ⟨i, 5, ex_w40 hP, by omega, rfl, ?_⟩)
    refine am_goX 2 (show 2 < 3 ∧ pz_S 3 none am_r99 0 Q 56 [(2, .int ((nI i) + Int32.ofInt 1)), (0, .ref 36), (1, .ref 137)] [] (am_wI (am_wI h 39 (i) (h.1 140 i)) 40 (i) (h.1 141 i)) from ⟨by decide, ?_⟩)
    rw [xw_i1]
    refine ih (i + 1) _ (by omega) hP (fun j hj1 => ?_) (fun h1 p1 p2 p3 p4 => hQ h1 p1 p2 (fun o k hn => (p3 o k hn).trans (by rw [em_wn _ _ (by omega), em_wn _ _ (by omega)])) (fun j hj1 => by
      have w := p4 j hj1
      rw [em_wn _ _ (by omega), em_wn _ _ (by omega), em_wn _ _ (by omega), em_wn _ _ (by omega)] at w
      exact w))
    by_cases ej : j = i
    · rw [ej, em_wn _ _ (by omega), em_we, em_we, em_wn _ _ (by omega), em_wn _ _ (by omega), em_wn _ _ (by omega), em_wn _ _ (by omega)]
      exact ⟨rfl, rfl⟩
    · rw [em_wn _ _ (by omega), em_wn _ _ (by omega), em_wn _ _ (by omega), em_wn _ _ (by omega), em_wn _ _ (by omega), em_wn _ _ (by omega), em_wn _ _ (by omega), em_wn _ _ (by omega)]
      exact hj j (by omega)
theorem c_99a_36_137 : ∀ (m i : Nat) (h : am_H), i + m = 6 → ex_P h → (∀ j, j < i → h.1 37 j = h.1 138 j ∧ h.1 38 j = h.1 139 j) → (∀ h1, ex_P h1 → h1.2 = h.2 → (∀ o k, ¬ (37 ≤ o ∧ o ≤ 40) → h1.1 o k = h.1 o k) → (∀ j, j < 6 → h1.1 37 j = h.1 138 j ∧ h1.1 38 j = h.1 139 j) → (∀ j, j < 5 → h1.1 39 j = h.1 140 j ∧ h1.1 40 j = h.1 141 j) → Q none h1) → pz_S 3 none am_r99 0 Q 18 [(2, .int (nI i)), (0, .ref 36), (1, .ref 137)] [] h := by
  intro m
  induction m with
  | zero =>
    intro i h hi hP hj hQ
    refine am_goX 3 (show ((Int8.ofInt 6).toInt32 ≤ (nI i) → pz_S 3 none am_r99 0 Q 54 [(2, .int (nI i)), (0, .ref 36), (1, .ref 137)] [] h) ∧ (¬ ((Int8.ofInt 6).toInt32 ≤ (nI i)) → pz_S 3 none am_r99 0 Q 24 [(2, .int (nI i)), (0, .ref 36), (1, .ref 137)] [] h) from ⟨fun _ => ?_, fun hz => absurd (show nI 6 ≤ nI i from nI_le (by omega) (by omega)) hz⟩)
    refine am_goX 2 (show 2 < 3 ∧ pz_S 3 none am_r99 0 Q 56 [(2, .int (Int32.ofInt 0)), (0, .ref 36), (1, .ref 137)] [] h from ⟨by decide, ?_⟩)
    exact c_99b_36_137 5 0 _ rfl hP (fun j hj1 => absurd hj1 (Nat.not_lt_zero j)) (fun h1 p1 p2 p3 p4 => hQ h1 p1 p2 (fun o k hn => p3 o k (by omega)) (fun j hj1 => by rw [p3 37 j (by omega), p3 38 j (by omega)]; exact hj j (by omega)) p4)
  | succ m ih =>
    intro i h hi hP hj hQ
    refine am_goX 3 (show ((Int8.ofInt 6).toInt32 ≤ (nI i) → pz_S 3 none am_r99 0 Q 54 [(2, .int (nI i)), (0, .ref 36), (1, .ref 137)] [] h) ∧ (¬ ((Int8.ofInt 6).toInt32 ≤ (nI i)) → pz_S 3 none am_r99 0 Q 24 [(2, .int (nI i)), (0, .ref 36), (1, .ref 137)] [] h) from ⟨fun hz => absurd hz (show ¬ nI 6 ≤ nI i by rw [nI_leI (by omega) (by omega)]; omega), fun _ => ?_⟩)
    refine am_goX 2 (show am_sh h 36 = some (6, 0) ∧ pz_S 3 none am_r99 0 Q 28 [(2, .int (nI i)), (0, .ref 36), (1, .ref 137)] [am_rf (h.2.2.1 36 2)] h from ⟨ex_36 hP, ?_⟩)
    rw [ex_r36_2 (h := h) hP]
    refine am_goX 3 (show am_sh h 137 = some (6, 0) ∧ pz_S 3 none am_r99 0 Q 33 [(2, .int (nI i)), (0, .ref 36), (1, .ref 137)] [am_rf (h.2.2.1 137 2), .int (nI i), .ref 37] h from ⟨ex_137 hP, ?_⟩)
    rw [ex_r137_2 (h := h) hP]
    refine am_goX 2 (show ∃ jj nn : Nat, am_sh h 138 = some (13, nn) ∧ jj < nn ∧ (nI i) = nI jj ∧ pz_S 3 none am_r99 0 Q 35 [(2, .int (nI i)), (0, .ref 36), (1, .ref 137)] [.int (h.1 138 jj), .int (nI i), .ref 37] h from ⟨i, 6, ex_138 hP, by omega, rfl, ?_⟩)
    refine am_goX 1 (show ∃ jj nn : Nat, am_so h 37 = some (13, nn) ∧ jj < nn ∧ (nI i) = nI jj ∧ pz_S 3 none am_r99 0 Q 36 [(2, .int (nI i)), (0, .ref 36), (1, .ref 137)] [] (am_wI h 37 jj (h.1 138 i)) from ⟨i, 6, ex_w37 hP, by omega, rfl, ?_⟩)
    refine am_goX 2 (show am_sh (am_wI h 37 (i) (h.1 138 i)) 36 = some (6, 0) ∧ pz_S 3 none am_r99 0 Q 40 [(2, .int (nI i)), (0, .ref 36), (1, .ref 137)] [am_rf ((am_wI h 37 (i) (h.1 138 i)).2.2.1 36 3)] (am_wI h 37 (i) (h.1 138 i)) from ⟨ex_36 hP, ?_⟩)
    rw [ex_r36_3 (h := am_wI h 37 (i) (h.1 138 i)) hP]
    refine am_goX 3 (show am_sh (am_wI h 37 (i) (h.1 138 i)) 137 = some (6, 0) ∧ pz_S 3 none am_r99 0 Q 45 [(2, .int (nI i)), (0, .ref 36), (1, .ref 137)] [am_rf ((am_wI h 37 (i) (h.1 138 i)).2.2.1 137 3), .int (nI i), .ref 38] (am_wI h 37 (i) (h.1 138 i)) from ⟨ex_137 hP, ?_⟩)
    rw [ex_r137_3 (h := am_wI h 37 (i) (h.1 138 i)) hP]
    refine am_goX 2 (show ∃ jj nn : Nat, am_sh (am_wI h 37 (i) (h.1 138 i)) 139 = some (13, nn) ∧ jj < nn ∧ (nI i) = nI jj ∧ pz_S 3 none am_r99 0 Q 47 [(2, .int (nI i)), (0, .ref 36), (1, .ref 137)] [.int ((am_wI h 37 (i) (h.1 138 i)).1 139 jj), .int (nI i), .ref 38] (am_wI h 37 (i) (h.1 138 i)) from ⟨i, 6, ex_139 hP, by omega, rfl, ?_⟩)
    rw [show (am_wI h 37 (i) (h.1 138 i)).1 139 i = h.1 139 i from em_wn _ _ (by omega)]
    refine am_goX 1 (show ∃ jj nn : Nat, am_so (am_wI h 37 (i) (h.1 138 i)) 38 = some (13, nn) ∧ jj < nn ∧ (nI i) = nI jj ∧ pz_S 3 none am_r99 0 Q 48 [(2, .int (nI i)), (0, .ref 36), (1, .ref 137)] [] (am_wI (am_wI h 37 (i) (h.1 138 i)) 38 jj (h.1 139 i)) from ⟨i, 6, ex_w38 hP, by omega, rfl, ?_⟩)
    refine am_goX 2 (show 2 < 3 ∧ pz_S 3 none am_r99 0 Q 18 [(2, .int ((nI i) + Int32.ofInt 1)), (0, .ref 36), (1, .ref 137)] [] (am_wI (am_wI h 37 (i) (h.1 138 i)) 38 (i) (h.1 139 i)) from ⟨by decide, ?_⟩)
    rw [xw_i1]
    refine ih (i + 1) _ (by omega) hP (fun j hj1 => ?_) (fun h1 p1 p2 p3 p4 p5 => hQ h1 p1 p2 (fun o k hn => (p3 o k hn).trans (by rw [em_wn _ _ (by omega), em_wn _ _ (by omega)])) (fun j hj1 => by
      have w := p4 j hj1
      rw [em_wn _ _ (by omega), em_wn _ _ (by omega), em_wn _ _ (by omega), em_wn _ _ (by omega)] at w
      exact w) (fun j hj1 => by
      have w := p5 j hj1
      rw [em_wn (o' := 140) _ _ (by omega), em_wn (o' := 140) _ _ (by omega), em_wn (o' := 141) _ _ (by omega), em_wn (o' := 141) _ _ (by omega)] at w
      exact w))
    by_cases ej : j = i
    · rw [ej, em_wn _ _ (by omega), em_we, em_we, em_wn _ _ (by omega), em_wn _ _ (by omega), em_wn _ _ (by omega), em_wn _ _ (by omega)]
      exact ⟨rfl, rfl⟩
    · rw [em_wn _ _ (by omega), em_wn _ _ (by omega), em_wn _ _ (by omega), em_wn _ _ (by omega), em_wn _ _ (by omega), em_wn _ _ (by omega), em_wn _ _ (by omega), em_wn _ _ (by omega)]
      exact hj j (by omega)
theorem c_99_36_137 (hP : ex_P h) (hQ : ∀ h1, ex_P h1 → h1.2 = h.2 → (∀ o k, ¬ (36 ≤ o ∧ o ≤ 40) → h1.1 o k = h.1 o k) → scp 36 137 h h1 → Q none h1) : am_call am_cod 1 99 [.ref 36, .ref 137] h Q := by
  refine pz_call (n := 99) (nL := 3) (rt := none) (rows := am_r99) (d := 0) (by decide +kernel) (by decide +kernel) rfl (by funext pc; rfl) (ex_175 hP) (by exact Nat.le_of_ble_eq_true rfl) ?_
  refine am_goX 4 (show am_sh h 137 = some (6, 0) ∧ am_sh h 36 = some (6, 0) ∧ narrow (am_fty 6 0) (.int ((h.1 137 0))) = .int ((h.1 137 0)) ∧ fits (am_fty 6 0) (.int ((h.1 137 0))) = true ∧ pz_S 3 none am_r99 0 Q 8 [(0, .ref 36), (1, .ref 137)] [] (am_wI h 36 0 ((h.1 137 0))) from ⟨ex_137 hP, ex_36 hP, rfl, rfl, ?_⟩)
  refine am_goX 4 (show am_sh (am_wI h 36 0 ((h.1 137 0))) 137 = some (6, 0) ∧ am_sh (am_wI h 36 0 ((h.1 137 0))) 36 = some (6, 0) ∧ narrow (am_fty 6 1) (.int (((am_wI h 36 0 ((h.1 137 0))).1 137 1))) = .int (((am_wI h 36 0 ((h.1 137 0))).1 137 1)) ∧ fits (am_fty 6 1) (.int (((am_wI h 36 0 ((h.1 137 0))).1 137 1))) = true ∧ pz_S 3 none am_r99 0 Q 16 [(0, .ref 36), (1, .ref 137)] [] (am_wI (am_wI h 36 0 ((h.1 137 0))) 36 1 (((am_wI h 36 0 ((h.1 137 0))).1 137 1))) from ⟨ex_137 hP, ex_36 hP, rfl, rfl, ?_⟩)
  rw [show (am_wI h 36 0 ((h.1 137 0))).1 137 1 = h.1 137 1 from em_wn _ _ (by omega)]
  refine am_goX 2 (show 2 < 3 ∧ pz_S 3 none am_r99 0 Q 18 [(2, .int (Int32.ofInt 0)), (0, .ref 36), (1, .ref 137)] [] (am_wI (am_wI h 36 0 ((h.1 137 0))) 36 1 (h.1 137 1)) from ⟨by decide, ?_⟩)
  exact c_99a_36_137 6 0 _ rfl hP (fun j hj1 => absurd hj1 (Nat.not_lt_zero j)) (fun h1 p1 p2 p3 p4 p5 => hQ h1 p1 p2 (fun o k hn => by rw [p3 o k (by omega), em_wn _ _ (by omega), em_wn _ _ (by omega)]) ⟨⟨by rw [p3 36 0 (by omega), em_wn _ _ (by omega), em_we], by rw [p3 36 1 (by omega), em_we]⟩, fun j hj1 => by
    have w := p4 j hj1
    rw [em_wn _ _ (by omega), em_wn _ _ (by omega), em_wn _ _ (by omega), em_wn _ _ (by omega)] at w
    exact w, fun j hj1 => by
    have w := p5 j hj1
    rw [em_wn _ _ (by omega), em_wn _ _ (by omega), em_wn _ _ (by omega), em_wn _ _ (by omega)] at w
    exact w⟩)
theorem c_99b_36_143 : ∀ (m i : Nat) (h : am_H), i + m = 5 → ex_P h → (∀ j, j < i → h.1 39 j = h.1 146 j ∧ h.1 40 j = h.1 147 j) → (∀ h1, ex_P h1 → h1.2 = h.2 → (∀ o k, ¬ (o = 39 ∨ o = 40) → h1.1 o k = h.1 o k) → (∀ j, j < 5 → h1.1 39 j = h.1 146 j ∧ h1.1 40 j = h.1 147 j) → Q none h1) → pz_S 3 none am_r99 0 Q 56 [(2, .int (nI i)), (0, .ref 36), (1, .ref 143)] [] h := by
  intro m
  induction m with
  | zero =>
    intro i h hi hP hj hQ
    refine am_goX 3 (show ((Int32.ofInt 5) ≤ (nI i) → pz_S 3 none am_r99 0 Q 91 [(2, .int (nI i)), (0, .ref 36), (1, .ref 143)] [] h) ∧ (¬ ((Int32.ofInt 5) ≤ (nI i)) → pz_S 3 none am_r99 0 Q 61 [(2, .int (nI i)), (0, .ref 36), (1, .ref 143)] [] h) from ⟨fun _ => ?_, fun hz => absurd (show nI 5 ≤ nI i from nI_le (by omega) (by omega)) hz⟩)
    exact am_goX 1 (show (none : Option FieldType) = none ∧ h.2.2.2.2 = 175 ∧ _ from ⟨rfl, ex_175 hP, hQ _ hP rfl (fun _ _ _ => rfl) (fun j hj1 => hj j (by omega))⟩)
  | succ m ih =>
    intro i h hi hP hj hQ
    refine am_goX 3 (show ((Int32.ofInt 5) ≤ (nI i) → pz_S 3 none am_r99 0 Q 91 [(2, .int (nI i)), (0, .ref 36), (1, .ref 143)] [] h) ∧ (¬ ((Int32.ofInt 5) ≤ (nI i)) → pz_S 3 none am_r99 0 Q 61 [(2, .int (nI i)), (0, .ref 36), (1, .ref 143)] [] h) from ⟨fun hz => absurd hz (show ¬ nI 5 ≤ nI i by rw [nI_leI (by omega) (by omega)]; omega), fun _ => ?_⟩)
    refine am_goX 2 (show am_sh h 36 = some (6, 0) ∧ pz_S 3 none am_r99 0 Q 65 [(2, .int (nI i)), (0, .ref 36), (1, .ref 143)] [am_rf (h.2.2.1 36 4)] h from ⟨ex_36 hP, ?_⟩)
    rw [ex_r36_4 (h := h) hP]
    refine am_goX 3 (show am_sh h 143 = some (6, 0) ∧ pz_S 3 none am_r99 0 Q 70 [(2, .int (nI i)), (0, .ref 36), (1, .ref 143)] [am_rf (h.2.2.1 143 4), .int (nI i), .ref 39] h from ⟨ex_143 hP, ?_⟩)
    rw [ex_r143_4 (h := h) hP]
    refine am_goX 2 (show ∃ jj nn : Nat, am_sh h 146 = some (13, nn) ∧ jj < nn ∧ (nI i) = nI jj ∧ pz_S 3 none am_r99 0 Q 72 [(2, .int (nI i)), (0, .ref 36), (1, .ref 143)] [.int (h.1 146 jj), .int (nI i), .ref 39] h from ⟨i, 5, ex_146 hP, by omega, rfl, ?_⟩)
    refine am_goX 1 (show ∃ jj nn : Nat, am_so h 39 = some (13, nn) ∧ jj < nn ∧ (nI i) = nI jj ∧ pz_S 3 none am_r99 0 Q 73 [(2, .int (nI i)), (0, .ref 36), (1, .ref 143)] [] (am_wI h 39 jj (h.1 146 i)) from ⟨i, 5, ex_w39 hP, by omega, rfl, ?_⟩)
    refine am_goX 2 (show am_sh (am_wI h 39 (i) (h.1 146 i)) 36 = some (6, 0) ∧ pz_S 3 none am_r99 0 Q 77 [(2, .int (nI i)), (0, .ref 36), (1, .ref 143)] [am_rf ((am_wI h 39 (i) (h.1 146 i)).2.2.1 36 5)] (am_wI h 39 (i) (h.1 146 i)) from ⟨ex_36 hP, ?_⟩)
    rw [ex_r36_5 (h := am_wI h 39 (i) (h.1 146 i)) hP]
    refine am_goX 3 (show am_sh (am_wI h 39 (i) (h.1 146 i)) 143 = some (6, 0) ∧ pz_S 3 none am_r99 0 Q 82 [(2, .int (nI i)), (0, .ref 36), (1, .ref 143)] [am_rf ((am_wI h 39 (i) (h.1 146 i)).2.2.1 143 5), .int (nI i), .ref 40] (am_wI h 39 (i) (h.1 146 i)) from ⟨ex_143 hP, ?_⟩)
    rw [ex_r143_5 (h := am_wI h 39 (i) (h.1 146 i)) hP]
    refine am_goX 2 (show ∃ jj nn : Nat, am_sh (am_wI h 39 (i) (h.1 146 i)) 147 = some (13, nn) ∧ jj < nn ∧ (nI i) = nI jj ∧ pz_S 3 none am_r99 0 Q 84 [(2, .int (nI i)), (0, .ref 36), (1, .ref 143)] [.int ((am_wI h 39 (i) (h.1 146 i)).1 147 jj), .int (nI i), .ref 40] (am_wI h 39 (i) (h.1 146 i)) from ⟨i, 5, ex_147 hP, by omega, rfl, ?_⟩)
    rw [show (am_wI h 39 (i) (h.1 146 i)).1 147 i = h.1 147 i from em_wn _ _ (by omega)]
    refine am_goX 1 (show ∃ jj nn : Nat, am_so (am_wI h 39 (i) (h.1 146 i)) 40 = some (13, nn) ∧ jj < nn ∧ (nI i) = nI jj ∧ pz_S 3 none am_r99 0 Q 85 [(2, .int (nI i)), (0, .ref 36), (1, .ref 143)] [] (am_wI (am_wI h 39 (i) (h.1 146 i)) 40 jj (h.1 147 i)) from ⟨i, 5, ex_w40 hP, by omega, rfl, ?_⟩)
    refine am_goX 2 (show 2 < 3 ∧ pz_S 3 none am_r99 0 Q 56 [(2, .int ((nI i) + Int32.ofInt 1)), (0, .ref 36), (1, .ref 143)] [] (am_wI (am_wI h 39 (i) (h.1 146 i)) 40 (i) (h.1 147 i)) from ⟨by decide, ?_⟩)
    rw [xw_i1]
    refine ih (i + 1) _ (by omega) hP (fun j hj1 => ?_) (fun h1 p1 p2 p3 p4 => hQ h1 p1 p2 (fun o k hn => (p3 o k hn).trans (by rw [em_wn _ _ (by omega), em_wn _ _ (by omega)])) (fun j hj1 => by
      have w := p4 j hj1
      rw [em_wn _ _ (by omega), em_wn _ _ (by omega), em_wn _ _ (by omega), em_wn _ _ (by omega)] at w
      exact w))
    by_cases ej : j = i
    · rw [ej, em_wn _ _ (by omega), em_we, em_we, em_wn _ _ (by omega), em_wn _ _ (by omega), em_wn _ _ (by omega), em_wn _ _ (by omega)]
      exact ⟨rfl, rfl⟩
    · rw [em_wn _ _ (by omega), em_wn _ _ (by omega), em_wn _ _ (by omega), em_wn _ _ (by omega), em_wn _ _ (by omega), em_wn _ _ (by omega), em_wn _ _ (by omega), em_wn _ _ (by omega)]
      exact hj j (by omega)
theorem c_99a_36_143 : ∀ (m i : Nat) (h : am_H), i + m = 6 → ex_P h → (∀ j, j < i → h.1 37 j = h.1 144 j ∧ h.1 38 j = h.1 145 j) → (∀ h1, ex_P h1 → h1.2 = h.2 → (∀ o k, ¬ (37 ≤ o ∧ o ≤ 40) → h1.1 o k = h.1 o k) → (∀ j, j < 6 → h1.1 37 j = h.1 144 j ∧ h1.1 38 j = h.1 145 j) → (∀ j, j < 5 → h1.1 39 j = h.1 146 j ∧ h1.1 40 j = h.1 147 j) → Q none h1) → pz_S 3 none am_r99 0 Q 18 [(2, .int (nI i)), (0, .ref 36), (1, .ref 143)] [] h := by
  intro m
  induction m with
  | zero =>
    intro i h hi hP hj hQ
    refine am_goX 3 (show ((Int8.ofInt 6).toInt32 ≤ (nI i) → pz_S 3 none am_r99 0 Q 54 [(2, .int (nI i)), (0, .ref 36), (1, .ref 143)] [] h) ∧ (¬ ((Int8.ofInt 6).toInt32 ≤ (nI i)) → pz_S 3 none am_r99 0 Q 24 [(2, .int (nI i)), (0, .ref 36), (1, .ref 143)] [] h) from ⟨fun _ => ?_, fun hz => absurd (show nI 6 ≤ nI i from nI_le (by omega) (by omega)) hz⟩)
    refine am_goX 2 (show 2 < 3 ∧ pz_S 3 none am_r99 0 Q 56 [(2, .int (Int32.ofInt 0)), (0, .ref 36), (1, .ref 143)] [] h from ⟨by decide, ?_⟩)
    exact c_99b_36_143 5 0 _ rfl hP (fun j hj1 => absurd hj1 (Nat.not_lt_zero j)) (fun h1 p1 p2 p3 p4 => hQ h1 p1 p2 (fun o k hn => p3 o k (by omega)) (fun j hj1 => by rw [p3 37 j (by omega), p3 38 j (by omega)]; exact hj j (by omega)) p4)
  | succ m ih =>
    intro i h hi hP hj hQ
    refine am_goX 3 (show ((Int8.ofInt 6).toInt32 ≤ (nI i) → pz_S 3 none am_r99 0 Q 54 [(2, .int (nI i)), (0, .ref 36), (1, .ref 143)] [] h) ∧ (¬ ((Int8.ofInt 6).toInt32 ≤ (nI i)) → pz_S 3 none am_r99 0 Q 24 [(2, .int (nI i)), (0, .ref 36), (1, .ref 143)] [] h) from ⟨fun hz => absurd hz (show ¬ nI 6 ≤ nI i by rw [nI_leI (by omega) (by omega)]; omega), fun _ => ?_⟩)
    refine am_goX 2 (show am_sh h 36 = some (6, 0) ∧ pz_S 3 none am_r99 0 Q 28 [(2, .int (nI i)), (0, .ref 36), (1, .ref 143)] [am_rf (h.2.2.1 36 2)] h from ⟨ex_36 hP, ?_⟩)
    rw [ex_r36_2 (h := h) hP]
    refine am_goX 3 (show am_sh h 143 = some (6, 0) ∧ pz_S 3 none am_r99 0 Q 33 [(2, .int (nI i)), (0, .ref 36), (1, .ref 143)] [am_rf (h.2.2.1 143 2), .int (nI i), .ref 37] h from ⟨ex_143 hP, ?_⟩)
    rw [ex_r143_2 (h := h) hP]
    refine am_goX 2 (show ∃ jj nn : Nat, am_sh h 144 = some (13, nn) ∧ jj < nn ∧ (nI i) = nI jj ∧ pz_S 3 none am_r99 0 Q 35 [(2, .int (nI i)), (0, .ref 36), (1, .ref 143)] [.int (h.1 144 jj), .int (nI i), .ref 37] h from ⟨i, 6, ex_144 hP, by omega, rfl, ?_⟩)
    refine am_goX 1 (show ∃ jj nn : Nat, am_so h 37 = some (13, nn) ∧ jj < nn ∧ (nI i) = nI jj ∧ pz_S 3 none am_r99 0 Q 36 [(2, .int (nI i)), (0, .ref 36), (1, .ref 143)] [] (am_wI h 37 jj (h.1 144 i)) from ⟨i, 6, ex_w37 hP, by omega, rfl, ?_⟩)
    refine am_goX 2 (show am_sh (am_wI h 37 (i) (h.1 144 i)) 36 = some (6, 0) ∧ pz_S 3 none am_r99 0 Q 40 [(2, .int (nI i)), (0, .ref 36), (1, .ref 143)] [am_rf ((am_wI h 37 (i) (h.1 144 i)).2.2.1 36 3)] (am_wI h 37 (i) (h.1 144 i)) from ⟨ex_36 hP, ?_⟩)
    rw [ex_r36_3 (h := am_wI h 37 (i) (h.1 144 i)) hP]
    refine am_goX 3 (show am_sh (am_wI h 37 (i) (h.1 144 i)) 143 = some (6, 0) ∧ pz_S 3 none am_r99 0 Q 45 [(2, .int (nI i)), (0, .ref 36), (1, .ref 143)] [am_rf ((am_wI h 37 (i) (h.1 144 i)).2.2.1 143 3), .int (nI i), .ref 38] (am_wI h 37 (i) (h.1 144 i)) from ⟨ex_143 hP, ?_⟩)
    rw [ex_r143_3 (h := am_wI h 37 (i) (h.1 144 i)) hP]
    refine am_goX 2 (show ∃ jj nn : Nat, am_sh (am_wI h 37 (i) (h.1 144 i)) 145 = some (13, nn) ∧ jj < nn ∧ (nI i) = nI jj ∧ pz_S 3 none am_r99 0 Q 47 [(2, .int (nI i)), (0, .ref 36), (1, .ref 143)] [.int ((am_wI h 37 (i) (h.1 144 i)).1 145 jj), .int (nI i), .ref 38] (am_wI h 37 (i) (h.1 144 i)) from ⟨i, 6, ex_145 hP, by omega, rfl, ?_⟩)
    rw [show (am_wI h 37 (i) (h.1 144 i)).1 145 i = h.1 145 i from em_wn _ _ (by omega)]
    refine am_goX 1 (show ∃ jj nn : Nat, am_so (am_wI h 37 (i) (h.1 144 i)) 38 = some (13, nn) ∧ jj < nn ∧ (nI i) = nI jj ∧ pz_S 3 none am_r99 0 Q 48 [(2, .int (nI i)), (0, .ref 36), (1, .ref 143)] [] (am_wI (am_wI h 37 (i) (h.1 144 i)) 38 jj (h.1 145 i)) from ⟨i, 6, ex_w38 hP, by omega, rfl, ?_⟩)
    refine am_goX 2 (show 2 < 3 ∧ pz_S 3 none am_r99 0 Q 18 [(2, .int ((nI i) + Int32.ofInt 1)), (0, .ref 36), (1, .ref 143)] [] (am_wI (am_wI h 37 (i) (h.1 144 i)) 38 (i) (h.1 145 i)) from ⟨by decide, ?_⟩)
    rw [xw_i1]
    refine ih (i + 1) _ (by omega) hP (fun j hj1 => ?_) (fun h1 p1 p2 p3 p4 p5 => hQ h1 p1 p2 (fun o k hn => (p3 o k hn).trans (by rw [em_wn _ _ (by omega), em_wn _ _ (by omega)])) (fun j hj1 => by
      have w := p4 j hj1
      rw [em_wn _ _ (by omega), em_wn _ _ (by omega), em_wn _ _ (by omega), em_wn _ _ (by omega)] at w
      exact w) (fun j hj1 => by
      have w := p5 j hj1
      rw [em_wn (o' := 146) _ _ (by omega), em_wn (o' := 146) _ _ (by omega), em_wn (o' := 147) _ _ (by omega), em_wn (o' := 147) _ _ (by omega)] at w
      exact w))
    by_cases ej : j = i
    · rw [ej, em_wn _ _ (by omega), em_we, em_we, em_wn _ _ (by omega), em_wn _ _ (by omega), em_wn _ _ (by omega), em_wn _ _ (by omega)]
      exact ⟨rfl, rfl⟩
    · rw [em_wn _ _ (by omega), em_wn _ _ (by omega), em_wn _ _ (by omega), em_wn _ _ (by omega), em_wn _ _ (by omega), em_wn _ _ (by omega), em_wn _ _ (by omega), em_wn _ _ (by omega)]
      exact hj j (by omega)
theorem c_99_36_143 (hP : ex_P h) (hQ : ∀ h1, ex_P h1 → h1.2 = h.2 → (∀ o k, ¬ (36 ≤ o ∧ o ≤ 40) → h1.1 o k = h.1 o k) → scp 36 143 h h1 → Q none h1) : am_call am_cod 1 99 [.ref 36, .ref 143] h Q := by
  refine pz_call (n := 99) (nL := 3) (rt := none) (rows := am_r99) (d := 0) (by decide +kernel) (by decide +kernel) rfl (by funext pc; rfl) (ex_175 hP) (by exact Nat.le_of_ble_eq_true rfl) ?_
  refine am_goX 4 (show am_sh h 143 = some (6, 0) ∧ am_sh h 36 = some (6, 0) ∧ narrow (am_fty 6 0) (.int ((h.1 143 0))) = .int ((h.1 143 0)) ∧ fits (am_fty 6 0) (.int ((h.1 143 0))) = true ∧ pz_S 3 none am_r99 0 Q 8 [(0, .ref 36), (1, .ref 143)] [] (am_wI h 36 0 ((h.1 143 0))) from ⟨ex_143 hP, ex_36 hP, rfl, rfl, ?_⟩)
  refine am_goX 4 (show am_sh (am_wI h 36 0 ((h.1 143 0))) 143 = some (6, 0) ∧ am_sh (am_wI h 36 0 ((h.1 143 0))) 36 = some (6, 0) ∧ narrow (am_fty 6 1) (.int (((am_wI h 36 0 ((h.1 143 0))).1 143 1))) = .int (((am_wI h 36 0 ((h.1 143 0))).1 143 1)) ∧ fits (am_fty 6 1) (.int (((am_wI h 36 0 ((h.1 143 0))).1 143 1))) = true ∧ pz_S 3 none am_r99 0 Q 16 [(0, .ref 36), (1, .ref 143)] [] (am_wI (am_wI h 36 0 ((h.1 143 0))) 36 1 (((am_wI h 36 0 ((h.1 143 0))).1 143 1))) from ⟨ex_143 hP, ex_36 hP, rfl, rfl, ?_⟩)
  rw [show (am_wI h 36 0 ((h.1 143 0))).1 143 1 = h.1 143 1 from em_wn _ _ (by omega)]
  refine am_goX 2 (show 2 < 3 ∧ pz_S 3 none am_r99 0 Q 18 [(2, .int (Int32.ofInt 0)), (0, .ref 36), (1, .ref 143)] [] (am_wI (am_wI h 36 0 ((h.1 143 0))) 36 1 (h.1 143 1)) from ⟨by decide, ?_⟩)
  exact c_99a_36_143 6 0 _ rfl hP (fun j hj1 => absurd hj1 (Nat.not_lt_zero j)) (fun h1 p1 p2 p3 p4 p5 => hQ h1 p1 p2 (fun o k hn => by rw [p3 o k (by omega), em_wn _ _ (by omega), em_wn _ _ (by omega)]) ⟨⟨by rw [p3 36 0 (by omega), em_wn _ _ (by omega), em_we], by rw [p3 36 1 (by omega), em_we]⟩, fun j hj1 => by
    have w := p4 j hj1
    rw [em_wn _ _ (by omega), em_wn _ _ (by omega), em_wn _ _ (by omega), em_wn _ _ (by omega)] at w
    exact w, fun j hj1 => by
    have w := p5 j hj1
    rw [em_wn _ _ (by omega), em_wn _ _ (by omega), em_wn _ _ (by omega), em_wn _ _ (by omega)] at w
    exact w⟩)
theorem c_99b_36_149 : ∀ (m i : Nat) (h : am_H), i + m = 5 → ex_P h → (∀ j, j < i → h.1 39 j = h.1 152 j ∧ h.1 40 j = h.1 153 j) → (∀ h1, ex_P h1 → h1.2 = h.2 → (∀ o k, ¬ (o = 39 ∨ o = 40) → h1.1 o k = h.1 o k) → (∀ j, j < 5 → h1.1 39 j = h.1 152 j ∧ h1.1 40 j = h.1 153 j) → Q none h1) → pz_S 3 none am_r99 0 Q 56 [(2, .int (nI i)), (0, .ref 36), (1, .ref 149)] [] h := by
  intro m
  induction m with
  | zero =>
    intro i h hi hP hj hQ
    refine am_goX 3 (show ((Int32.ofInt 5) ≤ (nI i) → pz_S 3 none am_r99 0 Q 91 [(2, .int (nI i)), (0, .ref 36), (1, .ref 149)] [] h) ∧ (¬ ((Int32.ofInt 5) ≤ (nI i)) → pz_S 3 none am_r99 0 Q 61 [(2, .int (nI i)), (0, .ref 36), (1, .ref 149)] [] h) from ⟨fun _ => ?_, fun hz => absurd (show nI 5 ≤ nI i from nI_le (by omega) (by omega)) hz⟩)
    exact am_goX 1 (show (none : Option FieldType) = none ∧ h.2.2.2.2 = 175 ∧ _ from ⟨rfl, ex_175 hP, hQ _ hP rfl (fun _ _ _ => rfl) (fun j hj1 => hj j (by omega))⟩)
  | succ m ih =>
    intro i h hi hP hj hQ
    refine am_goX 3 (show ((Int32.ofInt 5) ≤ (nI i) → pz_S 3 none am_r99 0 Q 91 [(2, .int (nI i)), (0, .ref 36), (1, .ref 149)] [] h) ∧ (¬ ((Int32.ofInt 5) ≤ (nI i)) → pz_S 3 none am_r99 0 Q 61 [(2, .int (nI i)), (0, .ref 36), (1, .ref 149)] [] h) from ⟨fun hz => absurd hz (show ¬ nI 5 ≤ nI i by rw [nI_leI (by omega) (by omega)]; omega), fun _ => ?_⟩)
    refine am_goX 2 (show am_sh h 36 = some (6, 0) ∧ pz_S 3 none am_r99 0 Q 65 [(2, .int (nI i)), (0, .ref 36), (1, .ref 149)] [am_rf (h.2.2.1 36 4)] h from ⟨ex_36 hP, ?_⟩)
    rw [ex_r36_4 (h := h) hP]
    refine am_goX 3 (show am_sh h 149 = some (6, 0) ∧ pz_S 3 none am_r99 0 Q 70 [(2, .int (nI i)), (0, .ref 36), (1, .ref 149)] [am_rf (h.2.2.1 149 4), .int (nI i), .ref 39] h from ⟨ex_149 hP, ?_⟩)
    rw [ex_r149_4 (h := h) hP]
    refine am_goX 2 (show ∃ jj nn : Nat, am_sh h 152 = some (13, nn) ∧ jj < nn ∧ (nI i) = nI jj ∧ pz_S 3 none am_r99 0 Q 72 [(2, .int (nI i)), (0, .ref 36), (1, .ref 149)] [.int (h.1 152 jj), .int (nI i), .ref 39] h from ⟨i, 5, ex_152 hP, by omega, rfl, ?_⟩)
    refine am_goX 1 (show ∃ jj nn : Nat, am_so h 39 = some (13, nn) ∧ jj < nn ∧ (nI i) = nI jj ∧ pz_S 3 none am_r99 0 Q 73 [(2, .int (nI i)), (0, .ref 36), (1, .ref 149)] [] (am_wI h 39 jj (h.1 152 i)) from ⟨i, 5, ex_w39 hP, by omega, rfl, ?_⟩)
    refine am_goX 2 (show am_sh (am_wI h 39 (i) (h.1 152 i)) 36 = some (6, 0) ∧ pz_S 3 none am_r99 0 Q 77 [(2, .int (nI i)), (0, .ref 36), (1, .ref 149)] [am_rf ((am_wI h 39 (i) (h.1 152 i)).2.2.1 36 5)] (am_wI h 39 (i) (h.1 152 i)) from ⟨ex_36 hP, ?_⟩)
    rw [ex_r36_5 (h := am_wI h 39 (i) (h.1 152 i)) hP]
    refine am_goX 3 (show am_sh (am_wI h 39 (i) (h.1 152 i)) 149 = some (6, 0) ∧ pz_S 3 none am_r99 0 Q 82 [(2, .int (nI i)), (0, .ref 36), (1, .ref 149)] [am_rf ((am_wI h 39 (i) (h.1 152 i)).2.2.1 149 5), .int (nI i), .ref 40] (am_wI h 39 (i) (h.1 152 i)) from ⟨ex_149 hP, ?_⟩)
    rw [ex_r149_5 (h := am_wI h 39 (i) (h.1 152 i)) hP]
    refine am_goX 2 (show ∃ jj nn : Nat, am_sh (am_wI h 39 (i) (h.1 152 i)) 153 = some (13, nn) ∧ jj < nn ∧ (nI i) = nI jj ∧ pz_S 3 none am_r99 0 Q 84 [(2, .int (nI i)), (0, .ref 36), (1, .ref 149)] [.int ((am_wI h 39 (i) (h.1 152 i)).1 153 jj), .int (nI i), .ref 40] (am_wI h 39 (i) (h.1 152 i)) from ⟨i, 5, ex_153 hP, by omega, rfl, ?_⟩)
    rw [show (am_wI h 39 (i) (h.1 152 i)).1 153 i = h.1 153 i from em_wn _ _ (by omega)]
    refine am_goX 1 (show ∃ jj nn : Nat, am_so (am_wI h 39 (i) (h.1 152 i)) 40 = some (13, nn) ∧ jj < nn ∧ (nI i) = nI jj ∧ pz_S 3 none am_r99 0 Q 85 [(2, .int (nI i)), (0, .ref 36), (1, .ref 149)] [] (am_wI (am_wI h 39 (i) (h.1 152 i)) 40 jj (h.1 153 i)) from ⟨i, 5, ex_w40 hP, by omega, rfl, ?_⟩)
    refine am_goX 2 (show 2 < 3 ∧ pz_S 3 none am_r99 0 Q 56 [(2, .int ((nI i) + Int32.ofInt 1)), (0, .ref 36), (1, .ref 149)] [] (am_wI (am_wI h 39 (i) (h.1 152 i)) 40 (i) (h.1 153 i)) from ⟨by decide, ?_⟩)
    rw [xw_i1]
    refine ih (i + 1) _ (by omega) hP (fun j hj1 => ?_) (fun h1 p1 p2 p3 p4 => hQ h1 p1 p2 (fun o k hn => (p3 o k hn).trans (by rw [em_wn _ _ (by omega), em_wn _ _ (by omega)])) (fun j hj1 => by
      have w := p4 j hj1
      rw [em_wn _ _ (by omega), em_wn _ _ (by omega), em_wn _ _ (by omega), em_wn _ _ (by omega)] at w
      exact w))
    by_cases ej : j = i
    · rw [ej, em_wn _ _ (by omega), em_we, em_we, em_wn _ _ (by omega), em_wn _ _ (by omega), em_wn _ _ (by omega), em_wn _ _ (by omega)]
      exact ⟨rfl, rfl⟩
    · rw [em_wn _ _ (by omega), em_wn _ _ (by omega), em_wn _ _ (by omega), em_wn _ _ (by omega), em_wn _ _ (by omega), em_wn _ _ (by omega), em_wn _ _ (by omega), em_wn _ _ (by omega)]
      exact hj j (by omega)
theorem c_99a_36_149 : ∀ (m i : Nat) (h : am_H), i + m = 6 → ex_P h → (∀ j, j < i → h.1 37 j = h.1 150 j ∧ h.1 38 j = h.1 151 j) → (∀ h1, ex_P h1 → h1.2 = h.2 → (∀ o k, ¬ (37 ≤ o ∧ o ≤ 40) → h1.1 o k = h.1 o k) → (∀ j, j < 6 → h1.1 37 j = h.1 150 j ∧ h1.1 38 j = h.1 151 j) → (∀ j, j < 5 → h1.1 39 j = h.1 152 j ∧ h1.1 40 j = h.1 153 j) → Q none h1) → pz_S 3 none am_r99 0 Q 18 [(2, .int (nI i)), (0, .ref 36), (1, .ref 149)] [] h := by
  intro m
  induction m with
  | zero =>
    intro i h hi hP hj hQ
    refine am_goX 3 (show ((Int8.ofInt 6).toInt32 ≤ (nI i) → pz_S 3 none am_r99 0 Q 54 [(2, .int (nI i)), (0, .ref 36), (1, .ref 149)] [] h) ∧ (¬ ((Int8.ofInt 6).toInt32 ≤ (nI i)) → pz_S 3 none am_r99 0 Q 24 [(2, .int (nI i)), (0, .ref 36), (1, .ref 149)] [] h) from ⟨fun _ => ?_, fun hz => absurd (show nI 6 ≤ nI i from nI_le (by omega) (by omega)) hz⟩)
    refine am_goX 2 (show 2 < 3 ∧ pz_S 3 none am_r99 0 Q 56 [(2, .int (Int32.ofInt 0)), (0, .ref 36), (1, .ref 149)] [] h from ⟨by decide, ?_⟩)
    exact c_99b_36_149 5 0 _ rfl hP (fun j hj1 => absurd hj1 (Nat.not_lt_zero j)) (fun h1 p1 p2 p3 p4 => hQ h1 p1 p2 (fun o k hn => p3 o k (by omega)) (fun j hj1 => by rw [p3 37 j (by omega), p3 38 j (by omega)]; exact hj j (by omega)) p4)
  | succ m ih =>
    intro i h hi hP hj hQ
    refine am_goX 3 (show ((Int8.ofInt 6).toInt32 ≤ (nI i) → pz_S 3 none am_r99 0 Q 54 [(2, .int (nI i)), (0, .ref 36), (1, .ref 149)] [] h) ∧ (¬ ((Int8.ofInt 6).toInt32 ≤ (nI i)) → pz_S 3 none am_r99 0 Q 24 [(2, .int (nI i)), (0, .ref 36), (1, .ref 149)] [] h) from ⟨fun hz => absurd hz (show ¬ nI 6 ≤ nI i by rw [nI_leI (by omega) (by omega)]; omega), fun _ => ?_⟩)
    refine am_goX 2 (show am_sh h 36 = some (6, 0) ∧ pz_S 3 none am_r99 0 Q 28 [(2, .int (nI i)), (0, .ref 36), (1, .ref 149)] [am_rf (h.2.2.1 36 2)] h from ⟨ex_36 hP, ?_⟩)
    rw [ex_r36_2 (h := h) hP]
    refine am_goX 3 (show am_sh h 149 = some (6, 0) ∧ pz_S 3 none am_r99 0 Q 33 [(2, .int (nI i)), (0, .ref 36), (1, .ref 149)] [am_rf (h.2.2.1 149 2), .int (nI i), .ref 37] h from ⟨ex_149 hP, ?_⟩)
    rw [ex_r149_2 (h := h) hP]
    refine am_goX 2 (show ∃ jj nn : Nat, am_sh h 150 = some (13, nn) ∧ jj < nn ∧ (nI i) = nI jj ∧ pz_S 3 none am_r99 0 Q 35 [(2, .int (nI i)), (0, .ref 36), (1, .ref 149)] [.int (h.1 150 jj), .int (nI i), .ref 37] h from ⟨i, 6, ex_150 hP, by omega, rfl, ?_⟩)
    refine am_goX 1 (show ∃ jj nn : Nat, am_so h 37 = some (13, nn) ∧ jj < nn ∧ (nI i) = nI jj ∧ pz_S 3 none am_r99 0 Q 36 [(2, .int (nI i)), (0, .ref 36), (1, .ref 149)] [] (am_wI h 37 jj (h.1 150 i)) from ⟨i, 6, ex_w37 hP, by omega, rfl, ?_⟩)
    refine am_goX 2 (show am_sh (am_wI h 37 (i) (h.1 150 i)) 36 = some (6, 0) ∧ pz_S 3 none am_r99 0 Q 40 [(2, .int (nI i)), (0, .ref 36), (1, .ref 149)] [am_rf ((am_wI h 37 (i) (h.1 150 i)).2.2.1 36 3)] (am_wI h 37 (i) (h.1 150 i)) from ⟨ex_36 hP, ?_⟩)
    rw [ex_r36_3 (h := am_wI h 37 (i) (h.1 150 i)) hP]
    refine am_goX 3 (show am_sh (am_wI h 37 (i) (h.1 150 i)) 149 = some (6, 0) ∧ pz_S 3 none am_r99 0 Q 45 [(2, .int (nI i)), (0, .ref 36), (1, .ref 149)] [am_rf ((am_wI h 37 (i) (h.1 150 i)).2.2.1 149 3), .int (nI i), .ref 38] (am_wI h 37 (i) (h.1 150 i)) from ⟨ex_149 hP, ?_⟩)
    rw [ex_r149_3 (h := am_wI h 37 (i) (h.1 150 i)) hP]
    refine am_goX 2 (show ∃ jj nn : Nat, am_sh (am_wI h 37 (i) (h.1 150 i)) 151 = some (13, nn) ∧ jj < nn ∧ (nI i) = nI jj ∧ pz_S 3 none am_r99 0 Q 47 [(2, .int (nI i)), (0, .ref 36), (1, .ref 149)] [.int ((am_wI h 37 (i) (h.1 150 i)).1 151 jj), .int (nI i), .ref 38] (am_wI h 37 (i) (h.1 150 i)) from ⟨i, 6, ex_151 hP, by omega, rfl, ?_⟩)
    rw [show (am_wI h 37 (i) (h.1 150 i)).1 151 i = h.1 151 i from em_wn _ _ (by omega)]
    refine am_goX 1 (show ∃ jj nn : Nat, am_so (am_wI h 37 (i) (h.1 150 i)) 38 = some (13, nn) ∧ jj < nn ∧ (nI i) = nI jj ∧ pz_S 3 none am_r99 0 Q 48 [(2, .int (nI i)), (0, .ref 36), (1, .ref 149)] [] (am_wI (am_wI h 37 (i) (h.1 150 i)) 38 jj (h.1 151 i)) from ⟨i, 6, ex_w38 hP, by omega, rfl, ?_⟩)
    refine am_goX 2 (show 2 < 3 ∧ pz_S 3 none am_r99 0 Q 18 [(2, .int ((nI i) + Int32.ofInt 1)), (0, .ref 36), (1, .ref 149)] [] (am_wI (am_wI h 37 (i) (h.1 150 i)) 38 (i) (h.1 151 i)) from ⟨by decide, ?_⟩)
    rw [xw_i1]
    refine ih (i + 1) _ (by omega) hP (fun j hj1 => ?_) (fun h1 p1 p2 p3 p4 p5 => hQ h1 p1 p2 (fun o k hn => (p3 o k hn).trans (by rw [em_wn _ _ (by omega), em_wn _ _ (by omega)])) (fun j hj1 => by
      have w := p4 j hj1
      rw [em_wn _ _ (by omega), em_wn _ _ (by omega), em_wn _ _ (by omega), em_wn _ _ (by omega)] at w
      exact w) (fun j hj1 => by
      have w := p5 j hj1
      rw [em_wn (o' := 152) _ _ (by omega), em_wn (o' := 152) _ _ (by omega), em_wn (o' := 153) _ _ (by omega), em_wn (o' := 153) _ _ (by omega)] at w
      exact w))
    by_cases ej : j = i
    · rw [ej, em_wn _ _ (by omega), em_we, em_we, em_wn _ _ (by omega), em_wn _ _ (by omega), em_wn _ _ (by omega), em_wn _ _ (by omega)]
      exact ⟨rfl, rfl⟩
    · rw [em_wn _ _ (by omega), em_wn _ _ (by omega), em_wn _ _ (by omega), em_wn _ _ (by omega), em_wn _ _ (by omega), em_wn _ _ (by omega), em_wn _ _ (by omega), em_wn _ _ (by omega)]
      exact hj j (by omega)
theorem c_99_36_149 (hP : ex_P h) (hQ : ∀ h1, ex_P h1 → h1.2 = h.2 → (∀ o k, ¬ (36 ≤ o ∧ o ≤ 40) → h1.1 o k = h.1 o k) → scp 36 149 h h1 → Q none h1) : am_call am_cod 1 99 [.ref 36, .ref 149] h Q := by
  refine pz_call (n := 99) (nL := 3) (rt := none) (rows := am_r99) (d := 0) (by decide +kernel) (by decide +kernel) rfl (by funext pc; rfl) (ex_175 hP) (by exact Nat.le_of_ble_eq_true rfl) ?_
  refine am_goX 4 (show am_sh h 149 = some (6, 0) ∧ am_sh h 36 = some (6, 0) ∧ narrow (am_fty 6 0) (.int ((h.1 149 0))) = .int ((h.1 149 0)) ∧ fits (am_fty 6 0) (.int ((h.1 149 0))) = true ∧ pz_S 3 none am_r99 0 Q 8 [(0, .ref 36), (1, .ref 149)] [] (am_wI h 36 0 ((h.1 149 0))) from ⟨ex_149 hP, ex_36 hP, rfl, rfl, ?_⟩)
  refine am_goX 4 (show am_sh (am_wI h 36 0 ((h.1 149 0))) 149 = some (6, 0) ∧ am_sh (am_wI h 36 0 ((h.1 149 0))) 36 = some (6, 0) ∧ narrow (am_fty 6 1) (.int (((am_wI h 36 0 ((h.1 149 0))).1 149 1))) = .int (((am_wI h 36 0 ((h.1 149 0))).1 149 1)) ∧ fits (am_fty 6 1) (.int (((am_wI h 36 0 ((h.1 149 0))).1 149 1))) = true ∧ pz_S 3 none am_r99 0 Q 16 [(0, .ref 36), (1, .ref 149)] [] (am_wI (am_wI h 36 0 ((h.1 149 0))) 36 1 (((am_wI h 36 0 ((h.1 149 0))).1 149 1))) from ⟨ex_149 hP, ex_36 hP, rfl, rfl, ?_⟩)
  rw [show (am_wI h 36 0 ((h.1 149 0))).1 149 1 = h.1 149 1 from em_wn _ _ (by omega)]
  refine am_goX 2 (show 2 < 3 ∧ pz_S 3 none am_r99 0 Q 18 [(2, .int (Int32.ofInt 0)), (0, .ref 36), (1, .ref 149)] [] (am_wI (am_wI h 36 0 ((h.1 149 0))) 36 1 (h.1 149 1)) from ⟨by decide, ?_⟩)
  exact c_99a_36_149 6 0 _ rfl hP (fun j hj1 => absurd hj1 (Nat.not_lt_zero j)) (fun h1 p1 p2 p3 p4 p5 => hQ h1 p1 p2 (fun o k hn => by rw [p3 o k (by omega), em_wn _ _ (by omega), em_wn _ _ (by omega)]) ⟨⟨by rw [p3 36 0 (by omega), em_wn _ _ (by omega), em_we], by rw [p3 36 1 (by omega), em_we]⟩, fun j hj1 => by
    have w := p4 j hj1
    rw [em_wn _ _ (by omega), em_wn _ _ (by omega), em_wn _ _ (by omega), em_wn _ _ (by omega)] at w
    exact w, fun j hj1 => by
    have w := p5 j hj1
    rw [em_wn _ _ (by omega), em_wn _ _ (by omega), em_wn _ _ (by omega), em_wn _ _ (by omega)] at w
    exact w⟩)
theorem c_115_0 {x y : Int32} (hP : ex_P h) (hQ : ∀ h1, ex_P h1 → h1.2 = h.2 → (∀ o k, ¬ (130 ≤ o ∧ o ≤ 135) → h1.1 o k = h.1 o k) → h1.1 130 0 = 1 → Q none h1) : am_call am_cod 2 115 [.ref 130, .ref 36, .int x, .int y] h Q := by
  refine pz_call (n := 115) (nL := 4) (rt := none) (rows := am_r115) (d := 1) (by decide +kernel) (by decide +kernel) rfl (by funext pc; rfl) (ex_175 hP) (by exact Nat.le_of_ble_eq_true rfl) ?_
  refine am_goX 3 (show am_sh h 130 = some (5, 0) ∧ narrow (am_fty 5 0) (.int ((Int32.ofInt 1))) = .int ((Int32.ofInt 1)) ∧ fits (am_fty 5 0) (.int ((Int32.ofInt 1))) = true ∧ pz_S 4 none am_r115 1 Q 5 [(0, .ref 130), (1, .ref 36), (2, .int x), (3, .int y)] [] (am_wI h 130 0 ((Int32.ofInt 1))) from ⟨ex_130 hP, rfl, rfl, ?_⟩)
  refine am_goX 2 (show am_sh (am_wI h 130 0 ((Int32.ofInt 1))) 130 = some (5, 0) ∧ pz_S 4 none am_r115 1 Q 9 [(0, .ref 130), (1, .ref 36), (2, .int x), (3, .int y)] [am_rf ((am_wI h 130 0 ((Int32.ofInt 1))).2.2.1 130 1)] (am_wI h 130 0 ((Int32.ofInt 1))) from ⟨ex_130 hP, ?_⟩)
  rw [ex_r130_1 (h := am_wI h 130 0 ((Int32.ofInt 1))) hP]
  refine am_goX 2 (show am_rc (am_wI h 130 0 ((Int32.ofInt 1))) 131 6 ∧ 0 ≤ 8 ∧ (am_wI h 130 0 ((Int32.ofInt 1))).2.2.2.2 + am_al 99 ≤ 175 ∧ am_call am_cod 1 99 [.ref 131, .ref 36] (am_wI h 130 0 ((Int32.ofInt 1))) (fun vv h' => pz_S 4 none am_r115 1 Q 13 [(0, .ref 130), (1, .ref 36), (2, .int x), (3, .int y)] (vv.toList ++ []) h') from ⟨Or.inl ⟨by decide, ex_131 hP⟩, by decide, ex_lim hP rfl, c_99_131_36 hP (fun h1 p1 p2 p3 p4 => ?_)⟩)
  refine am_goX 3 (show am_sh h1 130 = some (5, 0) ∧ narrow (am_fty 5 2) (.int (x)) = .int (x) ∧ fits (am_fty 5 2) (.int (x)) = true ∧ pz_S 4 none am_r115 1 Q 18 [(0, .ref 130), (1, .ref 36), (2, .int x), (3, .int y)] [] (am_wI h1 130 2 (x)) from ⟨ex_130 p1, rfl, rfl, ?_⟩)
  refine am_goX 3 (show am_sh (am_wI h1 130 2 (x)) 130 = some (5, 0) ∧ narrow (am_fty 5 3) (.int (y)) = .int (y) ∧ fits (am_fty 5 3) (.int (y)) = true ∧ pz_S 4 none am_r115 1 Q 23 [(0, .ref 130), (1, .ref 36), (2, .int x), (3, .int y)] [] (am_wI (am_wI h1 130 2 (x)) 130 3 (y)) from ⟨ex_130 p1, rfl, rfl, ?_⟩)
  exact am_goX 1 (show (none : Option FieldType) = none ∧ (am_wI (am_wI h1 130 2 (x)) 130 3 (y)).2.2.2.2 = 175 ∧ _ from ⟨rfl, ex_175 p1, hQ _ p1 p2 (fun o k hn => by rw [em_wn _ _ (by omega), em_wn _ _ (by omega), p3 o k (by omega), em_wn _ _ (by omega)]) (by rw [em_wn _ _ (by omega), em_wn _ _ (by omega), p3 130 0 (by omega), em_we]; rfl)⟩)
theorem c_115_1 {x y : Int32} (hP : ex_P h) (hQ : ∀ h1, ex_P h1 → h1.2 = h.2 → (∀ o k, ¬ (136 ≤ o ∧ o ≤ 141) → h1.1 o k = h.1 o k) → h1.1 136 0 = 1 → Q none h1) : am_call am_cod 2 115 [.ref 136, .ref 36, .int x, .int y] h Q := by
  refine pz_call (n := 115) (nL := 4) (rt := none) (rows := am_r115) (d := 1) (by decide +kernel) (by decide +kernel) rfl (by funext pc; rfl) (ex_175 hP) (by exact Nat.le_of_ble_eq_true rfl) ?_
  refine am_goX 3 (show am_sh h 136 = some (5, 0) ∧ narrow (am_fty 5 0) (.int ((Int32.ofInt 1))) = .int ((Int32.ofInt 1)) ∧ fits (am_fty 5 0) (.int ((Int32.ofInt 1))) = true ∧ pz_S 4 none am_r115 1 Q 5 [(0, .ref 136), (1, .ref 36), (2, .int x), (3, .int y)] [] (am_wI h 136 0 ((Int32.ofInt 1))) from ⟨ex_136 hP, rfl, rfl, ?_⟩)
  refine am_goX 2 (show am_sh (am_wI h 136 0 ((Int32.ofInt 1))) 136 = some (5, 0) ∧ pz_S 4 none am_r115 1 Q 9 [(0, .ref 136), (1, .ref 36), (2, .int x), (3, .int y)] [am_rf ((am_wI h 136 0 ((Int32.ofInt 1))).2.2.1 136 1)] (am_wI h 136 0 ((Int32.ofInt 1))) from ⟨ex_136 hP, ?_⟩)
  rw [ex_r136_1 (h := am_wI h 136 0 ((Int32.ofInt 1))) hP]
  refine am_goX 2 (show am_rc (am_wI h 136 0 ((Int32.ofInt 1))) 137 6 ∧ 0 ≤ 8 ∧ (am_wI h 136 0 ((Int32.ofInt 1))).2.2.2.2 + am_al 99 ≤ 175 ∧ am_call am_cod 1 99 [.ref 137, .ref 36] (am_wI h 136 0 ((Int32.ofInt 1))) (fun vv h' => pz_S 4 none am_r115 1 Q 13 [(0, .ref 136), (1, .ref 36), (2, .int x), (3, .int y)] (vv.toList ++ []) h') from ⟨Or.inl ⟨by decide, ex_137 hP⟩, by decide, ex_lim hP rfl, c_99_137_36 hP (fun h1 p1 p2 p3 p4 => ?_)⟩)
  refine am_goX 3 (show am_sh h1 136 = some (5, 0) ∧ narrow (am_fty 5 2) (.int (x)) = .int (x) ∧ fits (am_fty 5 2) (.int (x)) = true ∧ pz_S 4 none am_r115 1 Q 18 [(0, .ref 136), (1, .ref 36), (2, .int x), (3, .int y)] [] (am_wI h1 136 2 (x)) from ⟨ex_136 p1, rfl, rfl, ?_⟩)
  refine am_goX 3 (show am_sh (am_wI h1 136 2 (x)) 136 = some (5, 0) ∧ narrow (am_fty 5 3) (.int (y)) = .int (y) ∧ fits (am_fty 5 3) (.int (y)) = true ∧ pz_S 4 none am_r115 1 Q 23 [(0, .ref 136), (1, .ref 36), (2, .int x), (3, .int y)] [] (am_wI (am_wI h1 136 2 (x)) 136 3 (y)) from ⟨ex_136 p1, rfl, rfl, ?_⟩)
  exact am_goX 1 (show (none : Option FieldType) = none ∧ (am_wI (am_wI h1 136 2 (x)) 136 3 (y)).2.2.2.2 = 175 ∧ _ from ⟨rfl, ex_175 p1, hQ _ p1 p2 (fun o k hn => by rw [em_wn _ _ (by omega), em_wn _ _ (by omega), p3 o k (by omega), em_wn _ _ (by omega)]) (by rw [em_wn _ _ (by omega), em_wn _ _ (by omega), p3 136 0 (by omega), em_we]; rfl)⟩)
theorem c_115_2 {x y : Int32} (hP : ex_P h) (hQ : ∀ h1, ex_P h1 → h1.2 = h.2 → (∀ o k, ¬ (142 ≤ o ∧ o ≤ 147) → h1.1 o k = h.1 o k) → h1.1 142 0 = 1 → Q none h1) : am_call am_cod 2 115 [.ref 142, .ref 36, .int x, .int y] h Q := by
  refine pz_call (n := 115) (nL := 4) (rt := none) (rows := am_r115) (d := 1) (by decide +kernel) (by decide +kernel) rfl (by funext pc; rfl) (ex_175 hP) (by exact Nat.le_of_ble_eq_true rfl) ?_
  refine am_goX 3 (show am_sh h 142 = some (5, 0) ∧ narrow (am_fty 5 0) (.int ((Int32.ofInt 1))) = .int ((Int32.ofInt 1)) ∧ fits (am_fty 5 0) (.int ((Int32.ofInt 1))) = true ∧ pz_S 4 none am_r115 1 Q 5 [(0, .ref 142), (1, .ref 36), (2, .int x), (3, .int y)] [] (am_wI h 142 0 ((Int32.ofInt 1))) from ⟨ex_142 hP, rfl, rfl, ?_⟩)
  refine am_goX 2 (show am_sh (am_wI h 142 0 ((Int32.ofInt 1))) 142 = some (5, 0) ∧ pz_S 4 none am_r115 1 Q 9 [(0, .ref 142), (1, .ref 36), (2, .int x), (3, .int y)] [am_rf ((am_wI h 142 0 ((Int32.ofInt 1))).2.2.1 142 1)] (am_wI h 142 0 ((Int32.ofInt 1))) from ⟨ex_142 hP, ?_⟩)
  rw [ex_r142_1 (h := am_wI h 142 0 ((Int32.ofInt 1))) hP]
  refine am_goX 2 (show am_rc (am_wI h 142 0 ((Int32.ofInt 1))) 143 6 ∧ 0 ≤ 8 ∧ (am_wI h 142 0 ((Int32.ofInt 1))).2.2.2.2 + am_al 99 ≤ 175 ∧ am_call am_cod 1 99 [.ref 143, .ref 36] (am_wI h 142 0 ((Int32.ofInt 1))) (fun vv h' => pz_S 4 none am_r115 1 Q 13 [(0, .ref 142), (1, .ref 36), (2, .int x), (3, .int y)] (vv.toList ++ []) h') from ⟨Or.inl ⟨by decide, ex_143 hP⟩, by decide, ex_lim hP rfl, c_99_143_36 hP (fun h1 p1 p2 p3 p4 => ?_)⟩)
  refine am_goX 3 (show am_sh h1 142 = some (5, 0) ∧ narrow (am_fty 5 2) (.int (x)) = .int (x) ∧ fits (am_fty 5 2) (.int (x)) = true ∧ pz_S 4 none am_r115 1 Q 18 [(0, .ref 142), (1, .ref 36), (2, .int x), (3, .int y)] [] (am_wI h1 142 2 (x)) from ⟨ex_142 p1, rfl, rfl, ?_⟩)
  refine am_goX 3 (show am_sh (am_wI h1 142 2 (x)) 142 = some (5, 0) ∧ narrow (am_fty 5 3) (.int (y)) = .int (y) ∧ fits (am_fty 5 3) (.int (y)) = true ∧ pz_S 4 none am_r115 1 Q 23 [(0, .ref 142), (1, .ref 36), (2, .int x), (3, .int y)] [] (am_wI (am_wI h1 142 2 (x)) 142 3 (y)) from ⟨ex_142 p1, rfl, rfl, ?_⟩)
  exact am_goX 1 (show (none : Option FieldType) = none ∧ (am_wI (am_wI h1 142 2 (x)) 142 3 (y)).2.2.2.2 = 175 ∧ _ from ⟨rfl, ex_175 p1, hQ _ p1 p2 (fun o k hn => by rw [em_wn _ _ (by omega), em_wn _ _ (by omega), p3 o k (by omega), em_wn _ _ (by omega)]) (by rw [em_wn _ _ (by omega), em_wn _ _ (by omega), p3 142 0 (by omega), em_we]; rfl)⟩)
theorem c_115_3 {x y : Int32} (hP : ex_P h) (hQ : ∀ h1, ex_P h1 → h1.2 = h.2 → (∀ o k, ¬ (148 ≤ o ∧ o ≤ 153) → h1.1 o k = h.1 o k) → h1.1 148 0 = 1 → Q none h1) : am_call am_cod 2 115 [.ref 148, .ref 36, .int x, .int y] h Q := by
  refine pz_call (n := 115) (nL := 4) (rt := none) (rows := am_r115) (d := 1) (by decide +kernel) (by decide +kernel) rfl (by funext pc; rfl) (ex_175 hP) (by exact Nat.le_of_ble_eq_true rfl) ?_
  refine am_goX 3 (show am_sh h 148 = some (5, 0) ∧ narrow (am_fty 5 0) (.int ((Int32.ofInt 1))) = .int ((Int32.ofInt 1)) ∧ fits (am_fty 5 0) (.int ((Int32.ofInt 1))) = true ∧ pz_S 4 none am_r115 1 Q 5 [(0, .ref 148), (1, .ref 36), (2, .int x), (3, .int y)] [] (am_wI h 148 0 ((Int32.ofInt 1))) from ⟨ex_148 hP, rfl, rfl, ?_⟩)
  refine am_goX 2 (show am_sh (am_wI h 148 0 ((Int32.ofInt 1))) 148 = some (5, 0) ∧ pz_S 4 none am_r115 1 Q 9 [(0, .ref 148), (1, .ref 36), (2, .int x), (3, .int y)] [am_rf ((am_wI h 148 0 ((Int32.ofInt 1))).2.2.1 148 1)] (am_wI h 148 0 ((Int32.ofInt 1))) from ⟨ex_148 hP, ?_⟩)
  rw [ex_r148_1 (h := am_wI h 148 0 ((Int32.ofInt 1))) hP]
  refine am_goX 2 (show am_rc (am_wI h 148 0 ((Int32.ofInt 1))) 149 6 ∧ 0 ≤ 8 ∧ (am_wI h 148 0 ((Int32.ofInt 1))).2.2.2.2 + am_al 99 ≤ 175 ∧ am_call am_cod 1 99 [.ref 149, .ref 36] (am_wI h 148 0 ((Int32.ofInt 1))) (fun vv h' => pz_S 4 none am_r115 1 Q 13 [(0, .ref 148), (1, .ref 36), (2, .int x), (3, .int y)] (vv.toList ++ []) h') from ⟨Or.inl ⟨by decide, ex_149 hP⟩, by decide, ex_lim hP rfl, c_99_149_36 hP (fun h1 p1 p2 p3 p4 => ?_)⟩)
  refine am_goX 3 (show am_sh h1 148 = some (5, 0) ∧ narrow (am_fty 5 2) (.int (x)) = .int (x) ∧ fits (am_fty 5 2) (.int (x)) = true ∧ pz_S 4 none am_r115 1 Q 18 [(0, .ref 148), (1, .ref 36), (2, .int x), (3, .int y)] [] (am_wI h1 148 2 (x)) from ⟨ex_148 p1, rfl, rfl, ?_⟩)
  refine am_goX 3 (show am_sh (am_wI h1 148 2 (x)) 148 = some (5, 0) ∧ narrow (am_fty 5 3) (.int (y)) = .int (y) ∧ fits (am_fty 5 3) (.int (y)) = true ∧ pz_S 4 none am_r115 1 Q 23 [(0, .ref 148), (1, .ref 36), (2, .int x), (3, .int y)] [] (am_wI (am_wI h1 148 2 (x)) 148 3 (y)) from ⟨ex_148 p1, rfl, rfl, ?_⟩)
  exact am_goX 1 (show (none : Option FieldType) = none ∧ (am_wI (am_wI h1 148 2 (x)) 148 3 (y)).2.2.2.2 = 175 ∧ _ from ⟨rfl, ex_175 p1, hQ _ p1 p2 (fun o k hn => by rw [em_wn _ _ (by omega), em_wn _ _ (by omega), p3 o k (by omega), em_wn _ _ (by omega)]) (by rw [em_wn _ _ (by omega), em_wn _ _ (by omega), p3 148 0 (by omega), em_we]; rfl)⟩)
theorem c_114 {k b : Int32} (hP : ex_P h) (hQ : ∀ r h1, mkC k b h r h1 → Q (some (.int r)) h1) : am_call am_cod 3 114 [.ref 0, .int k, .int b] h Q := by
  refine pz_call (n := 114) (nL := 4) (rt := (some .boolean)) (rows := am_r114) (d := 2) (by decide +kernel) (by decide +kernel) rfl (by funext pc; rfl) (ex_175 hP) (by exact Nat.le_of_ble_eq_true rfl) ?_
  refine am_goX 4 (show 0 ≤ 8 ∧ h.2.2.2.2 + am_al 60 ≤ 175 ∧ am_call am_cod 2 60 [.int k, .int (Int32.ofInt 0), .int (Int32.ofInt 3)] h (fun vv h' => pz_S 4 (some .boolean) am_r114 2 Q 6 [(0, .ref 0), (1, .int k), (2, .int b)] (vv.toList ++ []) h') from ⟨by decide, ex_lim hP rfl, am_call.up (c_in3 hP ?_) (by decide)⟩)
  by_cases h3 : Int32.ofInt 0 ≤ k ∧ k ≤ Int32.ofInt 3
  rotate_left
  · have e : (decide (Int32.ofInt 0 ≤ k) && decide (k ≤ Int32.ofInt 3)) = false := by
      cases e1 : decide (Int32.ofInt 0 ≤ k) with
      | false => rfl
      | true =>
        cases e2 : decide (k ≤ Int32.ofInt 3) with
        | false => rfl
        | true => exact absurd ⟨of_decide_eq_true e1, of_decide_eq_true e2⟩ h3
    rw [e]
    refine am_goX 1 (show (¬ (pz_b (false)) = 0 → pz_S 4 (some .boolean) am_r114 2 Q 11 [(0, .ref 0), (1, .int k), (2, .int b)] [] h) ∧ (¬ ¬ (pz_b (false)) = 0 → pz_S 4 (some .boolean) am_r114 2 Q 9 [(0, .ref 0), (1, .int k), (2, .int b)] [] h) from ⟨fun hz => absurd hz (by decide), fun _ => ?_⟩)
    exact am_goX 2 (show (∃ ty, (some .boolean) = some ty ∧ narrow ty (.int ((Int32.ofInt 0))) = .int ((Int32.ofInt 0))) ∧ h.2.2.2.2 = 175 ∧ _ from ⟨⟨.boolean, rfl, rfl⟩, ex_175 hP, hQ 0 h ⟨fun _ _ => rfl, fun _ => rfl, Or.inl ⟨h3, rfl, fun _ _ => rfl⟩⟩⟩)
  rw [decide_eq_true h3.1, decide_eq_true h3.2]
  show pz_S 4 (some .boolean) am_r114 2 Q 6 [(0, .ref 0), (1, .int k), (2, .int b)] [.int 1] h
  refine am_goX 1 (show (¬ 1 = 0 → pz_S 4 (some .boolean) am_r114 2 Q 11 [(0, .ref 0), (1, .int k), (2, .int b)] [] h) ∧ (¬ ¬ 1 = 0 → pz_S 4 (some .boolean) am_r114 2 Q 9 [(0, .ref 0), (1, .int k), (2, .int b)] [] h) from ⟨fun _ => ?_, fun hz => absurd (by decide) hz⟩)
  rcases in03 h3.1 h3.2 with rfl | rfl | rfl | rfl
  ·
    refine am_goX 2 (show am_sh h 0 = some (10, 0) ∧ pz_S 4 (some .boolean) am_r114 2 Q 15 [(0, .ref 0), (1, .int (nI 0)), (2, .int b)] [am_rf (h.2.2.1 0 11)] h from ⟨ex_0 hP, ?_⟩)
    rw [ex_r0_11 (h := h) hP]
    refine am_goX 2 (show ∃ jj nn : Nat, (am_sh h 129 = some (16, nn) ∨ am_sh h 129 = some (17, nn)) ∧ jj < nn ∧ (nI 0) = nI jj ∧ pz_S 4 (some .boolean) am_r114 2 Q 17 [(0, .ref 0), (1, .int (nI 0)), (2, .int b)] [am_rf (h.2.2.1 129 jj)] h from ⟨0, 4, Or.inl (ex_129 hP), by decide, rfl, ?_⟩)
    rw [ex_r129_0 (h := h) hP]
    refine am_goX 3 (show 3 < 4 ∧ (¬ b = 0 → pz_S 4 (some .boolean) am_r114 2 Q 40 [(3, .ref 130), (0, .ref 0), (1, .int (nI 0)), (2, .int b)] [] h) ∧ (¬ ¬ b = 0 → pz_S 4 (some .boolean) am_r114 2 Q 22 [(3, .ref 130), (0, .ref 0), (1, .int (nI 0)), (2, .int b)] [] h) from ⟨by decide, fun hc0 => ?_, fun hc0 => ?_⟩)
    ·
      refine am_goX 3 (show am_sh h 130 = some (5, 0) ∧ (¬ (h.1 130 0) = 0 → pz_S 4 (some .boolean) am_r114 2 Q 49 [(3, .ref 130), (0, .ref 0), (1, .int (nI 0)), (2, .int b)] [] h) ∧ (¬ ¬ (h.1 130 0) = 0 → pz_S 4 (some .boolean) am_r114 2 Q 47 [(3, .ref 130), (0, .ref 0), (1, .int (nI 0)), (2, .int b)] [] h) from ⟨ex_130 hP, fun hc => ?_, fun hc => ?_⟩)
      ·
        refine am_goX 2 (show am_sh h 0 = some (10, 0) ∧ pz_S 4 (some .boolean) am_r114 2 Q 53 [(3, .ref 130), (0, .ref 0), (1, .int (nI 0)), (2, .int b)] [am_rf (h.2.2.1 0 7)] h from ⟨ex_0 hP, ?_⟩)
        rw [ex_r0_7 (h := h) hP]
        refine am_goX 2 (show am_sh h 130 = some (5, 0) ∧ pz_S 4 (some .boolean) am_r114 2 Q 57 [(3, .ref 130), (0, .ref 0), (1, .int (nI 0)), (2, .int b)] [am_rf (h.2.2.1 130 1), .ref 36] h from ⟨ex_130 hP, ?_⟩)
        rw [ex_r130_1 (h := h) hP]
        refine am_goX 1 (show am_rc h 36 6 ∧ 0 ≤ 8 ∧ h.2.2.2.2 + am_al 99 ≤ 175 ∧ am_call am_cod 2 99 [.ref 36, .ref 131] h (fun vv h' => pz_S 4 (some .boolean) am_r114 2 Q 60 [(3, .ref 130), (0, .ref 0), (1, .int (nI 0)), (2, .int b)] (vv.toList ++ []) h') from ⟨Or.inl ⟨by decide, ex_36 hP⟩, by decide, ex_lim hP rfl, am_call.up (c_99_36_131 hP (fun h1 p1 p2 p3 p4 => ?_)) (by decide)⟩)
        refine am_goX 4 (show am_sh h1 130 = some (5, 0) ∧ am_sh h1 0 = some (10, 0) ∧ narrow (am_fty 10 12) (.int ((h1.1 130 2))) = .int ((h1.1 130 2)) ∧ fits (am_fty 10 12) (.int ((h1.1 130 2))) = true ∧ pz_S 4 (some .boolean) am_r114 2 Q 68 [(3, .ref 130), (0, .ref 0), (1, .int (nI 0)), (2, .int b)] [] (am_wI h1 0 12 ((h1.1 130 2))) from ⟨ex_130 p1, ex_0 p1, rfl, rfl, ?_⟩)
        refine am_goX 4 (show am_sh (am_wI h1 0 12 ((h1.1 130 2))) 130 = some (5, 0) ∧ am_sh (am_wI h1 0 12 ((h1.1 130 2))) 0 = some (10, 0) ∧ narrow (am_fty 10 13) (.int (((am_wI h1 0 12 ((h1.1 130 2))).1 130 3))) = .int (((am_wI h1 0 12 ((h1.1 130 2))).1 130 3)) ∧ fits (am_fty 10 13) (.int (((am_wI h1 0 12 ((h1.1 130 2))).1 130 3))) = true ∧ pz_S 4 (some .boolean) am_r114 2 Q 76 [(3, .ref 130), (0, .ref 0), (1, .int (nI 0)), (2, .int b)] [] (am_wI (am_wI h1 0 12 ((h1.1 130 2))) 0 13 (((am_wI h1 0 12 ((h1.1 130 2))).1 130 3))) from ⟨ex_130 p1, ex_0 p1, rfl, rfl, ?_⟩)
        refine am_goX 2 (show am_sh (am_wI (am_wI h1 0 12 ((h1.1 130 2))) 0 13 (((am_wI h1 0 12 ((h1.1 130 2))).1 130 3))) 0 = some (10, 0) ∧ pz_S 4 (some .boolean) am_r114 2 Q 80 [(3, .ref 130), (0, .ref 0), (1, .int (nI 0)), (2, .int b)] [am_rf ((am_wI (am_wI h1 0 12 ((h1.1 130 2))) 0 13 (((am_wI h1 0 12 ((h1.1 130 2))).1 130 3))).2.2.1 0 10)] (am_wI (am_wI h1 0 12 ((h1.1 130 2))) 0 13 (((am_wI h1 0 12 ((h1.1 130 2))).1 130 3))) from ⟨ex_0 p1, ?_⟩)
        rw [ex_r0_10 (h := am_wI (am_wI h1 0 12 ((h1.1 130 2))) 0 13 (((am_wI h1 0 12 ((h1.1 130 2))).1 130 3))) p1]
        refine am_goX 2 (show am_sh (am_wI (am_wI h1 0 12 ((h1.1 130 2))) 0 13 (((am_wI h1 0 12 ((h1.1 130 2))).1 130 3))) 47 = some (2, 0) ∧ narrow (am_fty 2 2) (.int ((Int32.ofInt 0))) = .int ((Int32.ofInt 0)) ∧ fits (am_fty 2 2) (.int ((Int32.ofInt 0))) = true ∧ pz_S 4 (some .boolean) am_r114 2 Q 84 [(3, .ref 130), (0, .ref 0), (1, .int (nI 0)), (2, .int b)] [] (am_wI (am_wI (am_wI h1 0 12 ((h1.1 130 2))) 0 13 (((am_wI h1 0 12 ((h1.1 130 2))).1 130 3))) 47 2 ((Int32.ofInt 0))) from ⟨ex_47 p1, rfl, rfl, ?_⟩)
        exact am_goX 2 (show (∃ ty, (some .boolean) = some ty ∧ narrow ty (.int ((Int32.ofInt 1))) = .int ((Int32.ofInt 1))) ∧ (am_wI (am_wI (am_wI h1 0 12 ((h1.1 130 2))) 0 13 (((am_wI h1 0 12 ((h1.1 130 2))).1 130 3))) 47 2 ((Int32.ofInt 0))).2.2.2.2 = 175 ∧ _ from ⟨⟨.boolean, rfl, rfl⟩, ex_175 p1, hQ 1 _ ⟨fun j hj => by rw [em_wn _ _ (by omega), em_wn _ _ (by omega), em_wn _ _ (by omega), p3 _ _ (by omega)], fun j => by rw [em_wn _ _ (by omega), em_wn _ _ (by omega), em_wn _ _ (by omega), p3 _ _ (by omega)], Or.inr ⟨0, by decide, rfl, Or.inr (Or.inr ⟨hc0, hc, rfl, fun j hj => by rw [em_wn _ _ (by omega), em_wn _ _ (by omega), em_wn _ _ (by omega), p3 _ _ (by omega)]⟩)⟩⟩⟩)
      ·
        exact am_goX 2 (show (∃ ty, (some .boolean) = some ty ∧ narrow ty (.int ((Int32.ofInt 0))) = .int ((Int32.ofInt 0))) ∧ h.2.2.2.2 = 175 ∧ _ from ⟨⟨.boolean, rfl, rfl⟩, ex_175 hP, hQ 0 h ⟨fun _ _ => rfl, fun _ => rfl, Or.inr ⟨0, by decide, rfl, Or.inr (Or.inl ⟨hc0, Decidable.not_not.mp hc, rfl, fun _ _ => rfl⟩)⟩⟩⟩)
    ·
      refine am_goX 3 (show am_sh h 0 = some (10, 0) ∧ pz_S 4 (some .boolean) am_r114 2 Q 27 [(3, .ref 130), (0, .ref 0), (1, .int (nI 0)), (2, .int b)] [am_rf (h.2.2.1 0 7), .ref 130] h from ⟨ex_0 hP, ?_⟩)
      rw [ex_r0_7 (h := h) hP]
      refine am_goX 5 (show am_sh h 0 = some (10, 0) ∧ am_sh h 0 = some (10, 0) ∧ am_rc h 130 5 ∧ 0 ≤ 8 ∧ h.2.2.2.2 + am_al 115 ≤ 175 ∧ am_call am_cod 2 115 [.ref 130, .ref 36, .int (h.1 0 12), .int (h.1 0 13)] h (fun vv h' => pz_S 4 (some .boolean) am_r114 2 Q 38 [(3, .ref 130), (0, .ref 0), (1, .int (nI 0)), (2, .int b)] (vv.toList ++ []) h') from ⟨ex_0 hP, ex_0 hP, Or.inl ⟨by decide, ex_130 hP⟩, by decide, ex_lim hP rfl, am_call.up (c_115_0 hP (fun h1 p1 p2 p3 p4 => ?_)) (by decide)⟩)
      exact am_goX 2 (show (∃ ty, (some .boolean) = some ty ∧ narrow ty (.int ((Int32.ofInt 1))) = .int ((Int32.ofInt 1))) ∧ h1.2.2.2.2 = 175 ∧ _ from ⟨⟨.boolean, rfl, rfl⟩, ex_175 p1, hQ 1 _ ⟨fun j hj => p3 171 j (by omega), fun j => p3 3000000 j (by omega), Or.inr ⟨0, by decide, rfl, Or.inl ⟨Decidable.not_not.mp hc0, rfl, p4, fun j hj hn => p3 _ _ (by omega)⟩⟩⟩⟩)
  ·
    refine am_goX 2 (show am_sh h 0 = some (10, 0) ∧ pz_S 4 (some .boolean) am_r114 2 Q 15 [(0, .ref 0), (1, .int (nI 1)), (2, .int b)] [am_rf (h.2.2.1 0 11)] h from ⟨ex_0 hP, ?_⟩)
    rw [ex_r0_11 (h := h) hP]
    refine am_goX 2 (show ∃ jj nn : Nat, (am_sh h 129 = some (16, nn) ∨ am_sh h 129 = some (17, nn)) ∧ jj < nn ∧ (nI 1) = nI jj ∧ pz_S 4 (some .boolean) am_r114 2 Q 17 [(0, .ref 0), (1, .int (nI 1)), (2, .int b)] [am_rf (h.2.2.1 129 jj)] h from ⟨1, 4, Or.inl (ex_129 hP), by decide, rfl, ?_⟩)
    rw [ex_r129_1 (h := h) hP]
    refine am_goX 3 (show 3 < 4 ∧ (¬ b = 0 → pz_S 4 (some .boolean) am_r114 2 Q 40 [(3, .ref 136), (0, .ref 0), (1, .int (nI 1)), (2, .int b)] [] h) ∧ (¬ ¬ b = 0 → pz_S 4 (some .boolean) am_r114 2 Q 22 [(3, .ref 136), (0, .ref 0), (1, .int (nI 1)), (2, .int b)] [] h) from ⟨by decide, fun hc0 => ?_, fun hc0 => ?_⟩)
    ·
      refine am_goX 3 (show am_sh h 136 = some (5, 0) ∧ (¬ (h.1 136 0) = 0 → pz_S 4 (some .boolean) am_r114 2 Q 49 [(3, .ref 136), (0, .ref 0), (1, .int (nI 1)), (2, .int b)] [] h) ∧ (¬ ¬ (h.1 136 0) = 0 → pz_S 4 (some .boolean) am_r114 2 Q 47 [(3, .ref 136), (0, .ref 0), (1, .int (nI 1)), (2, .int b)] [] h) from ⟨ex_136 hP, fun hc => ?_, fun hc => ?_⟩)
      ·
        refine am_goX 2 (show am_sh h 0 = some (10, 0) ∧ pz_S 4 (some .boolean) am_r114 2 Q 53 [(3, .ref 136), (0, .ref 0), (1, .int (nI 1)), (2, .int b)] [am_rf (h.2.2.1 0 7)] h from ⟨ex_0 hP, ?_⟩)
        rw [ex_r0_7 (h := h) hP]
        refine am_goX 2 (show am_sh h 136 = some (5, 0) ∧ pz_S 4 (some .boolean) am_r114 2 Q 57 [(3, .ref 136), (0, .ref 0), (1, .int (nI 1)), (2, .int b)] [am_rf (h.2.2.1 136 1), .ref 36] h from ⟨ex_136 hP, ?_⟩)
        rw [ex_r136_1 (h := h) hP]
        refine am_goX 1 (show am_rc h 36 6 ∧ 0 ≤ 8 ∧ h.2.2.2.2 + am_al 99 ≤ 175 ∧ am_call am_cod 2 99 [.ref 36, .ref 137] h (fun vv h' => pz_S 4 (some .boolean) am_r114 2 Q 60 [(3, .ref 136), (0, .ref 0), (1, .int (nI 1)), (2, .int b)] (vv.toList ++ []) h') from ⟨Or.inl ⟨by decide, ex_36 hP⟩, by decide, ex_lim hP rfl, am_call.up (c_99_36_137 hP (fun h1 p1 p2 p3 p4 => ?_)) (by decide)⟩)
        refine am_goX 4 (show am_sh h1 136 = some (5, 0) ∧ am_sh h1 0 = some (10, 0) ∧ narrow (am_fty 10 12) (.int ((h1.1 136 2))) = .int ((h1.1 136 2)) ∧ fits (am_fty 10 12) (.int ((h1.1 136 2))) = true ∧ pz_S 4 (some .boolean) am_r114 2 Q 68 [(3, .ref 136), (0, .ref 0), (1, .int (nI 1)), (2, .int b)] [] (am_wI h1 0 12 ((h1.1 136 2))) from ⟨ex_136 p1, ex_0 p1, rfl, rfl, ?_⟩)
        refine am_goX 4 (show am_sh (am_wI h1 0 12 ((h1.1 136 2))) 136 = some (5, 0) ∧ am_sh (am_wI h1 0 12 ((h1.1 136 2))) 0 = some (10, 0) ∧ narrow (am_fty 10 13) (.int (((am_wI h1 0 12 ((h1.1 136 2))).1 136 3))) = .int (((am_wI h1 0 12 ((h1.1 136 2))).1 136 3)) ∧ fits (am_fty 10 13) (.int (((am_wI h1 0 12 ((h1.1 136 2))).1 136 3))) = true ∧ pz_S 4 (some .boolean) am_r114 2 Q 76 [(3, .ref 136), (0, .ref 0), (1, .int (nI 1)), (2, .int b)] [] (am_wI (am_wI h1 0 12 ((h1.1 136 2))) 0 13 (((am_wI h1 0 12 ((h1.1 136 2))).1 136 3))) from ⟨ex_136 p1, ex_0 p1, rfl, rfl, ?_⟩)
        refine am_goX 2 (show am_sh (am_wI (am_wI h1 0 12 ((h1.1 136 2))) 0 13 (((am_wI h1 0 12 ((h1.1 136 2))).1 136 3))) 0 = some (10, 0) ∧ pz_S 4 (some .boolean) am_r114 2 Q 80 [(3, .ref 136), (0, .ref 0), (1, .int (nI 1)), (2, .int b)] [am_rf ((am_wI (am_wI h1 0 12 ((h1.1 136 2))) 0 13 (((am_wI h1 0 12 ((h1.1 136 2))).1 136 3))).2.2.1 0 10)] (am_wI (am_wI h1 0 12 ((h1.1 136 2))) 0 13 (((am_wI h1 0 12 ((h1.1 136 2))).1 136 3))) from ⟨ex_0 p1, ?_⟩)
        rw [ex_r0_10 (h := am_wI (am_wI h1 0 12 ((h1.1 136 2))) 0 13 (((am_wI h1 0 12 ((h1.1 136 2))).1 136 3))) p1]
        refine am_goX 2 (show am_sh (am_wI (am_wI h1 0 12 ((h1.1 136 2))) 0 13 (((am_wI h1 0 12 ((h1.1 136 2))).1 136 3))) 47 = some (2, 0) ∧ narrow (am_fty 2 2) (.int ((Int32.ofInt 0))) = .int ((Int32.ofInt 0)) ∧ fits (am_fty 2 2) (.int ((Int32.ofInt 0))) = true ∧ pz_S 4 (some .boolean) am_r114 2 Q 84 [(3, .ref 136), (0, .ref 0), (1, .int (nI 1)), (2, .int b)] [] (am_wI (am_wI (am_wI h1 0 12 ((h1.1 136 2))) 0 13 (((am_wI h1 0 12 ((h1.1 136 2))).1 136 3))) 47 2 ((Int32.ofInt 0))) from ⟨ex_47 p1, rfl, rfl, ?_⟩)
        exact am_goX 2 (show (∃ ty, (some .boolean) = some ty ∧ narrow ty (.int ((Int32.ofInt 1))) = .int ((Int32.ofInt 1))) ∧ (am_wI (am_wI (am_wI h1 0 12 ((h1.1 136 2))) 0 13 (((am_wI h1 0 12 ((h1.1 136 2))).1 136 3))) 47 2 ((Int32.ofInt 0))).2.2.2.2 = 175 ∧ _ from ⟨⟨.boolean, rfl, rfl⟩, ex_175 p1, hQ 1 _ ⟨fun j hj => by rw [em_wn _ _ (by omega), em_wn _ _ (by omega), em_wn _ _ (by omega), p3 _ _ (by omega)], fun j => by rw [em_wn _ _ (by omega), em_wn _ _ (by omega), em_wn _ _ (by omega), p3 _ _ (by omega)], Or.inr ⟨1, by decide, rfl, Or.inr (Or.inr ⟨hc0, hc, rfl, fun j hj => by rw [em_wn _ _ (by omega), em_wn _ _ (by omega), em_wn _ _ (by omega), p3 _ _ (by omega)]⟩)⟩⟩⟩)
      ·
        exact am_goX 2 (show (∃ ty, (some .boolean) = some ty ∧ narrow ty (.int ((Int32.ofInt 0))) = .int ((Int32.ofInt 0))) ∧ h.2.2.2.2 = 175 ∧ _ from ⟨⟨.boolean, rfl, rfl⟩, ex_175 hP, hQ 0 h ⟨fun _ _ => rfl, fun _ => rfl, Or.inr ⟨1, by decide, rfl, Or.inr (Or.inl ⟨hc0, Decidable.not_not.mp hc, rfl, fun _ _ => rfl⟩)⟩⟩⟩)
    ·
      refine am_goX 3 (show am_sh h 0 = some (10, 0) ∧ pz_S 4 (some .boolean) am_r114 2 Q 27 [(3, .ref 136), (0, .ref 0), (1, .int (nI 1)), (2, .int b)] [am_rf (h.2.2.1 0 7), .ref 136] h from ⟨ex_0 hP, ?_⟩)
      rw [ex_r0_7 (h := h) hP]
      refine am_goX 5 (show am_sh h 0 = some (10, 0) ∧ am_sh h 0 = some (10, 0) ∧ am_rc h 136 5 ∧ 0 ≤ 8 ∧ h.2.2.2.2 + am_al 115 ≤ 175 ∧ am_call am_cod 2 115 [.ref 136, .ref 36, .int (h.1 0 12), .int (h.1 0 13)] h (fun vv h' => pz_S 4 (some .boolean) am_r114 2 Q 38 [(3, .ref 136), (0, .ref 0), (1, .int (nI 1)), (2, .int b)] (vv.toList ++ []) h') from ⟨ex_0 hP, ex_0 hP, Or.inl ⟨by decide, ex_136 hP⟩, by decide, ex_lim hP rfl, am_call.up (c_115_1 hP (fun h1 p1 p2 p3 p4 => ?_)) (by decide)⟩)
      exact am_goX 2 (show (∃ ty, (some .boolean) = some ty ∧ narrow ty (.int ((Int32.ofInt 1))) = .int ((Int32.ofInt 1))) ∧ h1.2.2.2.2 = 175 ∧ _ from ⟨⟨.boolean, rfl, rfl⟩, ex_175 p1, hQ 1 _ ⟨fun j hj => p3 171 j (by omega), fun j => p3 3000000 j (by omega), Or.inr ⟨1, by decide, rfl, Or.inl ⟨Decidable.not_not.mp hc0, rfl, p4, fun j hj hn => p3 _ _ (by omega)⟩⟩⟩⟩)
  ·
    refine am_goX 2 (show am_sh h 0 = some (10, 0) ∧ pz_S 4 (some .boolean) am_r114 2 Q 15 [(0, .ref 0), (1, .int (nI 2)), (2, .int b)] [am_rf (h.2.2.1 0 11)] h from ⟨ex_0 hP, ?_⟩)
    rw [ex_r0_11 (h := h) hP]
    refine am_goX 2 (show ∃ jj nn : Nat, (am_sh h 129 = some (16, nn) ∨ am_sh h 129 = some (17, nn)) ∧ jj < nn ∧ (nI 2) = nI jj ∧ pz_S 4 (some .boolean) am_r114 2 Q 17 [(0, .ref 0), (1, .int (nI 2)), (2, .int b)] [am_rf (h.2.2.1 129 jj)] h from ⟨2, 4, Or.inl (ex_129 hP), by decide, rfl, ?_⟩)
    rw [ex_r129_2 (h := h) hP]
    refine am_goX 3 (show 3 < 4 ∧ (¬ b = 0 → pz_S 4 (some .boolean) am_r114 2 Q 40 [(3, .ref 142), (0, .ref 0), (1, .int (nI 2)), (2, .int b)] [] h) ∧ (¬ ¬ b = 0 → pz_S 4 (some .boolean) am_r114 2 Q 22 [(3, .ref 142), (0, .ref 0), (1, .int (nI 2)), (2, .int b)] [] h) from ⟨by decide, fun hc0 => ?_, fun hc0 => ?_⟩)
    ·
      refine am_goX 3 (show am_sh h 142 = some (5, 0) ∧ (¬ (h.1 142 0) = 0 → pz_S 4 (some .boolean) am_r114 2 Q 49 [(3, .ref 142), (0, .ref 0), (1, .int (nI 2)), (2, .int b)] [] h) ∧ (¬ ¬ (h.1 142 0) = 0 → pz_S 4 (some .boolean) am_r114 2 Q 47 [(3, .ref 142), (0, .ref 0), (1, .int (nI 2)), (2, .int b)] [] h) from ⟨ex_142 hP, fun hc => ?_, fun hc => ?_⟩)
      ·
        refine am_goX 2 (show am_sh h 0 = some (10, 0) ∧ pz_S 4 (some .boolean) am_r114 2 Q 53 [(3, .ref 142), (0, .ref 0), (1, .int (nI 2)), (2, .int b)] [am_rf (h.2.2.1 0 7)] h from ⟨ex_0 hP, ?_⟩)
        rw [ex_r0_7 (h := h) hP]
        refine am_goX 2 (show am_sh h 142 = some (5, 0) ∧ pz_S 4 (some .boolean) am_r114 2 Q 57 [(3, .ref 142), (0, .ref 0), (1, .int (nI 2)), (2, .int b)] [am_rf (h.2.2.1 142 1), .ref 36] h from ⟨ex_142 hP, ?_⟩)
        rw [ex_r142_1 (h := h) hP]
        refine am_goX 1 (show am_rc h 36 6 ∧ 0 ≤ 8 ∧ h.2.2.2.2 + am_al 99 ≤ 175 ∧ am_call am_cod 2 99 [.ref 36, .ref 143] h (fun vv h' => pz_S 4 (some .boolean) am_r114 2 Q 60 [(3, .ref 142), (0, .ref 0), (1, .int (nI 2)), (2, .int b)] (vv.toList ++ []) h') from ⟨Or.inl ⟨by decide, ex_36 hP⟩, by decide, ex_lim hP rfl, am_call.up (c_99_36_143 hP (fun h1 p1 p2 p3 p4 => ?_)) (by decide)⟩)
        refine am_goX 4 (show am_sh h1 142 = some (5, 0) ∧ am_sh h1 0 = some (10, 0) ∧ narrow (am_fty 10 12) (.int ((h1.1 142 2))) = .int ((h1.1 142 2)) ∧ fits (am_fty 10 12) (.int ((h1.1 142 2))) = true ∧ pz_S 4 (some .boolean) am_r114 2 Q 68 [(3, .ref 142), (0, .ref 0), (1, .int (nI 2)), (2, .int b)] [] (am_wI h1 0 12 ((h1.1 142 2))) from ⟨ex_142 p1, ex_0 p1, rfl, rfl, ?_⟩)
        refine am_goX 4 (show am_sh (am_wI h1 0 12 ((h1.1 142 2))) 142 = some (5, 0) ∧ am_sh (am_wI h1 0 12 ((h1.1 142 2))) 0 = some (10, 0) ∧ narrow (am_fty 10 13) (.int (((am_wI h1 0 12 ((h1.1 142 2))).1 142 3))) = .int (((am_wI h1 0 12 ((h1.1 142 2))).1 142 3)) ∧ fits (am_fty 10 13) (.int (((am_wI h1 0 12 ((h1.1 142 2))).1 142 3))) = true ∧ pz_S 4 (some .boolean) am_r114 2 Q 76 [(3, .ref 142), (0, .ref 0), (1, .int (nI 2)), (2, .int b)] [] (am_wI (am_wI h1 0 12 ((h1.1 142 2))) 0 13 (((am_wI h1 0 12 ((h1.1 142 2))).1 142 3))) from ⟨ex_142 p1, ex_0 p1, rfl, rfl, ?_⟩)
        refine am_goX 2 (show am_sh (am_wI (am_wI h1 0 12 ((h1.1 142 2))) 0 13 (((am_wI h1 0 12 ((h1.1 142 2))).1 142 3))) 0 = some (10, 0) ∧ pz_S 4 (some .boolean) am_r114 2 Q 80 [(3, .ref 142), (0, .ref 0), (1, .int (nI 2)), (2, .int b)] [am_rf ((am_wI (am_wI h1 0 12 ((h1.1 142 2))) 0 13 (((am_wI h1 0 12 ((h1.1 142 2))).1 142 3))).2.2.1 0 10)] (am_wI (am_wI h1 0 12 ((h1.1 142 2))) 0 13 (((am_wI h1 0 12 ((h1.1 142 2))).1 142 3))) from ⟨ex_0 p1, ?_⟩)
        rw [ex_r0_10 (h := am_wI (am_wI h1 0 12 ((h1.1 142 2))) 0 13 (((am_wI h1 0 12 ((h1.1 142 2))).1 142 3))) p1]
        refine am_goX 2 (show am_sh (am_wI (am_wI h1 0 12 ((h1.1 142 2))) 0 13 (((am_wI h1 0 12 ((h1.1 142 2))).1 142 3))) 47 = some (2, 0) ∧ narrow (am_fty 2 2) (.int ((Int32.ofInt 0))) = .int ((Int32.ofInt 0)) ∧ fits (am_fty 2 2) (.int ((Int32.ofInt 0))) = true ∧ pz_S 4 (some .boolean) am_r114 2 Q 84 [(3, .ref 142), (0, .ref 0), (1, .int (nI 2)), (2, .int b)] [] (am_wI (am_wI (am_wI h1 0 12 ((h1.1 142 2))) 0 13 (((am_wI h1 0 12 ((h1.1 142 2))).1 142 3))) 47 2 ((Int32.ofInt 0))) from ⟨ex_47 p1, rfl, rfl, ?_⟩)
        exact am_goX 2 (show (∃ ty, (some .boolean) = some ty ∧ narrow ty (.int ((Int32.ofInt 1))) = .int ((Int32.ofInt 1))) ∧ (am_wI (am_wI (am_wI h1 0 12 ((h1.1 142 2))) 0 13 (((am_wI h1 0 12 ((h1.1 142 2))).1 142 3))) 47 2 ((Int32.ofInt 0))).2.2.2.2 = 175 ∧ _ from ⟨⟨.boolean, rfl, rfl⟩, ex_175 p1, hQ 1 _ ⟨fun j hj => by rw [em_wn _ _ (by omega), em_wn _ _ (by omega), em_wn _ _ (by omega), p3 _ _ (by omega)], fun j => by rw [em_wn _ _ (by omega), em_wn _ _ (by omega), em_wn _ _ (by omega), p3 _ _ (by omega)], Or.inr ⟨2, by decide, rfl, Or.inr (Or.inr ⟨hc0, hc, rfl, fun j hj => by rw [em_wn _ _ (by omega), em_wn _ _ (by omega), em_wn _ _ (by omega), p3 _ _ (by omega)]⟩)⟩⟩⟩)
      ·
        exact am_goX 2 (show (∃ ty, (some .boolean) = some ty ∧ narrow ty (.int ((Int32.ofInt 0))) = .int ((Int32.ofInt 0))) ∧ h.2.2.2.2 = 175 ∧ _ from ⟨⟨.boolean, rfl, rfl⟩, ex_175 hP, hQ 0 h ⟨fun _ _ => rfl, fun _ => rfl, Or.inr ⟨2, by decide, rfl, Or.inr (Or.inl ⟨hc0, Decidable.not_not.mp hc, rfl, fun _ _ => rfl⟩)⟩⟩⟩)
    ·
      refine am_goX 3 (show am_sh h 0 = some (10, 0) ∧ pz_S 4 (some .boolean) am_r114 2 Q 27 [(3, .ref 142), (0, .ref 0), (1, .int (nI 2)), (2, .int b)] [am_rf (h.2.2.1 0 7), .ref 142] h from ⟨ex_0 hP, ?_⟩)
      rw [ex_r0_7 (h := h) hP]
      refine am_goX 5 (show am_sh h 0 = some (10, 0) ∧ am_sh h 0 = some (10, 0) ∧ am_rc h 142 5 ∧ 0 ≤ 8 ∧ h.2.2.2.2 + am_al 115 ≤ 175 ∧ am_call am_cod 2 115 [.ref 142, .ref 36, .int (h.1 0 12), .int (h.1 0 13)] h (fun vv h' => pz_S 4 (some .boolean) am_r114 2 Q 38 [(3, .ref 142), (0, .ref 0), (1, .int (nI 2)), (2, .int b)] (vv.toList ++ []) h') from ⟨ex_0 hP, ex_0 hP, Or.inl ⟨by decide, ex_142 hP⟩, by decide, ex_lim hP rfl, am_call.up (c_115_2 hP (fun h1 p1 p2 p3 p4 => ?_)) (by decide)⟩)
      exact am_goX 2 (show (∃ ty, (some .boolean) = some ty ∧ narrow ty (.int ((Int32.ofInt 1))) = .int ((Int32.ofInt 1))) ∧ h1.2.2.2.2 = 175 ∧ _ from ⟨⟨.boolean, rfl, rfl⟩, ex_175 p1, hQ 1 _ ⟨fun j hj => p3 171 j (by omega), fun j => p3 3000000 j (by omega), Or.inr ⟨2, by decide, rfl, Or.inl ⟨Decidable.not_not.mp hc0, rfl, p4, fun j hj hn => p3 _ _ (by omega)⟩⟩⟩⟩)
  ·
    refine am_goX 2 (show am_sh h 0 = some (10, 0) ∧ pz_S 4 (some .boolean) am_r114 2 Q 15 [(0, .ref 0), (1, .int (nI 3)), (2, .int b)] [am_rf (h.2.2.1 0 11)] h from ⟨ex_0 hP, ?_⟩)
    rw [ex_r0_11 (h := h) hP]
    refine am_goX 2 (show ∃ jj nn : Nat, (am_sh h 129 = some (16, nn) ∨ am_sh h 129 = some (17, nn)) ∧ jj < nn ∧ (nI 3) = nI jj ∧ pz_S 4 (some .boolean) am_r114 2 Q 17 [(0, .ref 0), (1, .int (nI 3)), (2, .int b)] [am_rf (h.2.2.1 129 jj)] h from ⟨3, 4, Or.inl (ex_129 hP), by decide, rfl, ?_⟩)
    rw [ex_r129_3 (h := h) hP]
    refine am_goX 3 (show 3 < 4 ∧ (¬ b = 0 → pz_S 4 (some .boolean) am_r114 2 Q 40 [(3, .ref 148), (0, .ref 0), (1, .int (nI 3)), (2, .int b)] [] h) ∧ (¬ ¬ b = 0 → pz_S 4 (some .boolean) am_r114 2 Q 22 [(3, .ref 148), (0, .ref 0), (1, .int (nI 3)), (2, .int b)] [] h) from ⟨by decide, fun hc0 => ?_, fun hc0 => ?_⟩)
    ·
      refine am_goX 3 (show am_sh h 148 = some (5, 0) ∧ (¬ (h.1 148 0) = 0 → pz_S 4 (some .boolean) am_r114 2 Q 49 [(3, .ref 148), (0, .ref 0), (1, .int (nI 3)), (2, .int b)] [] h) ∧ (¬ ¬ (h.1 148 0) = 0 → pz_S 4 (some .boolean) am_r114 2 Q 47 [(3, .ref 148), (0, .ref 0), (1, .int (nI 3)), (2, .int b)] [] h) from ⟨ex_148 hP, fun hc => ?_, fun hc => ?_⟩)
      ·
        refine am_goX 2 (show am_sh h 0 = some (10, 0) ∧ pz_S 4 (some .boolean) am_r114 2 Q 53 [(3, .ref 148), (0, .ref 0), (1, .int (nI 3)), (2, .int b)] [am_rf (h.2.2.1 0 7)] h from ⟨ex_0 hP, ?_⟩)
        rw [ex_r0_7 (h := h) hP]
        refine am_goX 2 (show am_sh h 148 = some (5, 0) ∧ pz_S 4 (some .boolean) am_r114 2 Q 57 [(3, .ref 148), (0, .ref 0), (1, .int (nI 3)), (2, .int b)] [am_rf (h.2.2.1 148 1), .ref 36] h from ⟨ex_148 hP, ?_⟩)
        rw [ex_r148_1 (h := h) hP]
        refine am_goX 1 (show am_rc h 36 6 ∧ 0 ≤ 8 ∧ h.2.2.2.2 + am_al 99 ≤ 175 ∧ am_call am_cod 2 99 [.ref 36, .ref 149] h (fun vv h' => pz_S 4 (some .boolean) am_r114 2 Q 60 [(3, .ref 148), (0, .ref 0), (1, .int (nI 3)), (2, .int b)] (vv.toList ++ []) h') from ⟨Or.inl ⟨by decide, ex_36 hP⟩, by decide, ex_lim hP rfl, am_call.up (c_99_36_149 hP (fun h1 p1 p2 p3 p4 => ?_)) (by decide)⟩)
        refine am_goX 4 (show am_sh h1 148 = some (5, 0) ∧ am_sh h1 0 = some (10, 0) ∧ narrow (am_fty 10 12) (.int ((h1.1 148 2))) = .int ((h1.1 148 2)) ∧ fits (am_fty 10 12) (.int ((h1.1 148 2))) = true ∧ pz_S 4 (some .boolean) am_r114 2 Q 68 [(3, .ref 148), (0, .ref 0), (1, .int (nI 3)), (2, .int b)] [] (am_wI h1 0 12 ((h1.1 148 2))) from ⟨ex_148 p1, ex_0 p1, rfl, rfl, ?_⟩)
        refine am_goX 4 (show am_sh (am_wI h1 0 12 ((h1.1 148 2))) 148 = some (5, 0) ∧ am_sh (am_wI h1 0 12 ((h1.1 148 2))) 0 = some (10, 0) ∧ narrow (am_fty 10 13) (.int (((am_wI h1 0 12 ((h1.1 148 2))).1 148 3))) = .int (((am_wI h1 0 12 ((h1.1 148 2))).1 148 3)) ∧ fits (am_fty 10 13) (.int (((am_wI h1 0 12 ((h1.1 148 2))).1 148 3))) = true ∧ pz_S 4 (some .boolean) am_r114 2 Q 76 [(3, .ref 148), (0, .ref 0), (1, .int (nI 3)), (2, .int b)] [] (am_wI (am_wI h1 0 12 ((h1.1 148 2))) 0 13 (((am_wI h1 0 12 ((h1.1 148 2))).1 148 3))) from ⟨ex_148 p1, ex_0 p1, rfl, rfl, ?_⟩)
        refine am_goX 2 (show am_sh (am_wI (am_wI h1 0 12 ((h1.1 148 2))) 0 13 (((am_wI h1 0 12 ((h1.1 148 2))).1 148 3))) 0 = some (10, 0) ∧ pz_S 4 (some .boolean) am_r114 2 Q 80 [(3, .ref 148), (0, .ref 0), (1, .int (nI 3)), (2, .int b)] [am_rf ((am_wI (am_wI h1 0 12 ((h1.1 148 2))) 0 13 (((am_wI h1 0 12 ((h1.1 148 2))).1 148 3))).2.2.1 0 10)] (am_wI (am_wI h1 0 12 ((h1.1 148 2))) 0 13 (((am_wI h1 0 12 ((h1.1 148 2))).1 148 3))) from ⟨ex_0 p1, ?_⟩)
        rw [ex_r0_10 (h := am_wI (am_wI h1 0 12 ((h1.1 148 2))) 0 13 (((am_wI h1 0 12 ((h1.1 148 2))).1 148 3))) p1]
        refine am_goX 2 (show am_sh (am_wI (am_wI h1 0 12 ((h1.1 148 2))) 0 13 (((am_wI h1 0 12 ((h1.1 148 2))).1 148 3))) 47 = some (2, 0) ∧ narrow (am_fty 2 2) (.int ((Int32.ofInt 0))) = .int ((Int32.ofInt 0)) ∧ fits (am_fty 2 2) (.int ((Int32.ofInt 0))) = true ∧ pz_S 4 (some .boolean) am_r114 2 Q 84 [(3, .ref 148), (0, .ref 0), (1, .int (nI 3)), (2, .int b)] [] (am_wI (am_wI (am_wI h1 0 12 ((h1.1 148 2))) 0 13 (((am_wI h1 0 12 ((h1.1 148 2))).1 148 3))) 47 2 ((Int32.ofInt 0))) from ⟨ex_47 p1, rfl, rfl, ?_⟩)
        exact am_goX 2 (show (∃ ty, (some .boolean) = some ty ∧ narrow ty (.int ((Int32.ofInt 1))) = .int ((Int32.ofInt 1))) ∧ (am_wI (am_wI (am_wI h1 0 12 ((h1.1 148 2))) 0 13 (((am_wI h1 0 12 ((h1.1 148 2))).1 148 3))) 47 2 ((Int32.ofInt 0))).2.2.2.2 = 175 ∧ _ from ⟨⟨.boolean, rfl, rfl⟩, ex_175 p1, hQ 1 _ ⟨fun j hj => by rw [em_wn _ _ (by omega), em_wn _ _ (by omega), em_wn _ _ (by omega), p3 _ _ (by omega)], fun j => by rw [em_wn _ _ (by omega), em_wn _ _ (by omega), em_wn _ _ (by omega), p3 _ _ (by omega)], Or.inr ⟨3, by decide, rfl, Or.inr (Or.inr ⟨hc0, hc, rfl, fun j hj => by rw [em_wn _ _ (by omega), em_wn _ _ (by omega), em_wn _ _ (by omega), p3 _ _ (by omega)]⟩)⟩⟩⟩)
      ·
        exact am_goX 2 (show (∃ ty, (some .boolean) = some ty ∧ narrow ty (.int ((Int32.ofInt 0))) = .int ((Int32.ofInt 0))) ∧ h.2.2.2.2 = 175 ∧ _ from ⟨⟨.boolean, rfl, rfl⟩, ex_175 hP, hQ 0 h ⟨fun _ _ => rfl, fun _ => rfl, Or.inr ⟨3, by decide, rfl, Or.inr (Or.inl ⟨hc0, Decidable.not_not.mp hc, rfl, fun _ _ => rfl⟩)⟩⟩⟩)
    ·
      refine am_goX 3 (show am_sh h 0 = some (10, 0) ∧ pz_S 4 (some .boolean) am_r114 2 Q 27 [(3, .ref 148), (0, .ref 0), (1, .int (nI 3)), (2, .int b)] [am_rf (h.2.2.1 0 7), .ref 148] h from ⟨ex_0 hP, ?_⟩)
      rw [ex_r0_7 (h := h) hP]
      refine am_goX 5 (show am_sh h 0 = some (10, 0) ∧ am_sh h 0 = some (10, 0) ∧ am_rc h 148 5 ∧ 0 ≤ 8 ∧ h.2.2.2.2 + am_al 115 ≤ 175 ∧ am_call am_cod 2 115 [.ref 148, .ref 36, .int (h.1 0 12), .int (h.1 0 13)] h (fun vv h' => pz_S 4 (some .boolean) am_r114 2 Q 38 [(3, .ref 148), (0, .ref 0), (1, .int (nI 3)), (2, .int b)] (vv.toList ++ []) h') from ⟨ex_0 hP, ex_0 hP, Or.inl ⟨by decide, ex_148 hP⟩, by decide, ex_lim hP rfl, am_call.up (c_115_3 hP (fun h1 p1 p2 p3 p4 => ?_)) (by decide)⟩)
      exact am_goX 2 (show (∃ ty, (some .boolean) = some ty ∧ narrow ty (.int ((Int32.ofInt 1))) = .int ((Int32.ofInt 1))) ∧ h1.2.2.2.2 = 175 ∧ _ from ⟨⟨.boolean, rfl, rfl⟩, ex_175 p1, hQ 1 _ ⟨fun j hj => p3 171 j (by omega), fun j => p3 3000000 j (by omega), Or.inr ⟨3, by decide, rfl, Or.inl ⟨Decidable.not_not.mp hc0, rfl, p4, fun j hj hn => p3 _ _ (by omega)⟩⟩⟩⟩)
theorem r_232l {A B : Nat} (hA : A + 49 ≤ 1127) (hB : B + 49 ≤ 1127) (hd : A + 49 ≤ B ∨ B + 49 ≤ A) : ∀ (m i : Nat) (h : am_H), i + m = 49 → ex_P h → (∀ j, j < i → h.1 170 (B + j) = h.1 170 (A + j)) → (∀ h1, ex_P h1 → h1.2 = h.2 → (∀ o k, ¬ (o = 170 ∧ B ≤ k ∧ k < B + 49) → h1.1 o k = h.1 o k) → (∀ j, j < 49 → h1.1 170 (B + j) = h.1 170 (A + j)) → Q none h1) → pz_S 5 none am_r232 0 Q 3 [(4, .int (nI i)), (0, .ref 154), (1, .int (nI A)), (2, .int (nI B)), (3, .int (Int8.ofInt 49).toInt32)] [] h := by
  intro m
  induction m with
  | zero =>
    intro i h hi hP hj hQ
    refine am_goX 3 (show ((Int8.ofInt 49).toInt32 ≤ (nI i) → pz_S 5 none am_r232 0 Q 33 [(4, .int (nI i)), (0, .ref 154), (1, .int (nI A)), (2, .int (nI B)), (3, .int (Int8.ofInt 49).toInt32)] [] h) ∧ (¬ ((Int8.ofInt 49).toInt32 ≤ (nI i)) → pz_S 5 none am_r232 0 Q 9 [(4, .int (nI i)), (0, .ref 154), (1, .int (nI A)), (2, .int (nI B)), (3, .int (Int8.ofInt 49).toInt32)] [] h) from ⟨fun _ => ?_, fun hz => absurd (show nI 49 ≤ nI i from nI_le (by omega) (by omega)) hz⟩)
    exact am_goX 1 (show (none : Option FieldType) = none ∧ h.2.2.2.2 = 175 ∧ _ from ⟨rfl, ex_175 hP, hQ _ hP rfl (fun _ _ _ => rfl) (fun j hj1 => hj j (by omega))⟩)
  | succ m ih =>
    intro i h hi hP hj hQ
    refine am_goX 3 (show ((Int8.ofInt 49).toInt32 ≤ (nI i) → pz_S 5 none am_r232 0 Q 33 [(4, .int (nI i)), (0, .ref 154), (1, .int (nI A)), (2, .int (nI B)), (3, .int (Int8.ofInt 49).toInt32)] [] h) ∧ (¬ ((Int8.ofInt 49).toInt32 ≤ (nI i)) → pz_S 5 none am_r232 0 Q 9 [(4, .int (nI i)), (0, .ref 154), (1, .int (nI A)), (2, .int (nI B)), (3, .int (Int8.ofInt 49).toInt32)] [] h) from ⟨fun hz => absurd hz (show ¬ nI 49 ≤ nI i by rw [nI_leI (by omega) (by omega)]; omega), fun _ => ?_⟩)
    refine am_goX 2 (show am_sh h 154 = some (11, 0) ∧ pz_S 5 none am_r232 0 Q 13 [(4, .int (nI i)), (0, .ref 154), (1, .int (nI A)), (2, .int (nI B)), (3, .int (Int8.ofInt 49).toInt32)] [am_rf (h.2.2.1 154 24)] h from ⟨ex_154 hP, ?_⟩)
    rw [ex_r154_24 (h := h) hP]
    refine am_goX 5 (show am_sh h 154 = some (11, 0) ∧ pz_S 5 none am_r232 0 Q 21 [(4, .int (nI i)), (0, .ref 154), (1, .int (nI A)), (2, .int (nI B)), (3, .int (Int8.ofInt 49).toInt32)] [am_rf (h.2.2.1 154 24), .int ((nI B) + (nI i)), .ref 170] h from ⟨ex_154 hP, ?_⟩)
    rw [ex_r154_24 (h := h) hP]
    refine am_goX 4 (show ∃ jj nn : Nat, am_sh h 170 = some (13, nn) ∧ jj < nn ∧ ((nI A) + (nI i)) = nI jj ∧ pz_S 5 none am_r232 0 Q 26 [(4, .int (nI i)), (0, .ref 154), (1, .int (nI A)), (2, .int (nI B)), (3, .int (Int8.ofInt 49).toInt32)] [.int (h.1 170 jj), .int ((nI B) + (nI i)), .ref 170] h from ⟨(A + i), 1127, ex_170 hP, by omega, nI_add A i, ?_⟩)
    refine am_goX 1 (show ∃ jj nn : Nat, am_so h 170 = some (13, nn) ∧ jj < nn ∧ ((nI B) + (nI i)) = nI jj ∧ pz_S 5 none am_r232 0 Q 27 [(4, .int (nI i)), (0, .ref 154), (1, .int (nI A)), (2, .int (nI B)), (3, .int (Int8.ofInt 49).toInt32)] [] (am_wI h 170 jj (h.1 170 (A + i))) from ⟨B + i, 1127, ex_w170 hP, by omega, nI_add B i, ?_⟩)
    refine am_goX 2 (show 4 < 5 ∧ pz_S 5 none am_r232 0 Q 3 [(4, .int ((nI i) + Int32.ofInt 1)), (0, .ref 154), (1, .int (nI A)), (2, .int (nI B)), (3, .int (Int8.ofInt 49).toInt32)] [] (am_wI h 170 (B + i) (h.1 170 (A + i))) from ⟨by decide, ?_⟩)
    rw [xw_i1]
    refine ih (i + 1) _ (by omega) hP (fun j hj1 => ?_) (fun h1 p1 p2 p3 p4 => hQ h1 p1 p2 (fun o k hn => (p3 o k hn).trans (em_wn _ _ (by omega))) (fun j hj1 => (p4 j hj1).trans (em_wn _ _ (by omega))))
    by_cases ej : j = i
    · rw [ej, em_we, em_wn _ _ (by omega)]
    · rw [em_wn _ _ (by omega), em_wn _ _ (by omega)]
      exact hj j (by omega)
theorem r_232 {A B : Nat} {x y : Int32} (hx : x = nI A) (hy : y = nI B) (hA : A + 49 ≤ 1127) (hB : B + 49 ≤ 1127) (hd : A + 49 ≤ B ∨ B + 49 ≤ A) (hP : ex_P h) (hQ : ∀ h1, ex_P h1 → h1.2 = h.2 → (∀ o k, ¬ (o = 170 ∧ B ≤ k ∧ k < B + 49) → h1.1 o k = h.1 o k) → (∀ j, j < 49 → h1.1 170 (B + j) = h.1 170 (A + j)) → Q none h1) : am_call am_cod 1 232 [.ref 154, .int x, .int y, .int (Int8.ofInt 49).toInt32] h Q := by
  rw [hx, hy]
  refine pz_call (n := 232) (nL := 5) (rt := none) (rows := am_r232) (d := 0) (by decide +kernel) (by decide +kernel) rfl (by funext pc; rfl) (ex_175 hP) (by exact Nat.le_of_ble_eq_true rfl) ?_
  refine am_goX 2 (show 4 < 5 ∧ pz_S 5 none am_r232 0 Q 3 [(4, .int (Int32.ofInt 0)), (0, .ref 154), (1, .int (nI A)), (2, .int (nI B)), (3, .int (Int8.ofInt 49).toInt32)] [] h from ⟨by decide, ?_⟩)
  exact r_232l hA hB hd 49 0 h rfl hP (fun j hj => absurd hj (Nat.not_lt_zero j)) hQ
theorem b_207 {x lo hi : Int32} (hP : ex_P h) (hQ : Q (some (.int (pz_b (decide (lo ≤ x) && decide (x ≤ hi))))) h) : am_call am_cod 1 207 [.int x, .int lo, .int hi] h Q := by
  refine pz_call (n := 207) (nL := 3) (rt := (some .boolean)) (rows := am_r207) (d := 0) (by decide +kernel) (by decide +kernel) rfl (by funext pc; rfl) (ex_175 hP) (by exact Nat.le_of_ble_eq_true rfl) ?_
  refine am_goX 3 (show (x < lo → pz_S 3 (some .boolean) am_r207 0 Q 14 [(0, .int x), (1, .int lo), (2, .int hi)] [] h) ∧ (¬ (x < lo) → pz_S 3 (some .boolean) am_r207 0 Q 5 [(0, .int x), (1, .int lo), (2, .int hi)] [] h) from ⟨fun hc => ?_, fun hc => ?_⟩)
  · rw [decide_eq_false (Int32.not_le.mpr hc), Bool.false_and] at hQ
    exact am_goX 2 (show (∃ ty, (some .boolean) = some ty ∧ narrow ty (.int ((Int32.ofInt 0))) = .int ((Int32.ofInt 0))) ∧ h.2.2.2.2 = 175 ∧ _ from ⟨⟨.boolean, rfl, rfl⟩, ex_175 hP, hQ⟩)
  rw [decide_eq_true (Int32.not_lt.mp hc), Bool.true_and] at hQ
  clear hc
  refine am_goX 3 (show (hi < x → pz_S 3 (some .boolean) am_r207 0 Q 14 [(0, .int x), (1, .int lo), (2, .int hi)] [] h) ∧ (¬ (hi < x) → pz_S 3 (some .boolean) am_r207 0 Q 10 [(0, .int x), (1, .int lo), (2, .int hi)] [] h) from ⟨fun hc => ?_, fun hc => ?_⟩)
  · rw [decide_eq_false (Int32.not_le.mpr hc)] at hQ
    exact am_goX 2 (show (∃ ty, (some .boolean) = some ty ∧ narrow ty (.int ((Int32.ofInt 0))) = .int ((Int32.ofInt 0))) ∧ h.2.2.2.2 = 175 ∧ _ from ⟨⟨.boolean, rfl, rfl⟩, ex_175 hP, hQ⟩)
  · rw [decide_eq_true (Int32.not_lt.mp hc)] at hQ
    exact am_goX 3 (show (∃ ty, (some .boolean) = some ty ∧ narrow ty (.int ((Int32.ofInt 1))) = .int ((Int32.ofInt 1))) ∧ h.2.2.2.2 = 175 ∧ _ from ⟨⟨.boolean, rfl, rfl⟩, ex_175 hP, hQ⟩)
theorem r_291 {k b : Int32} (hP : ex_P h) (hQ : ∀ r h1, mkR k b h r h1 → Q (some (.int r)) h1) : am_call am_cod 2 291 [.ref 154, .int k, .int b] h Q := by
  refine pz_call (n := 291) (nL := 3) (rt := (some .boolean)) (rows := am_r291) (d := 1) (by decide +kernel) (by decide +kernel) rfl (by funext pc; rfl) (ex_175 hP) (by exact Nat.le_of_ble_eq_true rfl) ?_
  refine am_goX 3 (show am_sh h 154 = some (11, 0) ∧ narrow (am_fty 11 0) (.int ((Int32.ofInt 0))) = .int ((Int32.ofInt 0)) ∧ fits (am_fty 11 0) (.int ((Int32.ofInt 0))) = true ∧ pz_S 3 (some .boolean) am_r291 1 Q 5 [(0, .ref 154), (1, .int k), (2, .int b)] [] (am_wI h 154 0 ((Int32.ofInt 0))) from ⟨ex_154 hP, rfl, rfl, ?_⟩)
  have e0 : ∀ o q, ¬ (o = 154 ∧ q = 0) → (am_wI h 154 0 ((Int32.ofInt 0))).1 o q = h.1 o q := fun o q hn => em_wn _ _ hn
  have e2 : (am_wI h 154 0 ((Int32.ofInt 0))).2 = h.2 := rfl
  have hP0 : ex_P (am_wI h 154 0 ((Int32.ofInt 0))) := hP
  generalize am_wI h 154 0 ((Int32.ofInt 0)) = g at e0 e2 hP0 ⊢
  refine am_goX 4 (show 0 ≤ 8 ∧ g.2.2.2.2 + am_al 207 ≤ 175 ∧ am_call am_cod 1 207 [.int k, .int (Int32.ofInt 0), .int (Int32.ofInt 3)] g (fun vv h' => pz_S 3 (some .boolean) am_r291 1 Q 11 [(0, .ref 154), (1, .int k), (2, .int b)] (vv.toList ++ []) h') from ⟨by decide, ex_lim hP0 rfl, b_207 hP0 ?_⟩)
  by_cases h3 : Int32.ofInt 0 ≤ k ∧ k ≤ Int32.ofInt 3
  rotate_left
  · have e : (decide (Int32.ofInt 0 ≤ k) && decide (k ≤ Int32.ofInt 3)) = false := by
      cases e1 : decide (Int32.ofInt 0 ≤ k) with
      | false => rfl
      | true =>
        cases e2 : decide (k ≤ Int32.ofInt 3) with
        | false => rfl
        | true => exact absurd ⟨of_decide_eq_true e1, of_decide_eq_true e2⟩ h3
    rw [e]
    refine am_goX 1 (show ((pz_b (false)) = 0 → pz_S 3 (some .boolean) am_r291 1 Q 27 [(0, .ref 154), (1, .int k), (2, .int b)] [] g) ∧ (¬ ((pz_b (false)) = 0) → pz_S 3 (some .boolean) am_r291 1 Q 14 [(0, .ref 154), (1, .int k), (2, .int b)] [] g) from ⟨fun _ => ?_, fun hz => absurd (by decide) hz⟩)
    exact am_goX 2 (show (∃ ty, (some .boolean) = some ty ∧ narrow ty (.int ((Int32.ofInt 0))) = .int ((Int32.ofInt 0))) ∧ g.2.2.2.2 = 175 ∧ _ from ⟨⟨.boolean, rfl, rfl⟩, ex_175 hP0, hQ 0 g ⟨fun j hj => e0 _ _ (by omega), Or.inl ⟨h3, rfl, fun j hj => e0 _ _ (by omega)⟩⟩⟩)
  rw [decide_eq_true h3.1, decide_eq_true h3.2]
  show pz_S 3 (some .boolean) am_r291 1 Q 11 [(0, .ref 154), (1, .int k), (2, .int b)] [.int 1] g
  refine am_goX 1 (show (1 = 0 → pz_S 3 (some .boolean) am_r291 1 Q 27 [(0, .ref 154), (1, .int k), (2, .int b)] [] g) ∧ (¬ (1 = 0) → pz_S 3 (some .boolean) am_r291 1 Q 14 [(0, .ref 154), (1, .int k), (2, .int b)] [] g) from ⟨fun hz => absurd hz (by decide), fun _ => ?_⟩)
  rcases in03 h3.1 h3.2 with rfl | rfl | rfl | rfl
  ·
    refine am_goX 2 (show (b = 0 → pz_S 3 (some .boolean) am_r291 1 Q 29 [(0, .ref 154), (1, .int (nI 0)), (2, .int b)] [] g) ∧ (¬ (b = 0) → pz_S 3 (some .boolean) am_r291 1 Q 18 [(0, .ref 154), (1, .int (nI 0)), (2, .int b)] [] g) from ⟨fun hc0 => ?_, fun hc0 => ?_⟩)
    ·
      refine am_goX 2 (show am_sh g 154 = some (11, 0) ∧ pz_S 3 (some .boolean) am_r291 1 Q 33 [(0, .ref 154), (1, .int (nI 0)), (2, .int b)] [am_rf (g.2.2.1 154 26)] g from ⟨ex_154 hP0, ?_⟩)
      rw [ex_r154_26 (h := g) hP0]
      refine am_goX 3 (show ∃ jj nn : Nat, am_so g 171 = some (15, nn) ∧ jj < nn ∧ (nI 0) = nI jj ∧ pz_S 3 (some .boolean) am_r291 1 Q 36 [(0, .ref 154), (1, .int (nI 0)), (2, .int b)] [] (am_wI g 171 jj (vp_nar .boolean (Int32.ofInt 1))) from ⟨0, 4, ex_w171 hP0, by decide, rfl, ?_⟩)
      refine am_goX 3 (show (b = 0 → pz_S 3 (some .boolean) am_r291 1 Q 50 [(0, .ref 154), (1, .int (nI 0)), (2, .int b)] [.ref 154] (am_wI g 171 0 (vp_nar .boolean (Int32.ofInt 1)))) ∧ (¬ (b = 0) → pz_S 3 (some .boolean) am_r291 1 Q 41 [(0, .ref 154), (1, .int (nI 0)), (2, .int b)] [.ref 154] (am_wI g 171 0 (vp_nar .boolean (Int32.ofInt 1)))) from ⟨fun _ => ?_, fun hz => absurd hc0 hz⟩)
      refine am_goX 3 (show (b = 0 → pz_S 3 (some .boolean) am_r291 1 Q 59 [(0, .ref 154), (1, .int (nI 0)), (2, .int b)] [.int (Int32.ofInt 0), .ref 154] (am_wI g 171 0 (vp_nar .boolean (Int32.ofInt 1)))) ∧ (¬ (b = 0) → pz_S 3 (some .boolean) am_r291 1 Q 55 [(0, .ref 154), (1, .int (nI 0)), (2, .int b)] [.int (Int32.ofInt 0), .ref 154] (am_wI g 171 0 (vp_nar .boolean (Int32.ofInt 1)))) from ⟨fun _ => ?_, fun hz => absurd hc0 hz⟩)
      refine am_goX 7 (show am_rc (am_wI g 171 0 (vp_nar .boolean (Int32.ofInt 1))) 154 11 ∧ 0 ≤ 8 ∧ (am_wI g 171 0 (vp_nar .boolean (Int32.ofInt 1))).2.2.2.2 + am_al 232 ≤ 175 ∧ am_call am_cod 1 232 [.ref 154, .int (Int32.ofInt 0), .int ((Int8.ofInt 49).toInt32 * ((Int32.ofInt 1) + (nI 0))), .int (Int8.ofInt 49).toInt32] (am_wI g 171 0 (vp_nar .boolean (Int32.ofInt 1))) (fun vv h' => pz_S 3 (some .boolean) am_r291 1 Q 70 [(0, .ref 154), (1, .int (nI 0)), (2, .int b)] (vv.toList ++ []) h') from ⟨Or.inl ⟨by decide, ex_154 hP0⟩, by decide, ex_lim hP0 rfl, r_232 (A := 0) (B := 49) (by decide) (by decide) (by decide) (by decide) (by decide) hP0 (fun h1 p1 p2 p3 p4 => ?_)⟩)
      refine am_goX 3 (show (b = 0 → pz_S 3 (some .boolean) am_r291 1 Q 79 [(0, .ref 154), (1, .int (nI 0)), (2, .int b)] [.ref 154] h1) ∧ (¬ (b = 0) → pz_S 3 (some .boolean) am_r291 1 Q 75 [(0, .ref 154), (1, .int (nI 0)), (2, .int b)] [.ref 154] h1) from ⟨fun _ => ?_, fun hz => absurd hc0 hz⟩)
      refine am_goX 3 (show am_sh h1 154 = some (11, 0) ∧ am_sh h1 154 = some (11, 0) ∧ narrow (am_fty 11 25) (.int ((h1.1 154 25))) = .int ((h1.1 154 25)) ∧ fits (am_fty 11 25) (.int ((h1.1 154 25))) = true ∧ pz_S 3 (some .boolean) am_r291 1 Q 86 [(0, .ref 154), (1, .int (nI 0)), (2, .int b)] [] (am_wI h1 154 25 ((h1.1 154 25))) from ⟨ex_154 p1, ex_154 p1, rfl, rfl, ?_⟩)
      exact am_goX 2 (show (∃ ty, (some .boolean) = some ty ∧ narrow ty (.int ((Int32.ofInt 1))) = .int ((Int32.ofInt 1))) ∧ (am_wI h1 154 25 ((h1.1 154 25))).2.2.2.2 = 175 ∧ _ from ⟨⟨.boolean, rfl, rfl⟩, ex_175 p1, hQ 1 _ ⟨fun j hj => by rw [em_wn _ _ (by omega), p3 _ _ (by omega), em_wn _ _ (by omega), e0 _ _ (by omega)], Or.inr ⟨0, by decide, rfl, Or.inr ⟨Or.inl hc0, rfl, by rw [em_wn _ _ (by omega), p3 _ _ (by omega), em_we]; rfl, fun j hj hn => by rw [em_wn _ _ (by omega), p3 _ _ (by omega), em_wn _ _ (by omega), e0 _ _ (by omega)]⟩⟩⟩⟩)
    ·
      refine am_goX 2 (show am_sh g 154 = some (11, 0) ∧ pz_S 3 (some .boolean) am_r291 1 Q 22 [(0, .ref 154), (1, .int (nI 0)), (2, .int b)] [am_rf (g.2.2.1 154 26)] g from ⟨ex_154 hP0, ?_⟩)
      rw [ex_r154_26 (h := g) hP0]
      refine am_goX 2 (show ((∃ jj nn : Nat, am_sh g 171 = some (15, nn) ∧ jj < nn ∧ (nI 0) = nI jj ∧ pz_S 3 (some .boolean) am_r291 1 Q 24 [(0, .ref 154), (1, .int (nI 0)), (2, .int b)] [.int (g.1 171 jj)] g) ∨ _) from Or.inl ⟨0, 4, ex_171 hP0, by decide, rfl, ?_⟩)
      refine am_goX 1 (show (¬ (g.1 171 0) = 0 → pz_S 3 (some .boolean) am_r291 1 Q 29 [(0, .ref 154), (1, .int (nI 0)), (2, .int b)] [] g) ∧ (¬ ¬ (g.1 171 0) = 0 → pz_S 3 (some .boolean) am_r291 1 Q 27 [(0, .ref 154), (1, .int (nI 0)), (2, .int b)] [] g) from ⟨fun hc => ?_, fun hc => ?_⟩)
      ·
        refine am_goX 2 (show am_sh g 154 = some (11, 0) ∧ pz_S 3 (some .boolean) am_r291 1 Q 33 [(0, .ref 154), (1, .int (nI 0)), (2, .int b)] [am_rf (g.2.2.1 154 26)] g from ⟨ex_154 hP0, ?_⟩)
        rw [ex_r154_26 (h := g) hP0]
        refine am_goX 3 (show ∃ jj nn : Nat, am_so g 171 = some (15, nn) ∧ jj < nn ∧ (nI 0) = nI jj ∧ pz_S 3 (some .boolean) am_r291 1 Q 36 [(0, .ref 154), (1, .int (nI 0)), (2, .int b)] [] (am_wI g 171 jj (vp_nar .boolean (Int32.ofInt 1))) from ⟨0, 4, ex_w171 hP0, by decide, rfl, ?_⟩)
        refine am_goX 3 (show (b = 0 → pz_S 3 (some .boolean) am_r291 1 Q 50 [(0, .ref 154), (1, .int (nI 0)), (2, .int b)] [.ref 154] (am_wI g 171 0 (vp_nar .boolean (Int32.ofInt 1)))) ∧ (¬ (b = 0) → pz_S 3 (some .boolean) am_r291 1 Q 41 [(0, .ref 154), (1, .int (nI 0)), (2, .int b)] [.ref 154] (am_wI g 171 0 (vp_nar .boolean (Int32.ofInt 1)))) from ⟨fun hz => absurd hz hc0, fun _ => ?_⟩)
        refine am_goX 8 (show (b = 0 → pz_S 3 (some .boolean) am_r291 1 Q 59 [(0, .ref 154), (1, .int (nI 0)), (2, .int b)] [.int ((Int8.ofInt 49).toInt32 * ((Int32.ofInt 1) + (nI 0))), .ref 154] (am_wI g 171 0 (vp_nar .boolean (Int32.ofInt 1)))) ∧ (¬ (b = 0) → pz_S 3 (some .boolean) am_r291 1 Q 55 [(0, .ref 154), (1, .int (nI 0)), (2, .int b)] [.int ((Int8.ofInt 49).toInt32 * ((Int32.ofInt 1) + (nI 0))), .ref 154] (am_wI g 171 0 (vp_nar .boolean (Int32.ofInt 1)))) from ⟨fun hz => absurd hz hc0, fun _ => ?_⟩)
        refine am_goX 4 (show am_rc (am_wI g 171 0 (vp_nar .boolean (Int32.ofInt 1))) 154 11 ∧ 0 ≤ 8 ∧ (am_wI g 171 0 (vp_nar .boolean (Int32.ofInt 1))).2.2.2.2 + am_al 232 ≤ 175 ∧ am_call am_cod 1 232 [.ref 154, .int ((Int8.ofInt 49).toInt32 * ((Int32.ofInt 1) + (nI 0))), .int (Int32.ofInt 0), .int (Int8.ofInt 49).toInt32] (am_wI g 171 0 (vp_nar .boolean (Int32.ofInt 1))) (fun vv h' => pz_S 3 (some .boolean) am_r291 1 Q 70 [(0, .ref 154), (1, .int (nI 0)), (2, .int b)] (vv.toList ++ []) h') from ⟨Or.inl ⟨by decide, ex_154 hP0⟩, by decide, ex_lim hP0 rfl, r_232 (A := 49) (B := 0) (by decide) (by decide) (by decide) (by decide) (by decide) hP0 (fun h1 p1 p2 p3 p4 => ?_)⟩)
        refine am_goX 3 (show (b = 0 → pz_S 3 (some .boolean) am_r291 1 Q 79 [(0, .ref 154), (1, .int (nI 0)), (2, .int b)] [.ref 154] h1) ∧ (¬ (b = 0) → pz_S 3 (some .boolean) am_r291 1 Q 75 [(0, .ref 154), (1, .int (nI 0)), (2, .int b)] [.ref 154] h1) from ⟨fun hz => absurd hz hc0, fun _ => ?_⟩)
        refine am_goX 3 (show am_sh h1 154 = some (11, 0) ∧ narrow (am_fty 11 25) (.int ((Int32.ofInt 0))) = .int ((Int32.ofInt 0)) ∧ fits (am_fty 11 25) (.int ((Int32.ofInt 0))) = true ∧ pz_S 3 (some .boolean) am_r291 1 Q 86 [(0, .ref 154), (1, .int (nI 0)), (2, .int b)] [] (am_wI h1 154 25 ((Int32.ofInt 0))) from ⟨ex_154 p1, rfl, rfl, ?_⟩)
        exact am_goX 2 (show (∃ ty, (some .boolean) = some ty ∧ narrow ty (.int ((Int32.ofInt 1))) = .int ((Int32.ofInt 1))) ∧ (am_wI h1 154 25 ((Int32.ofInt 0))).2.2.2.2 = 175 ∧ _ from ⟨⟨.boolean, rfl, rfl⟩, ex_175 p1, hQ 1 _ ⟨fun j hj => by rw [em_wn _ _ (by omega), p3 _ _ (by omega), em_wn _ _ (by omega), e0 _ _ (by omega)], Or.inr ⟨0, by decide, rfl, Or.inr ⟨Or.inr (fun w => hc ((e0 _ _ (by omega)).trans w)), rfl, by rw [em_wn _ _ (by omega), p3 _ _ (by omega), em_we]; rfl, fun j hj hn => by rw [em_wn _ _ (by omega), p3 _ _ (by omega), em_wn _ _ (by omega), e0 _ _ (by omega)]⟩⟩⟩⟩)
      ·
        exact am_goX 2 (show (∃ ty, (some .boolean) = some ty ∧ narrow ty (.int ((Int32.ofInt 0))) = .int ((Int32.ofInt 0))) ∧ g.2.2.2.2 = 175 ∧ _ from ⟨⟨.boolean, rfl, rfl⟩, ex_175 hP0, hQ 0 g ⟨fun j hj => e0 _ _ (by omega), Or.inr ⟨0, by decide, rfl, Or.inl ⟨hc0, (e0 _ _ (by omega)).symm.trans (Decidable.not_not.mp hc), rfl, fun j hj => e0 _ _ (by omega)⟩⟩⟩⟩)
  ·
    refine am_goX 2 (show (b = 0 → pz_S 3 (some .boolean) am_r291 1 Q 29 [(0, .ref 154), (1, .int (nI 1)), (2, .int b)] [] g) ∧ (¬ (b = 0) → pz_S 3 (some .boolean) am_r291 1 Q 18 [(0, .ref 154), (1, .int (nI 1)), (2, .int b)] [] g) from ⟨fun hc0 => ?_, fun hc0 => ?_⟩)
    ·
      refine am_goX 2 (show am_sh g 154 = some (11, 0) ∧ pz_S 3 (some .boolean) am_r291 1 Q 33 [(0, .ref 154), (1, .int (nI 1)), (2, .int b)] [am_rf (g.2.2.1 154 26)] g from ⟨ex_154 hP0, ?_⟩)
      rw [ex_r154_26 (h := g) hP0]
      refine am_goX 3 (show ∃ jj nn : Nat, am_so g 171 = some (15, nn) ∧ jj < nn ∧ (nI 1) = nI jj ∧ pz_S 3 (some .boolean) am_r291 1 Q 36 [(0, .ref 154), (1, .int (nI 1)), (2, .int b)] [] (am_wI g 171 jj (vp_nar .boolean (Int32.ofInt 1))) from ⟨1, 4, ex_w171 hP0, by decide, rfl, ?_⟩)
      refine am_goX 3 (show (b = 0 → pz_S 3 (some .boolean) am_r291 1 Q 50 [(0, .ref 154), (1, .int (nI 1)), (2, .int b)] [.ref 154] (am_wI g 171 1 (vp_nar .boolean (Int32.ofInt 1)))) ∧ (¬ (b = 0) → pz_S 3 (some .boolean) am_r291 1 Q 41 [(0, .ref 154), (1, .int (nI 1)), (2, .int b)] [.ref 154] (am_wI g 171 1 (vp_nar .boolean (Int32.ofInt 1)))) from ⟨fun _ => ?_, fun hz => absurd hc0 hz⟩)
      refine am_goX 3 (show (b = 0 → pz_S 3 (some .boolean) am_r291 1 Q 59 [(0, .ref 154), (1, .int (nI 1)), (2, .int b)] [.int (Int32.ofInt 0), .ref 154] (am_wI g 171 1 (vp_nar .boolean (Int32.ofInt 1)))) ∧ (¬ (b = 0) → pz_S 3 (some .boolean) am_r291 1 Q 55 [(0, .ref 154), (1, .int (nI 1)), (2, .int b)] [.int (Int32.ofInt 0), .ref 154] (am_wI g 171 1 (vp_nar .boolean (Int32.ofInt 1)))) from ⟨fun _ => ?_, fun hz => absurd hc0 hz⟩)
      refine am_goX 7 (show am_rc (am_wI g 171 1 (vp_nar .boolean (Int32.ofInt 1))) 154 11 ∧ 0 ≤ 8 ∧ (am_wI g 171 1 (vp_nar .boolean (Int32.ofInt 1))).2.2.2.2 + am_al 232 ≤ 175 ∧ am_call am_cod 1 232 [.ref 154, .int (Int32.ofInt 0), .int ((Int8.ofInt 49).toInt32 * ((Int32.ofInt 1) + (nI 1))), .int (Int8.ofInt 49).toInt32] (am_wI g 171 1 (vp_nar .boolean (Int32.ofInt 1))) (fun vv h' => pz_S 3 (some .boolean) am_r291 1 Q 70 [(0, .ref 154), (1, .int (nI 1)), (2, .int b)] (vv.toList ++ []) h') from ⟨Or.inl ⟨by decide, ex_154 hP0⟩, by decide, ex_lim hP0 rfl, r_232 (A := 0) (B := 98) (by decide) (by decide) (by decide) (by decide) (by decide) hP0 (fun h1 p1 p2 p3 p4 => ?_)⟩)
      refine am_goX 3 (show (b = 0 → pz_S 3 (some .boolean) am_r291 1 Q 79 [(0, .ref 154), (1, .int (nI 1)), (2, .int b)] [.ref 154] h1) ∧ (¬ (b = 0) → pz_S 3 (some .boolean) am_r291 1 Q 75 [(0, .ref 154), (1, .int (nI 1)), (2, .int b)] [.ref 154] h1) from ⟨fun _ => ?_, fun hz => absurd hc0 hz⟩)
      refine am_goX 3 (show am_sh h1 154 = some (11, 0) ∧ am_sh h1 154 = some (11, 0) ∧ narrow (am_fty 11 25) (.int ((h1.1 154 25))) = .int ((h1.1 154 25)) ∧ fits (am_fty 11 25) (.int ((h1.1 154 25))) = true ∧ pz_S 3 (some .boolean) am_r291 1 Q 86 [(0, .ref 154), (1, .int (nI 1)), (2, .int b)] [] (am_wI h1 154 25 ((h1.1 154 25))) from ⟨ex_154 p1, ex_154 p1, rfl, rfl, ?_⟩)
      exact am_goX 2 (show (∃ ty, (some .boolean) = some ty ∧ narrow ty (.int ((Int32.ofInt 1))) = .int ((Int32.ofInt 1))) ∧ (am_wI h1 154 25 ((h1.1 154 25))).2.2.2.2 = 175 ∧ _ from ⟨⟨.boolean, rfl, rfl⟩, ex_175 p1, hQ 1 _ ⟨fun j hj => by rw [em_wn _ _ (by omega), p3 _ _ (by omega), em_wn _ _ (by omega), e0 _ _ (by omega)], Or.inr ⟨1, by decide, rfl, Or.inr ⟨Or.inl hc0, rfl, by rw [em_wn _ _ (by omega), p3 _ _ (by omega), em_we]; rfl, fun j hj hn => by rw [em_wn _ _ (by omega), p3 _ _ (by omega), em_wn _ _ (by omega), e0 _ _ (by omega)]⟩⟩⟩⟩)
    ·
      refine am_goX 2 (show am_sh g 154 = some (11, 0) ∧ pz_S 3 (some .boolean) am_r291 1 Q 22 [(0, .ref 154), (1, .int (nI 1)), (2, .int b)] [am_rf (g.2.2.1 154 26)] g from ⟨ex_154 hP0, ?_⟩)
      rw [ex_r154_26 (h := g) hP0]
      refine am_goX 2 (show ((∃ jj nn : Nat, am_sh g 171 = some (15, nn) ∧ jj < nn ∧ (nI 1) = nI jj ∧ pz_S 3 (some .boolean) am_r291 1 Q 24 [(0, .ref 154), (1, .int (nI 1)), (2, .int b)] [.int (g.1 171 jj)] g) ∨ _) from Or.inl ⟨1, 4, ex_171 hP0, by decide, rfl, ?_⟩)
      refine am_goX 1 (show (¬ (g.1 171 1) = 0 → pz_S 3 (some .boolean) am_r291 1 Q 29 [(0, .ref 154), (1, .int (nI 1)), (2, .int b)] [] g) ∧ (¬ ¬ (g.1 171 1) = 0 → pz_S 3 (some .boolean) am_r291 1 Q 27 [(0, .ref 154), (1, .int (nI 1)), (2, .int b)] [] g) from ⟨fun hc => ?_, fun hc => ?_⟩)
      ·
        refine am_goX 2 (show am_sh g 154 = some (11, 0) ∧ pz_S 3 (some .boolean) am_r291 1 Q 33 [(0, .ref 154), (1, .int (nI 1)), (2, .int b)] [am_rf (g.2.2.1 154 26)] g from ⟨ex_154 hP0, ?_⟩)
        rw [ex_r154_26 (h := g) hP0]
        refine am_goX 3 (show ∃ jj nn : Nat, am_so g 171 = some (15, nn) ∧ jj < nn ∧ (nI 1) = nI jj ∧ pz_S 3 (some .boolean) am_r291 1 Q 36 [(0, .ref 154), (1, .int (nI 1)), (2, .int b)] [] (am_wI g 171 jj (vp_nar .boolean (Int32.ofInt 1))) from ⟨1, 4, ex_w171 hP0, by decide, rfl, ?_⟩)
        refine am_goX 3 (show (b = 0 → pz_S 3 (some .boolean) am_r291 1 Q 50 [(0, .ref 154), (1, .int (nI 1)), (2, .int b)] [.ref 154] (am_wI g 171 1 (vp_nar .boolean (Int32.ofInt 1)))) ∧ (¬ (b = 0) → pz_S 3 (some .boolean) am_r291 1 Q 41 [(0, .ref 154), (1, .int (nI 1)), (2, .int b)] [.ref 154] (am_wI g 171 1 (vp_nar .boolean (Int32.ofInt 1)))) from ⟨fun hz => absurd hz hc0, fun _ => ?_⟩)
        refine am_goX 8 (show (b = 0 → pz_S 3 (some .boolean) am_r291 1 Q 59 [(0, .ref 154), (1, .int (nI 1)), (2, .int b)] [.int ((Int8.ofInt 49).toInt32 * ((Int32.ofInt 1) + (nI 1))), .ref 154] (am_wI g 171 1 (vp_nar .boolean (Int32.ofInt 1)))) ∧ (¬ (b = 0) → pz_S 3 (some .boolean) am_r291 1 Q 55 [(0, .ref 154), (1, .int (nI 1)), (2, .int b)] [.int ((Int8.ofInt 49).toInt32 * ((Int32.ofInt 1) + (nI 1))), .ref 154] (am_wI g 171 1 (vp_nar .boolean (Int32.ofInt 1)))) from ⟨fun hz => absurd hz hc0, fun _ => ?_⟩)
        refine am_goX 4 (show am_rc (am_wI g 171 1 (vp_nar .boolean (Int32.ofInt 1))) 154 11 ∧ 0 ≤ 8 ∧ (am_wI g 171 1 (vp_nar .boolean (Int32.ofInt 1))).2.2.2.2 + am_al 232 ≤ 175 ∧ am_call am_cod 1 232 [.ref 154, .int ((Int8.ofInt 49).toInt32 * ((Int32.ofInt 1) + (nI 1))), .int (Int32.ofInt 0), .int (Int8.ofInt 49).toInt32] (am_wI g 171 1 (vp_nar .boolean (Int32.ofInt 1))) (fun vv h' => pz_S 3 (some .boolean) am_r291 1 Q 70 [(0, .ref 154), (1, .int (nI 1)), (2, .int b)] (vv.toList ++ []) h') from ⟨Or.inl ⟨by decide, ex_154 hP0⟩, by decide, ex_lim hP0 rfl, r_232 (A := 98) (B := 0) (by decide) (by decide) (by decide) (by decide) (by decide) hP0 (fun h1 p1 p2 p3 p4 => ?_)⟩)
        refine am_goX 3 (show (b = 0 → pz_S 3 (some .boolean) am_r291 1 Q 79 [(0, .ref 154), (1, .int (nI 1)), (2, .int b)] [.ref 154] h1) ∧ (¬ (b = 0) → pz_S 3 (some .boolean) am_r291 1 Q 75 [(0, .ref 154), (1, .int (nI 1)), (2, .int b)] [.ref 154] h1) from ⟨fun hz => absurd hz hc0, fun _ => ?_⟩)
        refine am_goX 3 (show am_sh h1 154 = some (11, 0) ∧ narrow (am_fty 11 25) (.int ((Int32.ofInt 0))) = .int ((Int32.ofInt 0)) ∧ fits (am_fty 11 25) (.int ((Int32.ofInt 0))) = true ∧ pz_S 3 (some .boolean) am_r291 1 Q 86 [(0, .ref 154), (1, .int (nI 1)), (2, .int b)] [] (am_wI h1 154 25 ((Int32.ofInt 0))) from ⟨ex_154 p1, rfl, rfl, ?_⟩)
        exact am_goX 2 (show (∃ ty, (some .boolean) = some ty ∧ narrow ty (.int ((Int32.ofInt 1))) = .int ((Int32.ofInt 1))) ∧ (am_wI h1 154 25 ((Int32.ofInt 0))).2.2.2.2 = 175 ∧ _ from ⟨⟨.boolean, rfl, rfl⟩, ex_175 p1, hQ 1 _ ⟨fun j hj => by rw [em_wn _ _ (by omega), p3 _ _ (by omega), em_wn _ _ (by omega), e0 _ _ (by omega)], Or.inr ⟨1, by decide, rfl, Or.inr ⟨Or.inr (fun w => hc ((e0 _ _ (by omega)).trans w)), rfl, by rw [em_wn _ _ (by omega), p3 _ _ (by omega), em_we]; rfl, fun j hj hn => by rw [em_wn _ _ (by omega), p3 _ _ (by omega), em_wn _ _ (by omega), e0 _ _ (by omega)]⟩⟩⟩⟩)
      ·
        exact am_goX 2 (show (∃ ty, (some .boolean) = some ty ∧ narrow ty (.int ((Int32.ofInt 0))) = .int ((Int32.ofInt 0))) ∧ g.2.2.2.2 = 175 ∧ _ from ⟨⟨.boolean, rfl, rfl⟩, ex_175 hP0, hQ 0 g ⟨fun j hj => e0 _ _ (by omega), Or.inr ⟨1, by decide, rfl, Or.inl ⟨hc0, (e0 _ _ (by omega)).symm.trans (Decidable.not_not.mp hc), rfl, fun j hj => e0 _ _ (by omega)⟩⟩⟩⟩)
  ·
    refine am_goX 2 (show (b = 0 → pz_S 3 (some .boolean) am_r291 1 Q 29 [(0, .ref 154), (1, .int (nI 2)), (2, .int b)] [] g) ∧ (¬ (b = 0) → pz_S 3 (some .boolean) am_r291 1 Q 18 [(0, .ref 154), (1, .int (nI 2)), (2, .int b)] [] g) from ⟨fun hc0 => ?_, fun hc0 => ?_⟩)
    ·
      refine am_goX 2 (show am_sh g 154 = some (11, 0) ∧ pz_S 3 (some .boolean) am_r291 1 Q 33 [(0, .ref 154), (1, .int (nI 2)), (2, .int b)] [am_rf (g.2.2.1 154 26)] g from ⟨ex_154 hP0, ?_⟩)
      rw [ex_r154_26 (h := g) hP0]
      refine am_goX 3 (show ∃ jj nn : Nat, am_so g 171 = some (15, nn) ∧ jj < nn ∧ (nI 2) = nI jj ∧ pz_S 3 (some .boolean) am_r291 1 Q 36 [(0, .ref 154), (1, .int (nI 2)), (2, .int b)] [] (am_wI g 171 jj (vp_nar .boolean (Int32.ofInt 1))) from ⟨2, 4, ex_w171 hP0, by decide, rfl, ?_⟩)
      refine am_goX 3 (show (b = 0 → pz_S 3 (some .boolean) am_r291 1 Q 50 [(0, .ref 154), (1, .int (nI 2)), (2, .int b)] [.ref 154] (am_wI g 171 2 (vp_nar .boolean (Int32.ofInt 1)))) ∧ (¬ (b = 0) → pz_S 3 (some .boolean) am_r291 1 Q 41 [(0, .ref 154), (1, .int (nI 2)), (2, .int b)] [.ref 154] (am_wI g 171 2 (vp_nar .boolean (Int32.ofInt 1)))) from ⟨fun _ => ?_, fun hz => absurd hc0 hz⟩)
      refine am_goX 3 (show (b = 0 → pz_S 3 (some .boolean) am_r291 1 Q 59 [(0, .ref 154), (1, .int (nI 2)), (2, .int b)] [.int (Int32.ofInt 0), .ref 154] (am_wI g 171 2 (vp_nar .boolean (Int32.ofInt 1)))) ∧ (¬ (b = 0) → pz_S 3 (some .boolean) am_r291 1 Q 55 [(0, .ref 154), (1, .int (nI 2)), (2, .int b)] [.int (Int32.ofInt 0), .ref 154] (am_wI g 171 2 (vp_nar .boolean (Int32.ofInt 1)))) from ⟨fun _ => ?_, fun hz => absurd hc0 hz⟩)
      refine am_goX 7 (show am_rc (am_wI g 171 2 (vp_nar .boolean (Int32.ofInt 1))) 154 11 ∧ 0 ≤ 8 ∧ (am_wI g 171 2 (vp_nar .boolean (Int32.ofInt 1))).2.2.2.2 + am_al 232 ≤ 175 ∧ am_call am_cod 1 232 [.ref 154, .int (Int32.ofInt 0), .int ((Int8.ofInt 49).toInt32 * ((Int32.ofInt 1) + (nI 2))), .int (Int8.ofInt 49).toInt32] (am_wI g 171 2 (vp_nar .boolean (Int32.ofInt 1))) (fun vv h' => pz_S 3 (some .boolean) am_r291 1 Q 70 [(0, .ref 154), (1, .int (nI 2)), (2, .int b)] (vv.toList ++ []) h') from ⟨Or.inl ⟨by decide, ex_154 hP0⟩, by decide, ex_lim hP0 rfl, r_232 (A := 0) (B := 147) (by decide) (by decide) (by decide) (by decide) (by decide) hP0 (fun h1 p1 p2 p3 p4 => ?_)⟩)
      refine am_goX 3 (show (b = 0 → pz_S 3 (some .boolean) am_r291 1 Q 79 [(0, .ref 154), (1, .int (nI 2)), (2, .int b)] [.ref 154] h1) ∧ (¬ (b = 0) → pz_S 3 (some .boolean) am_r291 1 Q 75 [(0, .ref 154), (1, .int (nI 2)), (2, .int b)] [.ref 154] h1) from ⟨fun _ => ?_, fun hz => absurd hc0 hz⟩)
      refine am_goX 3 (show am_sh h1 154 = some (11, 0) ∧ am_sh h1 154 = some (11, 0) ∧ narrow (am_fty 11 25) (.int ((h1.1 154 25))) = .int ((h1.1 154 25)) ∧ fits (am_fty 11 25) (.int ((h1.1 154 25))) = true ∧ pz_S 3 (some .boolean) am_r291 1 Q 86 [(0, .ref 154), (1, .int (nI 2)), (2, .int b)] [] (am_wI h1 154 25 ((h1.1 154 25))) from ⟨ex_154 p1, ex_154 p1, rfl, rfl, ?_⟩)
      exact am_goX 2 (show (∃ ty, (some .boolean) = some ty ∧ narrow ty (.int ((Int32.ofInt 1))) = .int ((Int32.ofInt 1))) ∧ (am_wI h1 154 25 ((h1.1 154 25))).2.2.2.2 = 175 ∧ _ from ⟨⟨.boolean, rfl, rfl⟩, ex_175 p1, hQ 1 _ ⟨fun j hj => by rw [em_wn _ _ (by omega), p3 _ _ (by omega), em_wn _ _ (by omega), e0 _ _ (by omega)], Or.inr ⟨2, by decide, rfl, Or.inr ⟨Or.inl hc0, rfl, by rw [em_wn _ _ (by omega), p3 _ _ (by omega), em_we]; rfl, fun j hj hn => by rw [em_wn _ _ (by omega), p3 _ _ (by omega), em_wn _ _ (by omega), e0 _ _ (by omega)]⟩⟩⟩⟩)
    ·
      refine am_goX 2 (show am_sh g 154 = some (11, 0) ∧ pz_S 3 (some .boolean) am_r291 1 Q 22 [(0, .ref 154), (1, .int (nI 2)), (2, .int b)] [am_rf (g.2.2.1 154 26)] g from ⟨ex_154 hP0, ?_⟩)
      rw [ex_r154_26 (h := g) hP0]
      refine am_goX 2 (show ((∃ jj nn : Nat, am_sh g 171 = some (15, nn) ∧ jj < nn ∧ (nI 2) = nI jj ∧ pz_S 3 (some .boolean) am_r291 1 Q 24 [(0, .ref 154), (1, .int (nI 2)), (2, .int b)] [.int (g.1 171 jj)] g) ∨ _) from Or.inl ⟨2, 4, ex_171 hP0, by decide, rfl, ?_⟩)
      refine am_goX 1 (show (¬ (g.1 171 2) = 0 → pz_S 3 (some .boolean) am_r291 1 Q 29 [(0, .ref 154), (1, .int (nI 2)), (2, .int b)] [] g) ∧ (¬ ¬ (g.1 171 2) = 0 → pz_S 3 (some .boolean) am_r291 1 Q 27 [(0, .ref 154), (1, .int (nI 2)), (2, .int b)] [] g) from ⟨fun hc => ?_, fun hc => ?_⟩)
      ·
        refine am_goX 2 (show am_sh g 154 = some (11, 0) ∧ pz_S 3 (some .boolean) am_r291 1 Q 33 [(0, .ref 154), (1, .int (nI 2)), (2, .int b)] [am_rf (g.2.2.1 154 26)] g from ⟨ex_154 hP0, ?_⟩)
        rw [ex_r154_26 (h := g) hP0]
        refine am_goX 3 (show ∃ jj nn : Nat, am_so g 171 = some (15, nn) ∧ jj < nn ∧ (nI 2) = nI jj ∧ pz_S 3 (some .boolean) am_r291 1 Q 36 [(0, .ref 154), (1, .int (nI 2)), (2, .int b)] [] (am_wI g 171 jj (vp_nar .boolean (Int32.ofInt 1))) from ⟨2, 4, ex_w171 hP0, by decide, rfl, ?_⟩)
        refine am_goX 3 (show (b = 0 → pz_S 3 (some .boolean) am_r291 1 Q 50 [(0, .ref 154), (1, .int (nI 2)), (2, .int b)] [.ref 154] (am_wI g 171 2 (vp_nar .boolean (Int32.ofInt 1)))) ∧ (¬ (b = 0) → pz_S 3 (some .boolean) am_r291 1 Q 41 [(0, .ref 154), (1, .int (nI 2)), (2, .int b)] [.ref 154] (am_wI g 171 2 (vp_nar .boolean (Int32.ofInt 1)))) from ⟨fun hz => absurd hz hc0, fun _ => ?_⟩)
        refine am_goX 8 (show (b = 0 → pz_S 3 (some .boolean) am_r291 1 Q 59 [(0, .ref 154), (1, .int (nI 2)), (2, .int b)] [.int ((Int8.ofInt 49).toInt32 * ((Int32.ofInt 1) + (nI 2))), .ref 154] (am_wI g 171 2 (vp_nar .boolean (Int32.ofInt 1)))) ∧ (¬ (b = 0) → pz_S 3 (some .boolean) am_r291 1 Q 55 [(0, .ref 154), (1, .int (nI 2)), (2, .int b)] [.int ((Int8.ofInt 49).toInt32 * ((Int32.ofInt 1) + (nI 2))), .ref 154] (am_wI g 171 2 (vp_nar .boolean (Int32.ofInt 1)))) from ⟨fun hz => absurd hz hc0, fun _ => ?_⟩)
        refine am_goX 4 (show am_rc (am_wI g 171 2 (vp_nar .boolean (Int32.ofInt 1))) 154 11 ∧ 0 ≤ 8 ∧ (am_wI g 171 2 (vp_nar .boolean (Int32.ofInt 1))).2.2.2.2 + am_al 232 ≤ 175 ∧ am_call am_cod 1 232 [.ref 154, .int ((Int8.ofInt 49).toInt32 * ((Int32.ofInt 1) + (nI 2))), .int (Int32.ofInt 0), .int (Int8.ofInt 49).toInt32] (am_wI g 171 2 (vp_nar .boolean (Int32.ofInt 1))) (fun vv h' => pz_S 3 (some .boolean) am_r291 1 Q 70 [(0, .ref 154), (1, .int (nI 2)), (2, .int b)] (vv.toList ++ []) h') from ⟨Or.inl ⟨by decide, ex_154 hP0⟩, by decide, ex_lim hP0 rfl, r_232 (A := 147) (B := 0) (by decide) (by decide) (by decide) (by decide) (by decide) hP0 (fun h1 p1 p2 p3 p4 => ?_)⟩)
        refine am_goX 3 (show (b = 0 → pz_S 3 (some .boolean) am_r291 1 Q 79 [(0, .ref 154), (1, .int (nI 2)), (2, .int b)] [.ref 154] h1) ∧ (¬ (b = 0) → pz_S 3 (some .boolean) am_r291 1 Q 75 [(0, .ref 154), (1, .int (nI 2)), (2, .int b)] [.ref 154] h1) from ⟨fun hz => absurd hz hc0, fun _ => ?_⟩)
        refine am_goX 3 (show am_sh h1 154 = some (11, 0) ∧ narrow (am_fty 11 25) (.int ((Int32.ofInt 0))) = .int ((Int32.ofInt 0)) ∧ fits (am_fty 11 25) (.int ((Int32.ofInt 0))) = true ∧ pz_S 3 (some .boolean) am_r291 1 Q 86 [(0, .ref 154), (1, .int (nI 2)), (2, .int b)] [] (am_wI h1 154 25 ((Int32.ofInt 0))) from ⟨ex_154 p1, rfl, rfl, ?_⟩)
        exact am_goX 2 (show (∃ ty, (some .boolean) = some ty ∧ narrow ty (.int ((Int32.ofInt 1))) = .int ((Int32.ofInt 1))) ∧ (am_wI h1 154 25 ((Int32.ofInt 0))).2.2.2.2 = 175 ∧ _ from ⟨⟨.boolean, rfl, rfl⟩, ex_175 p1, hQ 1 _ ⟨fun j hj => by rw [em_wn _ _ (by omega), p3 _ _ (by omega), em_wn _ _ (by omega), e0 _ _ (by omega)], Or.inr ⟨2, by decide, rfl, Or.inr ⟨Or.inr (fun w => hc ((e0 _ _ (by omega)).trans w)), rfl, by rw [em_wn _ _ (by omega), p3 _ _ (by omega), em_we]; rfl, fun j hj hn => by rw [em_wn _ _ (by omega), p3 _ _ (by omega), em_wn _ _ (by omega), e0 _ _ (by omega)]⟩⟩⟩⟩)
      ·
        exact am_goX 2 (show (∃ ty, (some .boolean) = some ty ∧ narrow ty (.int ((Int32.ofInt 0))) = .int ((Int32.ofInt 0))) ∧ g.2.2.2.2 = 175 ∧ _ from ⟨⟨.boolean, rfl, rfl⟩, ex_175 hP0, hQ 0 g ⟨fun j hj => e0 _ _ (by omega), Or.inr ⟨2, by decide, rfl, Or.inl ⟨hc0, (e0 _ _ (by omega)).symm.trans (Decidable.not_not.mp hc), rfl, fun j hj => e0 _ _ (by omega)⟩⟩⟩⟩)
  ·
    refine am_goX 2 (show (b = 0 → pz_S 3 (some .boolean) am_r291 1 Q 29 [(0, .ref 154), (1, .int (nI 3)), (2, .int b)] [] g) ∧ (¬ (b = 0) → pz_S 3 (some .boolean) am_r291 1 Q 18 [(0, .ref 154), (1, .int (nI 3)), (2, .int b)] [] g) from ⟨fun hc0 => ?_, fun hc0 => ?_⟩)
    ·
      refine am_goX 2 (show am_sh g 154 = some (11, 0) ∧ pz_S 3 (some .boolean) am_r291 1 Q 33 [(0, .ref 154), (1, .int (nI 3)), (2, .int b)] [am_rf (g.2.2.1 154 26)] g from ⟨ex_154 hP0, ?_⟩)
      rw [ex_r154_26 (h := g) hP0]
      refine am_goX 3 (show ∃ jj nn : Nat, am_so g 171 = some (15, nn) ∧ jj < nn ∧ (nI 3) = nI jj ∧ pz_S 3 (some .boolean) am_r291 1 Q 36 [(0, .ref 154), (1, .int (nI 3)), (2, .int b)] [] (am_wI g 171 jj (vp_nar .boolean (Int32.ofInt 1))) from ⟨3, 4, ex_w171 hP0, by decide, rfl, ?_⟩)
      refine am_goX 3 (show (b = 0 → pz_S 3 (some .boolean) am_r291 1 Q 50 [(0, .ref 154), (1, .int (nI 3)), (2, .int b)] [.ref 154] (am_wI g 171 3 (vp_nar .boolean (Int32.ofInt 1)))) ∧ (¬ (b = 0) → pz_S 3 (some .boolean) am_r291 1 Q 41 [(0, .ref 154), (1, .int (nI 3)), (2, .int b)] [.ref 154] (am_wI g 171 3 (vp_nar .boolean (Int32.ofInt 1)))) from ⟨fun _ => ?_, fun hz => absurd hc0 hz⟩)
      refine am_goX 3 (show (b = 0 → pz_S 3 (some .boolean) am_r291 1 Q 59 [(0, .ref 154), (1, .int (nI 3)), (2, .int b)] [.int (Int32.ofInt 0), .ref 154] (am_wI g 171 3 (vp_nar .boolean (Int32.ofInt 1)))) ∧ (¬ (b = 0) → pz_S 3 (some .boolean) am_r291 1 Q 55 [(0, .ref 154), (1, .int (nI 3)), (2, .int b)] [.int (Int32.ofInt 0), .ref 154] (am_wI g 171 3 (vp_nar .boolean (Int32.ofInt 1)))) from ⟨fun _ => ?_, fun hz => absurd hc0 hz⟩)
      refine am_goX 7 (show am_rc (am_wI g 171 3 (vp_nar .boolean (Int32.ofInt 1))) 154 11 ∧ 0 ≤ 8 ∧ (am_wI g 171 3 (vp_nar .boolean (Int32.ofInt 1))).2.2.2.2 + am_al 232 ≤ 175 ∧ am_call am_cod 1 232 [.ref 154, .int (Int32.ofInt 0), .int ((Int8.ofInt 49).toInt32 * ((Int32.ofInt 1) + (nI 3))), .int (Int8.ofInt 49).toInt32] (am_wI g 171 3 (vp_nar .boolean (Int32.ofInt 1))) (fun vv h' => pz_S 3 (some .boolean) am_r291 1 Q 70 [(0, .ref 154), (1, .int (nI 3)), (2, .int b)] (vv.toList ++ []) h') from ⟨Or.inl ⟨by decide, ex_154 hP0⟩, by decide, ex_lim hP0 rfl, r_232 (A := 0) (B := 196) (by decide) (by decide) (by decide) (by decide) (by decide) hP0 (fun h1 p1 p2 p3 p4 => ?_)⟩)
      refine am_goX 3 (show (b = 0 → pz_S 3 (some .boolean) am_r291 1 Q 79 [(0, .ref 154), (1, .int (nI 3)), (2, .int b)] [.ref 154] h1) ∧ (¬ (b = 0) → pz_S 3 (some .boolean) am_r291 1 Q 75 [(0, .ref 154), (1, .int (nI 3)), (2, .int b)] [.ref 154] h1) from ⟨fun _ => ?_, fun hz => absurd hc0 hz⟩)
      refine am_goX 3 (show am_sh h1 154 = some (11, 0) ∧ am_sh h1 154 = some (11, 0) ∧ narrow (am_fty 11 25) (.int ((h1.1 154 25))) = .int ((h1.1 154 25)) ∧ fits (am_fty 11 25) (.int ((h1.1 154 25))) = true ∧ pz_S 3 (some .boolean) am_r291 1 Q 86 [(0, .ref 154), (1, .int (nI 3)), (2, .int b)] [] (am_wI h1 154 25 ((h1.1 154 25))) from ⟨ex_154 p1, ex_154 p1, rfl, rfl, ?_⟩)
      exact am_goX 2 (show (∃ ty, (some .boolean) = some ty ∧ narrow ty (.int ((Int32.ofInt 1))) = .int ((Int32.ofInt 1))) ∧ (am_wI h1 154 25 ((h1.1 154 25))).2.2.2.2 = 175 ∧ _ from ⟨⟨.boolean, rfl, rfl⟩, ex_175 p1, hQ 1 _ ⟨fun j hj => by rw [em_wn _ _ (by omega), p3 _ _ (by omega), em_wn _ _ (by omega), e0 _ _ (by omega)], Or.inr ⟨3, by decide, rfl, Or.inr ⟨Or.inl hc0, rfl, by rw [em_wn _ _ (by omega), p3 _ _ (by omega), em_we]; rfl, fun j hj hn => by rw [em_wn _ _ (by omega), p3 _ _ (by omega), em_wn _ _ (by omega), e0 _ _ (by omega)]⟩⟩⟩⟩)
    ·
      refine am_goX 2 (show am_sh g 154 = some (11, 0) ∧ pz_S 3 (some .boolean) am_r291 1 Q 22 [(0, .ref 154), (1, .int (nI 3)), (2, .int b)] [am_rf (g.2.2.1 154 26)] g from ⟨ex_154 hP0, ?_⟩)
      rw [ex_r154_26 (h := g) hP0]
      refine am_goX 2 (show ((∃ jj nn : Nat, am_sh g 171 = some (15, nn) ∧ jj < nn ∧ (nI 3) = nI jj ∧ pz_S 3 (some .boolean) am_r291 1 Q 24 [(0, .ref 154), (1, .int (nI 3)), (2, .int b)] [.int (g.1 171 jj)] g) ∨ _) from Or.inl ⟨3, 4, ex_171 hP0, by decide, rfl, ?_⟩)
      refine am_goX 1 (show (¬ (g.1 171 3) = 0 → pz_S 3 (some .boolean) am_r291 1 Q 29 [(0, .ref 154), (1, .int (nI 3)), (2, .int b)] [] g) ∧ (¬ ¬ (g.1 171 3) = 0 → pz_S 3 (some .boolean) am_r291 1 Q 27 [(0, .ref 154), (1, .int (nI 3)), (2, .int b)] [] g) from ⟨fun hc => ?_, fun hc => ?_⟩)
      ·
        refine am_goX 2 (show am_sh g 154 = some (11, 0) ∧ pz_S 3 (some .boolean) am_r291 1 Q 33 [(0, .ref 154), (1, .int (nI 3)), (2, .int b)] [am_rf (g.2.2.1 154 26)] g from ⟨ex_154 hP0, ?_⟩)
        rw [ex_r154_26 (h := g) hP0]
        refine am_goX 3 (show ∃ jj nn : Nat, am_so g 171 = some (15, nn) ∧ jj < nn ∧ (nI 3) = nI jj ∧ pz_S 3 (some .boolean) am_r291 1 Q 36 [(0, .ref 154), (1, .int (nI 3)), (2, .int b)] [] (am_wI g 171 jj (vp_nar .boolean (Int32.ofInt 1))) from ⟨3, 4, ex_w171 hP0, by decide, rfl, ?_⟩)
        refine am_goX 3 (show (b = 0 → pz_S 3 (some .boolean) am_r291 1 Q 50 [(0, .ref 154), (1, .int (nI 3)), (2, .int b)] [.ref 154] (am_wI g 171 3 (vp_nar .boolean (Int32.ofInt 1)))) ∧ (¬ (b = 0) → pz_S 3 (some .boolean) am_r291 1 Q 41 [(0, .ref 154), (1, .int (nI 3)), (2, .int b)] [.ref 154] (am_wI g 171 3 (vp_nar .boolean (Int32.ofInt 1)))) from ⟨fun hz => absurd hz hc0, fun _ => ?_⟩)
        refine am_goX 8 (show (b = 0 → pz_S 3 (some .boolean) am_r291 1 Q 59 [(0, .ref 154), (1, .int (nI 3)), (2, .int b)] [.int ((Int8.ofInt 49).toInt32 * ((Int32.ofInt 1) + (nI 3))), .ref 154] (am_wI g 171 3 (vp_nar .boolean (Int32.ofInt 1)))) ∧ (¬ (b = 0) → pz_S 3 (some .boolean) am_r291 1 Q 55 [(0, .ref 154), (1, .int (nI 3)), (2, .int b)] [.int ((Int8.ofInt 49).toInt32 * ((Int32.ofInt 1) + (nI 3))), .ref 154] (am_wI g 171 3 (vp_nar .boolean (Int32.ofInt 1)))) from ⟨fun hz => absurd hz hc0, fun _ => ?_⟩)
        refine am_goX 4 (show am_rc (am_wI g 171 3 (vp_nar .boolean (Int32.ofInt 1))) 154 11 ∧ 0 ≤ 8 ∧ (am_wI g 171 3 (vp_nar .boolean (Int32.ofInt 1))).2.2.2.2 + am_al 232 ≤ 175 ∧ am_call am_cod 1 232 [.ref 154, .int ((Int8.ofInt 49).toInt32 * ((Int32.ofInt 1) + (nI 3))), .int (Int32.ofInt 0), .int (Int8.ofInt 49).toInt32] (am_wI g 171 3 (vp_nar .boolean (Int32.ofInt 1))) (fun vv h' => pz_S 3 (some .boolean) am_r291 1 Q 70 [(0, .ref 154), (1, .int (nI 3)), (2, .int b)] (vv.toList ++ []) h') from ⟨Or.inl ⟨by decide, ex_154 hP0⟩, by decide, ex_lim hP0 rfl, r_232 (A := 196) (B := 0) (by decide) (by decide) (by decide) (by decide) (by decide) hP0 (fun h1 p1 p2 p3 p4 => ?_)⟩)
        refine am_goX 3 (show (b = 0 → pz_S 3 (some .boolean) am_r291 1 Q 79 [(0, .ref 154), (1, .int (nI 3)), (2, .int b)] [.ref 154] h1) ∧ (¬ (b = 0) → pz_S 3 (some .boolean) am_r291 1 Q 75 [(0, .ref 154), (1, .int (nI 3)), (2, .int b)] [.ref 154] h1) from ⟨fun hz => absurd hz hc0, fun _ => ?_⟩)
        refine am_goX 3 (show am_sh h1 154 = some (11, 0) ∧ narrow (am_fty 11 25) (.int ((Int32.ofInt 0))) = .int ((Int32.ofInt 0)) ∧ fits (am_fty 11 25) (.int ((Int32.ofInt 0))) = true ∧ pz_S 3 (some .boolean) am_r291 1 Q 86 [(0, .ref 154), (1, .int (nI 3)), (2, .int b)] [] (am_wI h1 154 25 ((Int32.ofInt 0))) from ⟨ex_154 p1, rfl, rfl, ?_⟩)
        exact am_goX 2 (show (∃ ty, (some .boolean) = some ty ∧ narrow ty (.int ((Int32.ofInt 1))) = .int ((Int32.ofInt 1))) ∧ (am_wI h1 154 25 ((Int32.ofInt 0))).2.2.2.2 = 175 ∧ _ from ⟨⟨.boolean, rfl, rfl⟩, ex_175 p1, hQ 1 _ ⟨fun j hj => by rw [em_wn _ _ (by omega), p3 _ _ (by omega), em_wn _ _ (by omega), e0 _ _ (by omega)], Or.inr ⟨3, by decide, rfl, Or.inr ⟨Or.inr (fun w => hc ((e0 _ _ (by omega)).trans w)), rfl, by rw [em_wn _ _ (by omega), p3 _ _ (by omega), em_we]; rfl, fun j hj hn => by rw [em_wn _ _ (by omega), p3 _ _ (by omega), em_wn _ _ (by omega), e0 _ _ (by omega)]⟩⟩⟩⟩)
      ·
        exact am_goX 2 (show (∃ ty, (some .boolean) = some ty ∧ narrow ty (.int ((Int32.ofInt 0))) = .int ((Int32.ofInt 0))) ∧ g.2.2.2.2 = 175 ∧ _ from ⟨⟨.boolean, rfl, rfl⟩, ex_175 hP0, hQ 0 g ⟨fun j hj => e0 _ _ (by omega), Or.inr ⟨3, by decide, rfl, Or.inl ⟨hc0, (e0 _ _ (by omega)).symm.trans (Decidable.not_not.mp hc), rfl, fun j hj => e0 _ _ (by omega)⟩⟩⟩⟩)
