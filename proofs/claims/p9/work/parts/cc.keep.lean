/-! HISTORY AND MARKS: WHAT IS COPIED -/
/-- a State copied -/
def scq (D S : Nat) (h h1 : am_H) : Prop := (h1.1 D 0 = h.1 S 0 ∧ h1.1 D 1 = h.1 S 1) ∧ (∀ i, i < 6 → h1.1 (D + 1) i = h.1 (S + 1) i ∧ h1.1 (D + 2) i = h.1 (S + 2) i) ∧ (∀ i, i < 5 → h1.1 (D + 3) i = h.1 (S + 3) i ∧ h1.1 (D + 4) i = h.1 (S + 4) i)
def stO (o : Nat) : Prop := ∀ h : am_H, ex_P h → am_sh h o = some (6, 0) ∧ ((am_so h (o + 1) = some (13, 6) ∧ am_sh h (o + 1) = some (13, 6)) ∧ (am_so h (o + 2) = some (13, 6) ∧ am_sh h (o + 2) = some (13, 6)) ∧ (am_so h (o + 3) = some (13, 5) ∧ am_sh h (o + 3) = some (13, 5)) ∧ (am_so h (o + 4) = some (13, 5) ∧ am_sh h (o + 4) = some (13, 5))) ∧ h.2.2.1 o 2 = some (o + 1) ∧ h.2.2.1 o 3 = some (o + 2) ∧ h.2.2.1 o 4 = some (o + 3) ∧ h.2.2.1 o 5 = some (o + 4)
theorem stO_0 {o : Nat} (d : stO o) {h : am_H} (hP : ex_P h) : am_sh h o = some (6, 0) := (d h hP).1
theorem stO_w1 {o : Nat} (d : stO o) {h : am_H} (hP : ex_P h) : am_so h (o + 1) = some (13, 6) := (d h hP).2.1.1.1
theorem stO_1 {o : Nat} (d : stO o) {h : am_H} (hP : ex_P h) : am_sh h (o + 1) = some (13, 6) := (d h hP).2.1.1.2
theorem stO_w2 {o : Nat} (d : stO o) {h : am_H} (hP : ex_P h) : am_so h (o + 2) = some (13, 6) := (d h hP).2.1.2.1.1
theorem stO_2 {o : Nat} (d : stO o) {h : am_H} (hP : ex_P h) : am_sh h (o + 2) = some (13, 6) := (d h hP).2.1.2.1.2
theorem stO_w3 {o : Nat} (d : stO o) {h : am_H} (hP : ex_P h) : am_so h (o + 3) = some (13, 5) := (d h hP).2.1.2.2.1.1
theorem stO_3 {o : Nat} (d : stO o) {h : am_H} (hP : ex_P h) : am_sh h (o + 3) = some (13, 5) := (d h hP).2.1.2.2.1.2
theorem stO_w4 {o : Nat} (d : stO o) {h : am_H} (hP : ex_P h) : am_so h (o + 4) = some (13, 5) := (d h hP).2.1.2.2.2.1
theorem stO_4 {o : Nat} (d : stO o) {h : am_H} (hP : ex_P h) : am_sh h (o + 4) = some (13, 5) := (d h hP).2.1.2.2.2.2
theorem stO_r2 {o : Nat} (d : stO o) {h : am_H} (hP : ex_P h) : h.2.2.1 o 2 = some (o + 1) := (d h hP).2.2.1
theorem stO_r3 {o : Nat} (d : stO o) {h : am_H} (hP : ex_P h) : h.2.2.1 o 3 = some (o + 2) := (d h hP).2.2.2.1
theorem stO_r4 {o : Nat} (d : stO o) {h : am_H} (hP : ex_P h) : h.2.2.1 o 4 = some (o + 3) := (d h hP).2.2.2.2.1
theorem stO_r5 {o : Nat} (d : stO o) {h : am_H} (hP : ex_P h) : h.2.2.1 o 5 = some (o + 4) := (d h hP).2.2.2.2.2
theorem stO_36 : stO 36 := fun h hP => ⟨(ex_so hP (by decide +kernel)).2, ⟨ex_so hP (by decide +kernel), ex_so hP (by decide +kernel), ex_so hP (by decide +kernel), ex_so hP (by decide +kernel)⟩, hP.2 36 2 37 (by decide +kernel), hP.2 36 3 38 (by decide +kernel), hP.2 36 4 39 (by decide +kernel), hP.2 36 5 40 (by decide +kernel)⟩
theorem stO_41 : stO 41 := fun h hP => ⟨(ex_so hP (by decide +kernel)).2, ⟨ex_so hP (by decide +kernel), ex_so hP (by decide +kernel), ex_so hP (by decide +kernel), ex_so hP (by decide +kernel)⟩, hP.2 41 2 42 (by decide +kernel), hP.2 41 3 43 (by decide +kernel), hP.2 41 4 44 (by decide +kernel), hP.2 41 5 45 (by decide +kernel)⟩
theorem stO_49 : stO 49 := fun h hP => ⟨(ex_so hP (by decide +kernel)).2, ⟨ex_so hP (by decide +kernel), ex_so hP (by decide +kernel), ex_so hP (by decide +kernel), ex_so hP (by decide +kernel)⟩, hP.2 49 2 50 (by decide +kernel), hP.2 49 3 51 (by decide +kernel), hP.2 49 4 52 (by decide +kernel), hP.2 49 5 53 (by decide +kernel)⟩
theorem stO_54 : stO 54 := fun h hP => ⟨(ex_so hP (by decide +kernel)).2, ⟨ex_so hP (by decide +kernel), ex_so hP (by decide +kernel), ex_so hP (by decide +kernel), ex_so hP (by decide +kernel)⟩, hP.2 54 2 55 (by decide +kernel), hP.2 54 3 56 (by decide +kernel), hP.2 54 4 57 (by decide +kernel), hP.2 54 5 58 (by decide +kernel)⟩
theorem stO_59 : stO 59 := fun h hP => ⟨(ex_so hP (by decide +kernel)).2, ⟨ex_so hP (by decide +kernel), ex_so hP (by decide +kernel), ex_so hP (by decide +kernel), ex_so hP (by decide +kernel)⟩, hP.2 59 2 60 (by decide +kernel), hP.2 59 3 61 (by decide +kernel), hP.2 59 4 62 (by decide +kernel), hP.2 59 5 63 (by decide +kernel)⟩
theorem stO_64 : stO 64 := fun h hP => ⟨(ex_so hP (by decide +kernel)).2, ⟨ex_so hP (by decide +kernel), ex_so hP (by decide +kernel), ex_so hP (by decide +kernel), ex_so hP (by decide +kernel)⟩, hP.2 64 2 65 (by decide +kernel), hP.2 64 3 66 (by decide +kernel), hP.2 64 4 67 (by decide +kernel), hP.2 64 5 68 (by decide +kernel)⟩
theorem stO_69 : stO 69 := fun h hP => ⟨(ex_so hP (by decide +kernel)).2, ⟨ex_so hP (by decide +kernel), ex_so hP (by decide +kernel), ex_so hP (by decide +kernel), ex_so hP (by decide +kernel)⟩, hP.2 69 2 70 (by decide +kernel), hP.2 69 3 71 (by decide +kernel), hP.2 69 4 72 (by decide +kernel), hP.2 69 5 73 (by decide +kernel)⟩
theorem stO_74 : stO 74 := fun h hP => ⟨(ex_so hP (by decide +kernel)).2, ⟨ex_so hP (by decide +kernel), ex_so hP (by decide +kernel), ex_so hP (by decide +kernel), ex_so hP (by decide +kernel)⟩, hP.2 74 2 75 (by decide +kernel), hP.2 74 3 76 (by decide +kernel), hP.2 74 4 77 (by decide +kernel), hP.2 74 5 78 (by decide +kernel)⟩
theorem stO_79 : stO 79 := fun h hP => ⟨(ex_so hP (by decide +kernel)).2, ⟨ex_so hP (by decide +kernel), ex_so hP (by decide +kernel), ex_so hP (by decide +kernel), ex_so hP (by decide +kernel)⟩, hP.2 79 2 80 (by decide +kernel), hP.2 79 3 81 (by decide +kernel), hP.2 79 4 82 (by decide +kernel), hP.2 79 5 83 (by decide +kernel)⟩
theorem stO_84 : stO 84 := fun h hP => ⟨(ex_so hP (by decide +kernel)).2, ⟨ex_so hP (by decide +kernel), ex_so hP (by decide +kernel), ex_so hP (by decide +kernel), ex_so hP (by decide +kernel)⟩, hP.2 84 2 85 (by decide +kernel), hP.2 84 3 86 (by decide +kernel), hP.2 84 4 87 (by decide +kernel), hP.2 84 5 88 (by decide +kernel)⟩
theorem stO_89 : stO 89 := fun h hP => ⟨(ex_so hP (by decide +kernel)).2, ⟨ex_so hP (by decide +kernel), ex_so hP (by decide +kernel), ex_so hP (by decide +kernel), ex_so hP (by decide +kernel)⟩, hP.2 89 2 90 (by decide +kernel), hP.2 89 3 91 (by decide +kernel), hP.2 89 4 92 (by decide +kernel), hP.2 89 5 93 (by decide +kernel)⟩
theorem stO_94 : stO 94 := fun h hP => ⟨(ex_so hP (by decide +kernel)).2, ⟨ex_so hP (by decide +kernel), ex_so hP (by decide +kernel), ex_so hP (by decide +kernel), ex_so hP (by decide +kernel)⟩, hP.2 94 2 95 (by decide +kernel), hP.2 94 3 96 (by decide +kernel), hP.2 94 4 97 (by decide +kernel), hP.2 94 5 98 (by decide +kernel)⟩
theorem stO_99 : stO 99 := fun h hP => ⟨(ex_so hP (by decide +kernel)).2, ⟨ex_so hP (by decide +kernel), ex_so hP (by decide +kernel), ex_so hP (by decide +kernel), ex_so hP (by decide +kernel)⟩, hP.2 99 2 100 (by decide +kernel), hP.2 99 3 101 (by decide +kernel), hP.2 99 4 102 (by decide +kernel), hP.2 99 5 103 (by decide +kernel)⟩
theorem stO_104 : stO 104 := fun h hP => ⟨(ex_so hP (by decide +kernel)).2, ⟨ex_so hP (by decide +kernel), ex_so hP (by decide +kernel), ex_so hP (by decide +kernel), ex_so hP (by decide +kernel)⟩, hP.2 104 2 105 (by decide +kernel), hP.2 104 3 106 (by decide +kernel), hP.2 104 4 107 (by decide +kernel), hP.2 104 5 108 (by decide +kernel)⟩
theorem stO_109 : stO 109 := fun h hP => ⟨(ex_so hP (by decide +kernel)).2, ⟨ex_so hP (by decide +kernel), ex_so hP (by decide +kernel), ex_so hP (by decide +kernel), ex_so hP (by decide +kernel)⟩, hP.2 109 2 110 (by decide +kernel), hP.2 109 3 111 (by decide +kernel), hP.2 109 4 112 (by decide +kernel), hP.2 109 5 113 (by decide +kernel)⟩
theorem stO_114 : stO 114 := fun h hP => ⟨(ex_so hP (by decide +kernel)).2, ⟨ex_so hP (by decide +kernel), ex_so hP (by decide +kernel), ex_so hP (by decide +kernel), ex_so hP (by decide +kernel)⟩, hP.2 114 2 115 (by decide +kernel), hP.2 114 3 116 (by decide +kernel), hP.2 114 4 117 (by decide +kernel), hP.2 114 5 118 (by decide +kernel)⟩
theorem stO_119 : stO 119 := fun h hP => ⟨(ex_so hP (by decide +kernel)).2, ⟨ex_so hP (by decide +kernel), ex_so hP (by decide +kernel), ex_so hP (by decide +kernel), ex_so hP (by decide +kernel)⟩, hP.2 119 2 120 (by decide +kernel), hP.2 119 3 121 (by decide +kernel), hP.2 119 4 122 (by decide +kernel), hP.2 119 5 123 (by decide +kernel)⟩
theorem stO_124 : stO 124 := fun h hP => ⟨(ex_so hP (by decide +kernel)).2, ⟨ex_so hP (by decide +kernel), ex_so hP (by decide +kernel), ex_so hP (by decide +kernel), ex_so hP (by decide +kernel)⟩, hP.2 124 2 125 (by decide +kernel), hP.2 124 3 126 (by decide +kernel), hP.2 124 4 127 (by decide +kernel), hP.2 124 5 128 (by decide +kernel)⟩
theorem stO_131 : stO 131 := fun h hP => ⟨(ex_so hP (by decide +kernel)).2, ⟨ex_so hP (by decide +kernel), ex_so hP (by decide +kernel), ex_so hP (by decide +kernel), ex_so hP (by decide +kernel)⟩, hP.2 131 2 132 (by decide +kernel), hP.2 131 3 133 (by decide +kernel), hP.2 131 4 134 (by decide +kernel), hP.2 131 5 135 (by decide +kernel)⟩
theorem stO_137 : stO 137 := fun h hP => ⟨(ex_so hP (by decide +kernel)).2, ⟨ex_so hP (by decide +kernel), ex_so hP (by decide +kernel), ex_so hP (by decide +kernel), ex_so hP (by decide +kernel)⟩, hP.2 137 2 138 (by decide +kernel), hP.2 137 3 139 (by decide +kernel), hP.2 137 4 140 (by decide +kernel), hP.2 137 5 141 (by decide +kernel)⟩
theorem stO_143 : stO 143 := fun h hP => ⟨(ex_so hP (by decide +kernel)).2, ⟨ex_so hP (by decide +kernel), ex_so hP (by decide +kernel), ex_so hP (by decide +kernel), ex_so hP (by decide +kernel)⟩, hP.2 143 2 144 (by decide +kernel), hP.2 143 3 145 (by decide +kernel), hP.2 143 4 146 (by decide +kernel), hP.2 143 5 147 (by decide +kernel)⟩
theorem stO_149 : stO 149 := fun h hP => ⟨(ex_so hP (by decide +kernel)).2, ⟨ex_so hP (by decide +kernel), ex_so hP (by decide +kernel), ex_so hP (by decide +kernel), ex_so hP (by decide +kernel)⟩, hP.2 149 2 150 (by decide +kernel), hP.2 149 3 151 (by decide +kernel), hP.2 149 4 152 (by decide +kernel), hP.2 149 5 153 (by decide +kernel)⟩
theorem stO_ring {q : Nat} (hq : q < 16) : stO (49 + 5 * q) := by
  have w : q = 0 ∨ q = 1 ∨ q = 2 ∨ q = 3 ∨ q = 4 ∨ q = 5 ∨ q = 6 ∨ q = 7 ∨ q = 8 ∨ q = 9 ∨ q = 10 ∨ q = 11 ∨ q = 12 ∨ q = 13 ∨ q = 14 ∨ q = 15 := by omega
  rcases w with rfl | rfl | rfl | rfl | rfl | rfl | rfl | rfl | rfl | rfl | rfl | rfl | rfl | rfl | rfl | rfl
  · exact stO_49
  · exact stO_54
  · exact stO_59
  · exact stO_64
  · exact stO_69
  · exact stO_74
  · exact stO_79
  · exact stO_84
  · exact stO_89
  · exact stO_94
  · exact stO_99
  · exact stO_104
  · exact stO_109
  · exact stO_114
  · exact stO_119
  · exact stO_124
variable {h h0 : am_H} {Q : am_Q} {C : sp_C} {x y w z : Int32} {s u : dS} {D S : Nat}
theorem sv2_99 : am_r99.all (fun q => sv2_ok q.2) = true := by decide +kernel
theorem q_99b (oD : stO D) (oS : stO S) (hd : D + 5 ≤ S ∨ S + 5 ≤ D) : ∀ (m i : Nat) (h : am_H), i + m = 5 → ex_P h → (∀ j, j < i → h.1 (D + 3) j = h.1 (S + 3) j ∧ h.1 (D + 4) j = h.1 (S + 4) j) → (∀ h1, ex_P h1 → h1.2 = h.2 → (∀ o k, ¬ (o = (D + 3) ∨ o = (D + 4)) → h1.1 o k = h.1 o k) → (∀ j, j < 5 → h1.1 (D + 3) j = h.1 (S + 3) j ∧ h1.1 (D + 4) j = h.1 (S + 4) j) → Q none h1) → pz_S 3 none am_r99 0 Q 56 [(2, .int (nI i)), (0, .ref D), (1, .ref S)] [] h := by
  intro m
  induction m with
  | zero =>
    intro i h hi hP hj hQ
    refine am_goX 3 (show ((Int32.ofInt 5) ≤ (nI i) → pz_S 3 none am_r99 0 Q 91 [(2, .int (nI i)), (0, .ref D), (1, .ref S)] [] h) ∧ (¬ ((Int32.ofInt 5) ≤ (nI i)) → pz_S 3 none am_r99 0 Q 61 [(2, .int (nI i)), (0, .ref D), (1, .ref S)] [] h) from ⟨fun _ => ?_, fun hz => absurd (show nI 5 ≤ nI i from nI_le (by omega) (by omega)) hz⟩)
    exact am_goX 1 (show (none : Option FieldType) = none ∧ h.2.2.2.2 = 175 ∧ _ from ⟨rfl, ex_175 hP, hQ _ hP rfl (fun _ _ _ => rfl) (fun j hj1 => hj j (by omega))⟩)
  | succ m ih =>
    intro i h hi hP hj hQ
    refine am_goX 3 (show ((Int32.ofInt 5) ≤ (nI i) → pz_S 3 none am_r99 0 Q 91 [(2, .int (nI i)), (0, .ref D), (1, .ref S)] [] h) ∧ (¬ ((Int32.ofInt 5) ≤ (nI i)) → pz_S 3 none am_r99 0 Q 61 [(2, .int (nI i)), (0, .ref D), (1, .ref S)] [] h) from ⟨fun hz => absurd hz (show ¬ nI 5 ≤ nI i by rw [nI_leI (by omega) (by omega)]; omega), fun _ => ?_⟩)
    refine am_goX 2 (show am_sh h D = some (6, 0) ∧ pz_S 3 none am_r99 0 Q 65 [(2, .int (nI i)), (0, .ref D), (1, .ref S)] [am_rf (h.2.2.1 D 4)] h from ⟨stO_0 oD hP, ?_⟩)
    rw [stO_r4 oD (h := h) hP]
    refine am_goX 3 (show am_sh h S = some (6, 0) ∧ pz_S 3 none am_r99 0 Q 70 [(2, .int (nI i)), (0, .ref D), (1, .ref S)] [am_rf (h.2.2.1 S 4), .int (nI i), .ref (D + 3)] h from ⟨stO_0 oS hP, ?_⟩)
    rw [stO_r4 oS (h := h) hP]
    refine am_goX 2 (show ∃ jj nn : Nat, am_sh h (S + 3) = some (13, nn) ∧ jj < nn ∧ (nI i) = nI jj ∧ pz_S 3 none am_r99 0 Q 72 [(2, .int (nI i)), (0, .ref D), (1, .ref S)] [.int (h.1 (S + 3) jj), .int (nI i), .ref (D + 3)] h from ⟨i, 5, stO_3 oS hP, by omega, rfl, ?_⟩)
    refine am_goX 1 (show ∃ jj nn : Nat, am_so h (D + 3) = some (13, nn) ∧ jj < nn ∧ (nI i) = nI jj ∧ pz_S 3 none am_r99 0 Q 73 [(2, .int (nI i)), (0, .ref D), (1, .ref S)] [] (am_wI h (D + 3) jj (h.1 (S + 3) i)) from ⟨i, 5, stO_w3 oD hP, by omega, rfl, ?_⟩)
    refine am_goX 2 (show am_sh (am_wI h (D + 3) (i) (h.1 (S + 3) i)) D = some (6, 0) ∧ pz_S 3 none am_r99 0 Q 77 [(2, .int (nI i)), (0, .ref D), (1, .ref S)] [am_rf ((am_wI h (D + 3) (i) (h.1 (S + 3) i)).2.2.1 D 5)] (am_wI h (D + 3) (i) (h.1 (S + 3) i)) from ⟨stO_0 oD hP, ?_⟩)
    rw [stO_r5 oD (h := am_wI h (D + 3) (i) (h.1 (S + 3) i)) hP]
    refine am_goX 3 (show am_sh (am_wI h (D + 3) (i) (h.1 (S + 3) i)) S = some (6, 0) ∧ pz_S 3 none am_r99 0 Q 82 [(2, .int (nI i)), (0, .ref D), (1, .ref S)] [am_rf ((am_wI h (D + 3) (i) (h.1 (S + 3) i)).2.2.1 S 5), .int (nI i), .ref (D + 4)] (am_wI h (D + 3) (i) (h.1 (S + 3) i)) from ⟨stO_0 oS hP, ?_⟩)
    rw [stO_r5 oS (h := am_wI h (D + 3) (i) (h.1 (S + 3) i)) hP]
    refine am_goX 2 (show ∃ jj nn : Nat, am_sh (am_wI h (D + 3) (i) (h.1 (S + 3) i)) (S + 4) = some (13, nn) ∧ jj < nn ∧ (nI i) = nI jj ∧ pz_S 3 none am_r99 0 Q 84 [(2, .int (nI i)), (0, .ref D), (1, .ref S)] [.int ((am_wI h (D + 3) (i) (h.1 (S + 3) i)).1 (S + 4) jj), .int (nI i), .ref (D + 4)] (am_wI h (D + 3) (i) (h.1 (S + 3) i)) from ⟨i, 5, stO_4 oS hP, by omega, rfl, ?_⟩)
    rw [show (am_wI h (D + 3) (i) (h.1 (S + 3) i)).1 (S + 4) i = h.1 (S + 4) i from em_wn _ _ (by omega)]
    refine am_goX 1 (show ∃ jj nn : Nat, am_so (am_wI h (D + 3) (i) (h.1 (S + 3) i)) (D + 4) = some (13, nn) ∧ jj < nn ∧ (nI i) = nI jj ∧ pz_S 3 none am_r99 0 Q 85 [(2, .int (nI i)), (0, .ref D), (1, .ref S)] [] (am_wI (am_wI h (D + 3) (i) (h.1 (S + 3) i)) (D + 4) jj (h.1 (S + 4) i)) from ⟨i, 5, stO_w4 oD hP, by omega, rfl, ?_⟩)
    refine am_goX 2 (show 2 < 3 ∧ pz_S 3 none am_r99 0 Q 56 [(2, .int ((nI i) + Int32.ofInt 1)), (0, .ref D), (1, .ref S)] [] (am_wI (am_wI h (D + 3) (i) (h.1 (S + 3) i)) (D + 4) (i) (h.1 (S + 4) i)) from ⟨by decide, ?_⟩)
    rw [xw_i1]
    refine ih (i + 1) _ (by omega) hP (fun j hj1 => ?_) (fun h1 p1 p2 p3 p4 => hQ h1 p1 p2 (fun o k hn => (p3 o k hn).trans (by rw [em_wn _ _ (by omega), em_wn _ _ (by omega)])) (fun j hj1 => by
      have w := p4 j hj1
      rw [em_wn _ _ (by omega), em_wn _ _ (by omega), em_wn _ _ (by omega), em_wn _ _ (by omega)] at w
      exact w))
    by_cases ej : j = i
    · rw [ej, em_wn _ _ (by omega), em_we, em_we, em_wn _ _ (by omega), em_wn _ _ (by omega), em_wn _ _ (by omega), em_wn _ _ (by omega)]
      exact ⟨rfl, rfl⟩
    · rw [em_wn _ _ (by omega), em_wn _ _ (by omega), em_wn _ _ (by omega), em_wn _ _ (by omega), em_wn _ _ (by omega), em_wn _ _ (by omega), em_wn _ _ (by omega), em_wn _ _ (by omega)]
      exact hj j (by omega)
theorem q_99a (oD : stO D) (oS : stO S) (hd : D + 5 ≤ S ∨ S + 5 ≤ D) : ∀ (m i : Nat) (h : am_H), i + m = 6 → ex_P h → (∀ j, j < i → h.1 (D + 1) j = h.1 (S + 1) j ∧ h.1 (D + 2) j = h.1 (S + 2) j) → (∀ h1, ex_P h1 → h1.2 = h.2 → (∀ o k, ¬ ((D + 1) ≤ o ∧ o ≤ (D + 4)) → h1.1 o k = h.1 o k) → (∀ j, j < 6 → h1.1 (D + 1) j = h.1 (S + 1) j ∧ h1.1 (D + 2) j = h.1 (S + 2) j) → (∀ j, j < 5 → h1.1 (D + 3) j = h.1 (S + 3) j ∧ h1.1 (D + 4) j = h.1 (S + 4) j) → Q none h1) → pz_S 3 none am_r99 0 Q 18 [(2, .int (nI i)), (0, .ref D), (1, .ref S)] [] h := by
  intro m
  induction m with
  | zero =>
    intro i h hi hP hj hQ
    refine am_goX 3 (show ((Int8.ofInt 6).toInt32 ≤ (nI i) → pz_S 3 none am_r99 0 Q 54 [(2, .int (nI i)), (0, .ref D), (1, .ref S)] [] h) ∧ (¬ ((Int8.ofInt 6).toInt32 ≤ (nI i)) → pz_S 3 none am_r99 0 Q 24 [(2, .int (nI i)), (0, .ref D), (1, .ref S)] [] h) from ⟨fun _ => ?_, fun hz => absurd (show nI 6 ≤ nI i from nI_le (by omega) (by omega)) hz⟩)
    refine am_goX 2 (show 2 < 3 ∧ pz_S 3 none am_r99 0 Q 56 [(2, .int (Int32.ofInt 0)), (0, .ref D), (1, .ref S)] [] h from ⟨by decide, ?_⟩)
    exact q_99b oD oS hd 5 0 _ rfl hP (fun j hj1 => absurd hj1 (Nat.not_lt_zero j)) (fun h1 p1 p2 p3 p4 => hQ h1 p1 p2 (fun o k hn => p3 o k (by omega)) (fun j hj1 => by rw [p3 (D + 1) j (by omega), p3 (D + 2) j (by omega)]; exact hj j (by omega)) p4)
  | succ m ih =>
    intro i h hi hP hj hQ
    refine am_goX 3 (show ((Int8.ofInt 6).toInt32 ≤ (nI i) → pz_S 3 none am_r99 0 Q 54 [(2, .int (nI i)), (0, .ref D), (1, .ref S)] [] h) ∧ (¬ ((Int8.ofInt 6).toInt32 ≤ (nI i)) → pz_S 3 none am_r99 0 Q 24 [(2, .int (nI i)), (0, .ref D), (1, .ref S)] [] h) from ⟨fun hz => absurd hz (show ¬ nI 6 ≤ nI i by rw [nI_leI (by omega) (by omega)]; omega), fun _ => ?_⟩)
    refine am_goX 2 (show am_sh h D = some (6, 0) ∧ pz_S 3 none am_r99 0 Q 28 [(2, .int (nI i)), (0, .ref D), (1, .ref S)] [am_rf (h.2.2.1 D 2)] h from ⟨stO_0 oD hP, ?_⟩)
    rw [stO_r2 oD (h := h) hP]
    refine am_goX 3 (show am_sh h S = some (6, 0) ∧ pz_S 3 none am_r99 0 Q 33 [(2, .int (nI i)), (0, .ref D), (1, .ref S)] [am_rf (h.2.2.1 S 2), .int (nI i), .ref (D + 1)] h from ⟨stO_0 oS hP, ?_⟩)
    rw [stO_r2 oS (h := h) hP]
    refine am_goX 2 (show ∃ jj nn : Nat, am_sh h (S + 1) = some (13, nn) ∧ jj < nn ∧ (nI i) = nI jj ∧ pz_S 3 none am_r99 0 Q 35 [(2, .int (nI i)), (0, .ref D), (1, .ref S)] [.int (h.1 (S + 1) jj), .int (nI i), .ref (D + 1)] h from ⟨i, 6, stO_1 oS hP, by omega, rfl, ?_⟩)
    refine am_goX 1 (show ∃ jj nn : Nat, am_so h (D + 1) = some (13, nn) ∧ jj < nn ∧ (nI i) = nI jj ∧ pz_S 3 none am_r99 0 Q 36 [(2, .int (nI i)), (0, .ref D), (1, .ref S)] [] (am_wI h (D + 1) jj (h.1 (S + 1) i)) from ⟨i, 6, stO_w1 oD hP, by omega, rfl, ?_⟩)
    refine am_goX 2 (show am_sh (am_wI h (D + 1) (i) (h.1 (S + 1) i)) D = some (6, 0) ∧ pz_S 3 none am_r99 0 Q 40 [(2, .int (nI i)), (0, .ref D), (1, .ref S)] [am_rf ((am_wI h (D + 1) (i) (h.1 (S + 1) i)).2.2.1 D 3)] (am_wI h (D + 1) (i) (h.1 (S + 1) i)) from ⟨stO_0 oD hP, ?_⟩)
    rw [stO_r3 oD (h := am_wI h (D + 1) (i) (h.1 (S + 1) i)) hP]
    refine am_goX 3 (show am_sh (am_wI h (D + 1) (i) (h.1 (S + 1) i)) S = some (6, 0) ∧ pz_S 3 none am_r99 0 Q 45 [(2, .int (nI i)), (0, .ref D), (1, .ref S)] [am_rf ((am_wI h (D + 1) (i) (h.1 (S + 1) i)).2.2.1 S 3), .int (nI i), .ref (D + 2)] (am_wI h (D + 1) (i) (h.1 (S + 1) i)) from ⟨stO_0 oS hP, ?_⟩)
    rw [stO_r3 oS (h := am_wI h (D + 1) (i) (h.1 (S + 1) i)) hP]
    refine am_goX 2 (show ∃ jj nn : Nat, am_sh (am_wI h (D + 1) (i) (h.1 (S + 1) i)) (S + 2) = some (13, nn) ∧ jj < nn ∧ (nI i) = nI jj ∧ pz_S 3 none am_r99 0 Q 47 [(2, .int (nI i)), (0, .ref D), (1, .ref S)] [.int ((am_wI h (D + 1) (i) (h.1 (S + 1) i)).1 (S + 2) jj), .int (nI i), .ref (D + 2)] (am_wI h (D + 1) (i) (h.1 (S + 1) i)) from ⟨i, 6, stO_2 oS hP, by omega, rfl, ?_⟩)
    rw [show (am_wI h (D + 1) (i) (h.1 (S + 1) i)).1 (S + 2) i = h.1 (S + 2) i from em_wn _ _ (by omega)]
    refine am_goX 1 (show ∃ jj nn : Nat, am_so (am_wI h (D + 1) (i) (h.1 (S + 1) i)) (D + 2) = some (13, nn) ∧ jj < nn ∧ (nI i) = nI jj ∧ pz_S 3 none am_r99 0 Q 48 [(2, .int (nI i)), (0, .ref D), (1, .ref S)] [] (am_wI (am_wI h (D + 1) (i) (h.1 (S + 1) i)) (D + 2) jj (h.1 (S + 2) i)) from ⟨i, 6, stO_w2 oD hP, by omega, rfl, ?_⟩)
    refine am_goX 2 (show 2 < 3 ∧ pz_S 3 none am_r99 0 Q 18 [(2, .int ((nI i) + Int32.ofInt 1)), (0, .ref D), (1, .ref S)] [] (am_wI (am_wI h (D + 1) (i) (h.1 (S + 1) i)) (D + 2) (i) (h.1 (S + 2) i)) from ⟨by decide, ?_⟩)
    rw [xw_i1]
    refine ih (i + 1) _ (by omega) hP (fun j hj1 => ?_) (fun h1 p1 p2 p3 p4 p5 => hQ h1 p1 p2 (fun o k hn => (p3 o k hn).trans (by rw [em_wn _ _ (by omega), em_wn _ _ (by omega)])) (fun j hj1 => by
      have w := p4 j hj1
      rw [em_wn _ _ (by omega), em_wn _ _ (by omega), em_wn _ _ (by omega), em_wn _ _ (by omega)] at w
      exact w) (fun j hj1 => by
      have w := p5 j hj1
      rw [em_wn (o' := (S + 3)) _ _ (by omega), em_wn (o' := (S + 3)) _ _ (by omega), em_wn (o' := (S + 4)) _ _ (by omega), em_wn (o' := (S + 4)) _ _ (by omega)] at w
      exact w))
    by_cases ej : j = i
    · rw [ej, em_wn _ _ (by omega), em_we, em_we, em_wn _ _ (by omega), em_wn _ _ (by omega), em_wn _ _ (by omega), em_wn _ _ (by omega)]
      exact ⟨rfl, rfl⟩
    · rw [em_wn _ _ (by omega), em_wn _ _ (by omega), em_wn _ _ (by omega), em_wn _ _ (by omega), em_wn _ _ (by omega), em_wn _ _ (by omega), em_wn _ _ (by omega), em_wn _ _ (by omega)]
      exact hj j (by omega)
theorem q_99 (oD : stO D) (oS : stO S) (hd : D + 5 ≤ S ∨ S + 5 ≤ D) (hP : ex_P h) (hQ : ∀ h1, ex_P h1 → h1.2 = h.2 → (∀ o k, ¬ (D ≤ o ∧ o ≤ (D + 4)) → h1.1 o k = h.1 o k) → scq D S h h1 → Q none h1) : am_call am_cod 1 99 [.ref D, .ref S] h Q := by
  refine pz_call (n := 99) (nL := 3) (rt := none) (rows := am_r99) (d := 0) (by decide +kernel) (by decide +kernel) rfl (by funext pc; rfl) (ex_175 hP) (by exact Nat.le_of_ble_eq_true rfl) ?_
  refine am_goX 4 (show am_sh h S = some (6, 0) ∧ am_sh h D = some (6, 0) ∧ narrow (am_fty 6 0) (.int ((h.1 S 0))) = .int ((h.1 S 0)) ∧ fits (am_fty 6 0) (.int ((h.1 S 0))) = true ∧ pz_S 3 none am_r99 0 Q 8 [(0, .ref D), (1, .ref S)] [] (am_wI h D 0 ((h.1 S 0))) from ⟨stO_0 oS hP, stO_0 oD hP, rfl, rfl, ?_⟩)
  refine am_goX 4 (show am_sh (am_wI h D 0 ((h.1 S 0))) S = some (6, 0) ∧ am_sh (am_wI h D 0 ((h.1 S 0))) D = some (6, 0) ∧ narrow (am_fty 6 1) (.int (((am_wI h D 0 ((h.1 S 0))).1 S 1))) = .int (((am_wI h D 0 ((h.1 S 0))).1 S 1)) ∧ fits (am_fty 6 1) (.int (((am_wI h D 0 ((h.1 S 0))).1 S 1))) = true ∧ pz_S 3 none am_r99 0 Q 16 [(0, .ref D), (1, .ref S)] [] (am_wI (am_wI h D 0 ((h.1 S 0))) D 1 (((am_wI h D 0 ((h.1 S 0))).1 S 1))) from ⟨stO_0 oS hP, stO_0 oD hP, rfl, rfl, ?_⟩)
  rw [show (am_wI h D 0 ((h.1 S 0))).1 S 1 = h.1 S 1 from em_wn _ _ (by omega)]
  refine am_goX 2 (show 2 < 3 ∧ pz_S 3 none am_r99 0 Q 18 [(2, .int (Int32.ofInt 0)), (0, .ref D), (1, .ref S)] [] (am_wI (am_wI h D 0 ((h.1 S 0))) D 1 (h.1 S 1)) from ⟨by decide, ?_⟩)
  exact q_99a oD oS hd 6 0 _ rfl hP (fun j hj1 => absurd hj1 (Nat.not_lt_zero j)) (fun h1 p1 p2 p3 p4 p5 => hQ h1 p1 p2 (fun o k hn => by rw [p3 o k (by omega), em_wn _ _ (by omega), em_wn _ _ (by omega)]) ⟨⟨by rw [p3 D 0 (by omega), em_wn _ _ (by omega), em_we], by rw [p3 D 1 (by omega), em_we]⟩, fun j hj1 => by
    have w := p4 j hj1
    rw [em_wn _ _ (by omega), em_wn _ _ (by omega), em_wn _ _ (by omega), em_wn _ _ (by omega)] at w
    exact w, fun j hj1 => by
    have w := p5 j hj1
    rw [em_wn _ _ (by omega), em_wn _ _ (by omega), em_wn _ _ (by omega), em_wn _ _ (by omega)] at w
    exact w⟩)
theorem sC_fr {o : Nat} {s : dS} {h g : am_H} (e : ∀ a k, o ≤ a → a ≤ o + 4 → g.1 a k = h.1 a k) (l : sC o s h) : sC o s g := by
  obtain ⟨⟨a1, a2⟩, a3, a4⟩ := l
  exact ⟨⟨(e _ _ (by omega) (by omega)).trans a1, (e _ _ (by omega) (by omega)).trans a2⟩, fun i hi => ⟨(e _ _ (by omega) (by omega)).trans (a3 i hi).1, (e _ _ (by omega) (by omega)).trans (a3 i hi).2⟩, fun i hi => ⟨(e _ _ (by omega) (by omega)).trans (a4 i hi).1, (e _ _ (by omega) (by omega)).trans (a4 i hi).2⟩⟩
theorem sC_cp {D S : Nat} {s : dS} {h g : am_H} (c : scq D S h g) (l : sC S s h) : sC D s g := by
  obtain ⟨⟨a1, a2⟩, a3, a4⟩ := l
  obtain ⟨⟨c1, c2⟩, c3, c4⟩ := c
  exact ⟨⟨c1.trans a1, c2.trans a2⟩, fun i hi => ⟨(c3 i hi).1.trans (a3 i hi).1, (c3 i hi).2.trans (a3 i hi).2⟩, fun i hi => ⟨(c4 i hi).1.trans (a4 i hi).1, (c4 i hi).2.trans (a4 i hi).2⟩⟩
/-- all but the History's own cells and the State D -/
def kF (D : Nat) (h0 h : am_H) : Prop := h.2 = h0.2 ∧ ∀ o k, ¬ o = 47 → ¬ (D ≤ o ∧ o ≤ D + 4) → h.1 o k = h0.1 o k
theorem kF_0 {D : Nat} {h : am_H} : kF D h h := ⟨rfl, fun _ _ _ _ => rfl⟩
theorem kF_w {D o k : Nat} {v : Int32} {h0 h : am_H} (ho : o = 47) (l : kF D h0 h) : kF D h0 (am_wI h o k v) := ⟨l.1, fun a j h1 h2 => (em_wn _ _ (by omega)).trans (l.2 a j h1 h2)⟩
theorem kF_c {D : Nat} {h0 h h1 : am_H} (l : kF D h0 h) (p2 : h1.2 = h.2) (p3 : ∀ o k, ¬ (D ≤ o ∧ o ≤ D + 4) → h1.1 o k = h.1 o k) : kF D h0 h1 := ⟨p2.trans l.1, fun a j h1 h2 => (p3 a j h2).trans (l.2 a j h1 h2)⟩
theorem scq_b {D D' S : Nat} {h0 h h1 : am_H} (l : kF D' h0 h) (hn : ∀ a, S ≤ a → a ≤ S + 4 → ¬ a = 47 ∧ ¬ (D' ≤ a ∧ a ≤ D' + 4)) (c : scq D S h h1) : scq D S h0 h1 := by
  have e : ∀ a k, S ≤ a → a ≤ S + 4 → h.1 a k = h0.1 a k := fun a k u1 u2 => l.2 a k (hn a u1 u2).1 (hn a u1 u2).2
  obtain ⟨⟨c1, c2⟩, c3, c4⟩ := c
  exact ⟨⟨c1.trans (e _ _ (by omega) (by omega)), c2.trans (e _ _ (by omega) (by omega))⟩, fun i hi => ⟨(c3 i hi).1.trans (e _ _ (by omega) (by omega)), (c3 i hi).2.trans (e _ _ (by omega) (by omega))⟩, fun i hi => ⟨(c4 i hi).1.trans (e _ _ (by omega) (by omega)), (c4 i hi).2.trans (e _ _ (by omega) (by omega))⟩⟩
theorem scq_w {D S o k : Nat} {v : Int32} {h0 h : am_H} (hn : ¬ (D ≤ o ∧ o ≤ D + 4)) (c : scq D S h0 h) : scq D S h0 (am_wI h o k v) := by
  obtain ⟨⟨c1, c2⟩, c3, c4⟩ := c
  refine ⟨⟨?_, ?_⟩, fun i hi => ⟨?_, ?_⟩, fun i hi => ⟨?_, ?_⟩⟩ <;> rw [em_wn _ _ (by omega)]
  · exact c1
  · exact c2
  · exact (c3 i hi).1
  · exact (c3 i hi).2
  · exact (c4 i hi).1
  · exact (c4 i hi).2
theorem nI_n0 {n : Nat} (h0 : 0 < n) (hn : n ≤ 4096) : ¬ nI n = 0 := fun w => by
  have e := nI_inj2 (a := n) (b := 0) (by omega) (by omega) w
  omega
theorem min16 : ∀ n, n < 17 → (if nI 16 < nI (n + 1) then nI 16 else nI (n + 1)) = nI (min (n + 1) 16) := by decide +kernel
variable {n : Nat}
theorem ex_48 {h : am_H} (hP : ex_P h) : am_sh h 48 = some (17, 16) := (ex_so hP (by decide +kernel)).2
theorem ex_w48 {h : am_H} (hP : ex_P h) : am_so h 48 = some (17, 16) := (ex_so hP (by decide +kernel)).1
theorem ex_49 {h : am_H} (hP : ex_P h) : am_sh h 49 = some (6, 0) := (ex_so hP (by decide +kernel)).2
theorem ex_54 {h : am_H} (hP : ex_P h) : am_sh h 54 = some (6, 0) := (ex_so hP (by decide +kernel)).2
theorem ex_59 {h : am_H} (hP : ex_P h) : am_sh h 59 = some (6, 0) := (ex_so hP (by decide +kernel)).2
theorem ex_64 {h : am_H} (hP : ex_P h) : am_sh h 64 = some (6, 0) := (ex_so hP (by decide +kernel)).2
theorem ex_69 {h : am_H} (hP : ex_P h) : am_sh h 69 = some (6, 0) := (ex_so hP (by decide +kernel)).2
theorem ex_74 {h : am_H} (hP : ex_P h) : am_sh h 74 = some (6, 0) := (ex_so hP (by decide +kernel)).2
theorem ex_79 {h : am_H} (hP : ex_P h) : am_sh h 79 = some (6, 0) := (ex_so hP (by decide +kernel)).2
theorem ex_84 {h : am_H} (hP : ex_P h) : am_sh h 84 = some (6, 0) := (ex_so hP (by decide +kernel)).2
theorem ex_89 {h : am_H} (hP : ex_P h) : am_sh h 89 = some (6, 0) := (ex_so hP (by decide +kernel)).2
theorem ex_94 {h : am_H} (hP : ex_P h) : am_sh h 94 = some (6, 0) := (ex_so hP (by decide +kernel)).2
theorem ex_99 {h : am_H} (hP : ex_P h) : am_sh h 99 = some (6, 0) := (ex_so hP (by decide +kernel)).2
theorem ex_104 {h : am_H} (hP : ex_P h) : am_sh h 104 = some (6, 0) := (ex_so hP (by decide +kernel)).2
theorem ex_109 {h : am_H} (hP : ex_P h) : am_sh h 109 = some (6, 0) := (ex_so hP (by decide +kernel)).2
theorem ex_114 {h : am_H} (hP : ex_P h) : am_sh h 114 = some (6, 0) := (ex_so hP (by decide +kernel)).2
theorem ex_119 {h : am_H} (hP : ex_P h) : am_sh h 119 = some (6, 0) := (ex_so hP (by decide +kernel)).2
theorem ex_124 {h : am_H} (hP : ex_P h) : am_sh h 124 = some (6, 0) := (ex_so hP (by decide +kernel)).2
theorem ex_r47_0 {h : am_H} (hP : ex_P h) : h.2.2.1 47 0 = some 48 := hP.2 47 0 48 (by decide +kernel)
theorem ex_r48_0 {h : am_H} (hP : ex_P h) : h.2.2.1 48 0 = some 49 := hP.2 48 0 49 (by decide +kernel)
theorem ex_r48_1 {h : am_H} (hP : ex_P h) : h.2.2.1 48 1 = some 54 := hP.2 48 1 54 (by decide +kernel)
theorem ex_r48_2 {h : am_H} (hP : ex_P h) : h.2.2.1 48 2 = some 59 := hP.2 48 2 59 (by decide +kernel)
theorem ex_r48_3 {h : am_H} (hP : ex_P h) : h.2.2.1 48 3 = some 64 := hP.2 48 3 64 (by decide +kernel)
theorem ex_r48_4 {h : am_H} (hP : ex_P h) : h.2.2.1 48 4 = some 69 := hP.2 48 4 69 (by decide +kernel)
theorem ex_r48_5 {h : am_H} (hP : ex_P h) : h.2.2.1 48 5 = some 74 := hP.2 48 5 74 (by decide +kernel)
theorem ex_r48_6 {h : am_H} (hP : ex_P h) : h.2.2.1 48 6 = some 79 := hP.2 48 6 79 (by decide +kernel)
theorem ex_r48_7 {h : am_H} (hP : ex_P h) : h.2.2.1 48 7 = some 84 := hP.2 48 7 84 (by decide +kernel)
theorem ex_r48_8 {h : am_H} (hP : ex_P h) : h.2.2.1 48 8 = some 89 := hP.2 48 8 89 (by decide +kernel)
theorem ex_r48_9 {h : am_H} (hP : ex_P h) : h.2.2.1 48 9 = some 94 := hP.2 48 9 94 (by decide +kernel)
theorem ex_r48_10 {h : am_H} (hP : ex_P h) : h.2.2.1 48 10 = some 99 := hP.2 48 10 99 (by decide +kernel)
theorem ex_r48_11 {h : am_H} (hP : ex_P h) : h.2.2.1 48 11 = some 104 := hP.2 48 11 104 (by decide +kernel)
theorem ex_r48_12 {h : am_H} (hP : ex_P h) : h.2.2.1 48 12 = some 109 := hP.2 48 12 109 (by decide +kernel)
theorem ex_r48_13 {h : am_H} (hP : ex_P h) : h.2.2.1 48 13 = some 114 := hP.2 48 13 114 (by decide +kernel)
theorem ex_r48_14 {h : am_H} (hP : ex_P h) : h.2.2.1 48 14 = some 119 := hP.2 48 14 119 (by decide +kernel)
theorem ex_r48_15 {h : am_H} (hP : ex_P h) : h.2.2.1 48 15 = some 124 := hP.2 48 15 124 (by decide +kernel)
theorem sv2_29 : am_r29.all (fun q => sv2_ok q.2) = true := by decide +kernel
def d_29 (x y : Int32) : Int32 := (if y < x then y else x)
theorem d_29_w (hP : ex_P h)  (hQ : Q (some (.int (d_29 x y))) h) : am_call am_cod 1 29 [.int x, .int y] h Q := by
  refine pz_call (n := 29) (nL := 2) (rt := (some .int)) (rows := am_r29) (d := 0) (by decide +kernel) (by decide +kernel) rfl (by funext pc; rfl) (ex_175 hP) (by exact Nat.le_of_ble_eq_true rfl) ?_
  suffices key : ∀ (v2 : Int32), v2 = (if y < x then y else x) → pz_S 2 (some .int) am_r29 0 Q 10 [] [.int v2] h by
    refine am_goX 3 (show (y < x → pz_S 2 (some .int) am_r29 0 Q 9 [(0, .int x), (1, .int y)] [] h) ∧ (¬ (y < x) → pz_S 2 (some .int) am_r29 0 Q 5 [(0, .int x), (1, .int y)] [] h) from ⟨fun c1 => ?_, fun c1 => ?_⟩)
    · refine am_goX 1 (show pz_S 2 (some .int) am_r29 0 Q 10 [(0, .int x), (1, .int y)] [.int y] h from ?_)
      exact sv_S2 sv2_29 (fun q hq => absurd hq List.not_mem_nil) (key _ (if_pos c1).symm)
    · refine am_goX 2 (show pz_S 2 (some .int) am_r29 0 Q 10 [(0, .int x), (1, .int y)] [.int x] h from ?_)
      exact sv_S2 sv2_29 (fun q hq => absurd hq List.not_mem_nil) (key _ (if_neg c1).symm)
  intro v2 e3
  subst e3
  exact am_goX 1 (show (∃ ty, (some .int) = some ty ∧ narrow ty (.int (if y < x then y else x)) = .int (if y < x then y else x)) ∧ h.2.2.2.2 = 175 ∧ _ from ⟨⟨.int, rfl, rfl⟩, ex_175 hP, hQ⟩)
theorem q_98_0 (hn : n ≤ 16) (hP : ex_P h) (e1 : h.1 47 1 = nI 0) (e2 : h.1 47 2 = nI n) (hQ : ∀ h1, ex_P h1 → h1.2 = h.2 → (∀ o k, ¬ o = 47 → ¬ (54 ≤ o ∧ o ≤ 58) → h1.1 o k = h.1 o k) → h1.1 47 1 = nI 1 → h1.1 47 2 = nI (min (n + 1) 16) → scq 54 36 h h1 → Q none h1) : am_call am_cod 2 98 [.ref 47, .ref 36] h Q := by
  refine pz_call (n := 98) (nL := 2) (rt := none) (rows := am_r98) (d := 1) (by decide +kernel) (by decide +kernel) rfl (by funext pc; rfl) (ex_175 hP) (by exact Nat.le_of_ble_eq_true rfl) ?_
  have hX := kF_0 (D := 54) (h := h)
  refine am_goX 3 (show am_sh h 47 = some (2, 0) ∧ pz_S 2 none am_r98 1 Q 5 [(0, .ref 47), (1, .ref 36)] [.int (h.1 47 1), .ref 47] h from ⟨ex_47 hP, ?_⟩)
  rw [show h.1 47 1 = nI 0 from e1]
  refine am_goX 4 (show ¬ ((Int8.ofInt 16).toInt32) = 0 ∧ pz_S 2 none am_r98 1 Q 10 [(0, .ref 47), (1, .ref 36)] [.int (((nI 0) + (Int32.ofInt 1)) - ((nI 0) + (Int32.ofInt 1)) / ((Int8.ofInt 16).toInt32) * ((Int8.ofInt 16).toInt32)), .ref 47] h from ⟨by decide, ?_⟩)
  rw [show ((nI 0) + (Int32.ofInt 1)) - ((nI 0) + (Int32.ofInt 1)) / ((Int8.ofInt 16).toInt32) * ((Int8.ofInt 16).toInt32) = nI 1 from (by decide)]
  refine am_goX 1 (show am_sh h 47 = some (2, 0) ∧ narrow (am_fty 2 1) (.int (nI 1)) = .int (nI 1) ∧ fits (am_fty 2 1) (.int (nI 1)) = true ∧ pz_S 2 none am_r98 1 Q 13 [(0, .ref 47), (1, .ref 36)] [] (am_wI h 47 1 (nI 1)) from ⟨ex_47 hP, rfl, rfl, ?_⟩)
  have f5 : ex_P (am_wI h 47 1 (nI 1)) := hP
  have f6 : (am_wI h 47 1 (nI 1)).1 47 1 = nI 1 := (em_we _ _ _ _).trans (rfl)
  have f7 : (am_wI h 47 1 (nI 1)).1 47 2 = nI n := (em_wn _ _ (by omega)).trans e2
  have f8 : kF 54 h (am_wI h 47 1 (nI 1)) := kF_w (by omega) hX
  generalize am_wI h 47 1 (nI 1) = h4 at f5 f6 f7 f8 ⊢
  refine am_goX 2 (show am_sh h4 47 = some (2, 0) ∧ pz_S 2 none am_r98 1 Q 17 [(0, .ref 47), (1, .ref 36)] [am_rf (h4.2.2.1 47 0)] h4 from ⟨ex_47 f5, ?_⟩)
  rw [show am_rf (h4.2.2.1 47 0) = .ref 48 from congrArg am_rf (ex_r47_0 f5)]
  refine am_goX 2 (show am_sh h4 47 = some (2, 0) ∧ pz_S 2 none am_r98 1 Q 21 [(0, .ref 47), (1, .ref 36)] [.int (h4.1 47 1), .ref 48] h4 from ⟨ex_47 f5, ?_⟩)
  rw [show h4.1 47 1 = nI 1 from f6]
  refine am_goX 1 (show ∃ jj nn : Nat, (am_sh h4 48 = some (16, nn) ∨ am_sh h4 48 = some (17, nn)) ∧ jj < nn ∧ nI 1 = nI jj ∧ pz_S 2 none am_r98 1 Q 22 [(0, .ref 47), (1, .ref 36)] [am_rf (h4.2.2.1 48 jj)] h4 from ⟨1, 16, Or.inr (ex_48 f5), by decide, rfl, ?_⟩)
  rw [show am_rf (h4.2.2.1 48 1) = .ref 54 from congrArg am_rf (ex_r48_1 f5)]
  refine am_goX 2 (show am_rc h4 54 6 ∧ 0 ≤ 8 ∧ h4.2.2.2.2 + am_al 99 ≤ 175 ∧ am_call am_cod 1 99 [.ref 54, .ref 36] h4 (fun vv h' => pz_S 2 none am_r98 1 Q 26 [(0, .ref 47), (1, .ref 36)] (vv.toList ++ []) h') from ⟨Or.inl ⟨by decide, ex_54 f5⟩, by decide, ex_lim f5 rfl, am_call.up (q_99 stO_54 stO_36 (by decide) f5 (fun h9 f10 f11 f12 f13 => ?_)) (by decide)⟩)
  have f14 : h9.1 47 1 = nI 1 := (f12 47 1 (by omega)).trans f6
  have f15 : h9.1 47 2 = nI n := (f12 47 2 (by omega)).trans f7
  have f16 : kF 54 h h9 := kF_c f8 f11 f12
  have f17 : scq 54 36 h h9 := scq_b f8 (fun a u1 u2 => by omega) f13
  refine am_goX 3 (show am_sh h9 47 = some (2, 0) ∧ pz_S 2 none am_r98 1 Q 31 [(0, .ref 47), (1, .ref 36)] [.int (h9.1 47 2), .ref 47] h9 from ⟨ex_47 f10, ?_⟩)
  rw [show h9.1 47 2 = nI n from f15]
  refine am_goX 3 (show pz_S 2 none am_r98 1 Q 35 [(0, .ref 47), (1, .ref 36)] [.int ((Int8.ofInt 16).toInt32), .int ((nI n) + (Int32.ofInt 1)), .ref 47] h9 from ?_)
  rw [show (nI n) + (Int32.ofInt 1) = nI (n + 1) from (dn_a rfl rfl)]
  rw [show (Int8.ofInt 16).toInt32 = nI 16 from (show (Int8.ofInt 16).toInt32 = nI 16 by decide)]
  refine am_goX 1 (show 1 ≤ 8 ∧ h9.2.2.2.2 + am_al 29 ≤ 175 ∧ am_call am_cod 1 29 [.int (nI (n + 1)), .int (nI 16)] h9 (fun vv h' => pz_S 2 none am_r98 1 Q 38 [(0, .ref 47), (1, .ref 36)] (vv.toList ++ [.ref 47]) h') from ⟨by decide, ex_lim f10 rfl, am_call.up (d_29_w f10 ?_) (by decide)⟩)
  rw [show d_29 (nI (n + 1)) (nI 16) = nI (min (n + 1) 16) from ((show d_29 (nI (n + 1)) (nI 16) = nI (min (n + 1) 16) from min16 n (by omega)))]
  refine am_goX 1 (show am_sh h9 47 = some (2, 0) ∧ narrow (am_fty 2 2) (.int (nI (min (n + 1) 16))) = .int (nI (min (n + 1) 16)) ∧ fits (am_fty 2 2) (.int (nI (min (n + 1) 16))) = true ∧ pz_S 2 none am_r98 1 Q 41 [(0, .ref 47), (1, .ref 36)] [] (am_wI h9 47 2 (nI (min (n + 1) 16))) from ⟨ex_47 f10, rfl, rfl, ?_⟩)
  have f19 : ex_P (am_wI h9 47 2 (nI (min (n + 1) 16))) := f10
  have f20 : (am_wI h9 47 2 (nI (min (n + 1) 16))).1 47 1 = nI 1 := (em_wn _ _ (by omega)).trans f14
  have f21 : (am_wI h9 47 2 (nI (min (n + 1) 16))).1 47 2 = nI (min (n + 1) 16) := (em_we _ _ _ _).trans (rfl)
  have f22 : kF 54 h (am_wI h9 47 2 (nI (min (n + 1) 16))) := kF_w (by omega) f16
  have f23 : scq 54 36 h (am_wI h9 47 2 (nI (min (n + 1) 16))) := scq_w (by omega) f17
  generalize am_wI h9 47 2 (nI (min (n + 1) 16)) = h18 at f19 f20 f21 f22 f23 ⊢
  exact am_goX 1 (show (none : Option FieldType) = none ∧ h18.2.2.2.2 = 175 ∧ _ from ⟨rfl, ex_175 f19, hQ _ f19 f22.1 f22.2 f20 f21 f23⟩)
theorem q_98_1 (hn : n ≤ 16) (hP : ex_P h) (e1 : h.1 47 1 = nI 1) (e2 : h.1 47 2 = nI n) (hQ : ∀ h1, ex_P h1 → h1.2 = h.2 → (∀ o k, ¬ o = 47 → ¬ (59 ≤ o ∧ o ≤ 63) → h1.1 o k = h.1 o k) → h1.1 47 1 = nI 2 → h1.1 47 2 = nI (min (n + 1) 16) → scq 59 36 h h1 → Q none h1) : am_call am_cod 2 98 [.ref 47, .ref 36] h Q := by
  refine pz_call (n := 98) (nL := 2) (rt := none) (rows := am_r98) (d := 1) (by decide +kernel) (by decide +kernel) rfl (by funext pc; rfl) (ex_175 hP) (by exact Nat.le_of_ble_eq_true rfl) ?_
  have hX := kF_0 (D := 59) (h := h)
  refine am_goX 3 (show am_sh h 47 = some (2, 0) ∧ pz_S 2 none am_r98 1 Q 5 [(0, .ref 47), (1, .ref 36)] [.int (h.1 47 1), .ref 47] h from ⟨ex_47 hP, ?_⟩)
  rw [show h.1 47 1 = nI 1 from e1]
  refine am_goX 4 (show ¬ ((Int8.ofInt 16).toInt32) = 0 ∧ pz_S 2 none am_r98 1 Q 10 [(0, .ref 47), (1, .ref 36)] [.int (((nI 1) + (Int32.ofInt 1)) - ((nI 1) + (Int32.ofInt 1)) / ((Int8.ofInt 16).toInt32) * ((Int8.ofInt 16).toInt32)), .ref 47] h from ⟨by decide, ?_⟩)
  rw [show ((nI 1) + (Int32.ofInt 1)) - ((nI 1) + (Int32.ofInt 1)) / ((Int8.ofInt 16).toInt32) * ((Int8.ofInt 16).toInt32) = nI 2 from (by decide)]
  refine am_goX 1 (show am_sh h 47 = some (2, 0) ∧ narrow (am_fty 2 1) (.int (nI 2)) = .int (nI 2) ∧ fits (am_fty 2 1) (.int (nI 2)) = true ∧ pz_S 2 none am_r98 1 Q 13 [(0, .ref 47), (1, .ref 36)] [] (am_wI h 47 1 (nI 2)) from ⟨ex_47 hP, rfl, rfl, ?_⟩)
  have f25 : ex_P (am_wI h 47 1 (nI 2)) := hP
  have f26 : (am_wI h 47 1 (nI 2)).1 47 1 = nI 2 := (em_we _ _ _ _).trans (rfl)
  have f27 : (am_wI h 47 1 (nI 2)).1 47 2 = nI n := (em_wn _ _ (by omega)).trans e2
  have f28 : kF 59 h (am_wI h 47 1 (nI 2)) := kF_w (by omega) hX
  generalize am_wI h 47 1 (nI 2) = h24 at f25 f26 f27 f28 ⊢
  refine am_goX 2 (show am_sh h24 47 = some (2, 0) ∧ pz_S 2 none am_r98 1 Q 17 [(0, .ref 47), (1, .ref 36)] [am_rf (h24.2.2.1 47 0)] h24 from ⟨ex_47 f25, ?_⟩)
  rw [show am_rf (h24.2.2.1 47 0) = .ref 48 from congrArg am_rf (ex_r47_0 f25)]
  refine am_goX 2 (show am_sh h24 47 = some (2, 0) ∧ pz_S 2 none am_r98 1 Q 21 [(0, .ref 47), (1, .ref 36)] [.int (h24.1 47 1), .ref 48] h24 from ⟨ex_47 f25, ?_⟩)
  rw [show h24.1 47 1 = nI 2 from f26]
  refine am_goX 1 (show ∃ jj nn : Nat, (am_sh h24 48 = some (16, nn) ∨ am_sh h24 48 = some (17, nn)) ∧ jj < nn ∧ nI 2 = nI jj ∧ pz_S 2 none am_r98 1 Q 22 [(0, .ref 47), (1, .ref 36)] [am_rf (h24.2.2.1 48 jj)] h24 from ⟨2, 16, Or.inr (ex_48 f25), by decide, rfl, ?_⟩)
  rw [show am_rf (h24.2.2.1 48 2) = .ref 59 from congrArg am_rf (ex_r48_2 f25)]
  refine am_goX 2 (show am_rc h24 59 6 ∧ 0 ≤ 8 ∧ h24.2.2.2.2 + am_al 99 ≤ 175 ∧ am_call am_cod 1 99 [.ref 59, .ref 36] h24 (fun vv h' => pz_S 2 none am_r98 1 Q 26 [(0, .ref 47), (1, .ref 36)] (vv.toList ++ []) h') from ⟨Or.inl ⟨by decide, ex_59 f25⟩, by decide, ex_lim f25 rfl, am_call.up (q_99 stO_59 stO_36 (by decide) f25 (fun h29 f30 f31 f32 f33 => ?_)) (by decide)⟩)
  have f34 : h29.1 47 1 = nI 2 := (f32 47 1 (by omega)).trans f26
  have f35 : h29.1 47 2 = nI n := (f32 47 2 (by omega)).trans f27
  have f36 : kF 59 h h29 := kF_c f28 f31 f32
  have f37 : scq 59 36 h h29 := scq_b f28 (fun a u1 u2 => by omega) f33
  refine am_goX 3 (show am_sh h29 47 = some (2, 0) ∧ pz_S 2 none am_r98 1 Q 31 [(0, .ref 47), (1, .ref 36)] [.int (h29.1 47 2), .ref 47] h29 from ⟨ex_47 f30, ?_⟩)
  rw [show h29.1 47 2 = nI n from f35]
  refine am_goX 3 (show pz_S 2 none am_r98 1 Q 35 [(0, .ref 47), (1, .ref 36)] [.int ((Int8.ofInt 16).toInt32), .int ((nI n) + (Int32.ofInt 1)), .ref 47] h29 from ?_)
  rw [show (nI n) + (Int32.ofInt 1) = nI (n + 1) from (dn_a rfl rfl)]
  rw [show (Int8.ofInt 16).toInt32 = nI 16 from (show (Int8.ofInt 16).toInt32 = nI 16 by decide)]
  refine am_goX 1 (show 1 ≤ 8 ∧ h29.2.2.2.2 + am_al 29 ≤ 175 ∧ am_call am_cod 1 29 [.int (nI (n + 1)), .int (nI 16)] h29 (fun vv h' => pz_S 2 none am_r98 1 Q 38 [(0, .ref 47), (1, .ref 36)] (vv.toList ++ [.ref 47]) h') from ⟨by decide, ex_lim f30 rfl, am_call.up (d_29_w f30 ?_) (by decide)⟩)
  rw [show d_29 (nI (n + 1)) (nI 16) = nI (min (n + 1) 16) from ((show d_29 (nI (n + 1)) (nI 16) = nI (min (n + 1) 16) from min16 n (by omega)))]
  refine am_goX 1 (show am_sh h29 47 = some (2, 0) ∧ narrow (am_fty 2 2) (.int (nI (min (n + 1) 16))) = .int (nI (min (n + 1) 16)) ∧ fits (am_fty 2 2) (.int (nI (min (n + 1) 16))) = true ∧ pz_S 2 none am_r98 1 Q 41 [(0, .ref 47), (1, .ref 36)] [] (am_wI h29 47 2 (nI (min (n + 1) 16))) from ⟨ex_47 f30, rfl, rfl, ?_⟩)
  have f39 : ex_P (am_wI h29 47 2 (nI (min (n + 1) 16))) := f30
  have f40 : (am_wI h29 47 2 (nI (min (n + 1) 16))).1 47 1 = nI 2 := (em_wn _ _ (by omega)).trans f34
  have f41 : (am_wI h29 47 2 (nI (min (n + 1) 16))).1 47 2 = nI (min (n + 1) 16) := (em_we _ _ _ _).trans (rfl)
  have f42 : kF 59 h (am_wI h29 47 2 (nI (min (n + 1) 16))) := kF_w (by omega) f36
  have f43 : scq 59 36 h (am_wI h29 47 2 (nI (min (n + 1) 16))) := scq_w (by omega) f37
  generalize am_wI h29 47 2 (nI (min (n + 1) 16)) = h38 at f39 f40 f41 f42 f43 ⊢
  exact am_goX 1 (show (none : Option FieldType) = none ∧ h38.2.2.2.2 = 175 ∧ _ from ⟨rfl, ex_175 f39, hQ _ f39 f42.1 f42.2 f40 f41 f43⟩)
theorem q_98_2 (hn : n ≤ 16) (hP : ex_P h) (e1 : h.1 47 1 = nI 2) (e2 : h.1 47 2 = nI n) (hQ : ∀ h1, ex_P h1 → h1.2 = h.2 → (∀ o k, ¬ o = 47 → ¬ (64 ≤ o ∧ o ≤ 68) → h1.1 o k = h.1 o k) → h1.1 47 1 = nI 3 → h1.1 47 2 = nI (min (n + 1) 16) → scq 64 36 h h1 → Q none h1) : am_call am_cod 2 98 [.ref 47, .ref 36] h Q := by
  refine pz_call (n := 98) (nL := 2) (rt := none) (rows := am_r98) (d := 1) (by decide +kernel) (by decide +kernel) rfl (by funext pc; rfl) (ex_175 hP) (by exact Nat.le_of_ble_eq_true rfl) ?_
  have hX := kF_0 (D := 64) (h := h)
  refine am_goX 3 (show am_sh h 47 = some (2, 0) ∧ pz_S 2 none am_r98 1 Q 5 [(0, .ref 47), (1, .ref 36)] [.int (h.1 47 1), .ref 47] h from ⟨ex_47 hP, ?_⟩)
  rw [show h.1 47 1 = nI 2 from e1]
  refine am_goX 4 (show ¬ ((Int8.ofInt 16).toInt32) = 0 ∧ pz_S 2 none am_r98 1 Q 10 [(0, .ref 47), (1, .ref 36)] [.int (((nI 2) + (Int32.ofInt 1)) - ((nI 2) + (Int32.ofInt 1)) / ((Int8.ofInt 16).toInt32) * ((Int8.ofInt 16).toInt32)), .ref 47] h from ⟨by decide, ?_⟩)
  rw [show ((nI 2) + (Int32.ofInt 1)) - ((nI 2) + (Int32.ofInt 1)) / ((Int8.ofInt 16).toInt32) * ((Int8.ofInt 16).toInt32) = nI 3 from (by decide)]
  refine am_goX 1 (show am_sh h 47 = some (2, 0) ∧ narrow (am_fty 2 1) (.int (nI 3)) = .int (nI 3) ∧ fits (am_fty 2 1) (.int (nI 3)) = true ∧ pz_S 2 none am_r98 1 Q 13 [(0, .ref 47), (1, .ref 36)] [] (am_wI h 47 1 (nI 3)) from ⟨ex_47 hP, rfl, rfl, ?_⟩)
  have f45 : ex_P (am_wI h 47 1 (nI 3)) := hP
  have f46 : (am_wI h 47 1 (nI 3)).1 47 1 = nI 3 := (em_we _ _ _ _).trans (rfl)
  have f47 : (am_wI h 47 1 (nI 3)).1 47 2 = nI n := (em_wn _ _ (by omega)).trans e2
  have f48 : kF 64 h (am_wI h 47 1 (nI 3)) := kF_w (by omega) hX
  generalize am_wI h 47 1 (nI 3) = h44 at f45 f46 f47 f48 ⊢
  refine am_goX 2 (show am_sh h44 47 = some (2, 0) ∧ pz_S 2 none am_r98 1 Q 17 [(0, .ref 47), (1, .ref 36)] [am_rf (h44.2.2.1 47 0)] h44 from ⟨ex_47 f45, ?_⟩)
  rw [show am_rf (h44.2.2.1 47 0) = .ref 48 from congrArg am_rf (ex_r47_0 f45)]
  refine am_goX 2 (show am_sh h44 47 = some (2, 0) ∧ pz_S 2 none am_r98 1 Q 21 [(0, .ref 47), (1, .ref 36)] [.int (h44.1 47 1), .ref 48] h44 from ⟨ex_47 f45, ?_⟩)
  rw [show h44.1 47 1 = nI 3 from f46]
  refine am_goX 1 (show ∃ jj nn : Nat, (am_sh h44 48 = some (16, nn) ∨ am_sh h44 48 = some (17, nn)) ∧ jj < nn ∧ nI 3 = nI jj ∧ pz_S 2 none am_r98 1 Q 22 [(0, .ref 47), (1, .ref 36)] [am_rf (h44.2.2.1 48 jj)] h44 from ⟨3, 16, Or.inr (ex_48 f45), by decide, rfl, ?_⟩)
  rw [show am_rf (h44.2.2.1 48 3) = .ref 64 from congrArg am_rf (ex_r48_3 f45)]
  refine am_goX 2 (show am_rc h44 64 6 ∧ 0 ≤ 8 ∧ h44.2.2.2.2 + am_al 99 ≤ 175 ∧ am_call am_cod 1 99 [.ref 64, .ref 36] h44 (fun vv h' => pz_S 2 none am_r98 1 Q 26 [(0, .ref 47), (1, .ref 36)] (vv.toList ++ []) h') from ⟨Or.inl ⟨by decide, ex_64 f45⟩, by decide, ex_lim f45 rfl, am_call.up (q_99 stO_64 stO_36 (by decide) f45 (fun h49 f50 f51 f52 f53 => ?_)) (by decide)⟩)
  have f54 : h49.1 47 1 = nI 3 := (f52 47 1 (by omega)).trans f46
  have f55 : h49.1 47 2 = nI n := (f52 47 2 (by omega)).trans f47
  have f56 : kF 64 h h49 := kF_c f48 f51 f52
  have f57 : scq 64 36 h h49 := scq_b f48 (fun a u1 u2 => by omega) f53
  refine am_goX 3 (show am_sh h49 47 = some (2, 0) ∧ pz_S 2 none am_r98 1 Q 31 [(0, .ref 47), (1, .ref 36)] [.int (h49.1 47 2), .ref 47] h49 from ⟨ex_47 f50, ?_⟩)
  rw [show h49.1 47 2 = nI n from f55]
  refine am_goX 3 (show pz_S 2 none am_r98 1 Q 35 [(0, .ref 47), (1, .ref 36)] [.int ((Int8.ofInt 16).toInt32), .int ((nI n) + (Int32.ofInt 1)), .ref 47] h49 from ?_)
  rw [show (nI n) + (Int32.ofInt 1) = nI (n + 1) from (dn_a rfl rfl)]
  rw [show (Int8.ofInt 16).toInt32 = nI 16 from (show (Int8.ofInt 16).toInt32 = nI 16 by decide)]
  refine am_goX 1 (show 1 ≤ 8 ∧ h49.2.2.2.2 + am_al 29 ≤ 175 ∧ am_call am_cod 1 29 [.int (nI (n + 1)), .int (nI 16)] h49 (fun vv h' => pz_S 2 none am_r98 1 Q 38 [(0, .ref 47), (1, .ref 36)] (vv.toList ++ [.ref 47]) h') from ⟨by decide, ex_lim f50 rfl, am_call.up (d_29_w f50 ?_) (by decide)⟩)
  rw [show d_29 (nI (n + 1)) (nI 16) = nI (min (n + 1) 16) from ((show d_29 (nI (n + 1)) (nI 16) = nI (min (n + 1) 16) from min16 n (by omega)))]
  refine am_goX 1 (show am_sh h49 47 = some (2, 0) ∧ narrow (am_fty 2 2) (.int (nI (min (n + 1) 16))) = .int (nI (min (n + 1) 16)) ∧ fits (am_fty 2 2) (.int (nI (min (n + 1) 16))) = true ∧ pz_S 2 none am_r98 1 Q 41 [(0, .ref 47), (1, .ref 36)] [] (am_wI h49 47 2 (nI (min (n + 1) 16))) from ⟨ex_47 f50, rfl, rfl, ?_⟩)
  have f59 : ex_P (am_wI h49 47 2 (nI (min (n + 1) 16))) := f50
  have f60 : (am_wI h49 47 2 (nI (min (n + 1) 16))).1 47 1 = nI 3 := (em_wn _ _ (by omega)).trans f54
  have f61 : (am_wI h49 47 2 (nI (min (n + 1) 16))).1 47 2 = nI (min (n + 1) 16) := (em_we _ _ _ _).trans (rfl)
  have f62 : kF 64 h (am_wI h49 47 2 (nI (min (n + 1) 16))) := kF_w (by omega) f56
  have f63 : scq 64 36 h (am_wI h49 47 2 (nI (min (n + 1) 16))) := scq_w (by omega) f57
  generalize am_wI h49 47 2 (nI (min (n + 1) 16)) = h58 at f59 f60 f61 f62 f63 ⊢
  exact am_goX 1 (show (none : Option FieldType) = none ∧ h58.2.2.2.2 = 175 ∧ _ from ⟨rfl, ex_175 f59, hQ _ f59 f62.1 f62.2 f60 f61 f63⟩)
theorem q_98_3 (hn : n ≤ 16) (hP : ex_P h) (e1 : h.1 47 1 = nI 3) (e2 : h.1 47 2 = nI n) (hQ : ∀ h1, ex_P h1 → h1.2 = h.2 → (∀ o k, ¬ o = 47 → ¬ (69 ≤ o ∧ o ≤ 73) → h1.1 o k = h.1 o k) → h1.1 47 1 = nI 4 → h1.1 47 2 = nI (min (n + 1) 16) → scq 69 36 h h1 → Q none h1) : am_call am_cod 2 98 [.ref 47, .ref 36] h Q := by
  refine pz_call (n := 98) (nL := 2) (rt := none) (rows := am_r98) (d := 1) (by decide +kernel) (by decide +kernel) rfl (by funext pc; rfl) (ex_175 hP) (by exact Nat.le_of_ble_eq_true rfl) ?_
  have hX := kF_0 (D := 69) (h := h)
  refine am_goX 3 (show am_sh h 47 = some (2, 0) ∧ pz_S 2 none am_r98 1 Q 5 [(0, .ref 47), (1, .ref 36)] [.int (h.1 47 1), .ref 47] h from ⟨ex_47 hP, ?_⟩)
  rw [show h.1 47 1 = nI 3 from e1]
  refine am_goX 4 (show ¬ ((Int8.ofInt 16).toInt32) = 0 ∧ pz_S 2 none am_r98 1 Q 10 [(0, .ref 47), (1, .ref 36)] [.int (((nI 3) + (Int32.ofInt 1)) - ((nI 3) + (Int32.ofInt 1)) / ((Int8.ofInt 16).toInt32) * ((Int8.ofInt 16).toInt32)), .ref 47] h from ⟨by decide, ?_⟩)
  rw [show ((nI 3) + (Int32.ofInt 1)) - ((nI 3) + (Int32.ofInt 1)) / ((Int8.ofInt 16).toInt32) * ((Int8.ofInt 16).toInt32) = nI 4 from (by decide)]
  refine am_goX 1 (show am_sh h 47 = some (2, 0) ∧ narrow (am_fty 2 1) (.int (nI 4)) = .int (nI 4) ∧ fits (am_fty 2 1) (.int (nI 4)) = true ∧ pz_S 2 none am_r98 1 Q 13 [(0, .ref 47), (1, .ref 36)] [] (am_wI h 47 1 (nI 4)) from ⟨ex_47 hP, rfl, rfl, ?_⟩)
  have f65 : ex_P (am_wI h 47 1 (nI 4)) := hP
  have f66 : (am_wI h 47 1 (nI 4)).1 47 1 = nI 4 := (em_we _ _ _ _).trans (rfl)
  have f67 : (am_wI h 47 1 (nI 4)).1 47 2 = nI n := (em_wn _ _ (by omega)).trans e2
  have f68 : kF 69 h (am_wI h 47 1 (nI 4)) := kF_w (by omega) hX
  generalize am_wI h 47 1 (nI 4) = h64 at f65 f66 f67 f68 ⊢
  refine am_goX 2 (show am_sh h64 47 = some (2, 0) ∧ pz_S 2 none am_r98 1 Q 17 [(0, .ref 47), (1, .ref 36)] [am_rf (h64.2.2.1 47 0)] h64 from ⟨ex_47 f65, ?_⟩)
  rw [show am_rf (h64.2.2.1 47 0) = .ref 48 from congrArg am_rf (ex_r47_0 f65)]
  refine am_goX 2 (show am_sh h64 47 = some (2, 0) ∧ pz_S 2 none am_r98 1 Q 21 [(0, .ref 47), (1, .ref 36)] [.int (h64.1 47 1), .ref 48] h64 from ⟨ex_47 f65, ?_⟩)
  rw [show h64.1 47 1 = nI 4 from f66]
  refine am_goX 1 (show ∃ jj nn : Nat, (am_sh h64 48 = some (16, nn) ∨ am_sh h64 48 = some (17, nn)) ∧ jj < nn ∧ nI 4 = nI jj ∧ pz_S 2 none am_r98 1 Q 22 [(0, .ref 47), (1, .ref 36)] [am_rf (h64.2.2.1 48 jj)] h64 from ⟨4, 16, Or.inr (ex_48 f65), by decide, rfl, ?_⟩)
  rw [show am_rf (h64.2.2.1 48 4) = .ref 69 from congrArg am_rf (ex_r48_4 f65)]
  refine am_goX 2 (show am_rc h64 69 6 ∧ 0 ≤ 8 ∧ h64.2.2.2.2 + am_al 99 ≤ 175 ∧ am_call am_cod 1 99 [.ref 69, .ref 36] h64 (fun vv h' => pz_S 2 none am_r98 1 Q 26 [(0, .ref 47), (1, .ref 36)] (vv.toList ++ []) h') from ⟨Or.inl ⟨by decide, ex_69 f65⟩, by decide, ex_lim f65 rfl, am_call.up (q_99 stO_69 stO_36 (by decide) f65 (fun h69 f70 f71 f72 f73 => ?_)) (by decide)⟩)
  have f74 : h69.1 47 1 = nI 4 := (f72 47 1 (by omega)).trans f66
  have f75 : h69.1 47 2 = nI n := (f72 47 2 (by omega)).trans f67
  have f76 : kF 69 h h69 := kF_c f68 f71 f72
  have f77 : scq 69 36 h h69 := scq_b f68 (fun a u1 u2 => by omega) f73
  refine am_goX 3 (show am_sh h69 47 = some (2, 0) ∧ pz_S 2 none am_r98 1 Q 31 [(0, .ref 47), (1, .ref 36)] [.int (h69.1 47 2), .ref 47] h69 from ⟨ex_47 f70, ?_⟩)
  rw [show h69.1 47 2 = nI n from f75]
  refine am_goX 3 (show pz_S 2 none am_r98 1 Q 35 [(0, .ref 47), (1, .ref 36)] [.int ((Int8.ofInt 16).toInt32), .int ((nI n) + (Int32.ofInt 1)), .ref 47] h69 from ?_)
  rw [show (nI n) + (Int32.ofInt 1) = nI (n + 1) from (dn_a rfl rfl)]
  rw [show (Int8.ofInt 16).toInt32 = nI 16 from (show (Int8.ofInt 16).toInt32 = nI 16 by decide)]
  refine am_goX 1 (show 1 ≤ 8 ∧ h69.2.2.2.2 + am_al 29 ≤ 175 ∧ am_call am_cod 1 29 [.int (nI (n + 1)), .int (nI 16)] h69 (fun vv h' => pz_S 2 none am_r98 1 Q 38 [(0, .ref 47), (1, .ref 36)] (vv.toList ++ [.ref 47]) h') from ⟨by decide, ex_lim f70 rfl, am_call.up (d_29_w f70 ?_) (by decide)⟩)
  rw [show d_29 (nI (n + 1)) (nI 16) = nI (min (n + 1) 16) from ((show d_29 (nI (n + 1)) (nI 16) = nI (min (n + 1) 16) from min16 n (by omega)))]
  refine am_goX 1 (show am_sh h69 47 = some (2, 0) ∧ narrow (am_fty 2 2) (.int (nI (min (n + 1) 16))) = .int (nI (min (n + 1) 16)) ∧ fits (am_fty 2 2) (.int (nI (min (n + 1) 16))) = true ∧ pz_S 2 none am_r98 1 Q 41 [(0, .ref 47), (1, .ref 36)] [] (am_wI h69 47 2 (nI (min (n + 1) 16))) from ⟨ex_47 f70, rfl, rfl, ?_⟩)
  have f79 : ex_P (am_wI h69 47 2 (nI (min (n + 1) 16))) := f70
  have f80 : (am_wI h69 47 2 (nI (min (n + 1) 16))).1 47 1 = nI 4 := (em_wn _ _ (by omega)).trans f74
  have f81 : (am_wI h69 47 2 (nI (min (n + 1) 16))).1 47 2 = nI (min (n + 1) 16) := (em_we _ _ _ _).trans (rfl)
  have f82 : kF 69 h (am_wI h69 47 2 (nI (min (n + 1) 16))) := kF_w (by omega) f76
  have f83 : scq 69 36 h (am_wI h69 47 2 (nI (min (n + 1) 16))) := scq_w (by omega) f77
  generalize am_wI h69 47 2 (nI (min (n + 1) 16)) = h78 at f79 f80 f81 f82 f83 ⊢
  exact am_goX 1 (show (none : Option FieldType) = none ∧ h78.2.2.2.2 = 175 ∧ _ from ⟨rfl, ex_175 f79, hQ _ f79 f82.1 f82.2 f80 f81 f83⟩)
theorem q_98_4 (hn : n ≤ 16) (hP : ex_P h) (e1 : h.1 47 1 = nI 4) (e2 : h.1 47 2 = nI n) (hQ : ∀ h1, ex_P h1 → h1.2 = h.2 → (∀ o k, ¬ o = 47 → ¬ (74 ≤ o ∧ o ≤ 78) → h1.1 o k = h.1 o k) → h1.1 47 1 = nI 5 → h1.1 47 2 = nI (min (n + 1) 16) → scq 74 36 h h1 → Q none h1) : am_call am_cod 2 98 [.ref 47, .ref 36] h Q := by
  refine pz_call (n := 98) (nL := 2) (rt := none) (rows := am_r98) (d := 1) (by decide +kernel) (by decide +kernel) rfl (by funext pc; rfl) (ex_175 hP) (by exact Nat.le_of_ble_eq_true rfl) ?_
  have hX := kF_0 (D := 74) (h := h)
  refine am_goX 3 (show am_sh h 47 = some (2, 0) ∧ pz_S 2 none am_r98 1 Q 5 [(0, .ref 47), (1, .ref 36)] [.int (h.1 47 1), .ref 47] h from ⟨ex_47 hP, ?_⟩)
  rw [show h.1 47 1 = nI 4 from e1]
  refine am_goX 4 (show ¬ ((Int8.ofInt 16).toInt32) = 0 ∧ pz_S 2 none am_r98 1 Q 10 [(0, .ref 47), (1, .ref 36)] [.int (((nI 4) + (Int32.ofInt 1)) - ((nI 4) + (Int32.ofInt 1)) / ((Int8.ofInt 16).toInt32) * ((Int8.ofInt 16).toInt32)), .ref 47] h from ⟨by decide, ?_⟩)
  rw [show ((nI 4) + (Int32.ofInt 1)) - ((nI 4) + (Int32.ofInt 1)) / ((Int8.ofInt 16).toInt32) * ((Int8.ofInt 16).toInt32) = nI 5 from (by decide)]
  refine am_goX 1 (show am_sh h 47 = some (2, 0) ∧ narrow (am_fty 2 1) (.int (nI 5)) = .int (nI 5) ∧ fits (am_fty 2 1) (.int (nI 5)) = true ∧ pz_S 2 none am_r98 1 Q 13 [(0, .ref 47), (1, .ref 36)] [] (am_wI h 47 1 (nI 5)) from ⟨ex_47 hP, rfl, rfl, ?_⟩)
  have f85 : ex_P (am_wI h 47 1 (nI 5)) := hP
  have f86 : (am_wI h 47 1 (nI 5)).1 47 1 = nI 5 := (em_we _ _ _ _).trans (rfl)
  have f87 : (am_wI h 47 1 (nI 5)).1 47 2 = nI n := (em_wn _ _ (by omega)).trans e2
  have f88 : kF 74 h (am_wI h 47 1 (nI 5)) := kF_w (by omega) hX
  generalize am_wI h 47 1 (nI 5) = h84 at f85 f86 f87 f88 ⊢
  refine am_goX 2 (show am_sh h84 47 = some (2, 0) ∧ pz_S 2 none am_r98 1 Q 17 [(0, .ref 47), (1, .ref 36)] [am_rf (h84.2.2.1 47 0)] h84 from ⟨ex_47 f85, ?_⟩)
  rw [show am_rf (h84.2.2.1 47 0) = .ref 48 from congrArg am_rf (ex_r47_0 f85)]
  refine am_goX 2 (show am_sh h84 47 = some (2, 0) ∧ pz_S 2 none am_r98 1 Q 21 [(0, .ref 47), (1, .ref 36)] [.int (h84.1 47 1), .ref 48] h84 from ⟨ex_47 f85, ?_⟩)
  rw [show h84.1 47 1 = nI 5 from f86]
  refine am_goX 1 (show ∃ jj nn : Nat, (am_sh h84 48 = some (16, nn) ∨ am_sh h84 48 = some (17, nn)) ∧ jj < nn ∧ nI 5 = nI jj ∧ pz_S 2 none am_r98 1 Q 22 [(0, .ref 47), (1, .ref 36)] [am_rf (h84.2.2.1 48 jj)] h84 from ⟨5, 16, Or.inr (ex_48 f85), by decide, rfl, ?_⟩)
  rw [show am_rf (h84.2.2.1 48 5) = .ref 74 from congrArg am_rf (ex_r48_5 f85)]
  refine am_goX 2 (show am_rc h84 74 6 ∧ 0 ≤ 8 ∧ h84.2.2.2.2 + am_al 99 ≤ 175 ∧ am_call am_cod 1 99 [.ref 74, .ref 36] h84 (fun vv h' => pz_S 2 none am_r98 1 Q 26 [(0, .ref 47), (1, .ref 36)] (vv.toList ++ []) h') from ⟨Or.inl ⟨by decide, ex_74 f85⟩, by decide, ex_lim f85 rfl, am_call.up (q_99 stO_74 stO_36 (by decide) f85 (fun h89 f90 f91 f92 f93 => ?_)) (by decide)⟩)
  have f94 : h89.1 47 1 = nI 5 := (f92 47 1 (by omega)).trans f86
  have f95 : h89.1 47 2 = nI n := (f92 47 2 (by omega)).trans f87
  have f96 : kF 74 h h89 := kF_c f88 f91 f92
  have f97 : scq 74 36 h h89 := scq_b f88 (fun a u1 u2 => by omega) f93
  refine am_goX 3 (show am_sh h89 47 = some (2, 0) ∧ pz_S 2 none am_r98 1 Q 31 [(0, .ref 47), (1, .ref 36)] [.int (h89.1 47 2), .ref 47] h89 from ⟨ex_47 f90, ?_⟩)
  rw [show h89.1 47 2 = nI n from f95]
  refine am_goX 3 (show pz_S 2 none am_r98 1 Q 35 [(0, .ref 47), (1, .ref 36)] [.int ((Int8.ofInt 16).toInt32), .int ((nI n) + (Int32.ofInt 1)), .ref 47] h89 from ?_)
  rw [show (nI n) + (Int32.ofInt 1) = nI (n + 1) from (dn_a rfl rfl)]
  rw [show (Int8.ofInt 16).toInt32 = nI 16 from (show (Int8.ofInt 16).toInt32 = nI 16 by decide)]
  refine am_goX 1 (show 1 ≤ 8 ∧ h89.2.2.2.2 + am_al 29 ≤ 175 ∧ am_call am_cod 1 29 [.int (nI (n + 1)), .int (nI 16)] h89 (fun vv h' => pz_S 2 none am_r98 1 Q 38 [(0, .ref 47), (1, .ref 36)] (vv.toList ++ [.ref 47]) h') from ⟨by decide, ex_lim f90 rfl, am_call.up (d_29_w f90 ?_) (by decide)⟩)
  rw [show d_29 (nI (n + 1)) (nI 16) = nI (min (n + 1) 16) from ((show d_29 (nI (n + 1)) (nI 16) = nI (min (n + 1) 16) from min16 n (by omega)))]
  refine am_goX 1 (show am_sh h89 47 = some (2, 0) ∧ narrow (am_fty 2 2) (.int (nI (min (n + 1) 16))) = .int (nI (min (n + 1) 16)) ∧ fits (am_fty 2 2) (.int (nI (min (n + 1) 16))) = true ∧ pz_S 2 none am_r98 1 Q 41 [(0, .ref 47), (1, .ref 36)] [] (am_wI h89 47 2 (nI (min (n + 1) 16))) from ⟨ex_47 f90, rfl, rfl, ?_⟩)
  have f99 : ex_P (am_wI h89 47 2 (nI (min (n + 1) 16))) := f90
  have f100 : (am_wI h89 47 2 (nI (min (n + 1) 16))).1 47 1 = nI 5 := (em_wn _ _ (by omega)).trans f94
  have f101 : (am_wI h89 47 2 (nI (min (n + 1) 16))).1 47 2 = nI (min (n + 1) 16) := (em_we _ _ _ _).trans (rfl)
  have f102 : kF 74 h (am_wI h89 47 2 (nI (min (n + 1) 16))) := kF_w (by omega) f96
  have f103 : scq 74 36 h (am_wI h89 47 2 (nI (min (n + 1) 16))) := scq_w (by omega) f97
  generalize am_wI h89 47 2 (nI (min (n + 1) 16)) = h98 at f99 f100 f101 f102 f103 ⊢
  exact am_goX 1 (show (none : Option FieldType) = none ∧ h98.2.2.2.2 = 175 ∧ _ from ⟨rfl, ex_175 f99, hQ _ f99 f102.1 f102.2 f100 f101 f103⟩)
theorem q_98_5 (hn : n ≤ 16) (hP : ex_P h) (e1 : h.1 47 1 = nI 5) (e2 : h.1 47 2 = nI n) (hQ : ∀ h1, ex_P h1 → h1.2 = h.2 → (∀ o k, ¬ o = 47 → ¬ (79 ≤ o ∧ o ≤ 83) → h1.1 o k = h.1 o k) → h1.1 47 1 = nI 6 → h1.1 47 2 = nI (min (n + 1) 16) → scq 79 36 h h1 → Q none h1) : am_call am_cod 2 98 [.ref 47, .ref 36] h Q := by
  refine pz_call (n := 98) (nL := 2) (rt := none) (rows := am_r98) (d := 1) (by decide +kernel) (by decide +kernel) rfl (by funext pc; rfl) (ex_175 hP) (by exact Nat.le_of_ble_eq_true rfl) ?_
  have hX := kF_0 (D := 79) (h := h)
  refine am_goX 3 (show am_sh h 47 = some (2, 0) ∧ pz_S 2 none am_r98 1 Q 5 [(0, .ref 47), (1, .ref 36)] [.int (h.1 47 1), .ref 47] h from ⟨ex_47 hP, ?_⟩)
  rw [show h.1 47 1 = nI 5 from e1]
  refine am_goX 4 (show ¬ ((Int8.ofInt 16).toInt32) = 0 ∧ pz_S 2 none am_r98 1 Q 10 [(0, .ref 47), (1, .ref 36)] [.int (((nI 5) + (Int32.ofInt 1)) - ((nI 5) + (Int32.ofInt 1)) / ((Int8.ofInt 16).toInt32) * ((Int8.ofInt 16).toInt32)), .ref 47] h from ⟨by decide, ?_⟩)
  rw [show ((nI 5) + (Int32.ofInt 1)) - ((nI 5) + (Int32.ofInt 1)) / ((Int8.ofInt 16).toInt32) * ((Int8.ofInt 16).toInt32) = nI 6 from (by decide)]
  refine am_goX 1 (show am_sh h 47 = some (2, 0) ∧ narrow (am_fty 2 1) (.int (nI 6)) = .int (nI 6) ∧ fits (am_fty 2 1) (.int (nI 6)) = true ∧ pz_S 2 none am_r98 1 Q 13 [(0, .ref 47), (1, .ref 36)] [] (am_wI h 47 1 (nI 6)) from ⟨ex_47 hP, rfl, rfl, ?_⟩)
  have f105 : ex_P (am_wI h 47 1 (nI 6)) := hP
  have f106 : (am_wI h 47 1 (nI 6)).1 47 1 = nI 6 := (em_we _ _ _ _).trans (rfl)
  have f107 : (am_wI h 47 1 (nI 6)).1 47 2 = nI n := (em_wn _ _ (by omega)).trans e2
  have f108 : kF 79 h (am_wI h 47 1 (nI 6)) := kF_w (by omega) hX
  generalize am_wI h 47 1 (nI 6) = h104 at f105 f106 f107 f108 ⊢
  refine am_goX 2 (show am_sh h104 47 = some (2, 0) ∧ pz_S 2 none am_r98 1 Q 17 [(0, .ref 47), (1, .ref 36)] [am_rf (h104.2.2.1 47 0)] h104 from ⟨ex_47 f105, ?_⟩)
  rw [show am_rf (h104.2.2.1 47 0) = .ref 48 from congrArg am_rf (ex_r47_0 f105)]
  refine am_goX 2 (show am_sh h104 47 = some (2, 0) ∧ pz_S 2 none am_r98 1 Q 21 [(0, .ref 47), (1, .ref 36)] [.int (h104.1 47 1), .ref 48] h104 from ⟨ex_47 f105, ?_⟩)
  rw [show h104.1 47 1 = nI 6 from f106]
  refine am_goX 1 (show ∃ jj nn : Nat, (am_sh h104 48 = some (16, nn) ∨ am_sh h104 48 = some (17, nn)) ∧ jj < nn ∧ nI 6 = nI jj ∧ pz_S 2 none am_r98 1 Q 22 [(0, .ref 47), (1, .ref 36)] [am_rf (h104.2.2.1 48 jj)] h104 from ⟨6, 16, Or.inr (ex_48 f105), by decide, rfl, ?_⟩)
  rw [show am_rf (h104.2.2.1 48 6) = .ref 79 from congrArg am_rf (ex_r48_6 f105)]
  refine am_goX 2 (show am_rc h104 79 6 ∧ 0 ≤ 8 ∧ h104.2.2.2.2 + am_al 99 ≤ 175 ∧ am_call am_cod 1 99 [.ref 79, .ref 36] h104 (fun vv h' => pz_S 2 none am_r98 1 Q 26 [(0, .ref 47), (1, .ref 36)] (vv.toList ++ []) h') from ⟨Or.inl ⟨by decide, ex_79 f105⟩, by decide, ex_lim f105 rfl, am_call.up (q_99 stO_79 stO_36 (by decide) f105 (fun h109 f110 f111 f112 f113 => ?_)) (by decide)⟩)
  have f114 : h109.1 47 1 = nI 6 := (f112 47 1 (by omega)).trans f106
  have f115 : h109.1 47 2 = nI n := (f112 47 2 (by omega)).trans f107
  have f116 : kF 79 h h109 := kF_c f108 f111 f112
  have f117 : scq 79 36 h h109 := scq_b f108 (fun a u1 u2 => by omega) f113
  refine am_goX 3 (show am_sh h109 47 = some (2, 0) ∧ pz_S 2 none am_r98 1 Q 31 [(0, .ref 47), (1, .ref 36)] [.int (h109.1 47 2), .ref 47] h109 from ⟨ex_47 f110, ?_⟩)
  rw [show h109.1 47 2 = nI n from f115]
  refine am_goX 3 (show pz_S 2 none am_r98 1 Q 35 [(0, .ref 47), (1, .ref 36)] [.int ((Int8.ofInt 16).toInt32), .int ((nI n) + (Int32.ofInt 1)), .ref 47] h109 from ?_)
  rw [show (nI n) + (Int32.ofInt 1) = nI (n + 1) from (dn_a rfl rfl)]
  rw [show (Int8.ofInt 16).toInt32 = nI 16 from (show (Int8.ofInt 16).toInt32 = nI 16 by decide)]
  refine am_goX 1 (show 1 ≤ 8 ∧ h109.2.2.2.2 + am_al 29 ≤ 175 ∧ am_call am_cod 1 29 [.int (nI (n + 1)), .int (nI 16)] h109 (fun vv h' => pz_S 2 none am_r98 1 Q 38 [(0, .ref 47), (1, .ref 36)] (vv.toList ++ [.ref 47]) h') from ⟨by decide, ex_lim f110 rfl, am_call.up (d_29_w f110 ?_) (by decide)⟩)
  rw [show d_29 (nI (n + 1)) (nI 16) = nI (min (n + 1) 16) from ((show d_29 (nI (n + 1)) (nI 16) = nI (min (n + 1) 16) from min16 n (by omega)))]
  refine am_goX 1 (show am_sh h109 47 = some (2, 0) ∧ narrow (am_fty 2 2) (.int (nI (min (n + 1) 16))) = .int (nI (min (n + 1) 16)) ∧ fits (am_fty 2 2) (.int (nI (min (n + 1) 16))) = true ∧ pz_S 2 none am_r98 1 Q 41 [(0, .ref 47), (1, .ref 36)] [] (am_wI h109 47 2 (nI (min (n + 1) 16))) from ⟨ex_47 f110, rfl, rfl, ?_⟩)
  have f119 : ex_P (am_wI h109 47 2 (nI (min (n + 1) 16))) := f110
  have f120 : (am_wI h109 47 2 (nI (min (n + 1) 16))).1 47 1 = nI 6 := (em_wn _ _ (by omega)).trans f114
  have f121 : (am_wI h109 47 2 (nI (min (n + 1) 16))).1 47 2 = nI (min (n + 1) 16) := (em_we _ _ _ _).trans (rfl)
  have f122 : kF 79 h (am_wI h109 47 2 (nI (min (n + 1) 16))) := kF_w (by omega) f116
  have f123 : scq 79 36 h (am_wI h109 47 2 (nI (min (n + 1) 16))) := scq_w (by omega) f117
  generalize am_wI h109 47 2 (nI (min (n + 1) 16)) = h118 at f119 f120 f121 f122 f123 ⊢
  exact am_goX 1 (show (none : Option FieldType) = none ∧ h118.2.2.2.2 = 175 ∧ _ from ⟨rfl, ex_175 f119, hQ _ f119 f122.1 f122.2 f120 f121 f123⟩)
theorem q_98_6 (hn : n ≤ 16) (hP : ex_P h) (e1 : h.1 47 1 = nI 6) (e2 : h.1 47 2 = nI n) (hQ : ∀ h1, ex_P h1 → h1.2 = h.2 → (∀ o k, ¬ o = 47 → ¬ (84 ≤ o ∧ o ≤ 88) → h1.1 o k = h.1 o k) → h1.1 47 1 = nI 7 → h1.1 47 2 = nI (min (n + 1) 16) → scq 84 36 h h1 → Q none h1) : am_call am_cod 2 98 [.ref 47, .ref 36] h Q := by
  refine pz_call (n := 98) (nL := 2) (rt := none) (rows := am_r98) (d := 1) (by decide +kernel) (by decide +kernel) rfl (by funext pc; rfl) (ex_175 hP) (by exact Nat.le_of_ble_eq_true rfl) ?_
  have hX := kF_0 (D := 84) (h := h)
  refine am_goX 3 (show am_sh h 47 = some (2, 0) ∧ pz_S 2 none am_r98 1 Q 5 [(0, .ref 47), (1, .ref 36)] [.int (h.1 47 1), .ref 47] h from ⟨ex_47 hP, ?_⟩)
  rw [show h.1 47 1 = nI 6 from e1]
  refine am_goX 4 (show ¬ ((Int8.ofInt 16).toInt32) = 0 ∧ pz_S 2 none am_r98 1 Q 10 [(0, .ref 47), (1, .ref 36)] [.int (((nI 6) + (Int32.ofInt 1)) - ((nI 6) + (Int32.ofInt 1)) / ((Int8.ofInt 16).toInt32) * ((Int8.ofInt 16).toInt32)), .ref 47] h from ⟨by decide, ?_⟩)
  rw [show ((nI 6) + (Int32.ofInt 1)) - ((nI 6) + (Int32.ofInt 1)) / ((Int8.ofInt 16).toInt32) * ((Int8.ofInt 16).toInt32) = nI 7 from (by decide)]
  refine am_goX 1 (show am_sh h 47 = some (2, 0) ∧ narrow (am_fty 2 1) (.int (nI 7)) = .int (nI 7) ∧ fits (am_fty 2 1) (.int (nI 7)) = true ∧ pz_S 2 none am_r98 1 Q 13 [(0, .ref 47), (1, .ref 36)] [] (am_wI h 47 1 (nI 7)) from ⟨ex_47 hP, rfl, rfl, ?_⟩)
  have f125 : ex_P (am_wI h 47 1 (nI 7)) := hP
  have f126 : (am_wI h 47 1 (nI 7)).1 47 1 = nI 7 := (em_we _ _ _ _).trans (rfl)
  have f127 : (am_wI h 47 1 (nI 7)).1 47 2 = nI n := (em_wn _ _ (by omega)).trans e2
  have f128 : kF 84 h (am_wI h 47 1 (nI 7)) := kF_w (by omega) hX
  generalize am_wI h 47 1 (nI 7) = h124 at f125 f126 f127 f128 ⊢
  refine am_goX 2 (show am_sh h124 47 = some (2, 0) ∧ pz_S 2 none am_r98 1 Q 17 [(0, .ref 47), (1, .ref 36)] [am_rf (h124.2.2.1 47 0)] h124 from ⟨ex_47 f125, ?_⟩)
  rw [show am_rf (h124.2.2.1 47 0) = .ref 48 from congrArg am_rf (ex_r47_0 f125)]
  refine am_goX 2 (show am_sh h124 47 = some (2, 0) ∧ pz_S 2 none am_r98 1 Q 21 [(0, .ref 47), (1, .ref 36)] [.int (h124.1 47 1), .ref 48] h124 from ⟨ex_47 f125, ?_⟩)
  rw [show h124.1 47 1 = nI 7 from f126]
  refine am_goX 1 (show ∃ jj nn : Nat, (am_sh h124 48 = some (16, nn) ∨ am_sh h124 48 = some (17, nn)) ∧ jj < nn ∧ nI 7 = nI jj ∧ pz_S 2 none am_r98 1 Q 22 [(0, .ref 47), (1, .ref 36)] [am_rf (h124.2.2.1 48 jj)] h124 from ⟨7, 16, Or.inr (ex_48 f125), by decide, rfl, ?_⟩)
  rw [show am_rf (h124.2.2.1 48 7) = .ref 84 from congrArg am_rf (ex_r48_7 f125)]
  refine am_goX 2 (show am_rc h124 84 6 ∧ 0 ≤ 8 ∧ h124.2.2.2.2 + am_al 99 ≤ 175 ∧ am_call am_cod 1 99 [.ref 84, .ref 36] h124 (fun vv h' => pz_S 2 none am_r98 1 Q 26 [(0, .ref 47), (1, .ref 36)] (vv.toList ++ []) h') from ⟨Or.inl ⟨by decide, ex_84 f125⟩, by decide, ex_lim f125 rfl, am_call.up (q_99 stO_84 stO_36 (by decide) f125 (fun h129 f130 f131 f132 f133 => ?_)) (by decide)⟩)
  have f134 : h129.1 47 1 = nI 7 := (f132 47 1 (by omega)).trans f126
  have f135 : h129.1 47 2 = nI n := (f132 47 2 (by omega)).trans f127
  have f136 : kF 84 h h129 := kF_c f128 f131 f132
  have f137 : scq 84 36 h h129 := scq_b f128 (fun a u1 u2 => by omega) f133
  refine am_goX 3 (show am_sh h129 47 = some (2, 0) ∧ pz_S 2 none am_r98 1 Q 31 [(0, .ref 47), (1, .ref 36)] [.int (h129.1 47 2), .ref 47] h129 from ⟨ex_47 f130, ?_⟩)
  rw [show h129.1 47 2 = nI n from f135]
  refine am_goX 3 (show pz_S 2 none am_r98 1 Q 35 [(0, .ref 47), (1, .ref 36)] [.int ((Int8.ofInt 16).toInt32), .int ((nI n) + (Int32.ofInt 1)), .ref 47] h129 from ?_)
  rw [show (nI n) + (Int32.ofInt 1) = nI (n + 1) from (dn_a rfl rfl)]
  rw [show (Int8.ofInt 16).toInt32 = nI 16 from (show (Int8.ofInt 16).toInt32 = nI 16 by decide)]
  refine am_goX 1 (show 1 ≤ 8 ∧ h129.2.2.2.2 + am_al 29 ≤ 175 ∧ am_call am_cod 1 29 [.int (nI (n + 1)), .int (nI 16)] h129 (fun vv h' => pz_S 2 none am_r98 1 Q 38 [(0, .ref 47), (1, .ref 36)] (vv.toList ++ [.ref 47]) h') from ⟨by decide, ex_lim f130 rfl, am_call.up (d_29_w f130 ?_) (by decide)⟩)
  rw [show d_29 (nI (n + 1)) (nI 16) = nI (min (n + 1) 16) from ((show d_29 (nI (n + 1)) (nI 16) = nI (min (n + 1) 16) from min16 n (by omega)))]
  refine am_goX 1 (show am_sh h129 47 = some (2, 0) ∧ narrow (am_fty 2 2) (.int (nI (min (n + 1) 16))) = .int (nI (min (n + 1) 16)) ∧ fits (am_fty 2 2) (.int (nI (min (n + 1) 16))) = true ∧ pz_S 2 none am_r98 1 Q 41 [(0, .ref 47), (1, .ref 36)] [] (am_wI h129 47 2 (nI (min (n + 1) 16))) from ⟨ex_47 f130, rfl, rfl, ?_⟩)
  have f139 : ex_P (am_wI h129 47 2 (nI (min (n + 1) 16))) := f130
  have f140 : (am_wI h129 47 2 (nI (min (n + 1) 16))).1 47 1 = nI 7 := (em_wn _ _ (by omega)).trans f134
  have f141 : (am_wI h129 47 2 (nI (min (n + 1) 16))).1 47 2 = nI (min (n + 1) 16) := (em_we _ _ _ _).trans (rfl)
  have f142 : kF 84 h (am_wI h129 47 2 (nI (min (n + 1) 16))) := kF_w (by omega) f136
  have f143 : scq 84 36 h (am_wI h129 47 2 (nI (min (n + 1) 16))) := scq_w (by omega) f137
  generalize am_wI h129 47 2 (nI (min (n + 1) 16)) = h138 at f139 f140 f141 f142 f143 ⊢
  exact am_goX 1 (show (none : Option FieldType) = none ∧ h138.2.2.2.2 = 175 ∧ _ from ⟨rfl, ex_175 f139, hQ _ f139 f142.1 f142.2 f140 f141 f143⟩)
theorem q_98_7 (hn : n ≤ 16) (hP : ex_P h) (e1 : h.1 47 1 = nI 7) (e2 : h.1 47 2 = nI n) (hQ : ∀ h1, ex_P h1 → h1.2 = h.2 → (∀ o k, ¬ o = 47 → ¬ (89 ≤ o ∧ o ≤ 93) → h1.1 o k = h.1 o k) → h1.1 47 1 = nI 8 → h1.1 47 2 = nI (min (n + 1) 16) → scq 89 36 h h1 → Q none h1) : am_call am_cod 2 98 [.ref 47, .ref 36] h Q := by
  refine pz_call (n := 98) (nL := 2) (rt := none) (rows := am_r98) (d := 1) (by decide +kernel) (by decide +kernel) rfl (by funext pc; rfl) (ex_175 hP) (by exact Nat.le_of_ble_eq_true rfl) ?_
  have hX := kF_0 (D := 89) (h := h)
  refine am_goX 3 (show am_sh h 47 = some (2, 0) ∧ pz_S 2 none am_r98 1 Q 5 [(0, .ref 47), (1, .ref 36)] [.int (h.1 47 1), .ref 47] h from ⟨ex_47 hP, ?_⟩)
  rw [show h.1 47 1 = nI 7 from e1]
  refine am_goX 4 (show ¬ ((Int8.ofInt 16).toInt32) = 0 ∧ pz_S 2 none am_r98 1 Q 10 [(0, .ref 47), (1, .ref 36)] [.int (((nI 7) + (Int32.ofInt 1)) - ((nI 7) + (Int32.ofInt 1)) / ((Int8.ofInt 16).toInt32) * ((Int8.ofInt 16).toInt32)), .ref 47] h from ⟨by decide, ?_⟩)
  rw [show ((nI 7) + (Int32.ofInt 1)) - ((nI 7) + (Int32.ofInt 1)) / ((Int8.ofInt 16).toInt32) * ((Int8.ofInt 16).toInt32) = nI 8 from (by decide)]
  refine am_goX 1 (show am_sh h 47 = some (2, 0) ∧ narrow (am_fty 2 1) (.int (nI 8)) = .int (nI 8) ∧ fits (am_fty 2 1) (.int (nI 8)) = true ∧ pz_S 2 none am_r98 1 Q 13 [(0, .ref 47), (1, .ref 36)] [] (am_wI h 47 1 (nI 8)) from ⟨ex_47 hP, rfl, rfl, ?_⟩)
  have f145 : ex_P (am_wI h 47 1 (nI 8)) := hP
  have f146 : (am_wI h 47 1 (nI 8)).1 47 1 = nI 8 := (em_we _ _ _ _).trans (rfl)
  have f147 : (am_wI h 47 1 (nI 8)).1 47 2 = nI n := (em_wn _ _ (by omega)).trans e2
  have f148 : kF 89 h (am_wI h 47 1 (nI 8)) := kF_w (by omega) hX
  generalize am_wI h 47 1 (nI 8) = h144 at f145 f146 f147 f148 ⊢
  refine am_goX 2 (show am_sh h144 47 = some (2, 0) ∧ pz_S 2 none am_r98 1 Q 17 [(0, .ref 47), (1, .ref 36)] [am_rf (h144.2.2.1 47 0)] h144 from ⟨ex_47 f145, ?_⟩)
  rw [show am_rf (h144.2.2.1 47 0) = .ref 48 from congrArg am_rf (ex_r47_0 f145)]
  refine am_goX 2 (show am_sh h144 47 = some (2, 0) ∧ pz_S 2 none am_r98 1 Q 21 [(0, .ref 47), (1, .ref 36)] [.int (h144.1 47 1), .ref 48] h144 from ⟨ex_47 f145, ?_⟩)
  rw [show h144.1 47 1 = nI 8 from f146]
  refine am_goX 1 (show ∃ jj nn : Nat, (am_sh h144 48 = some (16, nn) ∨ am_sh h144 48 = some (17, nn)) ∧ jj < nn ∧ nI 8 = nI jj ∧ pz_S 2 none am_r98 1 Q 22 [(0, .ref 47), (1, .ref 36)] [am_rf (h144.2.2.1 48 jj)] h144 from ⟨8, 16, Or.inr (ex_48 f145), by decide, rfl, ?_⟩)
  rw [show am_rf (h144.2.2.1 48 8) = .ref 89 from congrArg am_rf (ex_r48_8 f145)]
  refine am_goX 2 (show am_rc h144 89 6 ∧ 0 ≤ 8 ∧ h144.2.2.2.2 + am_al 99 ≤ 175 ∧ am_call am_cod 1 99 [.ref 89, .ref 36] h144 (fun vv h' => pz_S 2 none am_r98 1 Q 26 [(0, .ref 47), (1, .ref 36)] (vv.toList ++ []) h') from ⟨Or.inl ⟨by decide, ex_89 f145⟩, by decide, ex_lim f145 rfl, am_call.up (q_99 stO_89 stO_36 (by decide) f145 (fun h149 f150 f151 f152 f153 => ?_)) (by decide)⟩)
  have f154 : h149.1 47 1 = nI 8 := (f152 47 1 (by omega)).trans f146
  have f155 : h149.1 47 2 = nI n := (f152 47 2 (by omega)).trans f147
  have f156 : kF 89 h h149 := kF_c f148 f151 f152
  have f157 : scq 89 36 h h149 := scq_b f148 (fun a u1 u2 => by omega) f153
  refine am_goX 3 (show am_sh h149 47 = some (2, 0) ∧ pz_S 2 none am_r98 1 Q 31 [(0, .ref 47), (1, .ref 36)] [.int (h149.1 47 2), .ref 47] h149 from ⟨ex_47 f150, ?_⟩)
  rw [show h149.1 47 2 = nI n from f155]
  refine am_goX 3 (show pz_S 2 none am_r98 1 Q 35 [(0, .ref 47), (1, .ref 36)] [.int ((Int8.ofInt 16).toInt32), .int ((nI n) + (Int32.ofInt 1)), .ref 47] h149 from ?_)
  rw [show (nI n) + (Int32.ofInt 1) = nI (n + 1) from (dn_a rfl rfl)]
  rw [show (Int8.ofInt 16).toInt32 = nI 16 from (show (Int8.ofInt 16).toInt32 = nI 16 by decide)]
  refine am_goX 1 (show 1 ≤ 8 ∧ h149.2.2.2.2 + am_al 29 ≤ 175 ∧ am_call am_cod 1 29 [.int (nI (n + 1)), .int (nI 16)] h149 (fun vv h' => pz_S 2 none am_r98 1 Q 38 [(0, .ref 47), (1, .ref 36)] (vv.toList ++ [.ref 47]) h') from ⟨by decide, ex_lim f150 rfl, am_call.up (d_29_w f150 ?_) (by decide)⟩)
  rw [show d_29 (nI (n + 1)) (nI 16) = nI (min (n + 1) 16) from ((show d_29 (nI (n + 1)) (nI 16) = nI (min (n + 1) 16) from min16 n (by omega)))]
  refine am_goX 1 (show am_sh h149 47 = some (2, 0) ∧ narrow (am_fty 2 2) (.int (nI (min (n + 1) 16))) = .int (nI (min (n + 1) 16)) ∧ fits (am_fty 2 2) (.int (nI (min (n + 1) 16))) = true ∧ pz_S 2 none am_r98 1 Q 41 [(0, .ref 47), (1, .ref 36)] [] (am_wI h149 47 2 (nI (min (n + 1) 16))) from ⟨ex_47 f150, rfl, rfl, ?_⟩)
  have f159 : ex_P (am_wI h149 47 2 (nI (min (n + 1) 16))) := f150
  have f160 : (am_wI h149 47 2 (nI (min (n + 1) 16))).1 47 1 = nI 8 := (em_wn _ _ (by omega)).trans f154
  have f161 : (am_wI h149 47 2 (nI (min (n + 1) 16))).1 47 2 = nI (min (n + 1) 16) := (em_we _ _ _ _).trans (rfl)
  have f162 : kF 89 h (am_wI h149 47 2 (nI (min (n + 1) 16))) := kF_w (by omega) f156
  have f163 : scq 89 36 h (am_wI h149 47 2 (nI (min (n + 1) 16))) := scq_w (by omega) f157
  generalize am_wI h149 47 2 (nI (min (n + 1) 16)) = h158 at f159 f160 f161 f162 f163 ⊢
  exact am_goX 1 (show (none : Option FieldType) = none ∧ h158.2.2.2.2 = 175 ∧ _ from ⟨rfl, ex_175 f159, hQ _ f159 f162.1 f162.2 f160 f161 f163⟩)
theorem q_98_8 (hn : n ≤ 16) (hP : ex_P h) (e1 : h.1 47 1 = nI 8) (e2 : h.1 47 2 = nI n) (hQ : ∀ h1, ex_P h1 → h1.2 = h.2 → (∀ o k, ¬ o = 47 → ¬ (94 ≤ o ∧ o ≤ 98) → h1.1 o k = h.1 o k) → h1.1 47 1 = nI 9 → h1.1 47 2 = nI (min (n + 1) 16) → scq 94 36 h h1 → Q none h1) : am_call am_cod 2 98 [.ref 47, .ref 36] h Q := by
  refine pz_call (n := 98) (nL := 2) (rt := none) (rows := am_r98) (d := 1) (by decide +kernel) (by decide +kernel) rfl (by funext pc; rfl) (ex_175 hP) (by exact Nat.le_of_ble_eq_true rfl) ?_
  have hX := kF_0 (D := 94) (h := h)
  refine am_goX 3 (show am_sh h 47 = some (2, 0) ∧ pz_S 2 none am_r98 1 Q 5 [(0, .ref 47), (1, .ref 36)] [.int (h.1 47 1), .ref 47] h from ⟨ex_47 hP, ?_⟩)
  rw [show h.1 47 1 = nI 8 from e1]
  refine am_goX 4 (show ¬ ((Int8.ofInt 16).toInt32) = 0 ∧ pz_S 2 none am_r98 1 Q 10 [(0, .ref 47), (1, .ref 36)] [.int (((nI 8) + (Int32.ofInt 1)) - ((nI 8) + (Int32.ofInt 1)) / ((Int8.ofInt 16).toInt32) * ((Int8.ofInt 16).toInt32)), .ref 47] h from ⟨by decide, ?_⟩)
  rw [show ((nI 8) + (Int32.ofInt 1)) - ((nI 8) + (Int32.ofInt 1)) / ((Int8.ofInt 16).toInt32) * ((Int8.ofInt 16).toInt32) = nI 9 from (by decide)]
  refine am_goX 1 (show am_sh h 47 = some (2, 0) ∧ narrow (am_fty 2 1) (.int (nI 9)) = .int (nI 9) ∧ fits (am_fty 2 1) (.int (nI 9)) = true ∧ pz_S 2 none am_r98 1 Q 13 [(0, .ref 47), (1, .ref 36)] [] (am_wI h 47 1 (nI 9)) from ⟨ex_47 hP, rfl, rfl, ?_⟩)
  have f165 : ex_P (am_wI h 47 1 (nI 9)) := hP
  have f166 : (am_wI h 47 1 (nI 9)).1 47 1 = nI 9 := (em_we _ _ _ _).trans (rfl)
  have f167 : (am_wI h 47 1 (nI 9)).1 47 2 = nI n := (em_wn _ _ (by omega)).trans e2
  have f168 : kF 94 h (am_wI h 47 1 (nI 9)) := kF_w (by omega) hX
  generalize am_wI h 47 1 (nI 9) = h164 at f165 f166 f167 f168 ⊢
  refine am_goX 2 (show am_sh h164 47 = some (2, 0) ∧ pz_S 2 none am_r98 1 Q 17 [(0, .ref 47), (1, .ref 36)] [am_rf (h164.2.2.1 47 0)] h164 from ⟨ex_47 f165, ?_⟩)
  rw [show am_rf (h164.2.2.1 47 0) = .ref 48 from congrArg am_rf (ex_r47_0 f165)]
  refine am_goX 2 (show am_sh h164 47 = some (2, 0) ∧ pz_S 2 none am_r98 1 Q 21 [(0, .ref 47), (1, .ref 36)] [.int (h164.1 47 1), .ref 48] h164 from ⟨ex_47 f165, ?_⟩)
  rw [show h164.1 47 1 = nI 9 from f166]
  refine am_goX 1 (show ∃ jj nn : Nat, (am_sh h164 48 = some (16, nn) ∨ am_sh h164 48 = some (17, nn)) ∧ jj < nn ∧ nI 9 = nI jj ∧ pz_S 2 none am_r98 1 Q 22 [(0, .ref 47), (1, .ref 36)] [am_rf (h164.2.2.1 48 jj)] h164 from ⟨9, 16, Or.inr (ex_48 f165), by decide, rfl, ?_⟩)
  rw [show am_rf (h164.2.2.1 48 9) = .ref 94 from congrArg am_rf (ex_r48_9 f165)]
  refine am_goX 2 (show am_rc h164 94 6 ∧ 0 ≤ 8 ∧ h164.2.2.2.2 + am_al 99 ≤ 175 ∧ am_call am_cod 1 99 [.ref 94, .ref 36] h164 (fun vv h' => pz_S 2 none am_r98 1 Q 26 [(0, .ref 47), (1, .ref 36)] (vv.toList ++ []) h') from ⟨Or.inl ⟨by decide, ex_94 f165⟩, by decide, ex_lim f165 rfl, am_call.up (q_99 stO_94 stO_36 (by decide) f165 (fun h169 f170 f171 f172 f173 => ?_)) (by decide)⟩)
  have f174 : h169.1 47 1 = nI 9 := (f172 47 1 (by omega)).trans f166
  have f175 : h169.1 47 2 = nI n := (f172 47 2 (by omega)).trans f167
  have f176 : kF 94 h h169 := kF_c f168 f171 f172
  have f177 : scq 94 36 h h169 := scq_b f168 (fun a u1 u2 => by omega) f173
  refine am_goX 3 (show am_sh h169 47 = some (2, 0) ∧ pz_S 2 none am_r98 1 Q 31 [(0, .ref 47), (1, .ref 36)] [.int (h169.1 47 2), .ref 47] h169 from ⟨ex_47 f170, ?_⟩)
  rw [show h169.1 47 2 = nI n from f175]
  refine am_goX 3 (show pz_S 2 none am_r98 1 Q 35 [(0, .ref 47), (1, .ref 36)] [.int ((Int8.ofInt 16).toInt32), .int ((nI n) + (Int32.ofInt 1)), .ref 47] h169 from ?_)
  rw [show (nI n) + (Int32.ofInt 1) = nI (n + 1) from (dn_a rfl rfl)]
  rw [show (Int8.ofInt 16).toInt32 = nI 16 from (show (Int8.ofInt 16).toInt32 = nI 16 by decide)]
  refine am_goX 1 (show 1 ≤ 8 ∧ h169.2.2.2.2 + am_al 29 ≤ 175 ∧ am_call am_cod 1 29 [.int (nI (n + 1)), .int (nI 16)] h169 (fun vv h' => pz_S 2 none am_r98 1 Q 38 [(0, .ref 47), (1, .ref 36)] (vv.toList ++ [.ref 47]) h') from ⟨by decide, ex_lim f170 rfl, am_call.up (d_29_w f170 ?_) (by decide)⟩)
  rw [show d_29 (nI (n + 1)) (nI 16) = nI (min (n + 1) 16) from ((show d_29 (nI (n + 1)) (nI 16) = nI (min (n + 1) 16) from min16 n (by omega)))]
  refine am_goX 1 (show am_sh h169 47 = some (2, 0) ∧ narrow (am_fty 2 2) (.int (nI (min (n + 1) 16))) = .int (nI (min (n + 1) 16)) ∧ fits (am_fty 2 2) (.int (nI (min (n + 1) 16))) = true ∧ pz_S 2 none am_r98 1 Q 41 [(0, .ref 47), (1, .ref 36)] [] (am_wI h169 47 2 (nI (min (n + 1) 16))) from ⟨ex_47 f170, rfl, rfl, ?_⟩)
  have f179 : ex_P (am_wI h169 47 2 (nI (min (n + 1) 16))) := f170
  have f180 : (am_wI h169 47 2 (nI (min (n + 1) 16))).1 47 1 = nI 9 := (em_wn _ _ (by omega)).trans f174
  have f181 : (am_wI h169 47 2 (nI (min (n + 1) 16))).1 47 2 = nI (min (n + 1) 16) := (em_we _ _ _ _).trans (rfl)
  have f182 : kF 94 h (am_wI h169 47 2 (nI (min (n + 1) 16))) := kF_w (by omega) f176
  have f183 : scq 94 36 h (am_wI h169 47 2 (nI (min (n + 1) 16))) := scq_w (by omega) f177
  generalize am_wI h169 47 2 (nI (min (n + 1) 16)) = h178 at f179 f180 f181 f182 f183 ⊢
  exact am_goX 1 (show (none : Option FieldType) = none ∧ h178.2.2.2.2 = 175 ∧ _ from ⟨rfl, ex_175 f179, hQ _ f179 f182.1 f182.2 f180 f181 f183⟩)
theorem q_98_9 (hn : n ≤ 16) (hP : ex_P h) (e1 : h.1 47 1 = nI 9) (e2 : h.1 47 2 = nI n) (hQ : ∀ h1, ex_P h1 → h1.2 = h.2 → (∀ o k, ¬ o = 47 → ¬ (99 ≤ o ∧ o ≤ 103) → h1.1 o k = h.1 o k) → h1.1 47 1 = nI 10 → h1.1 47 2 = nI (min (n + 1) 16) → scq 99 36 h h1 → Q none h1) : am_call am_cod 2 98 [.ref 47, .ref 36] h Q := by
  refine pz_call (n := 98) (nL := 2) (rt := none) (rows := am_r98) (d := 1) (by decide +kernel) (by decide +kernel) rfl (by funext pc; rfl) (ex_175 hP) (by exact Nat.le_of_ble_eq_true rfl) ?_
  have hX := kF_0 (D := 99) (h := h)
  refine am_goX 3 (show am_sh h 47 = some (2, 0) ∧ pz_S 2 none am_r98 1 Q 5 [(0, .ref 47), (1, .ref 36)] [.int (h.1 47 1), .ref 47] h from ⟨ex_47 hP, ?_⟩)
  rw [show h.1 47 1 = nI 9 from e1]
  refine am_goX 4 (show ¬ ((Int8.ofInt 16).toInt32) = 0 ∧ pz_S 2 none am_r98 1 Q 10 [(0, .ref 47), (1, .ref 36)] [.int (((nI 9) + (Int32.ofInt 1)) - ((nI 9) + (Int32.ofInt 1)) / ((Int8.ofInt 16).toInt32) * ((Int8.ofInt 16).toInt32)), .ref 47] h from ⟨by decide, ?_⟩)
  rw [show ((nI 9) + (Int32.ofInt 1)) - ((nI 9) + (Int32.ofInt 1)) / ((Int8.ofInt 16).toInt32) * ((Int8.ofInt 16).toInt32) = nI 10 from (by decide)]
  refine am_goX 1 (show am_sh h 47 = some (2, 0) ∧ narrow (am_fty 2 1) (.int (nI 10)) = .int (nI 10) ∧ fits (am_fty 2 1) (.int (nI 10)) = true ∧ pz_S 2 none am_r98 1 Q 13 [(0, .ref 47), (1, .ref 36)] [] (am_wI h 47 1 (nI 10)) from ⟨ex_47 hP, rfl, rfl, ?_⟩)
  have f185 : ex_P (am_wI h 47 1 (nI 10)) := hP
  have f186 : (am_wI h 47 1 (nI 10)).1 47 1 = nI 10 := (em_we _ _ _ _).trans (rfl)
  have f187 : (am_wI h 47 1 (nI 10)).1 47 2 = nI n := (em_wn _ _ (by omega)).trans e2
  have f188 : kF 99 h (am_wI h 47 1 (nI 10)) := kF_w (by omega) hX
  generalize am_wI h 47 1 (nI 10) = h184 at f185 f186 f187 f188 ⊢
  refine am_goX 2 (show am_sh h184 47 = some (2, 0) ∧ pz_S 2 none am_r98 1 Q 17 [(0, .ref 47), (1, .ref 36)] [am_rf (h184.2.2.1 47 0)] h184 from ⟨ex_47 f185, ?_⟩)
  rw [show am_rf (h184.2.2.1 47 0) = .ref 48 from congrArg am_rf (ex_r47_0 f185)]
  refine am_goX 2 (show am_sh h184 47 = some (2, 0) ∧ pz_S 2 none am_r98 1 Q 21 [(0, .ref 47), (1, .ref 36)] [.int (h184.1 47 1), .ref 48] h184 from ⟨ex_47 f185, ?_⟩)
  rw [show h184.1 47 1 = nI 10 from f186]
  refine am_goX 1 (show ∃ jj nn : Nat, (am_sh h184 48 = some (16, nn) ∨ am_sh h184 48 = some (17, nn)) ∧ jj < nn ∧ nI 10 = nI jj ∧ pz_S 2 none am_r98 1 Q 22 [(0, .ref 47), (1, .ref 36)] [am_rf (h184.2.2.1 48 jj)] h184 from ⟨10, 16, Or.inr (ex_48 f185), by decide, rfl, ?_⟩)
  rw [show am_rf (h184.2.2.1 48 10) = .ref 99 from congrArg am_rf (ex_r48_10 f185)]
  refine am_goX 2 (show am_rc h184 99 6 ∧ 0 ≤ 8 ∧ h184.2.2.2.2 + am_al 99 ≤ 175 ∧ am_call am_cod 1 99 [.ref 99, .ref 36] h184 (fun vv h' => pz_S 2 none am_r98 1 Q 26 [(0, .ref 47), (1, .ref 36)] (vv.toList ++ []) h') from ⟨Or.inl ⟨by decide, ex_99 f185⟩, by decide, ex_lim f185 rfl, am_call.up (q_99 stO_99 stO_36 (by decide) f185 (fun h189 f190 f191 f192 f193 => ?_)) (by decide)⟩)
  have f194 : h189.1 47 1 = nI 10 := (f192 47 1 (by omega)).trans f186
  have f195 : h189.1 47 2 = nI n := (f192 47 2 (by omega)).trans f187
  have f196 : kF 99 h h189 := kF_c f188 f191 f192
  have f197 : scq 99 36 h h189 := scq_b f188 (fun a u1 u2 => by omega) f193
  refine am_goX 3 (show am_sh h189 47 = some (2, 0) ∧ pz_S 2 none am_r98 1 Q 31 [(0, .ref 47), (1, .ref 36)] [.int (h189.1 47 2), .ref 47] h189 from ⟨ex_47 f190, ?_⟩)
  rw [show h189.1 47 2 = nI n from f195]
  refine am_goX 3 (show pz_S 2 none am_r98 1 Q 35 [(0, .ref 47), (1, .ref 36)] [.int ((Int8.ofInt 16).toInt32), .int ((nI n) + (Int32.ofInt 1)), .ref 47] h189 from ?_)
  rw [show (nI n) + (Int32.ofInt 1) = nI (n + 1) from (dn_a rfl rfl)]
  rw [show (Int8.ofInt 16).toInt32 = nI 16 from (show (Int8.ofInt 16).toInt32 = nI 16 by decide)]
  refine am_goX 1 (show 1 ≤ 8 ∧ h189.2.2.2.2 + am_al 29 ≤ 175 ∧ am_call am_cod 1 29 [.int (nI (n + 1)), .int (nI 16)] h189 (fun vv h' => pz_S 2 none am_r98 1 Q 38 [(0, .ref 47), (1, .ref 36)] (vv.toList ++ [.ref 47]) h') from ⟨by decide, ex_lim f190 rfl, am_call.up (d_29_w f190 ?_) (by decide)⟩)
  rw [show d_29 (nI (n + 1)) (nI 16) = nI (min (n + 1) 16) from ((show d_29 (nI (n + 1)) (nI 16) = nI (min (n + 1) 16) from min16 n (by omega)))]
  refine am_goX 1 (show am_sh h189 47 = some (2, 0) ∧ narrow (am_fty 2 2) (.int (nI (min (n + 1) 16))) = .int (nI (min (n + 1) 16)) ∧ fits (am_fty 2 2) (.int (nI (min (n + 1) 16))) = true ∧ pz_S 2 none am_r98 1 Q 41 [(0, .ref 47), (1, .ref 36)] [] (am_wI h189 47 2 (nI (min (n + 1) 16))) from ⟨ex_47 f190, rfl, rfl, ?_⟩)
  have f199 : ex_P (am_wI h189 47 2 (nI (min (n + 1) 16))) := f190
  have f200 : (am_wI h189 47 2 (nI (min (n + 1) 16))).1 47 1 = nI 10 := (em_wn _ _ (by omega)).trans f194
  have f201 : (am_wI h189 47 2 (nI (min (n + 1) 16))).1 47 2 = nI (min (n + 1) 16) := (em_we _ _ _ _).trans (rfl)
  have f202 : kF 99 h (am_wI h189 47 2 (nI (min (n + 1) 16))) := kF_w (by omega) f196
  have f203 : scq 99 36 h (am_wI h189 47 2 (nI (min (n + 1) 16))) := scq_w (by omega) f197
  generalize am_wI h189 47 2 (nI (min (n + 1) 16)) = h198 at f199 f200 f201 f202 f203 ⊢
  exact am_goX 1 (show (none : Option FieldType) = none ∧ h198.2.2.2.2 = 175 ∧ _ from ⟨rfl, ex_175 f199, hQ _ f199 f202.1 f202.2 f200 f201 f203⟩)
theorem q_98_10 (hn : n ≤ 16) (hP : ex_P h) (e1 : h.1 47 1 = nI 10) (e2 : h.1 47 2 = nI n) (hQ : ∀ h1, ex_P h1 → h1.2 = h.2 → (∀ o k, ¬ o = 47 → ¬ (104 ≤ o ∧ o ≤ 108) → h1.1 o k = h.1 o k) → h1.1 47 1 = nI 11 → h1.1 47 2 = nI (min (n + 1) 16) → scq 104 36 h h1 → Q none h1) : am_call am_cod 2 98 [.ref 47, .ref 36] h Q := by
  refine pz_call (n := 98) (nL := 2) (rt := none) (rows := am_r98) (d := 1) (by decide +kernel) (by decide +kernel) rfl (by funext pc; rfl) (ex_175 hP) (by exact Nat.le_of_ble_eq_true rfl) ?_
  have hX := kF_0 (D := 104) (h := h)
  refine am_goX 3 (show am_sh h 47 = some (2, 0) ∧ pz_S 2 none am_r98 1 Q 5 [(0, .ref 47), (1, .ref 36)] [.int (h.1 47 1), .ref 47] h from ⟨ex_47 hP, ?_⟩)
  rw [show h.1 47 1 = nI 10 from e1]
  refine am_goX 4 (show ¬ ((Int8.ofInt 16).toInt32) = 0 ∧ pz_S 2 none am_r98 1 Q 10 [(0, .ref 47), (1, .ref 36)] [.int (((nI 10) + (Int32.ofInt 1)) - ((nI 10) + (Int32.ofInt 1)) / ((Int8.ofInt 16).toInt32) * ((Int8.ofInt 16).toInt32)), .ref 47] h from ⟨by decide, ?_⟩)
  rw [show ((nI 10) + (Int32.ofInt 1)) - ((nI 10) + (Int32.ofInt 1)) / ((Int8.ofInt 16).toInt32) * ((Int8.ofInt 16).toInt32) = nI 11 from (by decide)]
  refine am_goX 1 (show am_sh h 47 = some (2, 0) ∧ narrow (am_fty 2 1) (.int (nI 11)) = .int (nI 11) ∧ fits (am_fty 2 1) (.int (nI 11)) = true ∧ pz_S 2 none am_r98 1 Q 13 [(0, .ref 47), (1, .ref 36)] [] (am_wI h 47 1 (nI 11)) from ⟨ex_47 hP, rfl, rfl, ?_⟩)
  have f205 : ex_P (am_wI h 47 1 (nI 11)) := hP
  have f206 : (am_wI h 47 1 (nI 11)).1 47 1 = nI 11 := (em_we _ _ _ _).trans (rfl)
  have f207 : (am_wI h 47 1 (nI 11)).1 47 2 = nI n := (em_wn _ _ (by omega)).trans e2
  have f208 : kF 104 h (am_wI h 47 1 (nI 11)) := kF_w (by omega) hX
  generalize am_wI h 47 1 (nI 11) = h204 at f205 f206 f207 f208 ⊢
  refine am_goX 2 (show am_sh h204 47 = some (2, 0) ∧ pz_S 2 none am_r98 1 Q 17 [(0, .ref 47), (1, .ref 36)] [am_rf (h204.2.2.1 47 0)] h204 from ⟨ex_47 f205, ?_⟩)
  rw [show am_rf (h204.2.2.1 47 0) = .ref 48 from congrArg am_rf (ex_r47_0 f205)]
  refine am_goX 2 (show am_sh h204 47 = some (2, 0) ∧ pz_S 2 none am_r98 1 Q 21 [(0, .ref 47), (1, .ref 36)] [.int (h204.1 47 1), .ref 48] h204 from ⟨ex_47 f205, ?_⟩)
  rw [show h204.1 47 1 = nI 11 from f206]
  refine am_goX 1 (show ∃ jj nn : Nat, (am_sh h204 48 = some (16, nn) ∨ am_sh h204 48 = some (17, nn)) ∧ jj < nn ∧ nI 11 = nI jj ∧ pz_S 2 none am_r98 1 Q 22 [(0, .ref 47), (1, .ref 36)] [am_rf (h204.2.2.1 48 jj)] h204 from ⟨11, 16, Or.inr (ex_48 f205), by decide, rfl, ?_⟩)
  rw [show am_rf (h204.2.2.1 48 11) = .ref 104 from congrArg am_rf (ex_r48_11 f205)]
  refine am_goX 2 (show am_rc h204 104 6 ∧ 0 ≤ 8 ∧ h204.2.2.2.2 + am_al 99 ≤ 175 ∧ am_call am_cod 1 99 [.ref 104, .ref 36] h204 (fun vv h' => pz_S 2 none am_r98 1 Q 26 [(0, .ref 47), (1, .ref 36)] (vv.toList ++ []) h') from ⟨Or.inl ⟨by decide, ex_104 f205⟩, by decide, ex_lim f205 rfl, am_call.up (q_99 stO_104 stO_36 (by decide) f205 (fun h209 f210 f211 f212 f213 => ?_)) (by decide)⟩)
  have f214 : h209.1 47 1 = nI 11 := (f212 47 1 (by omega)).trans f206
  have f215 : h209.1 47 2 = nI n := (f212 47 2 (by omega)).trans f207
  have f216 : kF 104 h h209 := kF_c f208 f211 f212
  have f217 : scq 104 36 h h209 := scq_b f208 (fun a u1 u2 => by omega) f213
  refine am_goX 3 (show am_sh h209 47 = some (2, 0) ∧ pz_S 2 none am_r98 1 Q 31 [(0, .ref 47), (1, .ref 36)] [.int (h209.1 47 2), .ref 47] h209 from ⟨ex_47 f210, ?_⟩)
  rw [show h209.1 47 2 = nI n from f215]
  refine am_goX 3 (show pz_S 2 none am_r98 1 Q 35 [(0, .ref 47), (1, .ref 36)] [.int ((Int8.ofInt 16).toInt32), .int ((nI n) + (Int32.ofInt 1)), .ref 47] h209 from ?_)
  rw [show (nI n) + (Int32.ofInt 1) = nI (n + 1) from (dn_a rfl rfl)]
  rw [show (Int8.ofInt 16).toInt32 = nI 16 from (show (Int8.ofInt 16).toInt32 = nI 16 by decide)]
  refine am_goX 1 (show 1 ≤ 8 ∧ h209.2.2.2.2 + am_al 29 ≤ 175 ∧ am_call am_cod 1 29 [.int (nI (n + 1)), .int (nI 16)] h209 (fun vv h' => pz_S 2 none am_r98 1 Q 38 [(0, .ref 47), (1, .ref 36)] (vv.toList ++ [.ref 47]) h') from ⟨by decide, ex_lim f210 rfl, am_call.up (d_29_w f210 ?_) (by decide)⟩)
  rw [show d_29 (nI (n + 1)) (nI 16) = nI (min (n + 1) 16) from ((show d_29 (nI (n + 1)) (nI 16) = nI (min (n + 1) 16) from min16 n (by omega)))]
  refine am_goX 1 (show am_sh h209 47 = some (2, 0) ∧ narrow (am_fty 2 2) (.int (nI (min (n + 1) 16))) = .int (nI (min (n + 1) 16)) ∧ fits (am_fty 2 2) (.int (nI (min (n + 1) 16))) = true ∧ pz_S 2 none am_r98 1 Q 41 [(0, .ref 47), (1, .ref 36)] [] (am_wI h209 47 2 (nI (min (n + 1) 16))) from ⟨ex_47 f210, rfl, rfl, ?_⟩)
  have f219 : ex_P (am_wI h209 47 2 (nI (min (n + 1) 16))) := f210
  have f220 : (am_wI h209 47 2 (nI (min (n + 1) 16))).1 47 1 = nI 11 := (em_wn _ _ (by omega)).trans f214
  have f221 : (am_wI h209 47 2 (nI (min (n + 1) 16))).1 47 2 = nI (min (n + 1) 16) := (em_we _ _ _ _).trans (rfl)
  have f222 : kF 104 h (am_wI h209 47 2 (nI (min (n + 1) 16))) := kF_w (by omega) f216
  have f223 : scq 104 36 h (am_wI h209 47 2 (nI (min (n + 1) 16))) := scq_w (by omega) f217
  generalize am_wI h209 47 2 (nI (min (n + 1) 16)) = h218 at f219 f220 f221 f222 f223 ⊢
  exact am_goX 1 (show (none : Option FieldType) = none ∧ h218.2.2.2.2 = 175 ∧ _ from ⟨rfl, ex_175 f219, hQ _ f219 f222.1 f222.2 f220 f221 f223⟩)
theorem q_98_11 (hn : n ≤ 16) (hP : ex_P h) (e1 : h.1 47 1 = nI 11) (e2 : h.1 47 2 = nI n) (hQ : ∀ h1, ex_P h1 → h1.2 = h.2 → (∀ o k, ¬ o = 47 → ¬ (109 ≤ o ∧ o ≤ 113) → h1.1 o k = h.1 o k) → h1.1 47 1 = nI 12 → h1.1 47 2 = nI (min (n + 1) 16) → scq 109 36 h h1 → Q none h1) : am_call am_cod 2 98 [.ref 47, .ref 36] h Q := by
  refine pz_call (n := 98) (nL := 2) (rt := none) (rows := am_r98) (d := 1) (by decide +kernel) (by decide +kernel) rfl (by funext pc; rfl) (ex_175 hP) (by exact Nat.le_of_ble_eq_true rfl) ?_
  have hX := kF_0 (D := 109) (h := h)
  refine am_goX 3 (show am_sh h 47 = some (2, 0) ∧ pz_S 2 none am_r98 1 Q 5 [(0, .ref 47), (1, .ref 36)] [.int (h.1 47 1), .ref 47] h from ⟨ex_47 hP, ?_⟩)
  rw [show h.1 47 1 = nI 11 from e1]
  refine am_goX 4 (show ¬ ((Int8.ofInt 16).toInt32) = 0 ∧ pz_S 2 none am_r98 1 Q 10 [(0, .ref 47), (1, .ref 36)] [.int (((nI 11) + (Int32.ofInt 1)) - ((nI 11) + (Int32.ofInt 1)) / ((Int8.ofInt 16).toInt32) * ((Int8.ofInt 16).toInt32)), .ref 47] h from ⟨by decide, ?_⟩)
  rw [show ((nI 11) + (Int32.ofInt 1)) - ((nI 11) + (Int32.ofInt 1)) / ((Int8.ofInt 16).toInt32) * ((Int8.ofInt 16).toInt32) = nI 12 from (by decide)]
  refine am_goX 1 (show am_sh h 47 = some (2, 0) ∧ narrow (am_fty 2 1) (.int (nI 12)) = .int (nI 12) ∧ fits (am_fty 2 1) (.int (nI 12)) = true ∧ pz_S 2 none am_r98 1 Q 13 [(0, .ref 47), (1, .ref 36)] [] (am_wI h 47 1 (nI 12)) from ⟨ex_47 hP, rfl, rfl, ?_⟩)
  have f225 : ex_P (am_wI h 47 1 (nI 12)) := hP
  have f226 : (am_wI h 47 1 (nI 12)).1 47 1 = nI 12 := (em_we _ _ _ _).trans (rfl)
  have f227 : (am_wI h 47 1 (nI 12)).1 47 2 = nI n := (em_wn _ _ (by omega)).trans e2
  have f228 : kF 109 h (am_wI h 47 1 (nI 12)) := kF_w (by omega) hX
  generalize am_wI h 47 1 (nI 12) = h224 at f225 f226 f227 f228 ⊢
  refine am_goX 2 (show am_sh h224 47 = some (2, 0) ∧ pz_S 2 none am_r98 1 Q 17 [(0, .ref 47), (1, .ref 36)] [am_rf (h224.2.2.1 47 0)] h224 from ⟨ex_47 f225, ?_⟩)
  rw [show am_rf (h224.2.2.1 47 0) = .ref 48 from congrArg am_rf (ex_r47_0 f225)]
  refine am_goX 2 (show am_sh h224 47 = some (2, 0) ∧ pz_S 2 none am_r98 1 Q 21 [(0, .ref 47), (1, .ref 36)] [.int (h224.1 47 1), .ref 48] h224 from ⟨ex_47 f225, ?_⟩)
  rw [show h224.1 47 1 = nI 12 from f226]
  refine am_goX 1 (show ∃ jj nn : Nat, (am_sh h224 48 = some (16, nn) ∨ am_sh h224 48 = some (17, nn)) ∧ jj < nn ∧ nI 12 = nI jj ∧ pz_S 2 none am_r98 1 Q 22 [(0, .ref 47), (1, .ref 36)] [am_rf (h224.2.2.1 48 jj)] h224 from ⟨12, 16, Or.inr (ex_48 f225), by decide, rfl, ?_⟩)
  rw [show am_rf (h224.2.2.1 48 12) = .ref 109 from congrArg am_rf (ex_r48_12 f225)]
  refine am_goX 2 (show am_rc h224 109 6 ∧ 0 ≤ 8 ∧ h224.2.2.2.2 + am_al 99 ≤ 175 ∧ am_call am_cod 1 99 [.ref 109, .ref 36] h224 (fun vv h' => pz_S 2 none am_r98 1 Q 26 [(0, .ref 47), (1, .ref 36)] (vv.toList ++ []) h') from ⟨Or.inl ⟨by decide, ex_109 f225⟩, by decide, ex_lim f225 rfl, am_call.up (q_99 stO_109 stO_36 (by decide) f225 (fun h229 f230 f231 f232 f233 => ?_)) (by decide)⟩)
  have f234 : h229.1 47 1 = nI 12 := (f232 47 1 (by omega)).trans f226
  have f235 : h229.1 47 2 = nI n := (f232 47 2 (by omega)).trans f227
  have f236 : kF 109 h h229 := kF_c f228 f231 f232
  have f237 : scq 109 36 h h229 := scq_b f228 (fun a u1 u2 => by omega) f233
  refine am_goX 3 (show am_sh h229 47 = some (2, 0) ∧ pz_S 2 none am_r98 1 Q 31 [(0, .ref 47), (1, .ref 36)] [.int (h229.1 47 2), .ref 47] h229 from ⟨ex_47 f230, ?_⟩)
  rw [show h229.1 47 2 = nI n from f235]
  refine am_goX 3 (show pz_S 2 none am_r98 1 Q 35 [(0, .ref 47), (1, .ref 36)] [.int ((Int8.ofInt 16).toInt32), .int ((nI n) + (Int32.ofInt 1)), .ref 47] h229 from ?_)
  rw [show (nI n) + (Int32.ofInt 1) = nI (n + 1) from (dn_a rfl rfl)]
  rw [show (Int8.ofInt 16).toInt32 = nI 16 from (show (Int8.ofInt 16).toInt32 = nI 16 by decide)]
  refine am_goX 1 (show 1 ≤ 8 ∧ h229.2.2.2.2 + am_al 29 ≤ 175 ∧ am_call am_cod 1 29 [.int (nI (n + 1)), .int (nI 16)] h229 (fun vv h' => pz_S 2 none am_r98 1 Q 38 [(0, .ref 47), (1, .ref 36)] (vv.toList ++ [.ref 47]) h') from ⟨by decide, ex_lim f230 rfl, am_call.up (d_29_w f230 ?_) (by decide)⟩)
  rw [show d_29 (nI (n + 1)) (nI 16) = nI (min (n + 1) 16) from ((show d_29 (nI (n + 1)) (nI 16) = nI (min (n + 1) 16) from min16 n (by omega)))]
  refine am_goX 1 (show am_sh h229 47 = some (2, 0) ∧ narrow (am_fty 2 2) (.int (nI (min (n + 1) 16))) = .int (nI (min (n + 1) 16)) ∧ fits (am_fty 2 2) (.int (nI (min (n + 1) 16))) = true ∧ pz_S 2 none am_r98 1 Q 41 [(0, .ref 47), (1, .ref 36)] [] (am_wI h229 47 2 (nI (min (n + 1) 16))) from ⟨ex_47 f230, rfl, rfl, ?_⟩)
  have f239 : ex_P (am_wI h229 47 2 (nI (min (n + 1) 16))) := f230
  have f240 : (am_wI h229 47 2 (nI (min (n + 1) 16))).1 47 1 = nI 12 := (em_wn _ _ (by omega)).trans f234
  have f241 : (am_wI h229 47 2 (nI (min (n + 1) 16))).1 47 2 = nI (min (n + 1) 16) := (em_we _ _ _ _).trans (rfl)
  have f242 : kF 109 h (am_wI h229 47 2 (nI (min (n + 1) 16))) := kF_w (by omega) f236
  have f243 : scq 109 36 h (am_wI h229 47 2 (nI (min (n + 1) 16))) := scq_w (by omega) f237
  generalize am_wI h229 47 2 (nI (min (n + 1) 16)) = h238 at f239 f240 f241 f242 f243 ⊢
  exact am_goX 1 (show (none : Option FieldType) = none ∧ h238.2.2.2.2 = 175 ∧ _ from ⟨rfl, ex_175 f239, hQ _ f239 f242.1 f242.2 f240 f241 f243⟩)
theorem q_98_12 (hn : n ≤ 16) (hP : ex_P h) (e1 : h.1 47 1 = nI 12) (e2 : h.1 47 2 = nI n) (hQ : ∀ h1, ex_P h1 → h1.2 = h.2 → (∀ o k, ¬ o = 47 → ¬ (114 ≤ o ∧ o ≤ 118) → h1.1 o k = h.1 o k) → h1.1 47 1 = nI 13 → h1.1 47 2 = nI (min (n + 1) 16) → scq 114 36 h h1 → Q none h1) : am_call am_cod 2 98 [.ref 47, .ref 36] h Q := by
  refine pz_call (n := 98) (nL := 2) (rt := none) (rows := am_r98) (d := 1) (by decide +kernel) (by decide +kernel) rfl (by funext pc; rfl) (ex_175 hP) (by exact Nat.le_of_ble_eq_true rfl) ?_
  have hX := kF_0 (D := 114) (h := h)
  refine am_goX 3 (show am_sh h 47 = some (2, 0) ∧ pz_S 2 none am_r98 1 Q 5 [(0, .ref 47), (1, .ref 36)] [.int (h.1 47 1), .ref 47] h from ⟨ex_47 hP, ?_⟩)
  rw [show h.1 47 1 = nI 12 from e1]
  refine am_goX 4 (show ¬ ((Int8.ofInt 16).toInt32) = 0 ∧ pz_S 2 none am_r98 1 Q 10 [(0, .ref 47), (1, .ref 36)] [.int (((nI 12) + (Int32.ofInt 1)) - ((nI 12) + (Int32.ofInt 1)) / ((Int8.ofInt 16).toInt32) * ((Int8.ofInt 16).toInt32)), .ref 47] h from ⟨by decide, ?_⟩)
  rw [show ((nI 12) + (Int32.ofInt 1)) - ((nI 12) + (Int32.ofInt 1)) / ((Int8.ofInt 16).toInt32) * ((Int8.ofInt 16).toInt32) = nI 13 from (by decide)]
  refine am_goX 1 (show am_sh h 47 = some (2, 0) ∧ narrow (am_fty 2 1) (.int (nI 13)) = .int (nI 13) ∧ fits (am_fty 2 1) (.int (nI 13)) = true ∧ pz_S 2 none am_r98 1 Q 13 [(0, .ref 47), (1, .ref 36)] [] (am_wI h 47 1 (nI 13)) from ⟨ex_47 hP, rfl, rfl, ?_⟩)
  have f245 : ex_P (am_wI h 47 1 (nI 13)) := hP
  have f246 : (am_wI h 47 1 (nI 13)).1 47 1 = nI 13 := (em_we _ _ _ _).trans (rfl)
  have f247 : (am_wI h 47 1 (nI 13)).1 47 2 = nI n := (em_wn _ _ (by omega)).trans e2
  have f248 : kF 114 h (am_wI h 47 1 (nI 13)) := kF_w (by omega) hX
  generalize am_wI h 47 1 (nI 13) = h244 at f245 f246 f247 f248 ⊢
  refine am_goX 2 (show am_sh h244 47 = some (2, 0) ∧ pz_S 2 none am_r98 1 Q 17 [(0, .ref 47), (1, .ref 36)] [am_rf (h244.2.2.1 47 0)] h244 from ⟨ex_47 f245, ?_⟩)
  rw [show am_rf (h244.2.2.1 47 0) = .ref 48 from congrArg am_rf (ex_r47_0 f245)]
  refine am_goX 2 (show am_sh h244 47 = some (2, 0) ∧ pz_S 2 none am_r98 1 Q 21 [(0, .ref 47), (1, .ref 36)] [.int (h244.1 47 1), .ref 48] h244 from ⟨ex_47 f245, ?_⟩)
  rw [show h244.1 47 1 = nI 13 from f246]
  refine am_goX 1 (show ∃ jj nn : Nat, (am_sh h244 48 = some (16, nn) ∨ am_sh h244 48 = some (17, nn)) ∧ jj < nn ∧ nI 13 = nI jj ∧ pz_S 2 none am_r98 1 Q 22 [(0, .ref 47), (1, .ref 36)] [am_rf (h244.2.2.1 48 jj)] h244 from ⟨13, 16, Or.inr (ex_48 f245), by decide, rfl, ?_⟩)
  rw [show am_rf (h244.2.2.1 48 13) = .ref 114 from congrArg am_rf (ex_r48_13 f245)]
  refine am_goX 2 (show am_rc h244 114 6 ∧ 0 ≤ 8 ∧ h244.2.2.2.2 + am_al 99 ≤ 175 ∧ am_call am_cod 1 99 [.ref 114, .ref 36] h244 (fun vv h' => pz_S 2 none am_r98 1 Q 26 [(0, .ref 47), (1, .ref 36)] (vv.toList ++ []) h') from ⟨Or.inl ⟨by decide, ex_114 f245⟩, by decide, ex_lim f245 rfl, am_call.up (q_99 stO_114 stO_36 (by decide) f245 (fun h249 f250 f251 f252 f253 => ?_)) (by decide)⟩)
  have f254 : h249.1 47 1 = nI 13 := (f252 47 1 (by omega)).trans f246
  have f255 : h249.1 47 2 = nI n := (f252 47 2 (by omega)).trans f247
  have f256 : kF 114 h h249 := kF_c f248 f251 f252
  have f257 : scq 114 36 h h249 := scq_b f248 (fun a u1 u2 => by omega) f253
  refine am_goX 3 (show am_sh h249 47 = some (2, 0) ∧ pz_S 2 none am_r98 1 Q 31 [(0, .ref 47), (1, .ref 36)] [.int (h249.1 47 2), .ref 47] h249 from ⟨ex_47 f250, ?_⟩)
  rw [show h249.1 47 2 = nI n from f255]
  refine am_goX 3 (show pz_S 2 none am_r98 1 Q 35 [(0, .ref 47), (1, .ref 36)] [.int ((Int8.ofInt 16).toInt32), .int ((nI n) + (Int32.ofInt 1)), .ref 47] h249 from ?_)
  rw [show (nI n) + (Int32.ofInt 1) = nI (n + 1) from (dn_a rfl rfl)]
  rw [show (Int8.ofInt 16).toInt32 = nI 16 from (show (Int8.ofInt 16).toInt32 = nI 16 by decide)]
  refine am_goX 1 (show 1 ≤ 8 ∧ h249.2.2.2.2 + am_al 29 ≤ 175 ∧ am_call am_cod 1 29 [.int (nI (n + 1)), .int (nI 16)] h249 (fun vv h' => pz_S 2 none am_r98 1 Q 38 [(0, .ref 47), (1, .ref 36)] (vv.toList ++ [.ref 47]) h') from ⟨by decide, ex_lim f250 rfl, am_call.up (d_29_w f250 ?_) (by decide)⟩)
  rw [show d_29 (nI (n + 1)) (nI 16) = nI (min (n + 1) 16) from ((show d_29 (nI (n + 1)) (nI 16) = nI (min (n + 1) 16) from min16 n (by omega)))]
  refine am_goX 1 (show am_sh h249 47 = some (2, 0) ∧ narrow (am_fty 2 2) (.int (nI (min (n + 1) 16))) = .int (nI (min (n + 1) 16)) ∧ fits (am_fty 2 2) (.int (nI (min (n + 1) 16))) = true ∧ pz_S 2 none am_r98 1 Q 41 [(0, .ref 47), (1, .ref 36)] [] (am_wI h249 47 2 (nI (min (n + 1) 16))) from ⟨ex_47 f250, rfl, rfl, ?_⟩)
  have f259 : ex_P (am_wI h249 47 2 (nI (min (n + 1) 16))) := f250
  have f260 : (am_wI h249 47 2 (nI (min (n + 1) 16))).1 47 1 = nI 13 := (em_wn _ _ (by omega)).trans f254
  have f261 : (am_wI h249 47 2 (nI (min (n + 1) 16))).1 47 2 = nI (min (n + 1) 16) := (em_we _ _ _ _).trans (rfl)
  have f262 : kF 114 h (am_wI h249 47 2 (nI (min (n + 1) 16))) := kF_w (by omega) f256
  have f263 : scq 114 36 h (am_wI h249 47 2 (nI (min (n + 1) 16))) := scq_w (by omega) f257
  generalize am_wI h249 47 2 (nI (min (n + 1) 16)) = h258 at f259 f260 f261 f262 f263 ⊢
  exact am_goX 1 (show (none : Option FieldType) = none ∧ h258.2.2.2.2 = 175 ∧ _ from ⟨rfl, ex_175 f259, hQ _ f259 f262.1 f262.2 f260 f261 f263⟩)
theorem q_98_13 (hn : n ≤ 16) (hP : ex_P h) (e1 : h.1 47 1 = nI 13) (e2 : h.1 47 2 = nI n) (hQ : ∀ h1, ex_P h1 → h1.2 = h.2 → (∀ o k, ¬ o = 47 → ¬ (119 ≤ o ∧ o ≤ 123) → h1.1 o k = h.1 o k) → h1.1 47 1 = nI 14 → h1.1 47 2 = nI (min (n + 1) 16) → scq 119 36 h h1 → Q none h1) : am_call am_cod 2 98 [.ref 47, .ref 36] h Q := by
  refine pz_call (n := 98) (nL := 2) (rt := none) (rows := am_r98) (d := 1) (by decide +kernel) (by decide +kernel) rfl (by funext pc; rfl) (ex_175 hP) (by exact Nat.le_of_ble_eq_true rfl) ?_
  have hX := kF_0 (D := 119) (h := h)
  refine am_goX 3 (show am_sh h 47 = some (2, 0) ∧ pz_S 2 none am_r98 1 Q 5 [(0, .ref 47), (1, .ref 36)] [.int (h.1 47 1), .ref 47] h from ⟨ex_47 hP, ?_⟩)
  rw [show h.1 47 1 = nI 13 from e1]
  refine am_goX 4 (show ¬ ((Int8.ofInt 16).toInt32) = 0 ∧ pz_S 2 none am_r98 1 Q 10 [(0, .ref 47), (1, .ref 36)] [.int (((nI 13) + (Int32.ofInt 1)) - ((nI 13) + (Int32.ofInt 1)) / ((Int8.ofInt 16).toInt32) * ((Int8.ofInt 16).toInt32)), .ref 47] h from ⟨by decide, ?_⟩)
  rw [show ((nI 13) + (Int32.ofInt 1)) - ((nI 13) + (Int32.ofInt 1)) / ((Int8.ofInt 16).toInt32) * ((Int8.ofInt 16).toInt32) = nI 14 from (by decide)]
  refine am_goX 1 (show am_sh h 47 = some (2, 0) ∧ narrow (am_fty 2 1) (.int (nI 14)) = .int (nI 14) ∧ fits (am_fty 2 1) (.int (nI 14)) = true ∧ pz_S 2 none am_r98 1 Q 13 [(0, .ref 47), (1, .ref 36)] [] (am_wI h 47 1 (nI 14)) from ⟨ex_47 hP, rfl, rfl, ?_⟩)
  have f265 : ex_P (am_wI h 47 1 (nI 14)) := hP
  have f266 : (am_wI h 47 1 (nI 14)).1 47 1 = nI 14 := (em_we _ _ _ _).trans (rfl)
  have f267 : (am_wI h 47 1 (nI 14)).1 47 2 = nI n := (em_wn _ _ (by omega)).trans e2
  have f268 : kF 119 h (am_wI h 47 1 (nI 14)) := kF_w (by omega) hX
  generalize am_wI h 47 1 (nI 14) = h264 at f265 f266 f267 f268 ⊢
  refine am_goX 2 (show am_sh h264 47 = some (2, 0) ∧ pz_S 2 none am_r98 1 Q 17 [(0, .ref 47), (1, .ref 36)] [am_rf (h264.2.2.1 47 0)] h264 from ⟨ex_47 f265, ?_⟩)
  rw [show am_rf (h264.2.2.1 47 0) = .ref 48 from congrArg am_rf (ex_r47_0 f265)]
  refine am_goX 2 (show am_sh h264 47 = some (2, 0) ∧ pz_S 2 none am_r98 1 Q 21 [(0, .ref 47), (1, .ref 36)] [.int (h264.1 47 1), .ref 48] h264 from ⟨ex_47 f265, ?_⟩)
  rw [show h264.1 47 1 = nI 14 from f266]
  refine am_goX 1 (show ∃ jj nn : Nat, (am_sh h264 48 = some (16, nn) ∨ am_sh h264 48 = some (17, nn)) ∧ jj < nn ∧ nI 14 = nI jj ∧ pz_S 2 none am_r98 1 Q 22 [(0, .ref 47), (1, .ref 36)] [am_rf (h264.2.2.1 48 jj)] h264 from ⟨14, 16, Or.inr (ex_48 f265), by decide, rfl, ?_⟩)
  rw [show am_rf (h264.2.2.1 48 14) = .ref 119 from congrArg am_rf (ex_r48_14 f265)]
  refine am_goX 2 (show am_rc h264 119 6 ∧ 0 ≤ 8 ∧ h264.2.2.2.2 + am_al 99 ≤ 175 ∧ am_call am_cod 1 99 [.ref 119, .ref 36] h264 (fun vv h' => pz_S 2 none am_r98 1 Q 26 [(0, .ref 47), (1, .ref 36)] (vv.toList ++ []) h') from ⟨Or.inl ⟨by decide, ex_119 f265⟩, by decide, ex_lim f265 rfl, am_call.up (q_99 stO_119 stO_36 (by decide) f265 (fun h269 f270 f271 f272 f273 => ?_)) (by decide)⟩)
  have f274 : h269.1 47 1 = nI 14 := (f272 47 1 (by omega)).trans f266
  have f275 : h269.1 47 2 = nI n := (f272 47 2 (by omega)).trans f267
  have f276 : kF 119 h h269 := kF_c f268 f271 f272
  have f277 : scq 119 36 h h269 := scq_b f268 (fun a u1 u2 => by omega) f273
  refine am_goX 3 (show am_sh h269 47 = some (2, 0) ∧ pz_S 2 none am_r98 1 Q 31 [(0, .ref 47), (1, .ref 36)] [.int (h269.1 47 2), .ref 47] h269 from ⟨ex_47 f270, ?_⟩)
  rw [show h269.1 47 2 = nI n from f275]
  refine am_goX 3 (show pz_S 2 none am_r98 1 Q 35 [(0, .ref 47), (1, .ref 36)] [.int ((Int8.ofInt 16).toInt32), .int ((nI n) + (Int32.ofInt 1)), .ref 47] h269 from ?_)
  rw [show (nI n) + (Int32.ofInt 1) = nI (n + 1) from (dn_a rfl rfl)]
  rw [show (Int8.ofInt 16).toInt32 = nI 16 from (show (Int8.ofInt 16).toInt32 = nI 16 by decide)]
  refine am_goX 1 (show 1 ≤ 8 ∧ h269.2.2.2.2 + am_al 29 ≤ 175 ∧ am_call am_cod 1 29 [.int (nI (n + 1)), .int (nI 16)] h269 (fun vv h' => pz_S 2 none am_r98 1 Q 38 [(0, .ref 47), (1, .ref 36)] (vv.toList ++ [.ref 47]) h') from ⟨by decide, ex_lim f270 rfl, am_call.up (d_29_w f270 ?_) (by decide)⟩)
  rw [show d_29 (nI (n + 1)) (nI 16) = nI (min (n + 1) 16) from ((show d_29 (nI (n + 1)) (nI 16) = nI (min (n + 1) 16) from min16 n (by omega)))]
  refine am_goX 1 (show am_sh h269 47 = some (2, 0) ∧ narrow (am_fty 2 2) (.int (nI (min (n + 1) 16))) = .int (nI (min (n + 1) 16)) ∧ fits (am_fty 2 2) (.int (nI (min (n + 1) 16))) = true ∧ pz_S 2 none am_r98 1 Q 41 [(0, .ref 47), (1, .ref 36)] [] (am_wI h269 47 2 (nI (min (n + 1) 16))) from ⟨ex_47 f270, rfl, rfl, ?_⟩)
  have f279 : ex_P (am_wI h269 47 2 (nI (min (n + 1) 16))) := f270
  have f280 : (am_wI h269 47 2 (nI (min (n + 1) 16))).1 47 1 = nI 14 := (em_wn _ _ (by omega)).trans f274
  have f281 : (am_wI h269 47 2 (nI (min (n + 1) 16))).1 47 2 = nI (min (n + 1) 16) := (em_we _ _ _ _).trans (rfl)
  have f282 : kF 119 h (am_wI h269 47 2 (nI (min (n + 1) 16))) := kF_w (by omega) f276
  have f283 : scq 119 36 h (am_wI h269 47 2 (nI (min (n + 1) 16))) := scq_w (by omega) f277
  generalize am_wI h269 47 2 (nI (min (n + 1) 16)) = h278 at f279 f280 f281 f282 f283 ⊢
  exact am_goX 1 (show (none : Option FieldType) = none ∧ h278.2.2.2.2 = 175 ∧ _ from ⟨rfl, ex_175 f279, hQ _ f279 f282.1 f282.2 f280 f281 f283⟩)
theorem q_98_14 (hn : n ≤ 16) (hP : ex_P h) (e1 : h.1 47 1 = nI 14) (e2 : h.1 47 2 = nI n) (hQ : ∀ h1, ex_P h1 → h1.2 = h.2 → (∀ o k, ¬ o = 47 → ¬ (124 ≤ o ∧ o ≤ 128) → h1.1 o k = h.1 o k) → h1.1 47 1 = nI 15 → h1.1 47 2 = nI (min (n + 1) 16) → scq 124 36 h h1 → Q none h1) : am_call am_cod 2 98 [.ref 47, .ref 36] h Q := by
  refine pz_call (n := 98) (nL := 2) (rt := none) (rows := am_r98) (d := 1) (by decide +kernel) (by decide +kernel) rfl (by funext pc; rfl) (ex_175 hP) (by exact Nat.le_of_ble_eq_true rfl) ?_
  have hX := kF_0 (D := 124) (h := h)
  refine am_goX 3 (show am_sh h 47 = some (2, 0) ∧ pz_S 2 none am_r98 1 Q 5 [(0, .ref 47), (1, .ref 36)] [.int (h.1 47 1), .ref 47] h from ⟨ex_47 hP, ?_⟩)
  rw [show h.1 47 1 = nI 14 from e1]
  refine am_goX 4 (show ¬ ((Int8.ofInt 16).toInt32) = 0 ∧ pz_S 2 none am_r98 1 Q 10 [(0, .ref 47), (1, .ref 36)] [.int (((nI 14) + (Int32.ofInt 1)) - ((nI 14) + (Int32.ofInt 1)) / ((Int8.ofInt 16).toInt32) * ((Int8.ofInt 16).toInt32)), .ref 47] h from ⟨by decide, ?_⟩)
  rw [show ((nI 14) + (Int32.ofInt 1)) - ((nI 14) + (Int32.ofInt 1)) / ((Int8.ofInt 16).toInt32) * ((Int8.ofInt 16).toInt32) = nI 15 from (by decide)]
  refine am_goX 1 (show am_sh h 47 = some (2, 0) ∧ narrow (am_fty 2 1) (.int (nI 15)) = .int (nI 15) ∧ fits (am_fty 2 1) (.int (nI 15)) = true ∧ pz_S 2 none am_r98 1 Q 13 [(0, .ref 47), (1, .ref 36)] [] (am_wI h 47 1 (nI 15)) from ⟨ex_47 hP, rfl, rfl, ?_⟩)
  have f285 : ex_P (am_wI h 47 1 (nI 15)) := hP
  have f286 : (am_wI h 47 1 (nI 15)).1 47 1 = nI 15 := (em_we _ _ _ _).trans (rfl)
  have f287 : (am_wI h 47 1 (nI 15)).1 47 2 = nI n := (em_wn _ _ (by omega)).trans e2
  have f288 : kF 124 h (am_wI h 47 1 (nI 15)) := kF_w (by omega) hX
  generalize am_wI h 47 1 (nI 15) = h284 at f285 f286 f287 f288 ⊢
  refine am_goX 2 (show am_sh h284 47 = some (2, 0) ∧ pz_S 2 none am_r98 1 Q 17 [(0, .ref 47), (1, .ref 36)] [am_rf (h284.2.2.1 47 0)] h284 from ⟨ex_47 f285, ?_⟩)
  rw [show am_rf (h284.2.2.1 47 0) = .ref 48 from congrArg am_rf (ex_r47_0 f285)]
  refine am_goX 2 (show am_sh h284 47 = some (2, 0) ∧ pz_S 2 none am_r98 1 Q 21 [(0, .ref 47), (1, .ref 36)] [.int (h284.1 47 1), .ref 48] h284 from ⟨ex_47 f285, ?_⟩)
  rw [show h284.1 47 1 = nI 15 from f286]
  refine am_goX 1 (show ∃ jj nn : Nat, (am_sh h284 48 = some (16, nn) ∨ am_sh h284 48 = some (17, nn)) ∧ jj < nn ∧ nI 15 = nI jj ∧ pz_S 2 none am_r98 1 Q 22 [(0, .ref 47), (1, .ref 36)] [am_rf (h284.2.2.1 48 jj)] h284 from ⟨15, 16, Or.inr (ex_48 f285), by decide, rfl, ?_⟩)
  rw [show am_rf (h284.2.2.1 48 15) = .ref 124 from congrArg am_rf (ex_r48_15 f285)]
  refine am_goX 2 (show am_rc h284 124 6 ∧ 0 ≤ 8 ∧ h284.2.2.2.2 + am_al 99 ≤ 175 ∧ am_call am_cod 1 99 [.ref 124, .ref 36] h284 (fun vv h' => pz_S 2 none am_r98 1 Q 26 [(0, .ref 47), (1, .ref 36)] (vv.toList ++ []) h') from ⟨Or.inl ⟨by decide, ex_124 f285⟩, by decide, ex_lim f285 rfl, am_call.up (q_99 stO_124 stO_36 (by decide) f285 (fun h289 f290 f291 f292 f293 => ?_)) (by decide)⟩)
  have f294 : h289.1 47 1 = nI 15 := (f292 47 1 (by omega)).trans f286
  have f295 : h289.1 47 2 = nI n := (f292 47 2 (by omega)).trans f287
  have f296 : kF 124 h h289 := kF_c f288 f291 f292
  have f297 : scq 124 36 h h289 := scq_b f288 (fun a u1 u2 => by omega) f293
  refine am_goX 3 (show am_sh h289 47 = some (2, 0) ∧ pz_S 2 none am_r98 1 Q 31 [(0, .ref 47), (1, .ref 36)] [.int (h289.1 47 2), .ref 47] h289 from ⟨ex_47 f290, ?_⟩)
  rw [show h289.1 47 2 = nI n from f295]
  refine am_goX 3 (show pz_S 2 none am_r98 1 Q 35 [(0, .ref 47), (1, .ref 36)] [.int ((Int8.ofInt 16).toInt32), .int ((nI n) + (Int32.ofInt 1)), .ref 47] h289 from ?_)
  rw [show (nI n) + (Int32.ofInt 1) = nI (n + 1) from (dn_a rfl rfl)]
  rw [show (Int8.ofInt 16).toInt32 = nI 16 from (show (Int8.ofInt 16).toInt32 = nI 16 by decide)]
  refine am_goX 1 (show 1 ≤ 8 ∧ h289.2.2.2.2 + am_al 29 ≤ 175 ∧ am_call am_cod 1 29 [.int (nI (n + 1)), .int (nI 16)] h289 (fun vv h' => pz_S 2 none am_r98 1 Q 38 [(0, .ref 47), (1, .ref 36)] (vv.toList ++ [.ref 47]) h') from ⟨by decide, ex_lim f290 rfl, am_call.up (d_29_w f290 ?_) (by decide)⟩)
  rw [show d_29 (nI (n + 1)) (nI 16) = nI (min (n + 1) 16) from ((show d_29 (nI (n + 1)) (nI 16) = nI (min (n + 1) 16) from min16 n (by omega)))]
  refine am_goX 1 (show am_sh h289 47 = some (2, 0) ∧ narrow (am_fty 2 2) (.int (nI (min (n + 1) 16))) = .int (nI (min (n + 1) 16)) ∧ fits (am_fty 2 2) (.int (nI (min (n + 1) 16))) = true ∧ pz_S 2 none am_r98 1 Q 41 [(0, .ref 47), (1, .ref 36)] [] (am_wI h289 47 2 (nI (min (n + 1) 16))) from ⟨ex_47 f290, rfl, rfl, ?_⟩)
  have f299 : ex_P (am_wI h289 47 2 (nI (min (n + 1) 16))) := f290
  have f300 : (am_wI h289 47 2 (nI (min (n + 1) 16))).1 47 1 = nI 15 := (em_wn _ _ (by omega)).trans f294
  have f301 : (am_wI h289 47 2 (nI (min (n + 1) 16))).1 47 2 = nI (min (n + 1) 16) := (em_we _ _ _ _).trans (rfl)
  have f302 : kF 124 h (am_wI h289 47 2 (nI (min (n + 1) 16))) := kF_w (by omega) f296
  have f303 : scq 124 36 h (am_wI h289 47 2 (nI (min (n + 1) 16))) := scq_w (by omega) f297
  generalize am_wI h289 47 2 (nI (min (n + 1) 16)) = h298 at f299 f300 f301 f302 f303 ⊢
  exact am_goX 1 (show (none : Option FieldType) = none ∧ h298.2.2.2.2 = 175 ∧ _ from ⟨rfl, ex_175 f299, hQ _ f299 f302.1 f302.2 f300 f301 f303⟩)
theorem q_98_15 (hn : n ≤ 16) (hP : ex_P h) (e1 : h.1 47 1 = nI 15) (e2 : h.1 47 2 = nI n) (hQ : ∀ h1, ex_P h1 → h1.2 = h.2 → (∀ o k, ¬ o = 47 → ¬ (49 ≤ o ∧ o ≤ 53) → h1.1 o k = h.1 o k) → h1.1 47 1 = nI 0 → h1.1 47 2 = nI (min (n + 1) 16) → scq 49 36 h h1 → Q none h1) : am_call am_cod 2 98 [.ref 47, .ref 36] h Q := by
  refine pz_call (n := 98) (nL := 2) (rt := none) (rows := am_r98) (d := 1) (by decide +kernel) (by decide +kernel) rfl (by funext pc; rfl) (ex_175 hP) (by exact Nat.le_of_ble_eq_true rfl) ?_
  have hX := kF_0 (D := 49) (h := h)
  refine am_goX 3 (show am_sh h 47 = some (2, 0) ∧ pz_S 2 none am_r98 1 Q 5 [(0, .ref 47), (1, .ref 36)] [.int (h.1 47 1), .ref 47] h from ⟨ex_47 hP, ?_⟩)
  rw [show h.1 47 1 = nI 15 from e1]
  refine am_goX 4 (show ¬ ((Int8.ofInt 16).toInt32) = 0 ∧ pz_S 2 none am_r98 1 Q 10 [(0, .ref 47), (1, .ref 36)] [.int (((nI 15) + (Int32.ofInt 1)) - ((nI 15) + (Int32.ofInt 1)) / ((Int8.ofInt 16).toInt32) * ((Int8.ofInt 16).toInt32)), .ref 47] h from ⟨by decide, ?_⟩)
  rw [show ((nI 15) + (Int32.ofInt 1)) - ((nI 15) + (Int32.ofInt 1)) / ((Int8.ofInt 16).toInt32) * ((Int8.ofInt 16).toInt32) = nI 0 from (by decide)]
  refine am_goX 1 (show am_sh h 47 = some (2, 0) ∧ narrow (am_fty 2 1) (.int (nI 0)) = .int (nI 0) ∧ fits (am_fty 2 1) (.int (nI 0)) = true ∧ pz_S 2 none am_r98 1 Q 13 [(0, .ref 47), (1, .ref 36)] [] (am_wI h 47 1 (nI 0)) from ⟨ex_47 hP, rfl, rfl, ?_⟩)
  have f305 : ex_P (am_wI h 47 1 (nI 0)) := hP
  have f306 : (am_wI h 47 1 (nI 0)).1 47 1 = nI 0 := (em_we _ _ _ _).trans (rfl)
  have f307 : (am_wI h 47 1 (nI 0)).1 47 2 = nI n := (em_wn _ _ (by omega)).trans e2
  have f308 : kF 49 h (am_wI h 47 1 (nI 0)) := kF_w (by omega) hX
  generalize am_wI h 47 1 (nI 0) = h304 at f305 f306 f307 f308 ⊢
  refine am_goX 2 (show am_sh h304 47 = some (2, 0) ∧ pz_S 2 none am_r98 1 Q 17 [(0, .ref 47), (1, .ref 36)] [am_rf (h304.2.2.1 47 0)] h304 from ⟨ex_47 f305, ?_⟩)
  rw [show am_rf (h304.2.2.1 47 0) = .ref 48 from congrArg am_rf (ex_r47_0 f305)]
  refine am_goX 2 (show am_sh h304 47 = some (2, 0) ∧ pz_S 2 none am_r98 1 Q 21 [(0, .ref 47), (1, .ref 36)] [.int (h304.1 47 1), .ref 48] h304 from ⟨ex_47 f305, ?_⟩)
  rw [show h304.1 47 1 = nI 0 from f306]
  refine am_goX 1 (show ∃ jj nn : Nat, (am_sh h304 48 = some (16, nn) ∨ am_sh h304 48 = some (17, nn)) ∧ jj < nn ∧ nI 0 = nI jj ∧ pz_S 2 none am_r98 1 Q 22 [(0, .ref 47), (1, .ref 36)] [am_rf (h304.2.2.1 48 jj)] h304 from ⟨0, 16, Or.inr (ex_48 f305), by decide, rfl, ?_⟩)
  rw [show am_rf (h304.2.2.1 48 0) = .ref 49 from congrArg am_rf (ex_r48_0 f305)]
  refine am_goX 2 (show am_rc h304 49 6 ∧ 0 ≤ 8 ∧ h304.2.2.2.2 + am_al 99 ≤ 175 ∧ am_call am_cod 1 99 [.ref 49, .ref 36] h304 (fun vv h' => pz_S 2 none am_r98 1 Q 26 [(0, .ref 47), (1, .ref 36)] (vv.toList ++ []) h') from ⟨Or.inl ⟨by decide, ex_49 f305⟩, by decide, ex_lim f305 rfl, am_call.up (q_99 stO_49 stO_36 (by decide) f305 (fun h309 f310 f311 f312 f313 => ?_)) (by decide)⟩)
  have f314 : h309.1 47 1 = nI 0 := (f312 47 1 (by omega)).trans f306
  have f315 : h309.1 47 2 = nI n := (f312 47 2 (by omega)).trans f307
  have f316 : kF 49 h h309 := kF_c f308 f311 f312
  have f317 : scq 49 36 h h309 := scq_b f308 (fun a u1 u2 => by omega) f313
  refine am_goX 3 (show am_sh h309 47 = some (2, 0) ∧ pz_S 2 none am_r98 1 Q 31 [(0, .ref 47), (1, .ref 36)] [.int (h309.1 47 2), .ref 47] h309 from ⟨ex_47 f310, ?_⟩)
  rw [show h309.1 47 2 = nI n from f315]
  refine am_goX 3 (show pz_S 2 none am_r98 1 Q 35 [(0, .ref 47), (1, .ref 36)] [.int ((Int8.ofInt 16).toInt32), .int ((nI n) + (Int32.ofInt 1)), .ref 47] h309 from ?_)
  rw [show (nI n) + (Int32.ofInt 1) = nI (n + 1) from (dn_a rfl rfl)]
  rw [show (Int8.ofInt 16).toInt32 = nI 16 from (show (Int8.ofInt 16).toInt32 = nI 16 by decide)]
  refine am_goX 1 (show 1 ≤ 8 ∧ h309.2.2.2.2 + am_al 29 ≤ 175 ∧ am_call am_cod 1 29 [.int (nI (n + 1)), .int (nI 16)] h309 (fun vv h' => pz_S 2 none am_r98 1 Q 38 [(0, .ref 47), (1, .ref 36)] (vv.toList ++ [.ref 47]) h') from ⟨by decide, ex_lim f310 rfl, am_call.up (d_29_w f310 ?_) (by decide)⟩)
  rw [show d_29 (nI (n + 1)) (nI 16) = nI (min (n + 1) 16) from ((show d_29 (nI (n + 1)) (nI 16) = nI (min (n + 1) 16) from min16 n (by omega)))]
  refine am_goX 1 (show am_sh h309 47 = some (2, 0) ∧ narrow (am_fty 2 2) (.int (nI (min (n + 1) 16))) = .int (nI (min (n + 1) 16)) ∧ fits (am_fty 2 2) (.int (nI (min (n + 1) 16))) = true ∧ pz_S 2 none am_r98 1 Q 41 [(0, .ref 47), (1, .ref 36)] [] (am_wI h309 47 2 (nI (min (n + 1) 16))) from ⟨ex_47 f310, rfl, rfl, ?_⟩)
  have f319 : ex_P (am_wI h309 47 2 (nI (min (n + 1) 16))) := f310
  have f320 : (am_wI h309 47 2 (nI (min (n + 1) 16))).1 47 1 = nI 0 := (em_wn _ _ (by omega)).trans f314
  have f321 : (am_wI h309 47 2 (nI (min (n + 1) 16))).1 47 2 = nI (min (n + 1) 16) := (em_we _ _ _ _).trans (rfl)
  have f322 : kF 49 h (am_wI h309 47 2 (nI (min (n + 1) 16))) := kF_w (by omega) f316
  have f323 : scq 49 36 h (am_wI h309 47 2 (nI (min (n + 1) 16))) := scq_w (by omega) f317
  generalize am_wI h309 47 2 (nI (min (n + 1) 16)) = h318 at f319 f320 f321 f322 f323 ⊢
  exact am_goX 1 (show (none : Option FieldType) = none ∧ h318.2.2.2.2 = 175 ∧ _ from ⟨rfl, ex_175 f319, hQ _ f319 f322.1 f322.2 f320 f321 f323⟩)
theorem q_113_0 (hn0 : 0 < n) (hn : n ≤ 16) (hP : ex_P h) (e1 : h.1 47 1 = nI 0) (e2 : h.1 47 2 = nI n) (hQ : ∀ h1, ex_P h1 → h1.2 = h.2 → (∀ o k, ¬ o = 47 → ¬ (36 ≤ o ∧ o ≤ 40) → h1.1 o k = h.1 o k) → h1.1 47 1 = nI 15 → h1.1 47 2 = nI (n - 1) → scq 36 49 h h1 → Q (some (.int (Int32.ofInt 1))) h1) : am_call am_cod 2 113 [.ref 47, .ref 36] h Q := by
  refine pz_call (n := 113) (nL := 2) (rt := (some .boolean)) (rows := am_r113) (d := 1) (by decide +kernel) (by decide +kernel) rfl (by funext pc; rfl) (ex_175 hP) (by exact Nat.le_of_ble_eq_true rfl) ?_
  have hX := kF_0 (D := 36) (h := h)
  refine am_goX 2 (show am_sh h 47 = some (2, 0) ∧ pz_S 2 (some .boolean) am_r113 1 Q 4 [(0, .ref 47), (1, .ref 36)] [.int (h.1 47 2)] h from ⟨ex_47 hP, ?_⟩)
  rw [show h.1 47 2 = nI n from e2]
  refine am_goX 1 (show (¬ (nI n) = 0 → pz_S 2 (some .boolean) am_r113 1 Q 9 [(0, .ref 47), (1, .ref 36)] [] h) ∧ (¬ ¬ (nI n) = 0 → pz_S 2 (some .boolean) am_r113 1 Q 7 [(0, .ref 47), (1, .ref 36)] [] h) from ⟨fun _ => ?_, fun hz => absurd (nI_n0 hn0 (by omega)) hz⟩)
  refine am_goX 3 (show am_sh h 47 = some (2, 0) ∧ pz_S 2 (some .boolean) am_r113 1 Q 14 [(0, .ref 47), (1, .ref 36)] [am_rf (h.2.2.1 47 0), .ref 36] h from ⟨ex_47 hP, ?_⟩)
  rw [show am_rf (h.2.2.1 47 0) = .ref 48 from congrArg am_rf (ex_r47_0 hP)]
  refine am_goX 2 (show am_sh h 47 = some (2, 0) ∧ pz_S 2 (some .boolean) am_r113 1 Q 18 [(0, .ref 47), (1, .ref 36)] [.int (h.1 47 1), .ref 48, .ref 36] h from ⟨ex_47 hP, ?_⟩)
  rw [show h.1 47 1 = nI 0 from e1]
  refine am_goX 1 (show ∃ jj nn : Nat, (am_sh h 48 = some (16, nn) ∨ am_sh h 48 = some (17, nn)) ∧ jj < nn ∧ nI 0 = nI jj ∧ pz_S 2 (some .boolean) am_r113 1 Q 19 [(0, .ref 47), (1, .ref 36)] [am_rf (h.2.2.1 48 jj), .ref 36] h from ⟨0, 16, Or.inr (ex_48 hP), by decide, rfl, ?_⟩)
  rw [show am_rf (h.2.2.1 48 0) = .ref 49 from congrArg am_rf (ex_r48_0 hP)]
  refine am_goX 1 (show am_rc h 36 6 ∧ 0 ≤ 8 ∧ h.2.2.2.2 + am_al 99 ≤ 175 ∧ am_call am_cod 1 99 [.ref 36, .ref 49] h (fun vv h' => pz_S 2 (some .boolean) am_r113 1 Q 22 [(0, .ref 47), (1, .ref 36)] (vv.toList ++ []) h') from ⟨Or.inl ⟨by decide, ex_36 hP⟩, by decide, ex_lim hP rfl, am_call.up (q_99 stO_36 stO_49 (by decide) hP (fun h324 f325 f326 f327 f328 => ?_)) (by decide)⟩)
  have f329 : h324.1 47 1 = nI 0 := (f327 47 1 (by omega)).trans e1
  have f330 : h324.1 47 2 = nI n := (f327 47 2 (by omega)).trans e2
  have f331 : kF 36 h h324 := kF_c hX f326 f327
  have f332 : scq 36 49 h h324 := scq_b hX (fun a u1 u2 => by omega) f328
  refine am_goX 3 (show am_sh h324 47 = some (2, 0) ∧ pz_S 2 (some .boolean) am_r113 1 Q 27 [(0, .ref 47), (1, .ref 36)] [.int (h324.1 47 1), .ref 47] h324 from ⟨ex_47 f325, ?_⟩)
  rw [show h324.1 47 1 = nI 0 from f329]
  refine am_goX 6 (show ¬ ((Int8.ofInt 16).toInt32) = 0 ∧ pz_S 2 (some .boolean) am_r113 1 Q 35 [(0, .ref 47), (1, .ref 36)] [.int ((((nI 0) + ((Int8.ofInt 16).toInt32)) - (Int32.ofInt 1)) - (((nI 0) + ((Int8.ofInt 16).toInt32)) - (Int32.ofInt 1)) / ((Int8.ofInt 16).toInt32) * ((Int8.ofInt 16).toInt32)), .ref 47] h324 from ⟨by decide, ?_⟩)
  rw [show (((nI 0) + ((Int8.ofInt 16).toInt32)) - (Int32.ofInt 1)) - (((nI 0) + ((Int8.ofInt 16).toInt32)) - (Int32.ofInt 1)) / ((Int8.ofInt 16).toInt32) * ((Int8.ofInt 16).toInt32) = nI 15 from (by decide)]
  refine am_goX 1 (show am_sh h324 47 = some (2, 0) ∧ narrow (am_fty 2 1) (.int (nI 15)) = .int (nI 15) ∧ fits (am_fty 2 1) (.int (nI 15)) = true ∧ pz_S 2 (some .boolean) am_r113 1 Q 38 [(0, .ref 47), (1, .ref 36)] [] (am_wI h324 47 1 (nI 15)) from ⟨ex_47 f325, rfl, rfl, ?_⟩)
  have f334 : ex_P (am_wI h324 47 1 (nI 15)) := f325
  have f335 : (am_wI h324 47 1 (nI 15)).1 47 1 = nI 15 := (em_we _ _ _ _).trans (rfl)
  have f336 : (am_wI h324 47 1 (nI 15)).1 47 2 = nI n := (em_wn _ _ (by omega)).trans f330
  have f337 : kF 36 h (am_wI h324 47 1 (nI 15)) := kF_w (by omega) f331
  have f338 : scq 36 49 h (am_wI h324 47 1 (nI 15)) := scq_w (by omega) f332
  generalize am_wI h324 47 1 (nI 15) = h333 at f334 f335 f336 f337 f338 ⊢
  refine am_goX 3 (show (Value.ref 47).category = 1 ∧ am_sh h333 47 = some (2, 0) ∧ pz_S 2 (some .boolean) am_r113 1 Q 43 [(0, .ref 47), (1, .ref 36)] [.int (h333.1 47 2), .ref 47] h333 from ⟨rfl, ex_47 f334, ?_⟩)
  rw [show h333.1 47 2 = nI n from f336]
  refine am_goX 3 (show am_sh h333 47 = some (2, 0) ∧ narrow (am_fty 2 2) (.int ((nI n) - (Int32.ofInt 1))) = .int ((nI n) - (Int32.ofInt 1)) ∧ fits (am_fty 2 2) (.int ((nI n) - (Int32.ofInt 1))) = true ∧ pz_S 2 (some .boolean) am_r113 1 Q 48 [(0, .ref 47), (1, .ref 36)] [] (am_wI h333 47 2 ((nI n) - (Int32.ofInt 1))) from ⟨ex_47 f334, rfl, rfl, ?_⟩)
  have f340 : ex_P (am_wI h333 47 2 ((nI n) - (Int32.ofInt 1))) := f334
  have f341 : (am_wI h333 47 2 ((nI n) - (Int32.ofInt 1))).1 47 1 = nI 15 := (em_wn _ _ (by omega)).trans f335
  have f342 : (am_wI h333 47 2 ((nI n) - (Int32.ofInt 1))).1 47 2 = nI (n - 1) := (em_we _ _ _ _).trans ((dn_s (by omega) rfl rfl))
  have f343 : kF 36 h (am_wI h333 47 2 ((nI n) - (Int32.ofInt 1))) := kF_w (by omega) f337
  have f344 : scq 36 49 h (am_wI h333 47 2 ((nI n) - (Int32.ofInt 1))) := scq_w (by omega) f338
  generalize am_wI h333 47 2 ((nI n) - (Int32.ofInt 1)) = h339 at f340 f341 f342 f343 f344 ⊢
  exact am_goX 2 (show (∃ ty, (some .boolean) = some ty ∧ narrow ty (.int (Int32.ofInt 1)) = .int (Int32.ofInt 1)) ∧ h339.2.2.2.2 = 175 ∧ _ from ⟨⟨.boolean, rfl, rfl⟩, ex_175 f340, hQ _ f340 f343.1 f343.2 f341 f342 f344⟩)
theorem q_113_1 (hn0 : 0 < n) (hn : n ≤ 16) (hP : ex_P h) (e1 : h.1 47 1 = nI 1) (e2 : h.1 47 2 = nI n) (hQ : ∀ h1, ex_P h1 → h1.2 = h.2 → (∀ o k, ¬ o = 47 → ¬ (36 ≤ o ∧ o ≤ 40) → h1.1 o k = h.1 o k) → h1.1 47 1 = nI 0 → h1.1 47 2 = nI (n - 1) → scq 36 54 h h1 → Q (some (.int (Int32.ofInt 1))) h1) : am_call am_cod 2 113 [.ref 47, .ref 36] h Q := by
  refine pz_call (n := 113) (nL := 2) (rt := (some .boolean)) (rows := am_r113) (d := 1) (by decide +kernel) (by decide +kernel) rfl (by funext pc; rfl) (ex_175 hP) (by exact Nat.le_of_ble_eq_true rfl) ?_
  have hX := kF_0 (D := 36) (h := h)
  refine am_goX 2 (show am_sh h 47 = some (2, 0) ∧ pz_S 2 (some .boolean) am_r113 1 Q 4 [(0, .ref 47), (1, .ref 36)] [.int (h.1 47 2)] h from ⟨ex_47 hP, ?_⟩)
  rw [show h.1 47 2 = nI n from e2]
  refine am_goX 1 (show (¬ (nI n) = 0 → pz_S 2 (some .boolean) am_r113 1 Q 9 [(0, .ref 47), (1, .ref 36)] [] h) ∧ (¬ ¬ (nI n) = 0 → pz_S 2 (some .boolean) am_r113 1 Q 7 [(0, .ref 47), (1, .ref 36)] [] h) from ⟨fun _ => ?_, fun hz => absurd (nI_n0 hn0 (by omega)) hz⟩)
  refine am_goX 3 (show am_sh h 47 = some (2, 0) ∧ pz_S 2 (some .boolean) am_r113 1 Q 14 [(0, .ref 47), (1, .ref 36)] [am_rf (h.2.2.1 47 0), .ref 36] h from ⟨ex_47 hP, ?_⟩)
  rw [show am_rf (h.2.2.1 47 0) = .ref 48 from congrArg am_rf (ex_r47_0 hP)]
  refine am_goX 2 (show am_sh h 47 = some (2, 0) ∧ pz_S 2 (some .boolean) am_r113 1 Q 18 [(0, .ref 47), (1, .ref 36)] [.int (h.1 47 1), .ref 48, .ref 36] h from ⟨ex_47 hP, ?_⟩)
  rw [show h.1 47 1 = nI 1 from e1]
  refine am_goX 1 (show ∃ jj nn : Nat, (am_sh h 48 = some (16, nn) ∨ am_sh h 48 = some (17, nn)) ∧ jj < nn ∧ nI 1 = nI jj ∧ pz_S 2 (some .boolean) am_r113 1 Q 19 [(0, .ref 47), (1, .ref 36)] [am_rf (h.2.2.1 48 jj), .ref 36] h from ⟨1, 16, Or.inr (ex_48 hP), by decide, rfl, ?_⟩)
  rw [show am_rf (h.2.2.1 48 1) = .ref 54 from congrArg am_rf (ex_r48_1 hP)]
  refine am_goX 1 (show am_rc h 36 6 ∧ 0 ≤ 8 ∧ h.2.2.2.2 + am_al 99 ≤ 175 ∧ am_call am_cod 1 99 [.ref 36, .ref 54] h (fun vv h' => pz_S 2 (some .boolean) am_r113 1 Q 22 [(0, .ref 47), (1, .ref 36)] (vv.toList ++ []) h') from ⟨Or.inl ⟨by decide, ex_36 hP⟩, by decide, ex_lim hP rfl, am_call.up (q_99 stO_36 stO_54 (by decide) hP (fun h345 f346 f347 f348 f349 => ?_)) (by decide)⟩)
  have f350 : h345.1 47 1 = nI 1 := (f348 47 1 (by omega)).trans e1
  have f351 : h345.1 47 2 = nI n := (f348 47 2 (by omega)).trans e2
  have f352 : kF 36 h h345 := kF_c hX f347 f348
  have f353 : scq 36 54 h h345 := scq_b hX (fun a u1 u2 => by omega) f349
  refine am_goX 3 (show am_sh h345 47 = some (2, 0) ∧ pz_S 2 (some .boolean) am_r113 1 Q 27 [(0, .ref 47), (1, .ref 36)] [.int (h345.1 47 1), .ref 47] h345 from ⟨ex_47 f346, ?_⟩)
  rw [show h345.1 47 1 = nI 1 from f350]
  refine am_goX 6 (show ¬ ((Int8.ofInt 16).toInt32) = 0 ∧ pz_S 2 (some .boolean) am_r113 1 Q 35 [(0, .ref 47), (1, .ref 36)] [.int ((((nI 1) + ((Int8.ofInt 16).toInt32)) - (Int32.ofInt 1)) - (((nI 1) + ((Int8.ofInt 16).toInt32)) - (Int32.ofInt 1)) / ((Int8.ofInt 16).toInt32) * ((Int8.ofInt 16).toInt32)), .ref 47] h345 from ⟨by decide, ?_⟩)
  rw [show (((nI 1) + ((Int8.ofInt 16).toInt32)) - (Int32.ofInt 1)) - (((nI 1) + ((Int8.ofInt 16).toInt32)) - (Int32.ofInt 1)) / ((Int8.ofInt 16).toInt32) * ((Int8.ofInt 16).toInt32) = nI 0 from (by decide)]
  refine am_goX 1 (show am_sh h345 47 = some (2, 0) ∧ narrow (am_fty 2 1) (.int (nI 0)) = .int (nI 0) ∧ fits (am_fty 2 1) (.int (nI 0)) = true ∧ pz_S 2 (some .boolean) am_r113 1 Q 38 [(0, .ref 47), (1, .ref 36)] [] (am_wI h345 47 1 (nI 0)) from ⟨ex_47 f346, rfl, rfl, ?_⟩)
  have f355 : ex_P (am_wI h345 47 1 (nI 0)) := f346
  have f356 : (am_wI h345 47 1 (nI 0)).1 47 1 = nI 0 := (em_we _ _ _ _).trans (rfl)
  have f357 : (am_wI h345 47 1 (nI 0)).1 47 2 = nI n := (em_wn _ _ (by omega)).trans f351
  have f358 : kF 36 h (am_wI h345 47 1 (nI 0)) := kF_w (by omega) f352
  have f359 : scq 36 54 h (am_wI h345 47 1 (nI 0)) := scq_w (by omega) f353
  generalize am_wI h345 47 1 (nI 0) = h354 at f355 f356 f357 f358 f359 ⊢
  refine am_goX 3 (show (Value.ref 47).category = 1 ∧ am_sh h354 47 = some (2, 0) ∧ pz_S 2 (some .boolean) am_r113 1 Q 43 [(0, .ref 47), (1, .ref 36)] [.int (h354.1 47 2), .ref 47] h354 from ⟨rfl, ex_47 f355, ?_⟩)
  rw [show h354.1 47 2 = nI n from f357]
  refine am_goX 3 (show am_sh h354 47 = some (2, 0) ∧ narrow (am_fty 2 2) (.int ((nI n) - (Int32.ofInt 1))) = .int ((nI n) - (Int32.ofInt 1)) ∧ fits (am_fty 2 2) (.int ((nI n) - (Int32.ofInt 1))) = true ∧ pz_S 2 (some .boolean) am_r113 1 Q 48 [(0, .ref 47), (1, .ref 36)] [] (am_wI h354 47 2 ((nI n) - (Int32.ofInt 1))) from ⟨ex_47 f355, rfl, rfl, ?_⟩)
  have f361 : ex_P (am_wI h354 47 2 ((nI n) - (Int32.ofInt 1))) := f355
  have f362 : (am_wI h354 47 2 ((nI n) - (Int32.ofInt 1))).1 47 1 = nI 0 := (em_wn _ _ (by omega)).trans f356
  have f363 : (am_wI h354 47 2 ((nI n) - (Int32.ofInt 1))).1 47 2 = nI (n - 1) := (em_we _ _ _ _).trans ((dn_s (by omega) rfl rfl))
  have f364 : kF 36 h (am_wI h354 47 2 ((nI n) - (Int32.ofInt 1))) := kF_w (by omega) f358
  have f365 : scq 36 54 h (am_wI h354 47 2 ((nI n) - (Int32.ofInt 1))) := scq_w (by omega) f359
  generalize am_wI h354 47 2 ((nI n) - (Int32.ofInt 1)) = h360 at f361 f362 f363 f364 f365 ⊢
  exact am_goX 2 (show (∃ ty, (some .boolean) = some ty ∧ narrow ty (.int (Int32.ofInt 1)) = .int (Int32.ofInt 1)) ∧ h360.2.2.2.2 = 175 ∧ _ from ⟨⟨.boolean, rfl, rfl⟩, ex_175 f361, hQ _ f361 f364.1 f364.2 f362 f363 f365⟩)
theorem q_113_2 (hn0 : 0 < n) (hn : n ≤ 16) (hP : ex_P h) (e1 : h.1 47 1 = nI 2) (e2 : h.1 47 2 = nI n) (hQ : ∀ h1, ex_P h1 → h1.2 = h.2 → (∀ o k, ¬ o = 47 → ¬ (36 ≤ o ∧ o ≤ 40) → h1.1 o k = h.1 o k) → h1.1 47 1 = nI 1 → h1.1 47 2 = nI (n - 1) → scq 36 59 h h1 → Q (some (.int (Int32.ofInt 1))) h1) : am_call am_cod 2 113 [.ref 47, .ref 36] h Q := by
  refine pz_call (n := 113) (nL := 2) (rt := (some .boolean)) (rows := am_r113) (d := 1) (by decide +kernel) (by decide +kernel) rfl (by funext pc; rfl) (ex_175 hP) (by exact Nat.le_of_ble_eq_true rfl) ?_
  have hX := kF_0 (D := 36) (h := h)
  refine am_goX 2 (show am_sh h 47 = some (2, 0) ∧ pz_S 2 (some .boolean) am_r113 1 Q 4 [(0, .ref 47), (1, .ref 36)] [.int (h.1 47 2)] h from ⟨ex_47 hP, ?_⟩)
  rw [show h.1 47 2 = nI n from e2]
  refine am_goX 1 (show (¬ (nI n) = 0 → pz_S 2 (some .boolean) am_r113 1 Q 9 [(0, .ref 47), (1, .ref 36)] [] h) ∧ (¬ ¬ (nI n) = 0 → pz_S 2 (some .boolean) am_r113 1 Q 7 [(0, .ref 47), (1, .ref 36)] [] h) from ⟨fun _ => ?_, fun hz => absurd (nI_n0 hn0 (by omega)) hz⟩)
  refine am_goX 3 (show am_sh h 47 = some (2, 0) ∧ pz_S 2 (some .boolean) am_r113 1 Q 14 [(0, .ref 47), (1, .ref 36)] [am_rf (h.2.2.1 47 0), .ref 36] h from ⟨ex_47 hP, ?_⟩)
  rw [show am_rf (h.2.2.1 47 0) = .ref 48 from congrArg am_rf (ex_r47_0 hP)]
  refine am_goX 2 (show am_sh h 47 = some (2, 0) ∧ pz_S 2 (some .boolean) am_r113 1 Q 18 [(0, .ref 47), (1, .ref 36)] [.int (h.1 47 1), .ref 48, .ref 36] h from ⟨ex_47 hP, ?_⟩)
  rw [show h.1 47 1 = nI 2 from e1]
  refine am_goX 1 (show ∃ jj nn : Nat, (am_sh h 48 = some (16, nn) ∨ am_sh h 48 = some (17, nn)) ∧ jj < nn ∧ nI 2 = nI jj ∧ pz_S 2 (some .boolean) am_r113 1 Q 19 [(0, .ref 47), (1, .ref 36)] [am_rf (h.2.2.1 48 jj), .ref 36] h from ⟨2, 16, Or.inr (ex_48 hP), by decide, rfl, ?_⟩)
  rw [show am_rf (h.2.2.1 48 2) = .ref 59 from congrArg am_rf (ex_r48_2 hP)]
  refine am_goX 1 (show am_rc h 36 6 ∧ 0 ≤ 8 ∧ h.2.2.2.2 + am_al 99 ≤ 175 ∧ am_call am_cod 1 99 [.ref 36, .ref 59] h (fun vv h' => pz_S 2 (some .boolean) am_r113 1 Q 22 [(0, .ref 47), (1, .ref 36)] (vv.toList ++ []) h') from ⟨Or.inl ⟨by decide, ex_36 hP⟩, by decide, ex_lim hP rfl, am_call.up (q_99 stO_36 stO_59 (by decide) hP (fun h366 f367 f368 f369 f370 => ?_)) (by decide)⟩)
  have f371 : h366.1 47 1 = nI 2 := (f369 47 1 (by omega)).trans e1
  have f372 : h366.1 47 2 = nI n := (f369 47 2 (by omega)).trans e2
  have f373 : kF 36 h h366 := kF_c hX f368 f369
  have f374 : scq 36 59 h h366 := scq_b hX (fun a u1 u2 => by omega) f370
  refine am_goX 3 (show am_sh h366 47 = some (2, 0) ∧ pz_S 2 (some .boolean) am_r113 1 Q 27 [(0, .ref 47), (1, .ref 36)] [.int (h366.1 47 1), .ref 47] h366 from ⟨ex_47 f367, ?_⟩)
  rw [show h366.1 47 1 = nI 2 from f371]
  refine am_goX 6 (show ¬ ((Int8.ofInt 16).toInt32) = 0 ∧ pz_S 2 (some .boolean) am_r113 1 Q 35 [(0, .ref 47), (1, .ref 36)] [.int ((((nI 2) + ((Int8.ofInt 16).toInt32)) - (Int32.ofInt 1)) - (((nI 2) + ((Int8.ofInt 16).toInt32)) - (Int32.ofInt 1)) / ((Int8.ofInt 16).toInt32) * ((Int8.ofInt 16).toInt32)), .ref 47] h366 from ⟨by decide, ?_⟩)
  rw [show (((nI 2) + ((Int8.ofInt 16).toInt32)) - (Int32.ofInt 1)) - (((nI 2) + ((Int8.ofInt 16).toInt32)) - (Int32.ofInt 1)) / ((Int8.ofInt 16).toInt32) * ((Int8.ofInt 16).toInt32) = nI 1 from (by decide)]
  refine am_goX 1 (show am_sh h366 47 = some (2, 0) ∧ narrow (am_fty 2 1) (.int (nI 1)) = .int (nI 1) ∧ fits (am_fty 2 1) (.int (nI 1)) = true ∧ pz_S 2 (some .boolean) am_r113 1 Q 38 [(0, .ref 47), (1, .ref 36)] [] (am_wI h366 47 1 (nI 1)) from ⟨ex_47 f367, rfl, rfl, ?_⟩)
  have f376 : ex_P (am_wI h366 47 1 (nI 1)) := f367
  have f377 : (am_wI h366 47 1 (nI 1)).1 47 1 = nI 1 := (em_we _ _ _ _).trans (rfl)
  have f378 : (am_wI h366 47 1 (nI 1)).1 47 2 = nI n := (em_wn _ _ (by omega)).trans f372
  have f379 : kF 36 h (am_wI h366 47 1 (nI 1)) := kF_w (by omega) f373
  have f380 : scq 36 59 h (am_wI h366 47 1 (nI 1)) := scq_w (by omega) f374
  generalize am_wI h366 47 1 (nI 1) = h375 at f376 f377 f378 f379 f380 ⊢
  refine am_goX 3 (show (Value.ref 47).category = 1 ∧ am_sh h375 47 = some (2, 0) ∧ pz_S 2 (some .boolean) am_r113 1 Q 43 [(0, .ref 47), (1, .ref 36)] [.int (h375.1 47 2), .ref 47] h375 from ⟨rfl, ex_47 f376, ?_⟩)
  rw [show h375.1 47 2 = nI n from f378]
  refine am_goX 3 (show am_sh h375 47 = some (2, 0) ∧ narrow (am_fty 2 2) (.int ((nI n) - (Int32.ofInt 1))) = .int ((nI n) - (Int32.ofInt 1)) ∧ fits (am_fty 2 2) (.int ((nI n) - (Int32.ofInt 1))) = true ∧ pz_S 2 (some .boolean) am_r113 1 Q 48 [(0, .ref 47), (1, .ref 36)] [] (am_wI h375 47 2 ((nI n) - (Int32.ofInt 1))) from ⟨ex_47 f376, rfl, rfl, ?_⟩)
  have f382 : ex_P (am_wI h375 47 2 ((nI n) - (Int32.ofInt 1))) := f376
  have f383 : (am_wI h375 47 2 ((nI n) - (Int32.ofInt 1))).1 47 1 = nI 1 := (em_wn _ _ (by omega)).trans f377
  have f384 : (am_wI h375 47 2 ((nI n) - (Int32.ofInt 1))).1 47 2 = nI (n - 1) := (em_we _ _ _ _).trans ((dn_s (by omega) rfl rfl))
  have f385 : kF 36 h (am_wI h375 47 2 ((nI n) - (Int32.ofInt 1))) := kF_w (by omega) f379
  have f386 : scq 36 59 h (am_wI h375 47 2 ((nI n) - (Int32.ofInt 1))) := scq_w (by omega) f380
  generalize am_wI h375 47 2 ((nI n) - (Int32.ofInt 1)) = h381 at f382 f383 f384 f385 f386 ⊢
  exact am_goX 2 (show (∃ ty, (some .boolean) = some ty ∧ narrow ty (.int (Int32.ofInt 1)) = .int (Int32.ofInt 1)) ∧ h381.2.2.2.2 = 175 ∧ _ from ⟨⟨.boolean, rfl, rfl⟩, ex_175 f382, hQ _ f382 f385.1 f385.2 f383 f384 f386⟩)
theorem q_113_3 (hn0 : 0 < n) (hn : n ≤ 16) (hP : ex_P h) (e1 : h.1 47 1 = nI 3) (e2 : h.1 47 2 = nI n) (hQ : ∀ h1, ex_P h1 → h1.2 = h.2 → (∀ o k, ¬ o = 47 → ¬ (36 ≤ o ∧ o ≤ 40) → h1.1 o k = h.1 o k) → h1.1 47 1 = nI 2 → h1.1 47 2 = nI (n - 1) → scq 36 64 h h1 → Q (some (.int (Int32.ofInt 1))) h1) : am_call am_cod 2 113 [.ref 47, .ref 36] h Q := by
  refine pz_call (n := 113) (nL := 2) (rt := (some .boolean)) (rows := am_r113) (d := 1) (by decide +kernel) (by decide +kernel) rfl (by funext pc; rfl) (ex_175 hP) (by exact Nat.le_of_ble_eq_true rfl) ?_
  have hX := kF_0 (D := 36) (h := h)
  refine am_goX 2 (show am_sh h 47 = some (2, 0) ∧ pz_S 2 (some .boolean) am_r113 1 Q 4 [(0, .ref 47), (1, .ref 36)] [.int (h.1 47 2)] h from ⟨ex_47 hP, ?_⟩)
  rw [show h.1 47 2 = nI n from e2]
  refine am_goX 1 (show (¬ (nI n) = 0 → pz_S 2 (some .boolean) am_r113 1 Q 9 [(0, .ref 47), (1, .ref 36)] [] h) ∧ (¬ ¬ (nI n) = 0 → pz_S 2 (some .boolean) am_r113 1 Q 7 [(0, .ref 47), (1, .ref 36)] [] h) from ⟨fun _ => ?_, fun hz => absurd (nI_n0 hn0 (by omega)) hz⟩)
  refine am_goX 3 (show am_sh h 47 = some (2, 0) ∧ pz_S 2 (some .boolean) am_r113 1 Q 14 [(0, .ref 47), (1, .ref 36)] [am_rf (h.2.2.1 47 0), .ref 36] h from ⟨ex_47 hP, ?_⟩)
  rw [show am_rf (h.2.2.1 47 0) = .ref 48 from congrArg am_rf (ex_r47_0 hP)]
  refine am_goX 2 (show am_sh h 47 = some (2, 0) ∧ pz_S 2 (some .boolean) am_r113 1 Q 18 [(0, .ref 47), (1, .ref 36)] [.int (h.1 47 1), .ref 48, .ref 36] h from ⟨ex_47 hP, ?_⟩)
  rw [show h.1 47 1 = nI 3 from e1]
  refine am_goX 1 (show ∃ jj nn : Nat, (am_sh h 48 = some (16, nn) ∨ am_sh h 48 = some (17, nn)) ∧ jj < nn ∧ nI 3 = nI jj ∧ pz_S 2 (some .boolean) am_r113 1 Q 19 [(0, .ref 47), (1, .ref 36)] [am_rf (h.2.2.1 48 jj), .ref 36] h from ⟨3, 16, Or.inr (ex_48 hP), by decide, rfl, ?_⟩)
  rw [show am_rf (h.2.2.1 48 3) = .ref 64 from congrArg am_rf (ex_r48_3 hP)]
  refine am_goX 1 (show am_rc h 36 6 ∧ 0 ≤ 8 ∧ h.2.2.2.2 + am_al 99 ≤ 175 ∧ am_call am_cod 1 99 [.ref 36, .ref 64] h (fun vv h' => pz_S 2 (some .boolean) am_r113 1 Q 22 [(0, .ref 47), (1, .ref 36)] (vv.toList ++ []) h') from ⟨Or.inl ⟨by decide, ex_36 hP⟩, by decide, ex_lim hP rfl, am_call.up (q_99 stO_36 stO_64 (by decide) hP (fun h387 f388 f389 f390 f391 => ?_)) (by decide)⟩)
  have f392 : h387.1 47 1 = nI 3 := (f390 47 1 (by omega)).trans e1
  have f393 : h387.1 47 2 = nI n := (f390 47 2 (by omega)).trans e2
  have f394 : kF 36 h h387 := kF_c hX f389 f390
  have f395 : scq 36 64 h h387 := scq_b hX (fun a u1 u2 => by omega) f391
  refine am_goX 3 (show am_sh h387 47 = some (2, 0) ∧ pz_S 2 (some .boolean) am_r113 1 Q 27 [(0, .ref 47), (1, .ref 36)] [.int (h387.1 47 1), .ref 47] h387 from ⟨ex_47 f388, ?_⟩)
  rw [show h387.1 47 1 = nI 3 from f392]
  refine am_goX 6 (show ¬ ((Int8.ofInt 16).toInt32) = 0 ∧ pz_S 2 (some .boolean) am_r113 1 Q 35 [(0, .ref 47), (1, .ref 36)] [.int ((((nI 3) + ((Int8.ofInt 16).toInt32)) - (Int32.ofInt 1)) - (((nI 3) + ((Int8.ofInt 16).toInt32)) - (Int32.ofInt 1)) / ((Int8.ofInt 16).toInt32) * ((Int8.ofInt 16).toInt32)), .ref 47] h387 from ⟨by decide, ?_⟩)
  rw [show (((nI 3) + ((Int8.ofInt 16).toInt32)) - (Int32.ofInt 1)) - (((nI 3) + ((Int8.ofInt 16).toInt32)) - (Int32.ofInt 1)) / ((Int8.ofInt 16).toInt32) * ((Int8.ofInt 16).toInt32) = nI 2 from (by decide)]
  refine am_goX 1 (show am_sh h387 47 = some (2, 0) ∧ narrow (am_fty 2 1) (.int (nI 2)) = .int (nI 2) ∧ fits (am_fty 2 1) (.int (nI 2)) = true ∧ pz_S 2 (some .boolean) am_r113 1 Q 38 [(0, .ref 47), (1, .ref 36)] [] (am_wI h387 47 1 (nI 2)) from ⟨ex_47 f388, rfl, rfl, ?_⟩)
  have f397 : ex_P (am_wI h387 47 1 (nI 2)) := f388
  have f398 : (am_wI h387 47 1 (nI 2)).1 47 1 = nI 2 := (em_we _ _ _ _).trans (rfl)
  have f399 : (am_wI h387 47 1 (nI 2)).1 47 2 = nI n := (em_wn _ _ (by omega)).trans f393
  have f400 : kF 36 h (am_wI h387 47 1 (nI 2)) := kF_w (by omega) f394
  have f401 : scq 36 64 h (am_wI h387 47 1 (nI 2)) := scq_w (by omega) f395
  generalize am_wI h387 47 1 (nI 2) = h396 at f397 f398 f399 f400 f401 ⊢
  refine am_goX 3 (show (Value.ref 47).category = 1 ∧ am_sh h396 47 = some (2, 0) ∧ pz_S 2 (some .boolean) am_r113 1 Q 43 [(0, .ref 47), (1, .ref 36)] [.int (h396.1 47 2), .ref 47] h396 from ⟨rfl, ex_47 f397, ?_⟩)
  rw [show h396.1 47 2 = nI n from f399]
  refine am_goX 3 (show am_sh h396 47 = some (2, 0) ∧ narrow (am_fty 2 2) (.int ((nI n) - (Int32.ofInt 1))) = .int ((nI n) - (Int32.ofInt 1)) ∧ fits (am_fty 2 2) (.int ((nI n) - (Int32.ofInt 1))) = true ∧ pz_S 2 (some .boolean) am_r113 1 Q 48 [(0, .ref 47), (1, .ref 36)] [] (am_wI h396 47 2 ((nI n) - (Int32.ofInt 1))) from ⟨ex_47 f397, rfl, rfl, ?_⟩)
  have f403 : ex_P (am_wI h396 47 2 ((nI n) - (Int32.ofInt 1))) := f397
  have f404 : (am_wI h396 47 2 ((nI n) - (Int32.ofInt 1))).1 47 1 = nI 2 := (em_wn _ _ (by omega)).trans f398
  have f405 : (am_wI h396 47 2 ((nI n) - (Int32.ofInt 1))).1 47 2 = nI (n - 1) := (em_we _ _ _ _).trans ((dn_s (by omega) rfl rfl))
  have f406 : kF 36 h (am_wI h396 47 2 ((nI n) - (Int32.ofInt 1))) := kF_w (by omega) f400
  have f407 : scq 36 64 h (am_wI h396 47 2 ((nI n) - (Int32.ofInt 1))) := scq_w (by omega) f401
  generalize am_wI h396 47 2 ((nI n) - (Int32.ofInt 1)) = h402 at f403 f404 f405 f406 f407 ⊢
  exact am_goX 2 (show (∃ ty, (some .boolean) = some ty ∧ narrow ty (.int (Int32.ofInt 1)) = .int (Int32.ofInt 1)) ∧ h402.2.2.2.2 = 175 ∧ _ from ⟨⟨.boolean, rfl, rfl⟩, ex_175 f403, hQ _ f403 f406.1 f406.2 f404 f405 f407⟩)
theorem q_113_4 (hn0 : 0 < n) (hn : n ≤ 16) (hP : ex_P h) (e1 : h.1 47 1 = nI 4) (e2 : h.1 47 2 = nI n) (hQ : ∀ h1, ex_P h1 → h1.2 = h.2 → (∀ o k, ¬ o = 47 → ¬ (36 ≤ o ∧ o ≤ 40) → h1.1 o k = h.1 o k) → h1.1 47 1 = nI 3 → h1.1 47 2 = nI (n - 1) → scq 36 69 h h1 → Q (some (.int (Int32.ofInt 1))) h1) : am_call am_cod 2 113 [.ref 47, .ref 36] h Q := by
  refine pz_call (n := 113) (nL := 2) (rt := (some .boolean)) (rows := am_r113) (d := 1) (by decide +kernel) (by decide +kernel) rfl (by funext pc; rfl) (ex_175 hP) (by exact Nat.le_of_ble_eq_true rfl) ?_
  have hX := kF_0 (D := 36) (h := h)
  refine am_goX 2 (show am_sh h 47 = some (2, 0) ∧ pz_S 2 (some .boolean) am_r113 1 Q 4 [(0, .ref 47), (1, .ref 36)] [.int (h.1 47 2)] h from ⟨ex_47 hP, ?_⟩)
  rw [show h.1 47 2 = nI n from e2]
  refine am_goX 1 (show (¬ (nI n) = 0 → pz_S 2 (some .boolean) am_r113 1 Q 9 [(0, .ref 47), (1, .ref 36)] [] h) ∧ (¬ ¬ (nI n) = 0 → pz_S 2 (some .boolean) am_r113 1 Q 7 [(0, .ref 47), (1, .ref 36)] [] h) from ⟨fun _ => ?_, fun hz => absurd (nI_n0 hn0 (by omega)) hz⟩)
  refine am_goX 3 (show am_sh h 47 = some (2, 0) ∧ pz_S 2 (some .boolean) am_r113 1 Q 14 [(0, .ref 47), (1, .ref 36)] [am_rf (h.2.2.1 47 0), .ref 36] h from ⟨ex_47 hP, ?_⟩)
  rw [show am_rf (h.2.2.1 47 0) = .ref 48 from congrArg am_rf (ex_r47_0 hP)]
  refine am_goX 2 (show am_sh h 47 = some (2, 0) ∧ pz_S 2 (some .boolean) am_r113 1 Q 18 [(0, .ref 47), (1, .ref 36)] [.int (h.1 47 1), .ref 48, .ref 36] h from ⟨ex_47 hP, ?_⟩)
  rw [show h.1 47 1 = nI 4 from e1]
  refine am_goX 1 (show ∃ jj nn : Nat, (am_sh h 48 = some (16, nn) ∨ am_sh h 48 = some (17, nn)) ∧ jj < nn ∧ nI 4 = nI jj ∧ pz_S 2 (some .boolean) am_r113 1 Q 19 [(0, .ref 47), (1, .ref 36)] [am_rf (h.2.2.1 48 jj), .ref 36] h from ⟨4, 16, Or.inr (ex_48 hP), by decide, rfl, ?_⟩)
  rw [show am_rf (h.2.2.1 48 4) = .ref 69 from congrArg am_rf (ex_r48_4 hP)]
  refine am_goX 1 (show am_rc h 36 6 ∧ 0 ≤ 8 ∧ h.2.2.2.2 + am_al 99 ≤ 175 ∧ am_call am_cod 1 99 [.ref 36, .ref 69] h (fun vv h' => pz_S 2 (some .boolean) am_r113 1 Q 22 [(0, .ref 47), (1, .ref 36)] (vv.toList ++ []) h') from ⟨Or.inl ⟨by decide, ex_36 hP⟩, by decide, ex_lim hP rfl, am_call.up (q_99 stO_36 stO_69 (by decide) hP (fun h408 f409 f410 f411 f412 => ?_)) (by decide)⟩)
  have f413 : h408.1 47 1 = nI 4 := (f411 47 1 (by omega)).trans e1
  have f414 : h408.1 47 2 = nI n := (f411 47 2 (by omega)).trans e2
  have f415 : kF 36 h h408 := kF_c hX f410 f411
  have f416 : scq 36 69 h h408 := scq_b hX (fun a u1 u2 => by omega) f412
  refine am_goX 3 (show am_sh h408 47 = some (2, 0) ∧ pz_S 2 (some .boolean) am_r113 1 Q 27 [(0, .ref 47), (1, .ref 36)] [.int (h408.1 47 1), .ref 47] h408 from ⟨ex_47 f409, ?_⟩)
  rw [show h408.1 47 1 = nI 4 from f413]
  refine am_goX 6 (show ¬ ((Int8.ofInt 16).toInt32) = 0 ∧ pz_S 2 (some .boolean) am_r113 1 Q 35 [(0, .ref 47), (1, .ref 36)] [.int ((((nI 4) + ((Int8.ofInt 16).toInt32)) - (Int32.ofInt 1)) - (((nI 4) + ((Int8.ofInt 16).toInt32)) - (Int32.ofInt 1)) / ((Int8.ofInt 16).toInt32) * ((Int8.ofInt 16).toInt32)), .ref 47] h408 from ⟨by decide, ?_⟩)
  rw [show (((nI 4) + ((Int8.ofInt 16).toInt32)) - (Int32.ofInt 1)) - (((nI 4) + ((Int8.ofInt 16).toInt32)) - (Int32.ofInt 1)) / ((Int8.ofInt 16).toInt32) * ((Int8.ofInt 16).toInt32) = nI 3 from (by decide)]
  refine am_goX 1 (show am_sh h408 47 = some (2, 0) ∧ narrow (am_fty 2 1) (.int (nI 3)) = .int (nI 3) ∧ fits (am_fty 2 1) (.int (nI 3)) = true ∧ pz_S 2 (some .boolean) am_r113 1 Q 38 [(0, .ref 47), (1, .ref 36)] [] (am_wI h408 47 1 (nI 3)) from ⟨ex_47 f409, rfl, rfl, ?_⟩)
  have f418 : ex_P (am_wI h408 47 1 (nI 3)) := f409
  have f419 : (am_wI h408 47 1 (nI 3)).1 47 1 = nI 3 := (em_we _ _ _ _).trans (rfl)
  have f420 : (am_wI h408 47 1 (nI 3)).1 47 2 = nI n := (em_wn _ _ (by omega)).trans f414
  have f421 : kF 36 h (am_wI h408 47 1 (nI 3)) := kF_w (by omega) f415
  have f422 : scq 36 69 h (am_wI h408 47 1 (nI 3)) := scq_w (by omega) f416
  generalize am_wI h408 47 1 (nI 3) = h417 at f418 f419 f420 f421 f422 ⊢
  refine am_goX 3 (show (Value.ref 47).category = 1 ∧ am_sh h417 47 = some (2, 0) ∧ pz_S 2 (some .boolean) am_r113 1 Q 43 [(0, .ref 47), (1, .ref 36)] [.int (h417.1 47 2), .ref 47] h417 from ⟨rfl, ex_47 f418, ?_⟩)
  rw [show h417.1 47 2 = nI n from f420]
  refine am_goX 3 (show am_sh h417 47 = some (2, 0) ∧ narrow (am_fty 2 2) (.int ((nI n) - (Int32.ofInt 1))) = .int ((nI n) - (Int32.ofInt 1)) ∧ fits (am_fty 2 2) (.int ((nI n) - (Int32.ofInt 1))) = true ∧ pz_S 2 (some .boolean) am_r113 1 Q 48 [(0, .ref 47), (1, .ref 36)] [] (am_wI h417 47 2 ((nI n) - (Int32.ofInt 1))) from ⟨ex_47 f418, rfl, rfl, ?_⟩)
  have f424 : ex_P (am_wI h417 47 2 ((nI n) - (Int32.ofInt 1))) := f418
  have f425 : (am_wI h417 47 2 ((nI n) - (Int32.ofInt 1))).1 47 1 = nI 3 := (em_wn _ _ (by omega)).trans f419
  have f426 : (am_wI h417 47 2 ((nI n) - (Int32.ofInt 1))).1 47 2 = nI (n - 1) := (em_we _ _ _ _).trans ((dn_s (by omega) rfl rfl))
  have f427 : kF 36 h (am_wI h417 47 2 ((nI n) - (Int32.ofInt 1))) := kF_w (by omega) f421
  have f428 : scq 36 69 h (am_wI h417 47 2 ((nI n) - (Int32.ofInt 1))) := scq_w (by omega) f422
  generalize am_wI h417 47 2 ((nI n) - (Int32.ofInt 1)) = h423 at f424 f425 f426 f427 f428 ⊢
  exact am_goX 2 (show (∃ ty, (some .boolean) = some ty ∧ narrow ty (.int (Int32.ofInt 1)) = .int (Int32.ofInt 1)) ∧ h423.2.2.2.2 = 175 ∧ _ from ⟨⟨.boolean, rfl, rfl⟩, ex_175 f424, hQ _ f424 f427.1 f427.2 f425 f426 f428⟩)
theorem q_113_5 (hn0 : 0 < n) (hn : n ≤ 16) (hP : ex_P h) (e1 : h.1 47 1 = nI 5) (e2 : h.1 47 2 = nI n) (hQ : ∀ h1, ex_P h1 → h1.2 = h.2 → (∀ o k, ¬ o = 47 → ¬ (36 ≤ o ∧ o ≤ 40) → h1.1 o k = h.1 o k) → h1.1 47 1 = nI 4 → h1.1 47 2 = nI (n - 1) → scq 36 74 h h1 → Q (some (.int (Int32.ofInt 1))) h1) : am_call am_cod 2 113 [.ref 47, .ref 36] h Q := by
  refine pz_call (n := 113) (nL := 2) (rt := (some .boolean)) (rows := am_r113) (d := 1) (by decide +kernel) (by decide +kernel) rfl (by funext pc; rfl) (ex_175 hP) (by exact Nat.le_of_ble_eq_true rfl) ?_
  have hX := kF_0 (D := 36) (h := h)
  refine am_goX 2 (show am_sh h 47 = some (2, 0) ∧ pz_S 2 (some .boolean) am_r113 1 Q 4 [(0, .ref 47), (1, .ref 36)] [.int (h.1 47 2)] h from ⟨ex_47 hP, ?_⟩)
  rw [show h.1 47 2 = nI n from e2]
  refine am_goX 1 (show (¬ (nI n) = 0 → pz_S 2 (some .boolean) am_r113 1 Q 9 [(0, .ref 47), (1, .ref 36)] [] h) ∧ (¬ ¬ (nI n) = 0 → pz_S 2 (some .boolean) am_r113 1 Q 7 [(0, .ref 47), (1, .ref 36)] [] h) from ⟨fun _ => ?_, fun hz => absurd (nI_n0 hn0 (by omega)) hz⟩)
  refine am_goX 3 (show am_sh h 47 = some (2, 0) ∧ pz_S 2 (some .boolean) am_r113 1 Q 14 [(0, .ref 47), (1, .ref 36)] [am_rf (h.2.2.1 47 0), .ref 36] h from ⟨ex_47 hP, ?_⟩)
  rw [show am_rf (h.2.2.1 47 0) = .ref 48 from congrArg am_rf (ex_r47_0 hP)]
  refine am_goX 2 (show am_sh h 47 = some (2, 0) ∧ pz_S 2 (some .boolean) am_r113 1 Q 18 [(0, .ref 47), (1, .ref 36)] [.int (h.1 47 1), .ref 48, .ref 36] h from ⟨ex_47 hP, ?_⟩)
  rw [show h.1 47 1 = nI 5 from e1]
  refine am_goX 1 (show ∃ jj nn : Nat, (am_sh h 48 = some (16, nn) ∨ am_sh h 48 = some (17, nn)) ∧ jj < nn ∧ nI 5 = nI jj ∧ pz_S 2 (some .boolean) am_r113 1 Q 19 [(0, .ref 47), (1, .ref 36)] [am_rf (h.2.2.1 48 jj), .ref 36] h from ⟨5, 16, Or.inr (ex_48 hP), by decide, rfl, ?_⟩)
  rw [show am_rf (h.2.2.1 48 5) = .ref 74 from congrArg am_rf (ex_r48_5 hP)]
  refine am_goX 1 (show am_rc h 36 6 ∧ 0 ≤ 8 ∧ h.2.2.2.2 + am_al 99 ≤ 175 ∧ am_call am_cod 1 99 [.ref 36, .ref 74] h (fun vv h' => pz_S 2 (some .boolean) am_r113 1 Q 22 [(0, .ref 47), (1, .ref 36)] (vv.toList ++ []) h') from ⟨Or.inl ⟨by decide, ex_36 hP⟩, by decide, ex_lim hP rfl, am_call.up (q_99 stO_36 stO_74 (by decide) hP (fun h429 f430 f431 f432 f433 => ?_)) (by decide)⟩)
  have f434 : h429.1 47 1 = nI 5 := (f432 47 1 (by omega)).trans e1
  have f435 : h429.1 47 2 = nI n := (f432 47 2 (by omega)).trans e2
  have f436 : kF 36 h h429 := kF_c hX f431 f432
  have f437 : scq 36 74 h h429 := scq_b hX (fun a u1 u2 => by omega) f433
  refine am_goX 3 (show am_sh h429 47 = some (2, 0) ∧ pz_S 2 (some .boolean) am_r113 1 Q 27 [(0, .ref 47), (1, .ref 36)] [.int (h429.1 47 1), .ref 47] h429 from ⟨ex_47 f430, ?_⟩)
  rw [show h429.1 47 1 = nI 5 from f434]
  refine am_goX 6 (show ¬ ((Int8.ofInt 16).toInt32) = 0 ∧ pz_S 2 (some .boolean) am_r113 1 Q 35 [(0, .ref 47), (1, .ref 36)] [.int ((((nI 5) + ((Int8.ofInt 16).toInt32)) - (Int32.ofInt 1)) - (((nI 5) + ((Int8.ofInt 16).toInt32)) - (Int32.ofInt 1)) / ((Int8.ofInt 16).toInt32) * ((Int8.ofInt 16).toInt32)), .ref 47] h429 from ⟨by decide, ?_⟩)
  rw [show (((nI 5) + ((Int8.ofInt 16).toInt32)) - (Int32.ofInt 1)) - (((nI 5) + ((Int8.ofInt 16).toInt32)) - (Int32.ofInt 1)) / ((Int8.ofInt 16).toInt32) * ((Int8.ofInt 16).toInt32) = nI 4 from (by decide)]
  refine am_goX 1 (show am_sh h429 47 = some (2, 0) ∧ narrow (am_fty 2 1) (.int (nI 4)) = .int (nI 4) ∧ fits (am_fty 2 1) (.int (nI 4)) = true ∧ pz_S 2 (some .boolean) am_r113 1 Q 38 [(0, .ref 47), (1, .ref 36)] [] (am_wI h429 47 1 (nI 4)) from ⟨ex_47 f430, rfl, rfl, ?_⟩)
  have f439 : ex_P (am_wI h429 47 1 (nI 4)) := f430
  have f440 : (am_wI h429 47 1 (nI 4)).1 47 1 = nI 4 := (em_we _ _ _ _).trans (rfl)
  have f441 : (am_wI h429 47 1 (nI 4)).1 47 2 = nI n := (em_wn _ _ (by omega)).trans f435
  have f442 : kF 36 h (am_wI h429 47 1 (nI 4)) := kF_w (by omega) f436
  have f443 : scq 36 74 h (am_wI h429 47 1 (nI 4)) := scq_w (by omega) f437
  generalize am_wI h429 47 1 (nI 4) = h438 at f439 f440 f441 f442 f443 ⊢
  refine am_goX 3 (show (Value.ref 47).category = 1 ∧ am_sh h438 47 = some (2, 0) ∧ pz_S 2 (some .boolean) am_r113 1 Q 43 [(0, .ref 47), (1, .ref 36)] [.int (h438.1 47 2), .ref 47] h438 from ⟨rfl, ex_47 f439, ?_⟩)
  rw [show h438.1 47 2 = nI n from f441]
  refine am_goX 3 (show am_sh h438 47 = some (2, 0) ∧ narrow (am_fty 2 2) (.int ((nI n) - (Int32.ofInt 1))) = .int ((nI n) - (Int32.ofInt 1)) ∧ fits (am_fty 2 2) (.int ((nI n) - (Int32.ofInt 1))) = true ∧ pz_S 2 (some .boolean) am_r113 1 Q 48 [(0, .ref 47), (1, .ref 36)] [] (am_wI h438 47 2 ((nI n) - (Int32.ofInt 1))) from ⟨ex_47 f439, rfl, rfl, ?_⟩)
  have f445 : ex_P (am_wI h438 47 2 ((nI n) - (Int32.ofInt 1))) := f439
  have f446 : (am_wI h438 47 2 ((nI n) - (Int32.ofInt 1))).1 47 1 = nI 4 := (em_wn _ _ (by omega)).trans f440
  have f447 : (am_wI h438 47 2 ((nI n) - (Int32.ofInt 1))).1 47 2 = nI (n - 1) := (em_we _ _ _ _).trans ((dn_s (by omega) rfl rfl))
  have f448 : kF 36 h (am_wI h438 47 2 ((nI n) - (Int32.ofInt 1))) := kF_w (by omega) f442
  have f449 : scq 36 74 h (am_wI h438 47 2 ((nI n) - (Int32.ofInt 1))) := scq_w (by omega) f443
  generalize am_wI h438 47 2 ((nI n) - (Int32.ofInt 1)) = h444 at f445 f446 f447 f448 f449 ⊢
  exact am_goX 2 (show (∃ ty, (some .boolean) = some ty ∧ narrow ty (.int (Int32.ofInt 1)) = .int (Int32.ofInt 1)) ∧ h444.2.2.2.2 = 175 ∧ _ from ⟨⟨.boolean, rfl, rfl⟩, ex_175 f445, hQ _ f445 f448.1 f448.2 f446 f447 f449⟩)
theorem q_113_6 (hn0 : 0 < n) (hn : n ≤ 16) (hP : ex_P h) (e1 : h.1 47 1 = nI 6) (e2 : h.1 47 2 = nI n) (hQ : ∀ h1, ex_P h1 → h1.2 = h.2 → (∀ o k, ¬ o = 47 → ¬ (36 ≤ o ∧ o ≤ 40) → h1.1 o k = h.1 o k) → h1.1 47 1 = nI 5 → h1.1 47 2 = nI (n - 1) → scq 36 79 h h1 → Q (some (.int (Int32.ofInt 1))) h1) : am_call am_cod 2 113 [.ref 47, .ref 36] h Q := by
  refine pz_call (n := 113) (nL := 2) (rt := (some .boolean)) (rows := am_r113) (d := 1) (by decide +kernel) (by decide +kernel) rfl (by funext pc; rfl) (ex_175 hP) (by exact Nat.le_of_ble_eq_true rfl) ?_
  have hX := kF_0 (D := 36) (h := h)
  refine am_goX 2 (show am_sh h 47 = some (2, 0) ∧ pz_S 2 (some .boolean) am_r113 1 Q 4 [(0, .ref 47), (1, .ref 36)] [.int (h.1 47 2)] h from ⟨ex_47 hP, ?_⟩)
  rw [show h.1 47 2 = nI n from e2]
  refine am_goX 1 (show (¬ (nI n) = 0 → pz_S 2 (some .boolean) am_r113 1 Q 9 [(0, .ref 47), (1, .ref 36)] [] h) ∧ (¬ ¬ (nI n) = 0 → pz_S 2 (some .boolean) am_r113 1 Q 7 [(0, .ref 47), (1, .ref 36)] [] h) from ⟨fun _ => ?_, fun hz => absurd (nI_n0 hn0 (by omega)) hz⟩)
  refine am_goX 3 (show am_sh h 47 = some (2, 0) ∧ pz_S 2 (some .boolean) am_r113 1 Q 14 [(0, .ref 47), (1, .ref 36)] [am_rf (h.2.2.1 47 0), .ref 36] h from ⟨ex_47 hP, ?_⟩)
  rw [show am_rf (h.2.2.1 47 0) = .ref 48 from congrArg am_rf (ex_r47_0 hP)]
  refine am_goX 2 (show am_sh h 47 = some (2, 0) ∧ pz_S 2 (some .boolean) am_r113 1 Q 18 [(0, .ref 47), (1, .ref 36)] [.int (h.1 47 1), .ref 48, .ref 36] h from ⟨ex_47 hP, ?_⟩)
  rw [show h.1 47 1 = nI 6 from e1]
  refine am_goX 1 (show ∃ jj nn : Nat, (am_sh h 48 = some (16, nn) ∨ am_sh h 48 = some (17, nn)) ∧ jj < nn ∧ nI 6 = nI jj ∧ pz_S 2 (some .boolean) am_r113 1 Q 19 [(0, .ref 47), (1, .ref 36)] [am_rf (h.2.2.1 48 jj), .ref 36] h from ⟨6, 16, Or.inr (ex_48 hP), by decide, rfl, ?_⟩)
  rw [show am_rf (h.2.2.1 48 6) = .ref 79 from congrArg am_rf (ex_r48_6 hP)]
  refine am_goX 1 (show am_rc h 36 6 ∧ 0 ≤ 8 ∧ h.2.2.2.2 + am_al 99 ≤ 175 ∧ am_call am_cod 1 99 [.ref 36, .ref 79] h (fun vv h' => pz_S 2 (some .boolean) am_r113 1 Q 22 [(0, .ref 47), (1, .ref 36)] (vv.toList ++ []) h') from ⟨Or.inl ⟨by decide, ex_36 hP⟩, by decide, ex_lim hP rfl, am_call.up (q_99 stO_36 stO_79 (by decide) hP (fun h450 f451 f452 f453 f454 => ?_)) (by decide)⟩)
  have f455 : h450.1 47 1 = nI 6 := (f453 47 1 (by omega)).trans e1
  have f456 : h450.1 47 2 = nI n := (f453 47 2 (by omega)).trans e2
  have f457 : kF 36 h h450 := kF_c hX f452 f453
  have f458 : scq 36 79 h h450 := scq_b hX (fun a u1 u2 => by omega) f454
  refine am_goX 3 (show am_sh h450 47 = some (2, 0) ∧ pz_S 2 (some .boolean) am_r113 1 Q 27 [(0, .ref 47), (1, .ref 36)] [.int (h450.1 47 1), .ref 47] h450 from ⟨ex_47 f451, ?_⟩)
  rw [show h450.1 47 1 = nI 6 from f455]
  refine am_goX 6 (show ¬ ((Int8.ofInt 16).toInt32) = 0 ∧ pz_S 2 (some .boolean) am_r113 1 Q 35 [(0, .ref 47), (1, .ref 36)] [.int ((((nI 6) + ((Int8.ofInt 16).toInt32)) - (Int32.ofInt 1)) - (((nI 6) + ((Int8.ofInt 16).toInt32)) - (Int32.ofInt 1)) / ((Int8.ofInt 16).toInt32) * ((Int8.ofInt 16).toInt32)), .ref 47] h450 from ⟨by decide, ?_⟩)
  rw [show (((nI 6) + ((Int8.ofInt 16).toInt32)) - (Int32.ofInt 1)) - (((nI 6) + ((Int8.ofInt 16).toInt32)) - (Int32.ofInt 1)) / ((Int8.ofInt 16).toInt32) * ((Int8.ofInt 16).toInt32) = nI 5 from (by decide)]
  refine am_goX 1 (show am_sh h450 47 = some (2, 0) ∧ narrow (am_fty 2 1) (.int (nI 5)) = .int (nI 5) ∧ fits (am_fty 2 1) (.int (nI 5)) = true ∧ pz_S 2 (some .boolean) am_r113 1 Q 38 [(0, .ref 47), (1, .ref 36)] [] (am_wI h450 47 1 (nI 5)) from ⟨ex_47 f451, rfl, rfl, ?_⟩)
  have f460 : ex_P (am_wI h450 47 1 (nI 5)) := f451
  have f461 : (am_wI h450 47 1 (nI 5)).1 47 1 = nI 5 := (em_we _ _ _ _).trans (rfl)
  have f462 : (am_wI h450 47 1 (nI 5)).1 47 2 = nI n := (em_wn _ _ (by omega)).trans f456
  have f463 : kF 36 h (am_wI h450 47 1 (nI 5)) := kF_w (by omega) f457
  have f464 : scq 36 79 h (am_wI h450 47 1 (nI 5)) := scq_w (by omega) f458
  generalize am_wI h450 47 1 (nI 5) = h459 at f460 f461 f462 f463 f464 ⊢
  refine am_goX 3 (show (Value.ref 47).category = 1 ∧ am_sh h459 47 = some (2, 0) ∧ pz_S 2 (some .boolean) am_r113 1 Q 43 [(0, .ref 47), (1, .ref 36)] [.int (h459.1 47 2), .ref 47] h459 from ⟨rfl, ex_47 f460, ?_⟩)
  rw [show h459.1 47 2 = nI n from f462]
  refine am_goX 3 (show am_sh h459 47 = some (2, 0) ∧ narrow (am_fty 2 2) (.int ((nI n) - (Int32.ofInt 1))) = .int ((nI n) - (Int32.ofInt 1)) ∧ fits (am_fty 2 2) (.int ((nI n) - (Int32.ofInt 1))) = true ∧ pz_S 2 (some .boolean) am_r113 1 Q 48 [(0, .ref 47), (1, .ref 36)] [] (am_wI h459 47 2 ((nI n) - (Int32.ofInt 1))) from ⟨ex_47 f460, rfl, rfl, ?_⟩)
  have f466 : ex_P (am_wI h459 47 2 ((nI n) - (Int32.ofInt 1))) := f460
  have f467 : (am_wI h459 47 2 ((nI n) - (Int32.ofInt 1))).1 47 1 = nI 5 := (em_wn _ _ (by omega)).trans f461
  have f468 : (am_wI h459 47 2 ((nI n) - (Int32.ofInt 1))).1 47 2 = nI (n - 1) := (em_we _ _ _ _).trans ((dn_s (by omega) rfl rfl))
  have f469 : kF 36 h (am_wI h459 47 2 ((nI n) - (Int32.ofInt 1))) := kF_w (by omega) f463
  have f470 : scq 36 79 h (am_wI h459 47 2 ((nI n) - (Int32.ofInt 1))) := scq_w (by omega) f464
  generalize am_wI h459 47 2 ((nI n) - (Int32.ofInt 1)) = h465 at f466 f467 f468 f469 f470 ⊢
  exact am_goX 2 (show (∃ ty, (some .boolean) = some ty ∧ narrow ty (.int (Int32.ofInt 1)) = .int (Int32.ofInt 1)) ∧ h465.2.2.2.2 = 175 ∧ _ from ⟨⟨.boolean, rfl, rfl⟩, ex_175 f466, hQ _ f466 f469.1 f469.2 f467 f468 f470⟩)
theorem q_113_7 (hn0 : 0 < n) (hn : n ≤ 16) (hP : ex_P h) (e1 : h.1 47 1 = nI 7) (e2 : h.1 47 2 = nI n) (hQ : ∀ h1, ex_P h1 → h1.2 = h.2 → (∀ o k, ¬ o = 47 → ¬ (36 ≤ o ∧ o ≤ 40) → h1.1 o k = h.1 o k) → h1.1 47 1 = nI 6 → h1.1 47 2 = nI (n - 1) → scq 36 84 h h1 → Q (some (.int (Int32.ofInt 1))) h1) : am_call am_cod 2 113 [.ref 47, .ref 36] h Q := by
  refine pz_call (n := 113) (nL := 2) (rt := (some .boolean)) (rows := am_r113) (d := 1) (by decide +kernel) (by decide +kernel) rfl (by funext pc; rfl) (ex_175 hP) (by exact Nat.le_of_ble_eq_true rfl) ?_
  have hX := kF_0 (D := 36) (h := h)
  refine am_goX 2 (show am_sh h 47 = some (2, 0) ∧ pz_S 2 (some .boolean) am_r113 1 Q 4 [(0, .ref 47), (1, .ref 36)] [.int (h.1 47 2)] h from ⟨ex_47 hP, ?_⟩)
  rw [show h.1 47 2 = nI n from e2]
  refine am_goX 1 (show (¬ (nI n) = 0 → pz_S 2 (some .boolean) am_r113 1 Q 9 [(0, .ref 47), (1, .ref 36)] [] h) ∧ (¬ ¬ (nI n) = 0 → pz_S 2 (some .boolean) am_r113 1 Q 7 [(0, .ref 47), (1, .ref 36)] [] h) from ⟨fun _ => ?_, fun hz => absurd (nI_n0 hn0 (by omega)) hz⟩)
  refine am_goX 3 (show am_sh h 47 = some (2, 0) ∧ pz_S 2 (some .boolean) am_r113 1 Q 14 [(0, .ref 47), (1, .ref 36)] [am_rf (h.2.2.1 47 0), .ref 36] h from ⟨ex_47 hP, ?_⟩)
  rw [show am_rf (h.2.2.1 47 0) = .ref 48 from congrArg am_rf (ex_r47_0 hP)]
  refine am_goX 2 (show am_sh h 47 = some (2, 0) ∧ pz_S 2 (some .boolean) am_r113 1 Q 18 [(0, .ref 47), (1, .ref 36)] [.int (h.1 47 1), .ref 48, .ref 36] h from ⟨ex_47 hP, ?_⟩)
  rw [show h.1 47 1 = nI 7 from e1]
  refine am_goX 1 (show ∃ jj nn : Nat, (am_sh h 48 = some (16, nn) ∨ am_sh h 48 = some (17, nn)) ∧ jj < nn ∧ nI 7 = nI jj ∧ pz_S 2 (some .boolean) am_r113 1 Q 19 [(0, .ref 47), (1, .ref 36)] [am_rf (h.2.2.1 48 jj), .ref 36] h from ⟨7, 16, Or.inr (ex_48 hP), by decide, rfl, ?_⟩)
  rw [show am_rf (h.2.2.1 48 7) = .ref 84 from congrArg am_rf (ex_r48_7 hP)]
  refine am_goX 1 (show am_rc h 36 6 ∧ 0 ≤ 8 ∧ h.2.2.2.2 + am_al 99 ≤ 175 ∧ am_call am_cod 1 99 [.ref 36, .ref 84] h (fun vv h' => pz_S 2 (some .boolean) am_r113 1 Q 22 [(0, .ref 47), (1, .ref 36)] (vv.toList ++ []) h') from ⟨Or.inl ⟨by decide, ex_36 hP⟩, by decide, ex_lim hP rfl, am_call.up (q_99 stO_36 stO_84 (by decide) hP (fun h471 f472 f473 f474 f475 => ?_)) (by decide)⟩)
  have f476 : h471.1 47 1 = nI 7 := (f474 47 1 (by omega)).trans e1
  have f477 : h471.1 47 2 = nI n := (f474 47 2 (by omega)).trans e2
  have f478 : kF 36 h h471 := kF_c hX f473 f474
  have f479 : scq 36 84 h h471 := scq_b hX (fun a u1 u2 => by omega) f475
  refine am_goX 3 (show am_sh h471 47 = some (2, 0) ∧ pz_S 2 (some .boolean) am_r113 1 Q 27 [(0, .ref 47), (1, .ref 36)] [.int (h471.1 47 1), .ref 47] h471 from ⟨ex_47 f472, ?_⟩)
  rw [show h471.1 47 1 = nI 7 from f476]
  refine am_goX 6 (show ¬ ((Int8.ofInt 16).toInt32) = 0 ∧ pz_S 2 (some .boolean) am_r113 1 Q 35 [(0, .ref 47), (1, .ref 36)] [.int ((((nI 7) + ((Int8.ofInt 16).toInt32)) - (Int32.ofInt 1)) - (((nI 7) + ((Int8.ofInt 16).toInt32)) - (Int32.ofInt 1)) / ((Int8.ofInt 16).toInt32) * ((Int8.ofInt 16).toInt32)), .ref 47] h471 from ⟨by decide, ?_⟩)
  rw [show (((nI 7) + ((Int8.ofInt 16).toInt32)) - (Int32.ofInt 1)) - (((nI 7) + ((Int8.ofInt 16).toInt32)) - (Int32.ofInt 1)) / ((Int8.ofInt 16).toInt32) * ((Int8.ofInt 16).toInt32) = nI 6 from (by decide)]
  refine am_goX 1 (show am_sh h471 47 = some (2, 0) ∧ narrow (am_fty 2 1) (.int (nI 6)) = .int (nI 6) ∧ fits (am_fty 2 1) (.int (nI 6)) = true ∧ pz_S 2 (some .boolean) am_r113 1 Q 38 [(0, .ref 47), (1, .ref 36)] [] (am_wI h471 47 1 (nI 6)) from ⟨ex_47 f472, rfl, rfl, ?_⟩)
  have f481 : ex_P (am_wI h471 47 1 (nI 6)) := f472
  have f482 : (am_wI h471 47 1 (nI 6)).1 47 1 = nI 6 := (em_we _ _ _ _).trans (rfl)
  have f483 : (am_wI h471 47 1 (nI 6)).1 47 2 = nI n := (em_wn _ _ (by omega)).trans f477
  have f484 : kF 36 h (am_wI h471 47 1 (nI 6)) := kF_w (by omega) f478
  have f485 : scq 36 84 h (am_wI h471 47 1 (nI 6)) := scq_w (by omega) f479
  generalize am_wI h471 47 1 (nI 6) = h480 at f481 f482 f483 f484 f485 ⊢
  refine am_goX 3 (show (Value.ref 47).category = 1 ∧ am_sh h480 47 = some (2, 0) ∧ pz_S 2 (some .boolean) am_r113 1 Q 43 [(0, .ref 47), (1, .ref 36)] [.int (h480.1 47 2), .ref 47] h480 from ⟨rfl, ex_47 f481, ?_⟩)
  rw [show h480.1 47 2 = nI n from f483]
  refine am_goX 3 (show am_sh h480 47 = some (2, 0) ∧ narrow (am_fty 2 2) (.int ((nI n) - (Int32.ofInt 1))) = .int ((nI n) - (Int32.ofInt 1)) ∧ fits (am_fty 2 2) (.int ((nI n) - (Int32.ofInt 1))) = true ∧ pz_S 2 (some .boolean) am_r113 1 Q 48 [(0, .ref 47), (1, .ref 36)] [] (am_wI h480 47 2 ((nI n) - (Int32.ofInt 1))) from ⟨ex_47 f481, rfl, rfl, ?_⟩)
  have f487 : ex_P (am_wI h480 47 2 ((nI n) - (Int32.ofInt 1))) := f481
  have f488 : (am_wI h480 47 2 ((nI n) - (Int32.ofInt 1))).1 47 1 = nI 6 := (em_wn _ _ (by omega)).trans f482
  have f489 : (am_wI h480 47 2 ((nI n) - (Int32.ofInt 1))).1 47 2 = nI (n - 1) := (em_we _ _ _ _).trans ((dn_s (by omega) rfl rfl))
  have f490 : kF 36 h (am_wI h480 47 2 ((nI n) - (Int32.ofInt 1))) := kF_w (by omega) f484
  have f491 : scq 36 84 h (am_wI h480 47 2 ((nI n) - (Int32.ofInt 1))) := scq_w (by omega) f485
  generalize am_wI h480 47 2 ((nI n) - (Int32.ofInt 1)) = h486 at f487 f488 f489 f490 f491 ⊢
  exact am_goX 2 (show (∃ ty, (some .boolean) = some ty ∧ narrow ty (.int (Int32.ofInt 1)) = .int (Int32.ofInt 1)) ∧ h486.2.2.2.2 = 175 ∧ _ from ⟨⟨.boolean, rfl, rfl⟩, ex_175 f487, hQ _ f487 f490.1 f490.2 f488 f489 f491⟩)
theorem q_113_8 (hn0 : 0 < n) (hn : n ≤ 16) (hP : ex_P h) (e1 : h.1 47 1 = nI 8) (e2 : h.1 47 2 = nI n) (hQ : ∀ h1, ex_P h1 → h1.2 = h.2 → (∀ o k, ¬ o = 47 → ¬ (36 ≤ o ∧ o ≤ 40) → h1.1 o k = h.1 o k) → h1.1 47 1 = nI 7 → h1.1 47 2 = nI (n - 1) → scq 36 89 h h1 → Q (some (.int (Int32.ofInt 1))) h1) : am_call am_cod 2 113 [.ref 47, .ref 36] h Q := by
  refine pz_call (n := 113) (nL := 2) (rt := (some .boolean)) (rows := am_r113) (d := 1) (by decide +kernel) (by decide +kernel) rfl (by funext pc; rfl) (ex_175 hP) (by exact Nat.le_of_ble_eq_true rfl) ?_
  have hX := kF_0 (D := 36) (h := h)
  refine am_goX 2 (show am_sh h 47 = some (2, 0) ∧ pz_S 2 (some .boolean) am_r113 1 Q 4 [(0, .ref 47), (1, .ref 36)] [.int (h.1 47 2)] h from ⟨ex_47 hP, ?_⟩)
  rw [show h.1 47 2 = nI n from e2]
  refine am_goX 1 (show (¬ (nI n) = 0 → pz_S 2 (some .boolean) am_r113 1 Q 9 [(0, .ref 47), (1, .ref 36)] [] h) ∧ (¬ ¬ (nI n) = 0 → pz_S 2 (some .boolean) am_r113 1 Q 7 [(0, .ref 47), (1, .ref 36)] [] h) from ⟨fun _ => ?_, fun hz => absurd (nI_n0 hn0 (by omega)) hz⟩)
  refine am_goX 3 (show am_sh h 47 = some (2, 0) ∧ pz_S 2 (some .boolean) am_r113 1 Q 14 [(0, .ref 47), (1, .ref 36)] [am_rf (h.2.2.1 47 0), .ref 36] h from ⟨ex_47 hP, ?_⟩)
  rw [show am_rf (h.2.2.1 47 0) = .ref 48 from congrArg am_rf (ex_r47_0 hP)]
  refine am_goX 2 (show am_sh h 47 = some (2, 0) ∧ pz_S 2 (some .boolean) am_r113 1 Q 18 [(0, .ref 47), (1, .ref 36)] [.int (h.1 47 1), .ref 48, .ref 36] h from ⟨ex_47 hP, ?_⟩)
  rw [show h.1 47 1 = nI 8 from e1]
  refine am_goX 1 (show ∃ jj nn : Nat, (am_sh h 48 = some (16, nn) ∨ am_sh h 48 = some (17, nn)) ∧ jj < nn ∧ nI 8 = nI jj ∧ pz_S 2 (some .boolean) am_r113 1 Q 19 [(0, .ref 47), (1, .ref 36)] [am_rf (h.2.2.1 48 jj), .ref 36] h from ⟨8, 16, Or.inr (ex_48 hP), by decide, rfl, ?_⟩)
  rw [show am_rf (h.2.2.1 48 8) = .ref 89 from congrArg am_rf (ex_r48_8 hP)]
  refine am_goX 1 (show am_rc h 36 6 ∧ 0 ≤ 8 ∧ h.2.2.2.2 + am_al 99 ≤ 175 ∧ am_call am_cod 1 99 [.ref 36, .ref 89] h (fun vv h' => pz_S 2 (some .boolean) am_r113 1 Q 22 [(0, .ref 47), (1, .ref 36)] (vv.toList ++ []) h') from ⟨Or.inl ⟨by decide, ex_36 hP⟩, by decide, ex_lim hP rfl, am_call.up (q_99 stO_36 stO_89 (by decide) hP (fun h492 f493 f494 f495 f496 => ?_)) (by decide)⟩)
  have f497 : h492.1 47 1 = nI 8 := (f495 47 1 (by omega)).trans e1
  have f498 : h492.1 47 2 = nI n := (f495 47 2 (by omega)).trans e2
  have f499 : kF 36 h h492 := kF_c hX f494 f495
  have f500 : scq 36 89 h h492 := scq_b hX (fun a u1 u2 => by omega) f496
  refine am_goX 3 (show am_sh h492 47 = some (2, 0) ∧ pz_S 2 (some .boolean) am_r113 1 Q 27 [(0, .ref 47), (1, .ref 36)] [.int (h492.1 47 1), .ref 47] h492 from ⟨ex_47 f493, ?_⟩)
  rw [show h492.1 47 1 = nI 8 from f497]
  refine am_goX 6 (show ¬ ((Int8.ofInt 16).toInt32) = 0 ∧ pz_S 2 (some .boolean) am_r113 1 Q 35 [(0, .ref 47), (1, .ref 36)] [.int ((((nI 8) + ((Int8.ofInt 16).toInt32)) - (Int32.ofInt 1)) - (((nI 8) + ((Int8.ofInt 16).toInt32)) - (Int32.ofInt 1)) / ((Int8.ofInt 16).toInt32) * ((Int8.ofInt 16).toInt32)), .ref 47] h492 from ⟨by decide, ?_⟩)
  rw [show (((nI 8) + ((Int8.ofInt 16).toInt32)) - (Int32.ofInt 1)) - (((nI 8) + ((Int8.ofInt 16).toInt32)) - (Int32.ofInt 1)) / ((Int8.ofInt 16).toInt32) * ((Int8.ofInt 16).toInt32) = nI 7 from (by decide)]
  refine am_goX 1 (show am_sh h492 47 = some (2, 0) ∧ narrow (am_fty 2 1) (.int (nI 7)) = .int (nI 7) ∧ fits (am_fty 2 1) (.int (nI 7)) = true ∧ pz_S 2 (some .boolean) am_r113 1 Q 38 [(0, .ref 47), (1, .ref 36)] [] (am_wI h492 47 1 (nI 7)) from ⟨ex_47 f493, rfl, rfl, ?_⟩)
  have f502 : ex_P (am_wI h492 47 1 (nI 7)) := f493
  have f503 : (am_wI h492 47 1 (nI 7)).1 47 1 = nI 7 := (em_we _ _ _ _).trans (rfl)
  have f504 : (am_wI h492 47 1 (nI 7)).1 47 2 = nI n := (em_wn _ _ (by omega)).trans f498
  have f505 : kF 36 h (am_wI h492 47 1 (nI 7)) := kF_w (by omega) f499
  have f506 : scq 36 89 h (am_wI h492 47 1 (nI 7)) := scq_w (by omega) f500
  generalize am_wI h492 47 1 (nI 7) = h501 at f502 f503 f504 f505 f506 ⊢
  refine am_goX 3 (show (Value.ref 47).category = 1 ∧ am_sh h501 47 = some (2, 0) ∧ pz_S 2 (some .boolean) am_r113 1 Q 43 [(0, .ref 47), (1, .ref 36)] [.int (h501.1 47 2), .ref 47] h501 from ⟨rfl, ex_47 f502, ?_⟩)
  rw [show h501.1 47 2 = nI n from f504]
  refine am_goX 3 (show am_sh h501 47 = some (2, 0) ∧ narrow (am_fty 2 2) (.int ((nI n) - (Int32.ofInt 1))) = .int ((nI n) - (Int32.ofInt 1)) ∧ fits (am_fty 2 2) (.int ((nI n) - (Int32.ofInt 1))) = true ∧ pz_S 2 (some .boolean) am_r113 1 Q 48 [(0, .ref 47), (1, .ref 36)] [] (am_wI h501 47 2 ((nI n) - (Int32.ofInt 1))) from ⟨ex_47 f502, rfl, rfl, ?_⟩)
  have f508 : ex_P (am_wI h501 47 2 ((nI n) - (Int32.ofInt 1))) := f502
  have f509 : (am_wI h501 47 2 ((nI n) - (Int32.ofInt 1))).1 47 1 = nI 7 := (em_wn _ _ (by omega)).trans f503
  have f510 : (am_wI h501 47 2 ((nI n) - (Int32.ofInt 1))).1 47 2 = nI (n - 1) := (em_we _ _ _ _).trans ((dn_s (by omega) rfl rfl))
  have f511 : kF 36 h (am_wI h501 47 2 ((nI n) - (Int32.ofInt 1))) := kF_w (by omega) f505
  have f512 : scq 36 89 h (am_wI h501 47 2 ((nI n) - (Int32.ofInt 1))) := scq_w (by omega) f506
  generalize am_wI h501 47 2 ((nI n) - (Int32.ofInt 1)) = h507 at f508 f509 f510 f511 f512 ⊢
  exact am_goX 2 (show (∃ ty, (some .boolean) = some ty ∧ narrow ty (.int (Int32.ofInt 1)) = .int (Int32.ofInt 1)) ∧ h507.2.2.2.2 = 175 ∧ _ from ⟨⟨.boolean, rfl, rfl⟩, ex_175 f508, hQ _ f508 f511.1 f511.2 f509 f510 f512⟩)
theorem q_113_9 (hn0 : 0 < n) (hn : n ≤ 16) (hP : ex_P h) (e1 : h.1 47 1 = nI 9) (e2 : h.1 47 2 = nI n) (hQ : ∀ h1, ex_P h1 → h1.2 = h.2 → (∀ o k, ¬ o = 47 → ¬ (36 ≤ o ∧ o ≤ 40) → h1.1 o k = h.1 o k) → h1.1 47 1 = nI 8 → h1.1 47 2 = nI (n - 1) → scq 36 94 h h1 → Q (some (.int (Int32.ofInt 1))) h1) : am_call am_cod 2 113 [.ref 47, .ref 36] h Q := by
  refine pz_call (n := 113) (nL := 2) (rt := (some .boolean)) (rows := am_r113) (d := 1) (by decide +kernel) (by decide +kernel) rfl (by funext pc; rfl) (ex_175 hP) (by exact Nat.le_of_ble_eq_true rfl) ?_
  have hX := kF_0 (D := 36) (h := h)
  refine am_goX 2 (show am_sh h 47 = some (2, 0) ∧ pz_S 2 (some .boolean) am_r113 1 Q 4 [(0, .ref 47), (1, .ref 36)] [.int (h.1 47 2)] h from ⟨ex_47 hP, ?_⟩)
  rw [show h.1 47 2 = nI n from e2]
  refine am_goX 1 (show (¬ (nI n) = 0 → pz_S 2 (some .boolean) am_r113 1 Q 9 [(0, .ref 47), (1, .ref 36)] [] h) ∧ (¬ ¬ (nI n) = 0 → pz_S 2 (some .boolean) am_r113 1 Q 7 [(0, .ref 47), (1, .ref 36)] [] h) from ⟨fun _ => ?_, fun hz => absurd (nI_n0 hn0 (by omega)) hz⟩)
  refine am_goX 3 (show am_sh h 47 = some (2, 0) ∧ pz_S 2 (some .boolean) am_r113 1 Q 14 [(0, .ref 47), (1, .ref 36)] [am_rf (h.2.2.1 47 0), .ref 36] h from ⟨ex_47 hP, ?_⟩)
  rw [show am_rf (h.2.2.1 47 0) = .ref 48 from congrArg am_rf (ex_r47_0 hP)]
  refine am_goX 2 (show am_sh h 47 = some (2, 0) ∧ pz_S 2 (some .boolean) am_r113 1 Q 18 [(0, .ref 47), (1, .ref 36)] [.int (h.1 47 1), .ref 48, .ref 36] h from ⟨ex_47 hP, ?_⟩)
  rw [show h.1 47 1 = nI 9 from e1]
  refine am_goX 1 (show ∃ jj nn : Nat, (am_sh h 48 = some (16, nn) ∨ am_sh h 48 = some (17, nn)) ∧ jj < nn ∧ nI 9 = nI jj ∧ pz_S 2 (some .boolean) am_r113 1 Q 19 [(0, .ref 47), (1, .ref 36)] [am_rf (h.2.2.1 48 jj), .ref 36] h from ⟨9, 16, Or.inr (ex_48 hP), by decide, rfl, ?_⟩)
  rw [show am_rf (h.2.2.1 48 9) = .ref 94 from congrArg am_rf (ex_r48_9 hP)]
  refine am_goX 1 (show am_rc h 36 6 ∧ 0 ≤ 8 ∧ h.2.2.2.2 + am_al 99 ≤ 175 ∧ am_call am_cod 1 99 [.ref 36, .ref 94] h (fun vv h' => pz_S 2 (some .boolean) am_r113 1 Q 22 [(0, .ref 47), (1, .ref 36)] (vv.toList ++ []) h') from ⟨Or.inl ⟨by decide, ex_36 hP⟩, by decide, ex_lim hP rfl, am_call.up (q_99 stO_36 stO_94 (by decide) hP (fun h513 f514 f515 f516 f517 => ?_)) (by decide)⟩)
  have f518 : h513.1 47 1 = nI 9 := (f516 47 1 (by omega)).trans e1
  have f519 : h513.1 47 2 = nI n := (f516 47 2 (by omega)).trans e2
  have f520 : kF 36 h h513 := kF_c hX f515 f516
  have f521 : scq 36 94 h h513 := scq_b hX (fun a u1 u2 => by omega) f517
  refine am_goX 3 (show am_sh h513 47 = some (2, 0) ∧ pz_S 2 (some .boolean) am_r113 1 Q 27 [(0, .ref 47), (1, .ref 36)] [.int (h513.1 47 1), .ref 47] h513 from ⟨ex_47 f514, ?_⟩)
  rw [show h513.1 47 1 = nI 9 from f518]
  refine am_goX 6 (show ¬ ((Int8.ofInt 16).toInt32) = 0 ∧ pz_S 2 (some .boolean) am_r113 1 Q 35 [(0, .ref 47), (1, .ref 36)] [.int ((((nI 9) + ((Int8.ofInt 16).toInt32)) - (Int32.ofInt 1)) - (((nI 9) + ((Int8.ofInt 16).toInt32)) - (Int32.ofInt 1)) / ((Int8.ofInt 16).toInt32) * ((Int8.ofInt 16).toInt32)), .ref 47] h513 from ⟨by decide, ?_⟩)
  rw [show (((nI 9) + ((Int8.ofInt 16).toInt32)) - (Int32.ofInt 1)) - (((nI 9) + ((Int8.ofInt 16).toInt32)) - (Int32.ofInt 1)) / ((Int8.ofInt 16).toInt32) * ((Int8.ofInt 16).toInt32) = nI 8 from (by decide)]
  refine am_goX 1 (show am_sh h513 47 = some (2, 0) ∧ narrow (am_fty 2 1) (.int (nI 8)) = .int (nI 8) ∧ fits (am_fty 2 1) (.int (nI 8)) = true ∧ pz_S 2 (some .boolean) am_r113 1 Q 38 [(0, .ref 47), (1, .ref 36)] [] (am_wI h513 47 1 (nI 8)) from ⟨ex_47 f514, rfl, rfl, ?_⟩)
  have f523 : ex_P (am_wI h513 47 1 (nI 8)) := f514
  have f524 : (am_wI h513 47 1 (nI 8)).1 47 1 = nI 8 := (em_we _ _ _ _).trans (rfl)
  have f525 : (am_wI h513 47 1 (nI 8)).1 47 2 = nI n := (em_wn _ _ (by omega)).trans f519
  have f526 : kF 36 h (am_wI h513 47 1 (nI 8)) := kF_w (by omega) f520
  have f527 : scq 36 94 h (am_wI h513 47 1 (nI 8)) := scq_w (by omega) f521
  generalize am_wI h513 47 1 (nI 8) = h522 at f523 f524 f525 f526 f527 ⊢
  refine am_goX 3 (show (Value.ref 47).category = 1 ∧ am_sh h522 47 = some (2, 0) ∧ pz_S 2 (some .boolean) am_r113 1 Q 43 [(0, .ref 47), (1, .ref 36)] [.int (h522.1 47 2), .ref 47] h522 from ⟨rfl, ex_47 f523, ?_⟩)
  rw [show h522.1 47 2 = nI n from f525]
  refine am_goX 3 (show am_sh h522 47 = some (2, 0) ∧ narrow (am_fty 2 2) (.int ((nI n) - (Int32.ofInt 1))) = .int ((nI n) - (Int32.ofInt 1)) ∧ fits (am_fty 2 2) (.int ((nI n) - (Int32.ofInt 1))) = true ∧ pz_S 2 (some .boolean) am_r113 1 Q 48 [(0, .ref 47), (1, .ref 36)] [] (am_wI h522 47 2 ((nI n) - (Int32.ofInt 1))) from ⟨ex_47 f523, rfl, rfl, ?_⟩)
  have f529 : ex_P (am_wI h522 47 2 ((nI n) - (Int32.ofInt 1))) := f523
  have f530 : (am_wI h522 47 2 ((nI n) - (Int32.ofInt 1))).1 47 1 = nI 8 := (em_wn _ _ (by omega)).trans f524
  have f531 : (am_wI h522 47 2 ((nI n) - (Int32.ofInt 1))).1 47 2 = nI (n - 1) := (em_we _ _ _ _).trans ((dn_s (by omega) rfl rfl))
  have f532 : kF 36 h (am_wI h522 47 2 ((nI n) - (Int32.ofInt 1))) := kF_w (by omega) f526
  have f533 : scq 36 94 h (am_wI h522 47 2 ((nI n) - (Int32.ofInt 1))) := scq_w (by omega) f527
  generalize am_wI h522 47 2 ((nI n) - (Int32.ofInt 1)) = h528 at f529 f530 f531 f532 f533 ⊢
  exact am_goX 2 (show (∃ ty, (some .boolean) = some ty ∧ narrow ty (.int (Int32.ofInt 1)) = .int (Int32.ofInt 1)) ∧ h528.2.2.2.2 = 175 ∧ _ from ⟨⟨.boolean, rfl, rfl⟩, ex_175 f529, hQ _ f529 f532.1 f532.2 f530 f531 f533⟩)
theorem q_113_10 (hn0 : 0 < n) (hn : n ≤ 16) (hP : ex_P h) (e1 : h.1 47 1 = nI 10) (e2 : h.1 47 2 = nI n) (hQ : ∀ h1, ex_P h1 → h1.2 = h.2 → (∀ o k, ¬ o = 47 → ¬ (36 ≤ o ∧ o ≤ 40) → h1.1 o k = h.1 o k) → h1.1 47 1 = nI 9 → h1.1 47 2 = nI (n - 1) → scq 36 99 h h1 → Q (some (.int (Int32.ofInt 1))) h1) : am_call am_cod 2 113 [.ref 47, .ref 36] h Q := by
  refine pz_call (n := 113) (nL := 2) (rt := (some .boolean)) (rows := am_r113) (d := 1) (by decide +kernel) (by decide +kernel) rfl (by funext pc; rfl) (ex_175 hP) (by exact Nat.le_of_ble_eq_true rfl) ?_
  have hX := kF_0 (D := 36) (h := h)
  refine am_goX 2 (show am_sh h 47 = some (2, 0) ∧ pz_S 2 (some .boolean) am_r113 1 Q 4 [(0, .ref 47), (1, .ref 36)] [.int (h.1 47 2)] h from ⟨ex_47 hP, ?_⟩)
  rw [show h.1 47 2 = nI n from e2]
  refine am_goX 1 (show (¬ (nI n) = 0 → pz_S 2 (some .boolean) am_r113 1 Q 9 [(0, .ref 47), (1, .ref 36)] [] h) ∧ (¬ ¬ (nI n) = 0 → pz_S 2 (some .boolean) am_r113 1 Q 7 [(0, .ref 47), (1, .ref 36)] [] h) from ⟨fun _ => ?_, fun hz => absurd (nI_n0 hn0 (by omega)) hz⟩)
  refine am_goX 3 (show am_sh h 47 = some (2, 0) ∧ pz_S 2 (some .boolean) am_r113 1 Q 14 [(0, .ref 47), (1, .ref 36)] [am_rf (h.2.2.1 47 0), .ref 36] h from ⟨ex_47 hP, ?_⟩)
  rw [show am_rf (h.2.2.1 47 0) = .ref 48 from congrArg am_rf (ex_r47_0 hP)]
  refine am_goX 2 (show am_sh h 47 = some (2, 0) ∧ pz_S 2 (some .boolean) am_r113 1 Q 18 [(0, .ref 47), (1, .ref 36)] [.int (h.1 47 1), .ref 48, .ref 36] h from ⟨ex_47 hP, ?_⟩)
  rw [show h.1 47 1 = nI 10 from e1]
  refine am_goX 1 (show ∃ jj nn : Nat, (am_sh h 48 = some (16, nn) ∨ am_sh h 48 = some (17, nn)) ∧ jj < nn ∧ nI 10 = nI jj ∧ pz_S 2 (some .boolean) am_r113 1 Q 19 [(0, .ref 47), (1, .ref 36)] [am_rf (h.2.2.1 48 jj), .ref 36] h from ⟨10, 16, Or.inr (ex_48 hP), by decide, rfl, ?_⟩)
  rw [show am_rf (h.2.2.1 48 10) = .ref 99 from congrArg am_rf (ex_r48_10 hP)]
  refine am_goX 1 (show am_rc h 36 6 ∧ 0 ≤ 8 ∧ h.2.2.2.2 + am_al 99 ≤ 175 ∧ am_call am_cod 1 99 [.ref 36, .ref 99] h (fun vv h' => pz_S 2 (some .boolean) am_r113 1 Q 22 [(0, .ref 47), (1, .ref 36)] (vv.toList ++ []) h') from ⟨Or.inl ⟨by decide, ex_36 hP⟩, by decide, ex_lim hP rfl, am_call.up (q_99 stO_36 stO_99 (by decide) hP (fun h534 f535 f536 f537 f538 => ?_)) (by decide)⟩)
  have f539 : h534.1 47 1 = nI 10 := (f537 47 1 (by omega)).trans e1
  have f540 : h534.1 47 2 = nI n := (f537 47 2 (by omega)).trans e2
  have f541 : kF 36 h h534 := kF_c hX f536 f537
  have f542 : scq 36 99 h h534 := scq_b hX (fun a u1 u2 => by omega) f538
  refine am_goX 3 (show am_sh h534 47 = some (2, 0) ∧ pz_S 2 (some .boolean) am_r113 1 Q 27 [(0, .ref 47), (1, .ref 36)] [.int (h534.1 47 1), .ref 47] h534 from ⟨ex_47 f535, ?_⟩)
  rw [show h534.1 47 1 = nI 10 from f539]
  refine am_goX 6 (show ¬ ((Int8.ofInt 16).toInt32) = 0 ∧ pz_S 2 (some .boolean) am_r113 1 Q 35 [(0, .ref 47), (1, .ref 36)] [.int ((((nI 10) + ((Int8.ofInt 16).toInt32)) - (Int32.ofInt 1)) - (((nI 10) + ((Int8.ofInt 16).toInt32)) - (Int32.ofInt 1)) / ((Int8.ofInt 16).toInt32) * ((Int8.ofInt 16).toInt32)), .ref 47] h534 from ⟨by decide, ?_⟩)
  rw [show (((nI 10) + ((Int8.ofInt 16).toInt32)) - (Int32.ofInt 1)) - (((nI 10) + ((Int8.ofInt 16).toInt32)) - (Int32.ofInt 1)) / ((Int8.ofInt 16).toInt32) * ((Int8.ofInt 16).toInt32) = nI 9 from (by decide)]
  refine am_goX 1 (show am_sh h534 47 = some (2, 0) ∧ narrow (am_fty 2 1) (.int (nI 9)) = .int (nI 9) ∧ fits (am_fty 2 1) (.int (nI 9)) = true ∧ pz_S 2 (some .boolean) am_r113 1 Q 38 [(0, .ref 47), (1, .ref 36)] [] (am_wI h534 47 1 (nI 9)) from ⟨ex_47 f535, rfl, rfl, ?_⟩)
  have f544 : ex_P (am_wI h534 47 1 (nI 9)) := f535
  have f545 : (am_wI h534 47 1 (nI 9)).1 47 1 = nI 9 := (em_we _ _ _ _).trans (rfl)
  have f546 : (am_wI h534 47 1 (nI 9)).1 47 2 = nI n := (em_wn _ _ (by omega)).trans f540
  have f547 : kF 36 h (am_wI h534 47 1 (nI 9)) := kF_w (by omega) f541
  have f548 : scq 36 99 h (am_wI h534 47 1 (nI 9)) := scq_w (by omega) f542
  generalize am_wI h534 47 1 (nI 9) = h543 at f544 f545 f546 f547 f548 ⊢
  refine am_goX 3 (show (Value.ref 47).category = 1 ∧ am_sh h543 47 = some (2, 0) ∧ pz_S 2 (some .boolean) am_r113 1 Q 43 [(0, .ref 47), (1, .ref 36)] [.int (h543.1 47 2), .ref 47] h543 from ⟨rfl, ex_47 f544, ?_⟩)
  rw [show h543.1 47 2 = nI n from f546]
  refine am_goX 3 (show am_sh h543 47 = some (2, 0) ∧ narrow (am_fty 2 2) (.int ((nI n) - (Int32.ofInt 1))) = .int ((nI n) - (Int32.ofInt 1)) ∧ fits (am_fty 2 2) (.int ((nI n) - (Int32.ofInt 1))) = true ∧ pz_S 2 (some .boolean) am_r113 1 Q 48 [(0, .ref 47), (1, .ref 36)] [] (am_wI h543 47 2 ((nI n) - (Int32.ofInt 1))) from ⟨ex_47 f544, rfl, rfl, ?_⟩)
  have f550 : ex_P (am_wI h543 47 2 ((nI n) - (Int32.ofInt 1))) := f544
  have f551 : (am_wI h543 47 2 ((nI n) - (Int32.ofInt 1))).1 47 1 = nI 9 := (em_wn _ _ (by omega)).trans f545
  have f552 : (am_wI h543 47 2 ((nI n) - (Int32.ofInt 1))).1 47 2 = nI (n - 1) := (em_we _ _ _ _).trans ((dn_s (by omega) rfl rfl))
  have f553 : kF 36 h (am_wI h543 47 2 ((nI n) - (Int32.ofInt 1))) := kF_w (by omega) f547
  have f554 : scq 36 99 h (am_wI h543 47 2 ((nI n) - (Int32.ofInt 1))) := scq_w (by omega) f548
  generalize am_wI h543 47 2 ((nI n) - (Int32.ofInt 1)) = h549 at f550 f551 f552 f553 f554 ⊢
  exact am_goX 2 (show (∃ ty, (some .boolean) = some ty ∧ narrow ty (.int (Int32.ofInt 1)) = .int (Int32.ofInt 1)) ∧ h549.2.2.2.2 = 175 ∧ _ from ⟨⟨.boolean, rfl, rfl⟩, ex_175 f550, hQ _ f550 f553.1 f553.2 f551 f552 f554⟩)
theorem q_113_11 (hn0 : 0 < n) (hn : n ≤ 16) (hP : ex_P h) (e1 : h.1 47 1 = nI 11) (e2 : h.1 47 2 = nI n) (hQ : ∀ h1, ex_P h1 → h1.2 = h.2 → (∀ o k, ¬ o = 47 → ¬ (36 ≤ o ∧ o ≤ 40) → h1.1 o k = h.1 o k) → h1.1 47 1 = nI 10 → h1.1 47 2 = nI (n - 1) → scq 36 104 h h1 → Q (some (.int (Int32.ofInt 1))) h1) : am_call am_cod 2 113 [.ref 47, .ref 36] h Q := by
  refine pz_call (n := 113) (nL := 2) (rt := (some .boolean)) (rows := am_r113) (d := 1) (by decide +kernel) (by decide +kernel) rfl (by funext pc; rfl) (ex_175 hP) (by exact Nat.le_of_ble_eq_true rfl) ?_
  have hX := kF_0 (D := 36) (h := h)
  refine am_goX 2 (show am_sh h 47 = some (2, 0) ∧ pz_S 2 (some .boolean) am_r113 1 Q 4 [(0, .ref 47), (1, .ref 36)] [.int (h.1 47 2)] h from ⟨ex_47 hP, ?_⟩)
  rw [show h.1 47 2 = nI n from e2]
  refine am_goX 1 (show (¬ (nI n) = 0 → pz_S 2 (some .boolean) am_r113 1 Q 9 [(0, .ref 47), (1, .ref 36)] [] h) ∧ (¬ ¬ (nI n) = 0 → pz_S 2 (some .boolean) am_r113 1 Q 7 [(0, .ref 47), (1, .ref 36)] [] h) from ⟨fun _ => ?_, fun hz => absurd (nI_n0 hn0 (by omega)) hz⟩)
  refine am_goX 3 (show am_sh h 47 = some (2, 0) ∧ pz_S 2 (some .boolean) am_r113 1 Q 14 [(0, .ref 47), (1, .ref 36)] [am_rf (h.2.2.1 47 0), .ref 36] h from ⟨ex_47 hP, ?_⟩)
  rw [show am_rf (h.2.2.1 47 0) = .ref 48 from congrArg am_rf (ex_r47_0 hP)]
  refine am_goX 2 (show am_sh h 47 = some (2, 0) ∧ pz_S 2 (some .boolean) am_r113 1 Q 18 [(0, .ref 47), (1, .ref 36)] [.int (h.1 47 1), .ref 48, .ref 36] h from ⟨ex_47 hP, ?_⟩)
  rw [show h.1 47 1 = nI 11 from e1]
  refine am_goX 1 (show ∃ jj nn : Nat, (am_sh h 48 = some (16, nn) ∨ am_sh h 48 = some (17, nn)) ∧ jj < nn ∧ nI 11 = nI jj ∧ pz_S 2 (some .boolean) am_r113 1 Q 19 [(0, .ref 47), (1, .ref 36)] [am_rf (h.2.2.1 48 jj), .ref 36] h from ⟨11, 16, Or.inr (ex_48 hP), by decide, rfl, ?_⟩)
  rw [show am_rf (h.2.2.1 48 11) = .ref 104 from congrArg am_rf (ex_r48_11 hP)]
  refine am_goX 1 (show am_rc h 36 6 ∧ 0 ≤ 8 ∧ h.2.2.2.2 + am_al 99 ≤ 175 ∧ am_call am_cod 1 99 [.ref 36, .ref 104] h (fun vv h' => pz_S 2 (some .boolean) am_r113 1 Q 22 [(0, .ref 47), (1, .ref 36)] (vv.toList ++ []) h') from ⟨Or.inl ⟨by decide, ex_36 hP⟩, by decide, ex_lim hP rfl, am_call.up (q_99 stO_36 stO_104 (by decide) hP (fun h555 f556 f557 f558 f559 => ?_)) (by decide)⟩)
  have f560 : h555.1 47 1 = nI 11 := (f558 47 1 (by omega)).trans e1
  have f561 : h555.1 47 2 = nI n := (f558 47 2 (by omega)).trans e2
  have f562 : kF 36 h h555 := kF_c hX f557 f558
  have f563 : scq 36 104 h h555 := scq_b hX (fun a u1 u2 => by omega) f559
  refine am_goX 3 (show am_sh h555 47 = some (2, 0) ∧ pz_S 2 (some .boolean) am_r113 1 Q 27 [(0, .ref 47), (1, .ref 36)] [.int (h555.1 47 1), .ref 47] h555 from ⟨ex_47 f556, ?_⟩)
  rw [show h555.1 47 1 = nI 11 from f560]
  refine am_goX 6 (show ¬ ((Int8.ofInt 16).toInt32) = 0 ∧ pz_S 2 (some .boolean) am_r113 1 Q 35 [(0, .ref 47), (1, .ref 36)] [.int ((((nI 11) + ((Int8.ofInt 16).toInt32)) - (Int32.ofInt 1)) - (((nI 11) + ((Int8.ofInt 16).toInt32)) - (Int32.ofInt 1)) / ((Int8.ofInt 16).toInt32) * ((Int8.ofInt 16).toInt32)), .ref 47] h555 from ⟨by decide, ?_⟩)
  rw [show (((nI 11) + ((Int8.ofInt 16).toInt32)) - (Int32.ofInt 1)) - (((nI 11) + ((Int8.ofInt 16).toInt32)) - (Int32.ofInt 1)) / ((Int8.ofInt 16).toInt32) * ((Int8.ofInt 16).toInt32) = nI 10 from (by decide)]
  refine am_goX 1 (show am_sh h555 47 = some (2, 0) ∧ narrow (am_fty 2 1) (.int (nI 10)) = .int (nI 10) ∧ fits (am_fty 2 1) (.int (nI 10)) = true ∧ pz_S 2 (some .boolean) am_r113 1 Q 38 [(0, .ref 47), (1, .ref 36)] [] (am_wI h555 47 1 (nI 10)) from ⟨ex_47 f556, rfl, rfl, ?_⟩)
  have f565 : ex_P (am_wI h555 47 1 (nI 10)) := f556
  have f566 : (am_wI h555 47 1 (nI 10)).1 47 1 = nI 10 := (em_we _ _ _ _).trans (rfl)
  have f567 : (am_wI h555 47 1 (nI 10)).1 47 2 = nI n := (em_wn _ _ (by omega)).trans f561
  have f568 : kF 36 h (am_wI h555 47 1 (nI 10)) := kF_w (by omega) f562
  have f569 : scq 36 104 h (am_wI h555 47 1 (nI 10)) := scq_w (by omega) f563
  generalize am_wI h555 47 1 (nI 10) = h564 at f565 f566 f567 f568 f569 ⊢
  refine am_goX 3 (show (Value.ref 47).category = 1 ∧ am_sh h564 47 = some (2, 0) ∧ pz_S 2 (some .boolean) am_r113 1 Q 43 [(0, .ref 47), (1, .ref 36)] [.int (h564.1 47 2), .ref 47] h564 from ⟨rfl, ex_47 f565, ?_⟩)
  rw [show h564.1 47 2 = nI n from f567]
  refine am_goX 3 (show am_sh h564 47 = some (2, 0) ∧ narrow (am_fty 2 2) (.int ((nI n) - (Int32.ofInt 1))) = .int ((nI n) - (Int32.ofInt 1)) ∧ fits (am_fty 2 2) (.int ((nI n) - (Int32.ofInt 1))) = true ∧ pz_S 2 (some .boolean) am_r113 1 Q 48 [(0, .ref 47), (1, .ref 36)] [] (am_wI h564 47 2 ((nI n) - (Int32.ofInt 1))) from ⟨ex_47 f565, rfl, rfl, ?_⟩)
  have f571 : ex_P (am_wI h564 47 2 ((nI n) - (Int32.ofInt 1))) := f565
  have f572 : (am_wI h564 47 2 ((nI n) - (Int32.ofInt 1))).1 47 1 = nI 10 := (em_wn _ _ (by omega)).trans f566
  have f573 : (am_wI h564 47 2 ((nI n) - (Int32.ofInt 1))).1 47 2 = nI (n - 1) := (em_we _ _ _ _).trans ((dn_s (by omega) rfl rfl))
  have f574 : kF 36 h (am_wI h564 47 2 ((nI n) - (Int32.ofInt 1))) := kF_w (by omega) f568
  have f575 : scq 36 104 h (am_wI h564 47 2 ((nI n) - (Int32.ofInt 1))) := scq_w (by omega) f569
  generalize am_wI h564 47 2 ((nI n) - (Int32.ofInt 1)) = h570 at f571 f572 f573 f574 f575 ⊢
  exact am_goX 2 (show (∃ ty, (some .boolean) = some ty ∧ narrow ty (.int (Int32.ofInt 1)) = .int (Int32.ofInt 1)) ∧ h570.2.2.2.2 = 175 ∧ _ from ⟨⟨.boolean, rfl, rfl⟩, ex_175 f571, hQ _ f571 f574.1 f574.2 f572 f573 f575⟩)
theorem q_113_12 (hn0 : 0 < n) (hn : n ≤ 16) (hP : ex_P h) (e1 : h.1 47 1 = nI 12) (e2 : h.1 47 2 = nI n) (hQ : ∀ h1, ex_P h1 → h1.2 = h.2 → (∀ o k, ¬ o = 47 → ¬ (36 ≤ o ∧ o ≤ 40) → h1.1 o k = h.1 o k) → h1.1 47 1 = nI 11 → h1.1 47 2 = nI (n - 1) → scq 36 109 h h1 → Q (some (.int (Int32.ofInt 1))) h1) : am_call am_cod 2 113 [.ref 47, .ref 36] h Q := by
  refine pz_call (n := 113) (nL := 2) (rt := (some .boolean)) (rows := am_r113) (d := 1) (by decide +kernel) (by decide +kernel) rfl (by funext pc; rfl) (ex_175 hP) (by exact Nat.le_of_ble_eq_true rfl) ?_
  have hX := kF_0 (D := 36) (h := h)
  refine am_goX 2 (show am_sh h 47 = some (2, 0) ∧ pz_S 2 (some .boolean) am_r113 1 Q 4 [(0, .ref 47), (1, .ref 36)] [.int (h.1 47 2)] h from ⟨ex_47 hP, ?_⟩)
  rw [show h.1 47 2 = nI n from e2]
  refine am_goX 1 (show (¬ (nI n) = 0 → pz_S 2 (some .boolean) am_r113 1 Q 9 [(0, .ref 47), (1, .ref 36)] [] h) ∧ (¬ ¬ (nI n) = 0 → pz_S 2 (some .boolean) am_r113 1 Q 7 [(0, .ref 47), (1, .ref 36)] [] h) from ⟨fun _ => ?_, fun hz => absurd (nI_n0 hn0 (by omega)) hz⟩)
  refine am_goX 3 (show am_sh h 47 = some (2, 0) ∧ pz_S 2 (some .boolean) am_r113 1 Q 14 [(0, .ref 47), (1, .ref 36)] [am_rf (h.2.2.1 47 0), .ref 36] h from ⟨ex_47 hP, ?_⟩)
  rw [show am_rf (h.2.2.1 47 0) = .ref 48 from congrArg am_rf (ex_r47_0 hP)]
  refine am_goX 2 (show am_sh h 47 = some (2, 0) ∧ pz_S 2 (some .boolean) am_r113 1 Q 18 [(0, .ref 47), (1, .ref 36)] [.int (h.1 47 1), .ref 48, .ref 36] h from ⟨ex_47 hP, ?_⟩)
  rw [show h.1 47 1 = nI 12 from e1]
  refine am_goX 1 (show ∃ jj nn : Nat, (am_sh h 48 = some (16, nn) ∨ am_sh h 48 = some (17, nn)) ∧ jj < nn ∧ nI 12 = nI jj ∧ pz_S 2 (some .boolean) am_r113 1 Q 19 [(0, .ref 47), (1, .ref 36)] [am_rf (h.2.2.1 48 jj), .ref 36] h from ⟨12, 16, Or.inr (ex_48 hP), by decide, rfl, ?_⟩)
  rw [show am_rf (h.2.2.1 48 12) = .ref 109 from congrArg am_rf (ex_r48_12 hP)]
  refine am_goX 1 (show am_rc h 36 6 ∧ 0 ≤ 8 ∧ h.2.2.2.2 + am_al 99 ≤ 175 ∧ am_call am_cod 1 99 [.ref 36, .ref 109] h (fun vv h' => pz_S 2 (some .boolean) am_r113 1 Q 22 [(0, .ref 47), (1, .ref 36)] (vv.toList ++ []) h') from ⟨Or.inl ⟨by decide, ex_36 hP⟩, by decide, ex_lim hP rfl, am_call.up (q_99 stO_36 stO_109 (by decide) hP (fun h576 f577 f578 f579 f580 => ?_)) (by decide)⟩)
  have f581 : h576.1 47 1 = nI 12 := (f579 47 1 (by omega)).trans e1
  have f582 : h576.1 47 2 = nI n := (f579 47 2 (by omega)).trans e2
  have f583 : kF 36 h h576 := kF_c hX f578 f579
  have f584 : scq 36 109 h h576 := scq_b hX (fun a u1 u2 => by omega) f580
  refine am_goX 3 (show am_sh h576 47 = some (2, 0) ∧ pz_S 2 (some .boolean) am_r113 1 Q 27 [(0, .ref 47), (1, .ref 36)] [.int (h576.1 47 1), .ref 47] h576 from ⟨ex_47 f577, ?_⟩)
  rw [show h576.1 47 1 = nI 12 from f581]
  refine am_goX 6 (show ¬ ((Int8.ofInt 16).toInt32) = 0 ∧ pz_S 2 (some .boolean) am_r113 1 Q 35 [(0, .ref 47), (1, .ref 36)] [.int ((((nI 12) + ((Int8.ofInt 16).toInt32)) - (Int32.ofInt 1)) - (((nI 12) + ((Int8.ofInt 16).toInt32)) - (Int32.ofInt 1)) / ((Int8.ofInt 16).toInt32) * ((Int8.ofInt 16).toInt32)), .ref 47] h576 from ⟨by decide, ?_⟩)
  rw [show (((nI 12) + ((Int8.ofInt 16).toInt32)) - (Int32.ofInt 1)) - (((nI 12) + ((Int8.ofInt 16).toInt32)) - (Int32.ofInt 1)) / ((Int8.ofInt 16).toInt32) * ((Int8.ofInt 16).toInt32) = nI 11 from (by decide)]
  refine am_goX 1 (show am_sh h576 47 = some (2, 0) ∧ narrow (am_fty 2 1) (.int (nI 11)) = .int (nI 11) ∧ fits (am_fty 2 1) (.int (nI 11)) = true ∧ pz_S 2 (some .boolean) am_r113 1 Q 38 [(0, .ref 47), (1, .ref 36)] [] (am_wI h576 47 1 (nI 11)) from ⟨ex_47 f577, rfl, rfl, ?_⟩)
  have f586 : ex_P (am_wI h576 47 1 (nI 11)) := f577
  have f587 : (am_wI h576 47 1 (nI 11)).1 47 1 = nI 11 := (em_we _ _ _ _).trans (rfl)
  have f588 : (am_wI h576 47 1 (nI 11)).1 47 2 = nI n := (em_wn _ _ (by omega)).trans f582
  have f589 : kF 36 h (am_wI h576 47 1 (nI 11)) := kF_w (by omega) f583
  have f590 : scq 36 109 h (am_wI h576 47 1 (nI 11)) := scq_w (by omega) f584
  generalize am_wI h576 47 1 (nI 11) = h585 at f586 f587 f588 f589 f590 ⊢
  refine am_goX 3 (show (Value.ref 47).category = 1 ∧ am_sh h585 47 = some (2, 0) ∧ pz_S 2 (some .boolean) am_r113 1 Q 43 [(0, .ref 47), (1, .ref 36)] [.int (h585.1 47 2), .ref 47] h585 from ⟨rfl, ex_47 f586, ?_⟩)
  rw [show h585.1 47 2 = nI n from f588]
  refine am_goX 3 (show am_sh h585 47 = some (2, 0) ∧ narrow (am_fty 2 2) (.int ((nI n) - (Int32.ofInt 1))) = .int ((nI n) - (Int32.ofInt 1)) ∧ fits (am_fty 2 2) (.int ((nI n) - (Int32.ofInt 1))) = true ∧ pz_S 2 (some .boolean) am_r113 1 Q 48 [(0, .ref 47), (1, .ref 36)] [] (am_wI h585 47 2 ((nI n) - (Int32.ofInt 1))) from ⟨ex_47 f586, rfl, rfl, ?_⟩)
  have f592 : ex_P (am_wI h585 47 2 ((nI n) - (Int32.ofInt 1))) := f586
  have f593 : (am_wI h585 47 2 ((nI n) - (Int32.ofInt 1))).1 47 1 = nI 11 := (em_wn _ _ (by omega)).trans f587
  have f594 : (am_wI h585 47 2 ((nI n) - (Int32.ofInt 1))).1 47 2 = nI (n - 1) := (em_we _ _ _ _).trans ((dn_s (by omega) rfl rfl))
  have f595 : kF 36 h (am_wI h585 47 2 ((nI n) - (Int32.ofInt 1))) := kF_w (by omega) f589
  have f596 : scq 36 109 h (am_wI h585 47 2 ((nI n) - (Int32.ofInt 1))) := scq_w (by omega) f590
  generalize am_wI h585 47 2 ((nI n) - (Int32.ofInt 1)) = h591 at f592 f593 f594 f595 f596 ⊢
  exact am_goX 2 (show (∃ ty, (some .boolean) = some ty ∧ narrow ty (.int (Int32.ofInt 1)) = .int (Int32.ofInt 1)) ∧ h591.2.2.2.2 = 175 ∧ _ from ⟨⟨.boolean, rfl, rfl⟩, ex_175 f592, hQ _ f592 f595.1 f595.2 f593 f594 f596⟩)
theorem q_113_13 (hn0 : 0 < n) (hn : n ≤ 16) (hP : ex_P h) (e1 : h.1 47 1 = nI 13) (e2 : h.1 47 2 = nI n) (hQ : ∀ h1, ex_P h1 → h1.2 = h.2 → (∀ o k, ¬ o = 47 → ¬ (36 ≤ o ∧ o ≤ 40) → h1.1 o k = h.1 o k) → h1.1 47 1 = nI 12 → h1.1 47 2 = nI (n - 1) → scq 36 114 h h1 → Q (some (.int (Int32.ofInt 1))) h1) : am_call am_cod 2 113 [.ref 47, .ref 36] h Q := by
  refine pz_call (n := 113) (nL := 2) (rt := (some .boolean)) (rows := am_r113) (d := 1) (by decide +kernel) (by decide +kernel) rfl (by funext pc; rfl) (ex_175 hP) (by exact Nat.le_of_ble_eq_true rfl) ?_
  have hX := kF_0 (D := 36) (h := h)
  refine am_goX 2 (show am_sh h 47 = some (2, 0) ∧ pz_S 2 (some .boolean) am_r113 1 Q 4 [(0, .ref 47), (1, .ref 36)] [.int (h.1 47 2)] h from ⟨ex_47 hP, ?_⟩)
  rw [show h.1 47 2 = nI n from e2]
  refine am_goX 1 (show (¬ (nI n) = 0 → pz_S 2 (some .boolean) am_r113 1 Q 9 [(0, .ref 47), (1, .ref 36)] [] h) ∧ (¬ ¬ (nI n) = 0 → pz_S 2 (some .boolean) am_r113 1 Q 7 [(0, .ref 47), (1, .ref 36)] [] h) from ⟨fun _ => ?_, fun hz => absurd (nI_n0 hn0 (by omega)) hz⟩)
  refine am_goX 3 (show am_sh h 47 = some (2, 0) ∧ pz_S 2 (some .boolean) am_r113 1 Q 14 [(0, .ref 47), (1, .ref 36)] [am_rf (h.2.2.1 47 0), .ref 36] h from ⟨ex_47 hP, ?_⟩)
  rw [show am_rf (h.2.2.1 47 0) = .ref 48 from congrArg am_rf (ex_r47_0 hP)]
  refine am_goX 2 (show am_sh h 47 = some (2, 0) ∧ pz_S 2 (some .boolean) am_r113 1 Q 18 [(0, .ref 47), (1, .ref 36)] [.int (h.1 47 1), .ref 48, .ref 36] h from ⟨ex_47 hP, ?_⟩)
  rw [show h.1 47 1 = nI 13 from e1]
  refine am_goX 1 (show ∃ jj nn : Nat, (am_sh h 48 = some (16, nn) ∨ am_sh h 48 = some (17, nn)) ∧ jj < nn ∧ nI 13 = nI jj ∧ pz_S 2 (some .boolean) am_r113 1 Q 19 [(0, .ref 47), (1, .ref 36)] [am_rf (h.2.2.1 48 jj), .ref 36] h from ⟨13, 16, Or.inr (ex_48 hP), by decide, rfl, ?_⟩)
  rw [show am_rf (h.2.2.1 48 13) = .ref 114 from congrArg am_rf (ex_r48_13 hP)]
  refine am_goX 1 (show am_rc h 36 6 ∧ 0 ≤ 8 ∧ h.2.2.2.2 + am_al 99 ≤ 175 ∧ am_call am_cod 1 99 [.ref 36, .ref 114] h (fun vv h' => pz_S 2 (some .boolean) am_r113 1 Q 22 [(0, .ref 47), (1, .ref 36)] (vv.toList ++ []) h') from ⟨Or.inl ⟨by decide, ex_36 hP⟩, by decide, ex_lim hP rfl, am_call.up (q_99 stO_36 stO_114 (by decide) hP (fun h597 f598 f599 f600 f601 => ?_)) (by decide)⟩)
  have f602 : h597.1 47 1 = nI 13 := (f600 47 1 (by omega)).trans e1
  have f603 : h597.1 47 2 = nI n := (f600 47 2 (by omega)).trans e2
  have f604 : kF 36 h h597 := kF_c hX f599 f600
  have f605 : scq 36 114 h h597 := scq_b hX (fun a u1 u2 => by omega) f601
  refine am_goX 3 (show am_sh h597 47 = some (2, 0) ∧ pz_S 2 (some .boolean) am_r113 1 Q 27 [(0, .ref 47), (1, .ref 36)] [.int (h597.1 47 1), .ref 47] h597 from ⟨ex_47 f598, ?_⟩)
  rw [show h597.1 47 1 = nI 13 from f602]
  refine am_goX 6 (show ¬ ((Int8.ofInt 16).toInt32) = 0 ∧ pz_S 2 (some .boolean) am_r113 1 Q 35 [(0, .ref 47), (1, .ref 36)] [.int ((((nI 13) + ((Int8.ofInt 16).toInt32)) - (Int32.ofInt 1)) - (((nI 13) + ((Int8.ofInt 16).toInt32)) - (Int32.ofInt 1)) / ((Int8.ofInt 16).toInt32) * ((Int8.ofInt 16).toInt32)), .ref 47] h597 from ⟨by decide, ?_⟩)
  rw [show (((nI 13) + ((Int8.ofInt 16).toInt32)) - (Int32.ofInt 1)) - (((nI 13) + ((Int8.ofInt 16).toInt32)) - (Int32.ofInt 1)) / ((Int8.ofInt 16).toInt32) * ((Int8.ofInt 16).toInt32) = nI 12 from (by decide)]
  refine am_goX 1 (show am_sh h597 47 = some (2, 0) ∧ narrow (am_fty 2 1) (.int (nI 12)) = .int (nI 12) ∧ fits (am_fty 2 1) (.int (nI 12)) = true ∧ pz_S 2 (some .boolean) am_r113 1 Q 38 [(0, .ref 47), (1, .ref 36)] [] (am_wI h597 47 1 (nI 12)) from ⟨ex_47 f598, rfl, rfl, ?_⟩)
  have f607 : ex_P (am_wI h597 47 1 (nI 12)) := f598
  have f608 : (am_wI h597 47 1 (nI 12)).1 47 1 = nI 12 := (em_we _ _ _ _).trans (rfl)
  have f609 : (am_wI h597 47 1 (nI 12)).1 47 2 = nI n := (em_wn _ _ (by omega)).trans f603
  have f610 : kF 36 h (am_wI h597 47 1 (nI 12)) := kF_w (by omega) f604
  have f611 : scq 36 114 h (am_wI h597 47 1 (nI 12)) := scq_w (by omega) f605
  generalize am_wI h597 47 1 (nI 12) = h606 at f607 f608 f609 f610 f611 ⊢
  refine am_goX 3 (show (Value.ref 47).category = 1 ∧ am_sh h606 47 = some (2, 0) ∧ pz_S 2 (some .boolean) am_r113 1 Q 43 [(0, .ref 47), (1, .ref 36)] [.int (h606.1 47 2), .ref 47] h606 from ⟨rfl, ex_47 f607, ?_⟩)
  rw [show h606.1 47 2 = nI n from f609]
  refine am_goX 3 (show am_sh h606 47 = some (2, 0) ∧ narrow (am_fty 2 2) (.int ((nI n) - (Int32.ofInt 1))) = .int ((nI n) - (Int32.ofInt 1)) ∧ fits (am_fty 2 2) (.int ((nI n) - (Int32.ofInt 1))) = true ∧ pz_S 2 (some .boolean) am_r113 1 Q 48 [(0, .ref 47), (1, .ref 36)] [] (am_wI h606 47 2 ((nI n) - (Int32.ofInt 1))) from ⟨ex_47 f607, rfl, rfl, ?_⟩)
  have f613 : ex_P (am_wI h606 47 2 ((nI n) - (Int32.ofInt 1))) := f607
  have f614 : (am_wI h606 47 2 ((nI n) - (Int32.ofInt 1))).1 47 1 = nI 12 := (em_wn _ _ (by omega)).trans f608
  have f615 : (am_wI h606 47 2 ((nI n) - (Int32.ofInt 1))).1 47 2 = nI (n - 1) := (em_we _ _ _ _).trans ((dn_s (by omega) rfl rfl))
  have f616 : kF 36 h (am_wI h606 47 2 ((nI n) - (Int32.ofInt 1))) := kF_w (by omega) f610
  have f617 : scq 36 114 h (am_wI h606 47 2 ((nI n) - (Int32.ofInt 1))) := scq_w (by omega) f611
  generalize am_wI h606 47 2 ((nI n) - (Int32.ofInt 1)) = h612 at f613 f614 f615 f616 f617 ⊢
  exact am_goX 2 (show (∃ ty, (some .boolean) = some ty ∧ narrow ty (.int (Int32.ofInt 1)) = .int (Int32.ofInt 1)) ∧ h612.2.2.2.2 = 175 ∧ _ from ⟨⟨.boolean, rfl, rfl⟩, ex_175 f613, hQ _ f613 f616.1 f616.2 f614 f615 f617⟩)
theorem q_113_14 (hn0 : 0 < n) (hn : n ≤ 16) (hP : ex_P h) (e1 : h.1 47 1 = nI 14) (e2 : h.1 47 2 = nI n) (hQ : ∀ h1, ex_P h1 → h1.2 = h.2 → (∀ o k, ¬ o = 47 → ¬ (36 ≤ o ∧ o ≤ 40) → h1.1 o k = h.1 o k) → h1.1 47 1 = nI 13 → h1.1 47 2 = nI (n - 1) → scq 36 119 h h1 → Q (some (.int (Int32.ofInt 1))) h1) : am_call am_cod 2 113 [.ref 47, .ref 36] h Q := by
  refine pz_call (n := 113) (nL := 2) (rt := (some .boolean)) (rows := am_r113) (d := 1) (by decide +kernel) (by decide +kernel) rfl (by funext pc; rfl) (ex_175 hP) (by exact Nat.le_of_ble_eq_true rfl) ?_
  have hX := kF_0 (D := 36) (h := h)
  refine am_goX 2 (show am_sh h 47 = some (2, 0) ∧ pz_S 2 (some .boolean) am_r113 1 Q 4 [(0, .ref 47), (1, .ref 36)] [.int (h.1 47 2)] h from ⟨ex_47 hP, ?_⟩)
  rw [show h.1 47 2 = nI n from e2]
  refine am_goX 1 (show (¬ (nI n) = 0 → pz_S 2 (some .boolean) am_r113 1 Q 9 [(0, .ref 47), (1, .ref 36)] [] h) ∧ (¬ ¬ (nI n) = 0 → pz_S 2 (some .boolean) am_r113 1 Q 7 [(0, .ref 47), (1, .ref 36)] [] h) from ⟨fun _ => ?_, fun hz => absurd (nI_n0 hn0 (by omega)) hz⟩)
  refine am_goX 3 (show am_sh h 47 = some (2, 0) ∧ pz_S 2 (some .boolean) am_r113 1 Q 14 [(0, .ref 47), (1, .ref 36)] [am_rf (h.2.2.1 47 0), .ref 36] h from ⟨ex_47 hP, ?_⟩)
  rw [show am_rf (h.2.2.1 47 0) = .ref 48 from congrArg am_rf (ex_r47_0 hP)]
  refine am_goX 2 (show am_sh h 47 = some (2, 0) ∧ pz_S 2 (some .boolean) am_r113 1 Q 18 [(0, .ref 47), (1, .ref 36)] [.int (h.1 47 1), .ref 48, .ref 36] h from ⟨ex_47 hP, ?_⟩)
  rw [show h.1 47 1 = nI 14 from e1]
  refine am_goX 1 (show ∃ jj nn : Nat, (am_sh h 48 = some (16, nn) ∨ am_sh h 48 = some (17, nn)) ∧ jj < nn ∧ nI 14 = nI jj ∧ pz_S 2 (some .boolean) am_r113 1 Q 19 [(0, .ref 47), (1, .ref 36)] [am_rf (h.2.2.1 48 jj), .ref 36] h from ⟨14, 16, Or.inr (ex_48 hP), by decide, rfl, ?_⟩)
  rw [show am_rf (h.2.2.1 48 14) = .ref 119 from congrArg am_rf (ex_r48_14 hP)]
  refine am_goX 1 (show am_rc h 36 6 ∧ 0 ≤ 8 ∧ h.2.2.2.2 + am_al 99 ≤ 175 ∧ am_call am_cod 1 99 [.ref 36, .ref 119] h (fun vv h' => pz_S 2 (some .boolean) am_r113 1 Q 22 [(0, .ref 47), (1, .ref 36)] (vv.toList ++ []) h') from ⟨Or.inl ⟨by decide, ex_36 hP⟩, by decide, ex_lim hP rfl, am_call.up (q_99 stO_36 stO_119 (by decide) hP (fun h618 f619 f620 f621 f622 => ?_)) (by decide)⟩)
  have f623 : h618.1 47 1 = nI 14 := (f621 47 1 (by omega)).trans e1
  have f624 : h618.1 47 2 = nI n := (f621 47 2 (by omega)).trans e2
  have f625 : kF 36 h h618 := kF_c hX f620 f621
  have f626 : scq 36 119 h h618 := scq_b hX (fun a u1 u2 => by omega) f622
  refine am_goX 3 (show am_sh h618 47 = some (2, 0) ∧ pz_S 2 (some .boolean) am_r113 1 Q 27 [(0, .ref 47), (1, .ref 36)] [.int (h618.1 47 1), .ref 47] h618 from ⟨ex_47 f619, ?_⟩)
  rw [show h618.1 47 1 = nI 14 from f623]
  refine am_goX 6 (show ¬ ((Int8.ofInt 16).toInt32) = 0 ∧ pz_S 2 (some .boolean) am_r113 1 Q 35 [(0, .ref 47), (1, .ref 36)] [.int ((((nI 14) + ((Int8.ofInt 16).toInt32)) - (Int32.ofInt 1)) - (((nI 14) + ((Int8.ofInt 16).toInt32)) - (Int32.ofInt 1)) / ((Int8.ofInt 16).toInt32) * ((Int8.ofInt 16).toInt32)), .ref 47] h618 from ⟨by decide, ?_⟩)
  rw [show (((nI 14) + ((Int8.ofInt 16).toInt32)) - (Int32.ofInt 1)) - (((nI 14) + ((Int8.ofInt 16).toInt32)) - (Int32.ofInt 1)) / ((Int8.ofInt 16).toInt32) * ((Int8.ofInt 16).toInt32) = nI 13 from (by decide)]
  refine am_goX 1 (show am_sh h618 47 = some (2, 0) ∧ narrow (am_fty 2 1) (.int (nI 13)) = .int (nI 13) ∧ fits (am_fty 2 1) (.int (nI 13)) = true ∧ pz_S 2 (some .boolean) am_r113 1 Q 38 [(0, .ref 47), (1, .ref 36)] [] (am_wI h618 47 1 (nI 13)) from ⟨ex_47 f619, rfl, rfl, ?_⟩)
  have f628 : ex_P (am_wI h618 47 1 (nI 13)) := f619
  have f629 : (am_wI h618 47 1 (nI 13)).1 47 1 = nI 13 := (em_we _ _ _ _).trans (rfl)
  have f630 : (am_wI h618 47 1 (nI 13)).1 47 2 = nI n := (em_wn _ _ (by omega)).trans f624
  have f631 : kF 36 h (am_wI h618 47 1 (nI 13)) := kF_w (by omega) f625
  have f632 : scq 36 119 h (am_wI h618 47 1 (nI 13)) := scq_w (by omega) f626
  generalize am_wI h618 47 1 (nI 13) = h627 at f628 f629 f630 f631 f632 ⊢
  refine am_goX 3 (show (Value.ref 47).category = 1 ∧ am_sh h627 47 = some (2, 0) ∧ pz_S 2 (some .boolean) am_r113 1 Q 43 [(0, .ref 47), (1, .ref 36)] [.int (h627.1 47 2), .ref 47] h627 from ⟨rfl, ex_47 f628, ?_⟩)
  rw [show h627.1 47 2 = nI n from f630]
  refine am_goX 3 (show am_sh h627 47 = some (2, 0) ∧ narrow (am_fty 2 2) (.int ((nI n) - (Int32.ofInt 1))) = .int ((nI n) - (Int32.ofInt 1)) ∧ fits (am_fty 2 2) (.int ((nI n) - (Int32.ofInt 1))) = true ∧ pz_S 2 (some .boolean) am_r113 1 Q 48 [(0, .ref 47), (1, .ref 36)] [] (am_wI h627 47 2 ((nI n) - (Int32.ofInt 1))) from ⟨ex_47 f628, rfl, rfl, ?_⟩)
  have f634 : ex_P (am_wI h627 47 2 ((nI n) - (Int32.ofInt 1))) := f628
  have f635 : (am_wI h627 47 2 ((nI n) - (Int32.ofInt 1))).1 47 1 = nI 13 := (em_wn _ _ (by omega)).trans f629
  have f636 : (am_wI h627 47 2 ((nI n) - (Int32.ofInt 1))).1 47 2 = nI (n - 1) := (em_we _ _ _ _).trans ((dn_s (by omega) rfl rfl))
  have f637 : kF 36 h (am_wI h627 47 2 ((nI n) - (Int32.ofInt 1))) := kF_w (by omega) f631
  have f638 : scq 36 119 h (am_wI h627 47 2 ((nI n) - (Int32.ofInt 1))) := scq_w (by omega) f632
  generalize am_wI h627 47 2 ((nI n) - (Int32.ofInt 1)) = h633 at f634 f635 f636 f637 f638 ⊢
  exact am_goX 2 (show (∃ ty, (some .boolean) = some ty ∧ narrow ty (.int (Int32.ofInt 1)) = .int (Int32.ofInt 1)) ∧ h633.2.2.2.2 = 175 ∧ _ from ⟨⟨.boolean, rfl, rfl⟩, ex_175 f634, hQ _ f634 f637.1 f637.2 f635 f636 f638⟩)
theorem q_113_15 (hn0 : 0 < n) (hn : n ≤ 16) (hP : ex_P h) (e1 : h.1 47 1 = nI 15) (e2 : h.1 47 2 = nI n) (hQ : ∀ h1, ex_P h1 → h1.2 = h.2 → (∀ o k, ¬ o = 47 → ¬ (36 ≤ o ∧ o ≤ 40) → h1.1 o k = h.1 o k) → h1.1 47 1 = nI 14 → h1.1 47 2 = nI (n - 1) → scq 36 124 h h1 → Q (some (.int (Int32.ofInt 1))) h1) : am_call am_cod 2 113 [.ref 47, .ref 36] h Q := by
  refine pz_call (n := 113) (nL := 2) (rt := (some .boolean)) (rows := am_r113) (d := 1) (by decide +kernel) (by decide +kernel) rfl (by funext pc; rfl) (ex_175 hP) (by exact Nat.le_of_ble_eq_true rfl) ?_
  have hX := kF_0 (D := 36) (h := h)
  refine am_goX 2 (show am_sh h 47 = some (2, 0) ∧ pz_S 2 (some .boolean) am_r113 1 Q 4 [(0, .ref 47), (1, .ref 36)] [.int (h.1 47 2)] h from ⟨ex_47 hP, ?_⟩)
  rw [show h.1 47 2 = nI n from e2]
  refine am_goX 1 (show (¬ (nI n) = 0 → pz_S 2 (some .boolean) am_r113 1 Q 9 [(0, .ref 47), (1, .ref 36)] [] h) ∧ (¬ ¬ (nI n) = 0 → pz_S 2 (some .boolean) am_r113 1 Q 7 [(0, .ref 47), (1, .ref 36)] [] h) from ⟨fun _ => ?_, fun hz => absurd (nI_n0 hn0 (by omega)) hz⟩)
  refine am_goX 3 (show am_sh h 47 = some (2, 0) ∧ pz_S 2 (some .boolean) am_r113 1 Q 14 [(0, .ref 47), (1, .ref 36)] [am_rf (h.2.2.1 47 0), .ref 36] h from ⟨ex_47 hP, ?_⟩)
  rw [show am_rf (h.2.2.1 47 0) = .ref 48 from congrArg am_rf (ex_r47_0 hP)]
  refine am_goX 2 (show am_sh h 47 = some (2, 0) ∧ pz_S 2 (some .boolean) am_r113 1 Q 18 [(0, .ref 47), (1, .ref 36)] [.int (h.1 47 1), .ref 48, .ref 36] h from ⟨ex_47 hP, ?_⟩)
  rw [show h.1 47 1 = nI 15 from e1]
  refine am_goX 1 (show ∃ jj nn : Nat, (am_sh h 48 = some (16, nn) ∨ am_sh h 48 = some (17, nn)) ∧ jj < nn ∧ nI 15 = nI jj ∧ pz_S 2 (some .boolean) am_r113 1 Q 19 [(0, .ref 47), (1, .ref 36)] [am_rf (h.2.2.1 48 jj), .ref 36] h from ⟨15, 16, Or.inr (ex_48 hP), by decide, rfl, ?_⟩)
  rw [show am_rf (h.2.2.1 48 15) = .ref 124 from congrArg am_rf (ex_r48_15 hP)]
  refine am_goX 1 (show am_rc h 36 6 ∧ 0 ≤ 8 ∧ h.2.2.2.2 + am_al 99 ≤ 175 ∧ am_call am_cod 1 99 [.ref 36, .ref 124] h (fun vv h' => pz_S 2 (some .boolean) am_r113 1 Q 22 [(0, .ref 47), (1, .ref 36)] (vv.toList ++ []) h') from ⟨Or.inl ⟨by decide, ex_36 hP⟩, by decide, ex_lim hP rfl, am_call.up (q_99 stO_36 stO_124 (by decide) hP (fun h639 f640 f641 f642 f643 => ?_)) (by decide)⟩)
  have f644 : h639.1 47 1 = nI 15 := (f642 47 1 (by omega)).trans e1
  have f645 : h639.1 47 2 = nI n := (f642 47 2 (by omega)).trans e2
  have f646 : kF 36 h h639 := kF_c hX f641 f642
  have f647 : scq 36 124 h h639 := scq_b hX (fun a u1 u2 => by omega) f643
  refine am_goX 3 (show am_sh h639 47 = some (2, 0) ∧ pz_S 2 (some .boolean) am_r113 1 Q 27 [(0, .ref 47), (1, .ref 36)] [.int (h639.1 47 1), .ref 47] h639 from ⟨ex_47 f640, ?_⟩)
  rw [show h639.1 47 1 = nI 15 from f644]
  refine am_goX 6 (show ¬ ((Int8.ofInt 16).toInt32) = 0 ∧ pz_S 2 (some .boolean) am_r113 1 Q 35 [(0, .ref 47), (1, .ref 36)] [.int ((((nI 15) + ((Int8.ofInt 16).toInt32)) - (Int32.ofInt 1)) - (((nI 15) + ((Int8.ofInt 16).toInt32)) - (Int32.ofInt 1)) / ((Int8.ofInt 16).toInt32) * ((Int8.ofInt 16).toInt32)), .ref 47] h639 from ⟨by decide, ?_⟩)
  rw [show (((nI 15) + ((Int8.ofInt 16).toInt32)) - (Int32.ofInt 1)) - (((nI 15) + ((Int8.ofInt 16).toInt32)) - (Int32.ofInt 1)) / ((Int8.ofInt 16).toInt32) * ((Int8.ofInt 16).toInt32) = nI 14 from (by decide)]
  refine am_goX 1 (show am_sh h639 47 = some (2, 0) ∧ narrow (am_fty 2 1) (.int (nI 14)) = .int (nI 14) ∧ fits (am_fty 2 1) (.int (nI 14)) = true ∧ pz_S 2 (some .boolean) am_r113 1 Q 38 [(0, .ref 47), (1, .ref 36)] [] (am_wI h639 47 1 (nI 14)) from ⟨ex_47 f640, rfl, rfl, ?_⟩)
  have f649 : ex_P (am_wI h639 47 1 (nI 14)) := f640
  have f650 : (am_wI h639 47 1 (nI 14)).1 47 1 = nI 14 := (em_we _ _ _ _).trans (rfl)
  have f651 : (am_wI h639 47 1 (nI 14)).1 47 2 = nI n := (em_wn _ _ (by omega)).trans f645
  have f652 : kF 36 h (am_wI h639 47 1 (nI 14)) := kF_w (by omega) f646
  have f653 : scq 36 124 h (am_wI h639 47 1 (nI 14)) := scq_w (by omega) f647
  generalize am_wI h639 47 1 (nI 14) = h648 at f649 f650 f651 f652 f653 ⊢
  refine am_goX 3 (show (Value.ref 47).category = 1 ∧ am_sh h648 47 = some (2, 0) ∧ pz_S 2 (some .boolean) am_r113 1 Q 43 [(0, .ref 47), (1, .ref 36)] [.int (h648.1 47 2), .ref 47] h648 from ⟨rfl, ex_47 f649, ?_⟩)
  rw [show h648.1 47 2 = nI n from f651]
  refine am_goX 3 (show am_sh h648 47 = some (2, 0) ∧ narrow (am_fty 2 2) (.int ((nI n) - (Int32.ofInt 1))) = .int ((nI n) - (Int32.ofInt 1)) ∧ fits (am_fty 2 2) (.int ((nI n) - (Int32.ofInt 1))) = true ∧ pz_S 2 (some .boolean) am_r113 1 Q 48 [(0, .ref 47), (1, .ref 36)] [] (am_wI h648 47 2 ((nI n) - (Int32.ofInt 1))) from ⟨ex_47 f649, rfl, rfl, ?_⟩)
  have f655 : ex_P (am_wI h648 47 2 ((nI n) - (Int32.ofInt 1))) := f649
  have f656 : (am_wI h648 47 2 ((nI n) - (Int32.ofInt 1))).1 47 1 = nI 14 := (em_wn _ _ (by omega)).trans f650
  have f657 : (am_wI h648 47 2 ((nI n) - (Int32.ofInt 1))).1 47 2 = nI (n - 1) := (em_we _ _ _ _).trans ((dn_s (by omega) rfl rfl))
  have f658 : kF 36 h (am_wI h648 47 2 ((nI n) - (Int32.ofInt 1))) := kF_w (by omega) f652
  have f659 : scq 36 124 h (am_wI h648 47 2 ((nI n) - (Int32.ofInt 1))) := scq_w (by omega) f653
  generalize am_wI h648 47 2 ((nI n) - (Int32.ofInt 1)) = h654 at f655 f656 f657 f658 f659 ⊢
  exact am_goX 2 (show (∃ ty, (some .boolean) = some ty ∧ narrow ty (.int (Int32.ofInt 1)) = .int (Int32.ofInt 1)) ∧ h654.2.2.2.2 = 175 ∧ _ from ⟨⟨.boolean, rfl, rfl⟩, ex_175 f655, hQ _ f655 f658.1 f658.2 f656 f657 f659⟩)
theorem q_98 {q : Nat} (hq : q < 16) (hn : n ≤ 16) (hP : ex_P h) (e1 : h.1 47 1 = nI q) (e2 : h.1 47 2 = nI n) (hQ : ∀ h1, ex_P h1 → h1.2 = h.2 → (∀ o k, ¬ o = 47 → ¬ (49 + 5 * ((q + 1) % 16) ≤ o ∧ o ≤ 49 + 5 * ((q + 1) % 16) + 4) → h1.1 o k = h.1 o k) → h1.1 47 1 = nI ((q + 1) % 16) → h1.1 47 2 = nI (min (n + 1) 16) → scq (49 + 5 * ((q + 1) % 16)) 36 h h1 → Q none h1) : am_call am_cod 2 98 [.ref 47, .ref 36] h Q := by
  have w : q = 0 ∨ q = 1 ∨ q = 2 ∨ q = 3 ∨ q = 4 ∨ q = 5 ∨ q = 6 ∨ q = 7 ∨ q = 8 ∨ q = 9 ∨ q = 10 ∨ q = 11 ∨ q = 12 ∨ q = 13 ∨ q = 14 ∨ q = 15 := by omega
  rcases w with rfl | rfl | rfl | rfl | rfl | rfl | rfl | rfl | rfl | rfl | rfl | rfl | rfl | rfl | rfl | rfl
  · exact q_98_0 hn hP e1 e2 hQ
  · exact q_98_1 hn hP e1 e2 hQ
  · exact q_98_2 hn hP e1 e2 hQ
  · exact q_98_3 hn hP e1 e2 hQ
  · exact q_98_4 hn hP e1 e2 hQ
  · exact q_98_5 hn hP e1 e2 hQ
  · exact q_98_6 hn hP e1 e2 hQ
  · exact q_98_7 hn hP e1 e2 hQ
  · exact q_98_8 hn hP e1 e2 hQ
  · exact q_98_9 hn hP e1 e2 hQ
  · exact q_98_10 hn hP e1 e2 hQ
  · exact q_98_11 hn hP e1 e2 hQ
  · exact q_98_12 hn hP e1 e2 hQ
  · exact q_98_13 hn hP e1 e2 hQ
  · exact q_98_14 hn hP e1 e2 hQ
  · exact q_98_15 hn hP e1 e2 hQ
theorem q_113 {q : Nat} (hq : q < 16) (hn0 : 0 < n) (hn : n ≤ 16) (hP : ex_P h) (e1 : h.1 47 1 = nI q) (e2 : h.1 47 2 = nI n) (hQ : ∀ h1, ex_P h1 → h1.2 = h.2 → (∀ o k, ¬ o = 47 → ¬ (36 ≤ o ∧ o ≤ 40) → h1.1 o k = h.1 o k) → h1.1 47 1 = nI ((q + 15) % 16) → h1.1 47 2 = nI (n - 1) → scq 36 (49 + 5 * q) h h1 → Q (some (.int (Int32.ofInt 1))) h1) : am_call am_cod 2 113 [.ref 47, .ref 36] h Q := by
  have w : q = 0 ∨ q = 1 ∨ q = 2 ∨ q = 3 ∨ q = 4 ∨ q = 5 ∨ q = 6 ∨ q = 7 ∨ q = 8 ∨ q = 9 ∨ q = 10 ∨ q = 11 ∨ q = 12 ∨ q = 13 ∨ q = 14 ∨ q = 15 := by omega
  rcases w with rfl | rfl | rfl | rfl | rfl | rfl | rfl | rfl | rfl | rfl | rfl | rfl | rfl | rfl | rfl | rfl
  · exact q_113_0 hn0 hn hP e1 e2 hQ
  · exact q_113_1 hn0 hn hP e1 e2 hQ
  · exact q_113_2 hn0 hn hP e1 e2 hQ
  · exact q_113_3 hn0 hn hP e1 e2 hQ
  · exact q_113_4 hn0 hn hP e1 e2 hQ
  · exact q_113_5 hn0 hn hP e1 e2 hQ
  · exact q_113_6 hn0 hn hP e1 e2 hQ
  · exact q_113_7 hn0 hn hP e1 e2 hQ
  · exact q_113_8 hn0 hn hP e1 e2 hQ
  · exact q_113_9 hn0 hn hP e1 e2 hQ
  · exact q_113_10 hn0 hn hP e1 e2 hQ
  · exact q_113_11 hn0 hn hP e1 e2 hQ
  · exact q_113_12 hn0 hn hP e1 e2 hQ
  · exact q_113_13 hn0 hn hP e1 e2 hQ
  · exact q_113_14 hn0 hn hP e1 e2 hQ
  · exact q_113_15 hn0 hn hP e1 e2 hQ
theorem q_113z (hP : ex_P h) (e2 : h.1 47 2 = nI 0) (hQ : Q (some (.int (Int32.ofInt 0))) h) : am_call am_cod 2 113 [.ref 47, .ref 36] h Q := by
  refine pz_call (n := 113) (nL := 2) (rt := (some .boolean)) (rows := am_r113) (d := 1) (by decide +kernel) (by decide +kernel) rfl (by funext pc; rfl) (ex_175 hP) (by exact Nat.le_of_ble_eq_true rfl) ?_
  refine am_goX 2 (show am_sh h 47 = some (2, 0) ∧ pz_S 2 (some .boolean) am_r113 1 Q 4 [(0, .ref 47), (1, .ref 36)] [.int (h.1 47 2)] h from ⟨ex_47 hP, ?_⟩)
  rw [show h.1 47 2 = nI 0 from e2]
  refine am_goX 1 (show (¬ (nI 0) = 0 → pz_S 2 (some .boolean) am_r113 1 Q 9 [(0, .ref 47), (1, .ref 36)] [] h) ∧ (¬ ¬ (nI 0) = 0 → pz_S 2 (some .boolean) am_r113 1 Q 7 [(0, .ref 47), (1, .ref 36)] [] h) from ⟨fun hz => absurd hz (by decide), fun _ => ?_⟩)
  exact am_goX 2 (show (∃ ty, (some .boolean) = some ty ∧ narrow ty (.int (Int32.ofInt 0)) = .int (Int32.ofInt 0)) ∧ h.2.2.2.2 = 175 ∧ _ from ⟨⟨.boolean, rfl, rfl⟩, ex_175 hP, hQ⟩)
