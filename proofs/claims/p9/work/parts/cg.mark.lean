/-! MARK -/
/-- all but the mark m, in the reference -/
def mX (m : Nat) (h0 h : am_H) : Prop := (∀ j, j < 4 → ¬ j = m → h.1 171 j = h0.1 171 j) ∧ ∀ q, 49 ≤ q → q < 245 → ¬ (49 + 49 * m ≤ q ∧ q < 49 + 49 * m + 49) → h.1 170 q = h0.1 170 q
theorem mX_0 {m : Nat} {h : am_H} : mX m h h := ⟨fun _ _ _ => rfl, fun _ _ _ _ => rfl⟩
theorem mX_w {m o k : Nat} {v : Int32} {h0 h : am_H} (ho : o = 154 ∨ (o = 171 ∧ k = m)) (l : mX m h0 h) : mX m h0 (am_wI h o k v) := ⟨fun j hj hn => (em_wn _ _ (by omega)).trans (l.1 j hj hn), fun q h1 h2 h3 => (em_wn _ _ (by omega)).trans (l.2 q h1 h2 h3)⟩
theorem hC_z {H : dH} {h : am_H} (l : hC H h) : hC (0, H.2) (am_wI h 47 2 (Int32.ofInt 0)) := by
  obtain ⟨a1, a2, q, a3, a4, a5⟩ := l
  exact ⟨Nat.zero_le _, em_we _ _ _ _, q, a3, (em_wn _ _ (by omega)).trans a4, fun j hj => absurd hj (Nat.not_lt_zero j)⟩
theorem hL_z {P : Nat} {H : dH} {h : am_H} (l : hL P H h) : hL P (0, H.2) (am_wI h 154 25 (Int32.ofInt 0)) := ⟨Nat.zero_le _, em_we _ _ _ _, fun j hj => absurd hj (Nat.not_lt_zero j)⟩
theorem hL_same {P : Nat} {H : dH} {h : am_H} (l : hL P H h) : hL P H (am_wI h 154 25 (nI H.1)) := by
  have e := am_wI_id h 154 25
  rw [l.2.1] at e
  rw [e]
  exact l
theorem mL_same {P m : Nat} {M : dMk} {h : am_H} (hm : m < 4) (h1 : M.1 m = true) (l : mL P M h) : mL P M (am_wI h 171 m (vp_nar .boolean (Int32.ofInt 1))) := by
  have e := am_wI_id h 171 m
  rw [(l m hm).1, h1] at e
  rw [show vp_nar .boolean (Int32.ofInt 1) = (bif true then (1 : Int32) else 0) from rfl, e]
  exact l
variable {h : am_H} {Q : am_Q} {C V : sp_C} {y z w b : Int32} {e l m : Nat} {s : dS} {H : dH} {M : dMk} {x : Nat}
theorem ex_131 {h : am_H} (hP : ex_P h) : am_sh h 131 = some (6, 0) := (ex_so hP (by decide +kernel)).2
theorem ex_137 {h : am_H} (hP : ex_P h) : am_sh h 137 = some (6, 0) := (ex_so hP (by decide +kernel)).2
theorem ex_143 {h : am_H} (hP : ex_P h) : am_sh h 143 = some (6, 0) := (ex_so hP (by decide +kernel)).2
theorem ex_149 {h : am_H} (hP : ex_P h) : am_sh h 149 = some (6, 0) := (ex_so hP (by decide +kernel)).2
theorem ex_r130_1 {h : am_H} (hP : ex_P h) : h.2.2.1 130 1 = some 131 := hP.2 130 1 131 (by decide +kernel)
theorem ex_r136_1 {h : am_H} (hP : ex_P h) : h.2.2.1 136 1 = some 137 := hP.2 136 1 137 (by decide +kernel)
theorem ex_r142_1 {h : am_H} (hP : ex_P h) : h.2.2.1 142 1 = some 143 := hP.2 142 1 143 (by decide +kernel)
theorem ex_r148_1 {h : am_H} (hP : ex_P h) : h.2.2.1 148 1 = some 149 := hP.2 148 1 149 (by decide +kernel)
theorem k_115_0 {a b : Int32} (hP : ex_P h) (hQ : ∀ h1, ex_P h1 → kMk 0 h h1 → h1.1 130 0 = 1 → scq 131 36 h h1 → h1.1 130 2 = a → Q none h1) : am_call am_cod 2 115 [.ref 130, .ref 36, .int a, .int b] h Q := by
  refine pz_call (n := 115) (nL := 4) (rt := none) (rows := am_r115) (d := 1) (by decide +kernel) (by decide +kernel) rfl (by funext pc; rfl) (ex_175 hP) (by exact Nat.le_of_ble_eq_true rfl) ?_
  have hX := kMk_0 (m := 0) (h := h)
  refine am_goX 3 (show am_sh h 130 = some (5, 0) ∧ narrow (am_fty 5 0) (.int (Int32.ofInt 1)) = .int (Int32.ofInt 1) ∧ fits (am_fty 5 0) (.int (Int32.ofInt 1)) = true ∧ pz_S 4 none am_r115 1 Q 5 [(0, .ref 130), (1, .ref 36), (2, .int a), (3, .int b)] [] (am_wI h 130 0 (Int32.ofInt 1)) from ⟨ex_130 hP, rfl, rfl, ?_⟩)
  have f2 : ex_P (am_wI h 130 0 (Int32.ofInt 1)) := hP
  have f3 : kMk 0 h (am_wI h 130 0 (Int32.ofInt 1)) := kMk_w (by omega) hX
  have f4 : (am_wI h 130 0 (Int32.ofInt 1)).1 130 0 = 1 := em_we _ _ _ _
  generalize am_wI h 130 0 (Int32.ofInt 1) = h1 at f2 f3 f4 ⊢
  refine am_goX 2 (show am_sh h1 130 = some (5, 0) ∧ pz_S 4 none am_r115 1 Q 9 [(0, .ref 130), (1, .ref 36), (2, .int a), (3, .int b)] [am_rf (h1.2.2.1 130 1)] h1 from ⟨ex_130 f2, ?_⟩)
  rw [show am_rf (h1.2.2.1 130 1) = .ref 131 from congrArg am_rf (ex_r130_1 f2)]
  refine am_goX 2 (show am_rc h1 131 6 ∧ 0 ≤ 8 ∧ h1.2.2.2.2 + am_al 99 ≤ 175 ∧ am_call am_cod 1 99 [.ref 131, .ref 36] h1 (fun vv h' => pz_S 4 none am_r115 1 Q 13 [(0, .ref 130), (1, .ref 36), (2, .int a), (3, .int b)] (vv.toList ++ []) h') from ⟨Or.inl ⟨by decide, ex_131 f2⟩, by decide, ex_lim f2 rfl, am_call.up (q_99 stO_131 stO_36 (by decide) f2 (fun h5 f6 f7 f8 f9 => ?_)) (by decide)⟩)
  have f10 : kMk 0 h h5 := ⟨f7.trans f3.1, fun a j n1 => (f8 a j (by omega)).trans (f3.2 a j n1)⟩
  have f11 : h5.1 130 0 = 1 := (f8 _ _ (by omega)).trans f4
  have f12 : scq 131 36 h h5 := ⟨⟨f9.1.1.trans (f3.2 _ _ (by omega)), f9.1.2.trans (f3.2 _ _ (by omega))⟩, fun i hi => ⟨(f9.2.1 i hi).1.trans (f3.2 _ _ (by omega)), (f9.2.1 i hi).2.trans (f3.2 _ _ (by omega))⟩, fun i hi => ⟨(f9.2.2 i hi).1.trans (f3.2 _ _ (by omega)), (f9.2.2 i hi).2.trans (f3.2 _ _ (by omega))⟩⟩
  refine am_goX 3 (show am_sh h5 130 = some (5, 0) ∧ narrow (am_fty 5 2) (.int a) = .int a ∧ fits (am_fty 5 2) (.int a) = true ∧ pz_S 4 none am_r115 1 Q 18 [(0, .ref 130), (1, .ref 36), (2, .int a), (3, .int b)] [] (am_wI h5 130 2 a) from ⟨ex_130 f6, rfl, rfl, ?_⟩)
  have f14 : ex_P (am_wI h5 130 2 a) := f6
  have f15 : kMk 0 h (am_wI h5 130 2 a) := kMk_w (by omega) f10
  have f16 : (am_wI h5 130 2 a).1 130 0 = 1 := (em_wn _ _ (by omega)).trans f11
  have f17 : scq 131 36 h (am_wI h5 130 2 a) := scq_w (by omega) f12
  have f18 : (am_wI h5 130 2 a).1 130 2 = a := em_we _ _ _ _
  generalize am_wI h5 130 2 a = h13 at f14 f15 f16 f17 f18 ⊢
  refine am_goX 3 (show am_sh h13 130 = some (5, 0) ∧ narrow (am_fty 5 3) (.int b) = .int b ∧ fits (am_fty 5 3) (.int b) = true ∧ pz_S 4 none am_r115 1 Q 23 [(0, .ref 130), (1, .ref 36), (2, .int a), (3, .int b)] [] (am_wI h13 130 3 b) from ⟨ex_130 f14, rfl, rfl, ?_⟩)
  have f20 : ex_P (am_wI h13 130 3 b) := f14
  have f21 : kMk 0 h (am_wI h13 130 3 b) := kMk_w (by omega) f15
  have f22 : (am_wI h13 130 3 b).1 130 0 = 1 := (em_wn _ _ (by omega)).trans f16
  have f23 : scq 131 36 h (am_wI h13 130 3 b) := scq_w (by omega) f17
  have f24 : (am_wI h13 130 3 b).1 130 2 = a := (em_wn _ _ (by omega)).trans f18
  generalize am_wI h13 130 3 b = h19 at f20 f21 f22 f23 f24 ⊢
  exact am_goX 1 (show (none : Option FieldType) = none ∧ h19.2.2.2.2 = 175 ∧ _ from ⟨rfl, ex_175 f20, hQ _ f20 f21 f22 f23 f24⟩)
theorem k_115_1 {a b : Int32} (hP : ex_P h) (hQ : ∀ h1, ex_P h1 → kMk 1 h h1 → h1.1 136 0 = 1 → scq 137 36 h h1 → h1.1 136 2 = a → Q none h1) : am_call am_cod 2 115 [.ref 136, .ref 36, .int a, .int b] h Q := by
  refine pz_call (n := 115) (nL := 4) (rt := none) (rows := am_r115) (d := 1) (by decide +kernel) (by decide +kernel) rfl (by funext pc; rfl) (ex_175 hP) (by exact Nat.le_of_ble_eq_true rfl) ?_
  have hX := kMk_0 (m := 1) (h := h)
  refine am_goX 3 (show am_sh h 136 = some (5, 0) ∧ narrow (am_fty 5 0) (.int (Int32.ofInt 1)) = .int (Int32.ofInt 1) ∧ fits (am_fty 5 0) (.int (Int32.ofInt 1)) = true ∧ pz_S 4 none am_r115 1 Q 5 [(0, .ref 136), (1, .ref 36), (2, .int a), (3, .int b)] [] (am_wI h 136 0 (Int32.ofInt 1)) from ⟨ex_136 hP, rfl, rfl, ?_⟩)
  have f26 : ex_P (am_wI h 136 0 (Int32.ofInt 1)) := hP
  have f27 : kMk 1 h (am_wI h 136 0 (Int32.ofInt 1)) := kMk_w (by omega) hX
  have f28 : (am_wI h 136 0 (Int32.ofInt 1)).1 136 0 = 1 := em_we _ _ _ _
  generalize am_wI h 136 0 (Int32.ofInt 1) = h25 at f26 f27 f28 ⊢
  refine am_goX 2 (show am_sh h25 136 = some (5, 0) ∧ pz_S 4 none am_r115 1 Q 9 [(0, .ref 136), (1, .ref 36), (2, .int a), (3, .int b)] [am_rf (h25.2.2.1 136 1)] h25 from ⟨ex_136 f26, ?_⟩)
  rw [show am_rf (h25.2.2.1 136 1) = .ref 137 from congrArg am_rf (ex_r136_1 f26)]
  refine am_goX 2 (show am_rc h25 137 6 ∧ 0 ≤ 8 ∧ h25.2.2.2.2 + am_al 99 ≤ 175 ∧ am_call am_cod 1 99 [.ref 137, .ref 36] h25 (fun vv h' => pz_S 4 none am_r115 1 Q 13 [(0, .ref 136), (1, .ref 36), (2, .int a), (3, .int b)] (vv.toList ++ []) h') from ⟨Or.inl ⟨by decide, ex_137 f26⟩, by decide, ex_lim f26 rfl, am_call.up (q_99 stO_137 stO_36 (by decide) f26 (fun h29 f30 f31 f32 f33 => ?_)) (by decide)⟩)
  have f34 : kMk 1 h h29 := ⟨f31.trans f27.1, fun a j n1 => (f32 a j (by omega)).trans (f27.2 a j n1)⟩
  have f35 : h29.1 136 0 = 1 := (f32 _ _ (by omega)).trans f28
  have f36 : scq 137 36 h h29 := ⟨⟨f33.1.1.trans (f27.2 _ _ (by omega)), f33.1.2.trans (f27.2 _ _ (by omega))⟩, fun i hi => ⟨(f33.2.1 i hi).1.trans (f27.2 _ _ (by omega)), (f33.2.1 i hi).2.trans (f27.2 _ _ (by omega))⟩, fun i hi => ⟨(f33.2.2 i hi).1.trans (f27.2 _ _ (by omega)), (f33.2.2 i hi).2.trans (f27.2 _ _ (by omega))⟩⟩
  refine am_goX 3 (show am_sh h29 136 = some (5, 0) ∧ narrow (am_fty 5 2) (.int a) = .int a ∧ fits (am_fty 5 2) (.int a) = true ∧ pz_S 4 none am_r115 1 Q 18 [(0, .ref 136), (1, .ref 36), (2, .int a), (3, .int b)] [] (am_wI h29 136 2 a) from ⟨ex_136 f30, rfl, rfl, ?_⟩)
  have f38 : ex_P (am_wI h29 136 2 a) := f30
  have f39 : kMk 1 h (am_wI h29 136 2 a) := kMk_w (by omega) f34
  have f40 : (am_wI h29 136 2 a).1 136 0 = 1 := (em_wn _ _ (by omega)).trans f35
  have f41 : scq 137 36 h (am_wI h29 136 2 a) := scq_w (by omega) f36
  have f42 : (am_wI h29 136 2 a).1 136 2 = a := em_we _ _ _ _
  generalize am_wI h29 136 2 a = h37 at f38 f39 f40 f41 f42 ⊢
  refine am_goX 3 (show am_sh h37 136 = some (5, 0) ∧ narrow (am_fty 5 3) (.int b) = .int b ∧ fits (am_fty 5 3) (.int b) = true ∧ pz_S 4 none am_r115 1 Q 23 [(0, .ref 136), (1, .ref 36), (2, .int a), (3, .int b)] [] (am_wI h37 136 3 b) from ⟨ex_136 f38, rfl, rfl, ?_⟩)
  have f44 : ex_P (am_wI h37 136 3 b) := f38
  have f45 : kMk 1 h (am_wI h37 136 3 b) := kMk_w (by omega) f39
  have f46 : (am_wI h37 136 3 b).1 136 0 = 1 := (em_wn _ _ (by omega)).trans f40
  have f47 : scq 137 36 h (am_wI h37 136 3 b) := scq_w (by omega) f41
  have f48 : (am_wI h37 136 3 b).1 136 2 = a := (em_wn _ _ (by omega)).trans f42
  generalize am_wI h37 136 3 b = h43 at f44 f45 f46 f47 f48 ⊢
  exact am_goX 1 (show (none : Option FieldType) = none ∧ h43.2.2.2.2 = 175 ∧ _ from ⟨rfl, ex_175 f44, hQ _ f44 f45 f46 f47 f48⟩)
theorem k_115_2 {a b : Int32} (hP : ex_P h) (hQ : ∀ h1, ex_P h1 → kMk 2 h h1 → h1.1 142 0 = 1 → scq 143 36 h h1 → h1.1 142 2 = a → Q none h1) : am_call am_cod 2 115 [.ref 142, .ref 36, .int a, .int b] h Q := by
  refine pz_call (n := 115) (nL := 4) (rt := none) (rows := am_r115) (d := 1) (by decide +kernel) (by decide +kernel) rfl (by funext pc; rfl) (ex_175 hP) (by exact Nat.le_of_ble_eq_true rfl) ?_
  have hX := kMk_0 (m := 2) (h := h)
  refine am_goX 3 (show am_sh h 142 = some (5, 0) ∧ narrow (am_fty 5 0) (.int (Int32.ofInt 1)) = .int (Int32.ofInt 1) ∧ fits (am_fty 5 0) (.int (Int32.ofInt 1)) = true ∧ pz_S 4 none am_r115 1 Q 5 [(0, .ref 142), (1, .ref 36), (2, .int a), (3, .int b)] [] (am_wI h 142 0 (Int32.ofInt 1)) from ⟨ex_142 hP, rfl, rfl, ?_⟩)
  have f50 : ex_P (am_wI h 142 0 (Int32.ofInt 1)) := hP
  have f51 : kMk 2 h (am_wI h 142 0 (Int32.ofInt 1)) := kMk_w (by omega) hX
  have f52 : (am_wI h 142 0 (Int32.ofInt 1)).1 142 0 = 1 := em_we _ _ _ _
  generalize am_wI h 142 0 (Int32.ofInt 1) = h49 at f50 f51 f52 ⊢
  refine am_goX 2 (show am_sh h49 142 = some (5, 0) ∧ pz_S 4 none am_r115 1 Q 9 [(0, .ref 142), (1, .ref 36), (2, .int a), (3, .int b)] [am_rf (h49.2.2.1 142 1)] h49 from ⟨ex_142 f50, ?_⟩)
  rw [show am_rf (h49.2.2.1 142 1) = .ref 143 from congrArg am_rf (ex_r142_1 f50)]
  refine am_goX 2 (show am_rc h49 143 6 ∧ 0 ≤ 8 ∧ h49.2.2.2.2 + am_al 99 ≤ 175 ∧ am_call am_cod 1 99 [.ref 143, .ref 36] h49 (fun vv h' => pz_S 4 none am_r115 1 Q 13 [(0, .ref 142), (1, .ref 36), (2, .int a), (3, .int b)] (vv.toList ++ []) h') from ⟨Or.inl ⟨by decide, ex_143 f50⟩, by decide, ex_lim f50 rfl, am_call.up (q_99 stO_143 stO_36 (by decide) f50 (fun h53 f54 f55 f56 f57 => ?_)) (by decide)⟩)
  have f58 : kMk 2 h h53 := ⟨f55.trans f51.1, fun a j n1 => (f56 a j (by omega)).trans (f51.2 a j n1)⟩
  have f59 : h53.1 142 0 = 1 := (f56 _ _ (by omega)).trans f52
  have f60 : scq 143 36 h h53 := ⟨⟨f57.1.1.trans (f51.2 _ _ (by omega)), f57.1.2.trans (f51.2 _ _ (by omega))⟩, fun i hi => ⟨(f57.2.1 i hi).1.trans (f51.2 _ _ (by omega)), (f57.2.1 i hi).2.trans (f51.2 _ _ (by omega))⟩, fun i hi => ⟨(f57.2.2 i hi).1.trans (f51.2 _ _ (by omega)), (f57.2.2 i hi).2.trans (f51.2 _ _ (by omega))⟩⟩
  refine am_goX 3 (show am_sh h53 142 = some (5, 0) ∧ narrow (am_fty 5 2) (.int a) = .int a ∧ fits (am_fty 5 2) (.int a) = true ∧ pz_S 4 none am_r115 1 Q 18 [(0, .ref 142), (1, .ref 36), (2, .int a), (3, .int b)] [] (am_wI h53 142 2 a) from ⟨ex_142 f54, rfl, rfl, ?_⟩)
  have f62 : ex_P (am_wI h53 142 2 a) := f54
  have f63 : kMk 2 h (am_wI h53 142 2 a) := kMk_w (by omega) f58
  have f64 : (am_wI h53 142 2 a).1 142 0 = 1 := (em_wn _ _ (by omega)).trans f59
  have f65 : scq 143 36 h (am_wI h53 142 2 a) := scq_w (by omega) f60
  have f66 : (am_wI h53 142 2 a).1 142 2 = a := em_we _ _ _ _
  generalize am_wI h53 142 2 a = h61 at f62 f63 f64 f65 f66 ⊢
  refine am_goX 3 (show am_sh h61 142 = some (5, 0) ∧ narrow (am_fty 5 3) (.int b) = .int b ∧ fits (am_fty 5 3) (.int b) = true ∧ pz_S 4 none am_r115 1 Q 23 [(0, .ref 142), (1, .ref 36), (2, .int a), (3, .int b)] [] (am_wI h61 142 3 b) from ⟨ex_142 f62, rfl, rfl, ?_⟩)
  have f68 : ex_P (am_wI h61 142 3 b) := f62
  have f69 : kMk 2 h (am_wI h61 142 3 b) := kMk_w (by omega) f63
  have f70 : (am_wI h61 142 3 b).1 142 0 = 1 := (em_wn _ _ (by omega)).trans f64
  have f71 : scq 143 36 h (am_wI h61 142 3 b) := scq_w (by omega) f65
  have f72 : (am_wI h61 142 3 b).1 142 2 = a := (em_wn _ _ (by omega)).trans f66
  generalize am_wI h61 142 3 b = h67 at f68 f69 f70 f71 f72 ⊢
  exact am_goX 1 (show (none : Option FieldType) = none ∧ h67.2.2.2.2 = 175 ∧ _ from ⟨rfl, ex_175 f68, hQ _ f68 f69 f70 f71 f72⟩)
theorem k_115_3 {a b : Int32} (hP : ex_P h) (hQ : ∀ h1, ex_P h1 → kMk 3 h h1 → h1.1 148 0 = 1 → scq 149 36 h h1 → h1.1 148 2 = a → Q none h1) : am_call am_cod 2 115 [.ref 148, .ref 36, .int a, .int b] h Q := by
  refine pz_call (n := 115) (nL := 4) (rt := none) (rows := am_r115) (d := 1) (by decide +kernel) (by decide +kernel) rfl (by funext pc; rfl) (ex_175 hP) (by exact Nat.le_of_ble_eq_true rfl) ?_
  have hX := kMk_0 (m := 3) (h := h)
  refine am_goX 3 (show am_sh h 148 = some (5, 0) ∧ narrow (am_fty 5 0) (.int (Int32.ofInt 1)) = .int (Int32.ofInt 1) ∧ fits (am_fty 5 0) (.int (Int32.ofInt 1)) = true ∧ pz_S 4 none am_r115 1 Q 5 [(0, .ref 148), (1, .ref 36), (2, .int a), (3, .int b)] [] (am_wI h 148 0 (Int32.ofInt 1)) from ⟨ex_148 hP, rfl, rfl, ?_⟩)
  have f74 : ex_P (am_wI h 148 0 (Int32.ofInt 1)) := hP
  have f75 : kMk 3 h (am_wI h 148 0 (Int32.ofInt 1)) := kMk_w (by omega) hX
  have f76 : (am_wI h 148 0 (Int32.ofInt 1)).1 148 0 = 1 := em_we _ _ _ _
  generalize am_wI h 148 0 (Int32.ofInt 1) = h73 at f74 f75 f76 ⊢
  refine am_goX 2 (show am_sh h73 148 = some (5, 0) ∧ pz_S 4 none am_r115 1 Q 9 [(0, .ref 148), (1, .ref 36), (2, .int a), (3, .int b)] [am_rf (h73.2.2.1 148 1)] h73 from ⟨ex_148 f74, ?_⟩)
  rw [show am_rf (h73.2.2.1 148 1) = .ref 149 from congrArg am_rf (ex_r148_1 f74)]
  refine am_goX 2 (show am_rc h73 149 6 ∧ 0 ≤ 8 ∧ h73.2.2.2.2 + am_al 99 ≤ 175 ∧ am_call am_cod 1 99 [.ref 149, .ref 36] h73 (fun vv h' => pz_S 4 none am_r115 1 Q 13 [(0, .ref 148), (1, .ref 36), (2, .int a), (3, .int b)] (vv.toList ++ []) h') from ⟨Or.inl ⟨by decide, ex_149 f74⟩, by decide, ex_lim f74 rfl, am_call.up (q_99 stO_149 stO_36 (by decide) f74 (fun h77 f78 f79 f80 f81 => ?_)) (by decide)⟩)
  have f82 : kMk 3 h h77 := ⟨f79.trans f75.1, fun a j n1 => (f80 a j (by omega)).trans (f75.2 a j n1)⟩
  have f83 : h77.1 148 0 = 1 := (f80 _ _ (by omega)).trans f76
  have f84 : scq 149 36 h h77 := ⟨⟨f81.1.1.trans (f75.2 _ _ (by omega)), f81.1.2.trans (f75.2 _ _ (by omega))⟩, fun i hi => ⟨(f81.2.1 i hi).1.trans (f75.2 _ _ (by omega)), (f81.2.1 i hi).2.trans (f75.2 _ _ (by omega))⟩, fun i hi => ⟨(f81.2.2 i hi).1.trans (f75.2 _ _ (by omega)), (f81.2.2 i hi).2.trans (f75.2 _ _ (by omega))⟩⟩
  refine am_goX 3 (show am_sh h77 148 = some (5, 0) ∧ narrow (am_fty 5 2) (.int a) = .int a ∧ fits (am_fty 5 2) (.int a) = true ∧ pz_S 4 none am_r115 1 Q 18 [(0, .ref 148), (1, .ref 36), (2, .int a), (3, .int b)] [] (am_wI h77 148 2 a) from ⟨ex_148 f78, rfl, rfl, ?_⟩)
  have f86 : ex_P (am_wI h77 148 2 a) := f78
  have f87 : kMk 3 h (am_wI h77 148 2 a) := kMk_w (by omega) f82
  have f88 : (am_wI h77 148 2 a).1 148 0 = 1 := (em_wn _ _ (by omega)).trans f83
  have f89 : scq 149 36 h (am_wI h77 148 2 a) := scq_w (by omega) f84
  have f90 : (am_wI h77 148 2 a).1 148 2 = a := em_we _ _ _ _
  generalize am_wI h77 148 2 a = h85 at f86 f87 f88 f89 f90 ⊢
  refine am_goX 3 (show am_sh h85 148 = some (5, 0) ∧ narrow (am_fty 5 3) (.int b) = .int b ∧ fits (am_fty 5 3) (.int b) = true ∧ pz_S 4 none am_r115 1 Q 23 [(0, .ref 148), (1, .ref 36), (2, .int a), (3, .int b)] [] (am_wI h85 148 3 b) from ⟨ex_148 f86, rfl, rfl, ?_⟩)
  have f92 : ex_P (am_wI h85 148 3 b) := f86
  have f93 : kMk 3 h (am_wI h85 148 3 b) := kMk_w (by omega) f87
  have f94 : (am_wI h85 148 3 b).1 148 0 = 1 := (em_wn _ _ (by omega)).trans f88
  have f95 : scq 149 36 h (am_wI h85 148 3 b) := scq_w (by omega) f89
  have f96 : (am_wI h85 148 3 b).1 148 2 = a := (em_wn _ _ (by omega)).trans f90
  generalize am_wI h85 148 3 b = h91 at f92 f93 f94 f95 f96 ⊢
  exact am_goX 1 (show (none : Option FieldType) = none ∧ h91.2.2.2.2 = 175 ∧ _ from ⟨rfl, ex_175 f92, hQ _ f92 f93 f94 f95 f96⟩)
def d_114l0_M (s : dS) (H : dH) (M : dMk) (x : Nat) : dMk := (mset M 0 s x)
def d_114l0 (s : dS) (H : dH) (M : dMk) (x : Nat) : Int32 := Int32.ofInt 1
theorem d_114_lK6_0 (hP : ex_P h) (hI : cI C) (hT : c_v 6 C h) (hD : c_d 6 C h) (hR : h.2.2.1 0 3 = some 6) (hS : sC 36 s h) (hH : hC H h) (hM : mC M h) (hx : h.1 0 12 = nI x)  (hQ : ∀ h1, (ex_P h1) → (cI C) → (c_v 6 C h1) → (c_d 6 C h1) → (h1.2.2.1 0 3 = some 6) → (sC 36 s h1) → (hC H h1) → (mC (d_114l0_M s H M x) h1) → (h1.1 0 12 = nI x) → Q (some (.int (d_114l0 s H M x))) h1) : am_call am_cod 4 114 [.ref 0, .int (nI 0), .int (Int32.ofInt 0)] h Q := by
  have h6 := hT.1.2.1
  have h5 := hT.2.1.2.1
  refine pz_call (n := 114) (nL := 4) (rt := (some .boolean)) (rows := am_r114) (d := 3) (by decide +kernel) (by decide +kernel) rfl (by funext pc; rfl) (ex_175 hP) (by exact Nat.le_of_ble_eq_true rfl) ?_
  refine am_goX 4 (show 0 ≤ 8 ∧ h.2.2.2.2 + am_al 60 ≤ 175 ∧ am_call am_cod 3 60 [.int (nI 0), .int (Int32.ofInt 0), .int (Int32.ofInt 3)] h (fun vv h' => pz_S 4 (some .boolean) am_r114 3 Q 6 [(0, .ref 0), (1, .int (nI 0)), (2, .int (Int32.ofInt 0))] (vv.toList ++ []) h') from ⟨by decide, ex_lim hP rfl, am_call.up (d_60_w hP ?_) (by decide)⟩)
  rw [show d_60 (nI 0) (Int32.ofInt 0) (Int32.ofInt 3) = Int32.ofInt 1 from (by decide)]
  refine am_goX 1 (show (¬ (Int32.ofInt 1) = 0 → pz_S 4 (some .boolean) am_r114 3 Q 11 [(0, .ref 0), (1, .int (nI 0)), (2, .int (Int32.ofInt 0))] [] h) ∧ (¬ ¬ (Int32.ofInt 1) = 0 → pz_S 4 (some .boolean) am_r114 3 Q 9 [(0, .ref 0), (1, .int (nI 0)), (2, .int (Int32.ofInt 0))] [] h) from ⟨fun _ => ?_, fun hz => absurd (by decide) hz⟩)
  refine am_goX 2 (show am_sh h 0 = some (10, 0) ∧ pz_S 4 (some .boolean) am_r114 3 Q 15 [(0, .ref 0), (1, .int (nI 0)), (2, .int (Int32.ofInt 0))] [am_rf (h.2.2.1 0 11)] h from ⟨ex_0 hP, ?_⟩)
  rw [show am_rf (h.2.2.1 0 11) = .ref 129 from congrArg am_rf (ex_r0_11 hP)]
  refine am_goX 2 (show ∃ jj nn : Nat, (am_sh h 129 = some (16, nn) ∨ am_sh h 129 = some (17, nn)) ∧ jj < nn ∧ nI 0 = nI jj ∧ pz_S 4 (some .boolean) am_r114 3 Q 17 [(0, .ref 0), (1, .int (nI 0)), (2, .int (Int32.ofInt 0))] [am_rf (h.2.2.1 129 jj)] h from ⟨0, 4, Or.inl (ex_129 hP), by decide, rfl, ?_⟩)
  rw [show am_rf (h.2.2.1 129 0) = .ref 130 from congrArg am_rf (ex_r129_0 hP)]
  refine am_goX 3 (show 3 < 4 ∧ (¬ (Int32.ofInt 0) = 0 → pz_S 4 (some .boolean) am_r114 3 Q 40 [(3, .ref 130), (0, .ref 0), (1, .int (nI 0)), (2, .int (Int32.ofInt 0))] [] h) ∧ (¬ ¬ (Int32.ofInt 0) = 0 → pz_S 4 (some .boolean) am_r114 3 Q 22 [(3, .ref 130), (0, .ref 0), (1, .int (nI 0)), (2, .int (Int32.ofInt 0))] [] h) from ⟨by decide, fun hz => absurd hz (by decide), fun _ => ?_⟩)
  refine am_goX 3 (show am_sh h 0 = some (10, 0) ∧ pz_S 4 (some .boolean) am_r114 3 Q 27 [(3, .ref 130), (0, .ref 0), (1, .int (nI 0)), (2, .int (Int32.ofInt 0))] [am_rf (h.2.2.1 0 7), .ref 130] h from ⟨ex_0 hP, ?_⟩)
  rw [show am_rf (h.2.2.1 0 7) = .ref 36 from congrArg am_rf (ex_r0_7 hP)]
  refine am_goX 2 (show am_sh h 0 = some (10, 0) ∧ pz_S 4 (some .boolean) am_r114 3 Q 31 [(3, .ref 130), (0, .ref 0), (1, .int (nI 0)), (2, .int (Int32.ofInt 0))] [.int (h.1 0 12), .ref 36, .ref 130] h from ⟨ex_0 hP, ?_⟩)
  rw [show h.1 0 12 = nI x from hx]
  refine am_goX 3 (show am_sh h 0 = some (10, 0) ∧ am_rc h 130 5 ∧ 0 ≤ 8 ∧ h.2.2.2.2 + am_al 115 ≤ 175 ∧ am_call am_cod 3 115 [.ref 130, .ref 36, .int (nI x), .int (h.1 0 13)] h (fun vv h' => pz_S 4 (some .boolean) am_r114 3 Q 38 [(3, .ref 130), (0, .ref 0), (1, .int (nI 0)), (2, .int (Int32.ofInt 0))] (vv.toList ++ []) h') from ⟨ex_0 hP, Or.inl ⟨by decide, ex_130 hP⟩, by decide, ex_lim hP rfl, am_call.up (k_115_0 hP (fun h97 f98 f99 f100 f101 f102 => ?_)) (by decide)⟩)
  have f103 : mC (mset M 0 s x) h97 := mC_set (m := 0) (fun a j n1 => f99.2 a j n1) f100 (sC_cp f101 hS) f102 hM
  have f104 : c_v 6 C h97 := c_v_fr (fun a k u1 u2 => f99.2 a k (by omega)) hT
  have f105 : c_d 6 C h97 := c_d_fr (fun k => f99.2 _ k (by omega)) hD
  have f106 : h97.2.2.1 0 3 = some 6 := (congrArg (fun q => q.2.1 0 3) f99.1).trans hR
  have f107 : sC 36 s h97 := sC_fr (fun a k u1 u2 => f99.2 a k (by omega)) hS
  have f108 : hC H h97 := hC_fr (fun a k u1 u2 => f99.2 a k (by omega)) hH
  have f109 : h97.1 0 12 = nI x := (f99.2 0 12 (by omega)).trans hx
  exact am_goX 2 (show (∃ ty, (some .boolean) = some ty ∧ narrow ty (.int (Int32.ofInt 1)) = .int (Int32.ofInt 1)) ∧ h97.2.2.2.2 = 175 ∧ _ from ⟨⟨.boolean, rfl, rfl⟩, ex_175 f98, hQ _ f98 hI f104 f105 f106 f107 f108 f103 f109⟩)
def d_114b0_s (s : dS) (H : dH) (M : dMk) (x : Nat) : dS := (M.2.1 0)
def d_114b0_H (s : dS) (H : dH) (M : dMk) (x : Nat) : dH := (0, H.2)
def d_114b0_x (s : dS) (H : dH) (M : dMk) (x : Nat) : Nat := (M.2.2 0)
def d_114b0 (s : dS) (H : dH) (M : dMk) (x : Nat) : Int32 := Int32.ofInt 1
theorem d_114_bK6_0 (hP : ex_P h) (hI : cI C) (hT : c_v 6 C h) (hD : c_d 6 C h) (hR : h.2.2.1 0 3 = some 6) (hS : sC 36 s h) (hH : hC H h) (hM : mC M h) (hx : h.1 0 12 = nI x) (hm1 : M.1 0 = true) (hQ : ∀ h1, (ex_P h1) → (cI C) → (c_v 6 C h1) → (c_d 6 C h1) → (h1.2.2.1 0 3 = some 6) → (sC 36 (d_114b0_s s H M x) h1) → (hC (d_114b0_H s H M x) h1) → (mC M h1) → (h1.1 0 12 = nI (d_114b0_x s H M x)) → Q (some (.int (d_114b0 s H M x))) h1) : am_call am_cod 4 114 [.ref 0, .int (nI 0), .int (Int32.ofInt 1)] h Q := by
  have h6 := hT.1.2.1
  have h5 := hT.2.1.2.1
  refine pz_call (n := 114) (nL := 4) (rt := (some .boolean)) (rows := am_r114) (d := 3) (by decide +kernel) (by decide +kernel) rfl (by funext pc; rfl) (ex_175 hP) (by exact Nat.le_of_ble_eq_true rfl) ?_
  refine am_goX 4 (show 0 ≤ 8 ∧ h.2.2.2.2 + am_al 60 ≤ 175 ∧ am_call am_cod 3 60 [.int (nI 0), .int (Int32.ofInt 0), .int (Int32.ofInt 3)] h (fun vv h' => pz_S 4 (some .boolean) am_r114 3 Q 6 [(0, .ref 0), (1, .int (nI 0)), (2, .int (Int32.ofInt 1))] (vv.toList ++ []) h') from ⟨by decide, ex_lim hP rfl, am_call.up (d_60_w hP ?_) (by decide)⟩)
  rw [show d_60 (nI 0) (Int32.ofInt 0) (Int32.ofInt 3) = Int32.ofInt 1 from (by decide)]
  refine am_goX 1 (show (¬ (Int32.ofInt 1) = 0 → pz_S 4 (some .boolean) am_r114 3 Q 11 [(0, .ref 0), (1, .int (nI 0)), (2, .int (Int32.ofInt 1))] [] h) ∧ (¬ ¬ (Int32.ofInt 1) = 0 → pz_S 4 (some .boolean) am_r114 3 Q 9 [(0, .ref 0), (1, .int (nI 0)), (2, .int (Int32.ofInt 1))] [] h) from ⟨fun _ => ?_, fun hz => absurd (by decide) hz⟩)
  refine am_goX 2 (show am_sh h 0 = some (10, 0) ∧ pz_S 4 (some .boolean) am_r114 3 Q 15 [(0, .ref 0), (1, .int (nI 0)), (2, .int (Int32.ofInt 1))] [am_rf (h.2.2.1 0 11)] h from ⟨ex_0 hP, ?_⟩)
  rw [show am_rf (h.2.2.1 0 11) = .ref 129 from congrArg am_rf (ex_r0_11 hP)]
  refine am_goX 2 (show ∃ jj nn : Nat, (am_sh h 129 = some (16, nn) ∨ am_sh h 129 = some (17, nn)) ∧ jj < nn ∧ nI 0 = nI jj ∧ pz_S 4 (some .boolean) am_r114 3 Q 17 [(0, .ref 0), (1, .int (nI 0)), (2, .int (Int32.ofInt 1))] [am_rf (h.2.2.1 129 jj)] h from ⟨0, 4, Or.inl (ex_129 hP), by decide, rfl, ?_⟩)
  rw [show am_rf (h.2.2.1 129 0) = .ref 130 from congrArg am_rf (ex_r129_0 hP)]
  refine am_goX 3 (show 3 < 4 ∧ (¬ (Int32.ofInt 1) = 0 → pz_S 4 (some .boolean) am_r114 3 Q 40 [(3, .ref 130), (0, .ref 0), (1, .int (nI 0)), (2, .int (Int32.ofInt 1))] [] h) ∧ (¬ ¬ (Int32.ofInt 1) = 0 → pz_S 4 (some .boolean) am_r114 3 Q 22 [(3, .ref 130), (0, .ref 0), (1, .int (nI 0)), (2, .int (Int32.ofInt 1))] [] h) from ⟨by decide, fun _ => ?_, fun hz => absurd (by decide) hz⟩)
  refine am_goX 2 (show am_sh h 130 = some (5, 0) ∧ pz_S 4 (some .boolean) am_r114 3 Q 44 [(3, .ref 130), (0, .ref 0), (1, .int (nI 0)), (2, .int (Int32.ofInt 1))] [.int (h.1 130 0)] h from ⟨ex_130 hP, ?_⟩)
  rw [show h.1 130 0 = Int32.ofInt 1 from ((hM 0 (by decide)).1.trans (by rw [hm1]; rfl))]
  refine am_goX 1 (show (¬ (Int32.ofInt 1) = 0 → pz_S 4 (some .boolean) am_r114 3 Q 49 [(3, .ref 130), (0, .ref 0), (1, .int (nI 0)), (2, .int (Int32.ofInt 1))] [] h) ∧ (¬ ¬ (Int32.ofInt 1) = 0 → pz_S 4 (some .boolean) am_r114 3 Q 47 [(3, .ref 130), (0, .ref 0), (1, .int (nI 0)), (2, .int (Int32.ofInt 1))] [] h) from ⟨fun _ => ?_, fun hz => absurd (by decide) hz⟩)
  refine am_goX 2 (show am_sh h 0 = some (10, 0) ∧ pz_S 4 (some .boolean) am_r114 3 Q 53 [(3, .ref 130), (0, .ref 0), (1, .int (nI 0)), (2, .int (Int32.ofInt 1))] [am_rf (h.2.2.1 0 7)] h from ⟨ex_0 hP, ?_⟩)
  rw [show am_rf (h.2.2.1 0 7) = .ref 36 from congrArg am_rf (ex_r0_7 hP)]
  refine am_goX 2 (show am_sh h 130 = some (5, 0) ∧ pz_S 4 (some .boolean) am_r114 3 Q 57 [(3, .ref 130), (0, .ref 0), (1, .int (nI 0)), (2, .int (Int32.ofInt 1))] [am_rf (h.2.2.1 130 1), .ref 36] h from ⟨ex_130 hP, ?_⟩)
  rw [show am_rf (h.2.2.1 130 1) = .ref 131 from congrArg am_rf (ex_r130_1 hP)]
  refine am_goX 1 (show am_rc h 36 6 ∧ 0 ≤ 8 ∧ h.2.2.2.2 + am_al 99 ≤ 175 ∧ am_call am_cod 3 99 [.ref 36, .ref 131] h (fun vv h' => pz_S 4 (some .boolean) am_r114 3 Q 60 [(3, .ref 130), (0, .ref 0), (1, .int (nI 0)), (2, .int (Int32.ofInt 1))] (vv.toList ++ []) h') from ⟨Or.inl ⟨by decide, ex_36 hP⟩, by decide, ex_lim hP rfl, am_call.up (q_99 stO_36 stO_131 (by decide) hP (fun h110 f111 f112 f113 f114 => ?_)) (by decide)⟩)
  have f115 : sC 36 (M.2.1 0) h110 := sC_cp f114 ((hM 0 (by decide)).2 hm1).1
  have f116 : c_v 6 C h110 := c_v_fr (fun a k u1 u2 => f113 a k (by omega)) hT
  have f117 : c_d 6 C h110 := c_d_fr (fun k => f113 _ k (by omega)) hD
  have f118 : h110.2.2.1 0 3 = some 6 := (congrArg (fun q => q.2.1 0 3) f112).trans hR
  have f119 : hC H h110 := hC_fr (fun a k u1 u2 => f113 a k (by omega)) hH
  have f120 : mC M h110 := mC_fr (fun a k u1 u2 => f113 a k (by omega)) hM
  have f121 : h110.1 0 12 = nI x := (f113 0 12 (by omega)).trans hx
  refine am_goX 3 (show am_sh h110 130 = some (5, 0) ∧ pz_S 4 (some .boolean) am_r114 3 Q 65 [(3, .ref 130), (0, .ref 0), (1, .int (nI 0)), (2, .int (Int32.ofInt 1))] [.int (h110.1 130 2), .ref 0] h110 from ⟨ex_130 f111, ?_⟩)
  rw [show h110.1 130 2 = nI (M.2.2 0) from ((f120 0 (by decide)).2 hm1).2]
  refine am_goX 1 (show am_sh h110 0 = some (10, 0) ∧ narrow (am_fty 10 12) (.int (nI (M.2.2 0))) = .int (nI (M.2.2 0)) ∧ fits (am_fty 10 12) (.int (nI (M.2.2 0))) = true ∧ pz_S 4 (some .boolean) am_r114 3 Q 68 [(3, .ref 130), (0, .ref 0), (1, .int (nI 0)), (2, .int (Int32.ofInt 1))] [] (am_wI h110 0 12 (nI (M.2.2 0))) from ⟨ex_0 f111, rfl, rfl, ?_⟩)
  have f123 : ex_P (am_wI h110 0 12 (nI (M.2.2 0))) := f111
  have f124 : cI C := hI
  have f125 : c_v 6 C (am_wI h110 0 12 (nI (M.2.2 0))) := c_v_w (by omega) f116
  have f126 : c_d 6 C (am_wI h110 0 12 (nI (M.2.2 0))) := c_d_w (by omega) f117
  have f127 : (am_wI h110 0 12 (nI (M.2.2 0))).2.2.1 0 3 = some 6 := f118
  have f128 : sC 36 (M.2.1 0) (am_wI h110 0 12 (nI (M.2.2 0))) := sC_w (by omega) f115
  have f129 : hC H (am_wI h110 0 12 (nI (M.2.2 0))) := hC_w (by omega) f119
  have f130 : mC M (am_wI h110 0 12 (nI (M.2.2 0))) := mC_w (by omega) f120
  have f131 : (am_wI h110 0 12 (nI (M.2.2 0))).1 0 12 = nI (M.2.2 0) := (em_we _ _ _ _).trans (rfl)
  generalize am_wI h110 0 12 (nI (M.2.2 0)) = h122 at f123 f124 f125 f126 f127 f128 f129 f130 f131 ⊢
  refine am_goX 4 (show am_sh h122 130 = some (5, 0) ∧ am_sh h122 0 = some (10, 0) ∧ narrow (am_fty 10 13) (.int (h122.1 130 3)) = .int (h122.1 130 3) ∧ fits (am_fty 10 13) (.int (h122.1 130 3)) = true ∧ pz_S 4 (some .boolean) am_r114 3 Q 76 [(3, .ref 130), (0, .ref 0), (1, .int (nI 0)), (2, .int (Int32.ofInt 1))] [] (am_wI h122 0 13 (h122.1 130 3)) from ⟨ex_130 f123, ex_0 f123, rfl, rfl, ?_⟩)
  have f133 : ex_P (am_wI h122 0 13 (h122.1 130 3)) := f123
  have f134 : cI C := f124
  have f135 : c_v 6 C (am_wI h122 0 13 (h122.1 130 3)) := c_v_w (by omega) f125
  have f136 : c_d 6 C (am_wI h122 0 13 (h122.1 130 3)) := c_d_w (by omega) f126
  have f137 : (am_wI h122 0 13 (h122.1 130 3)).2.2.1 0 3 = some 6 := f127
  have f138 : sC 36 (M.2.1 0) (am_wI h122 0 13 (h122.1 130 3)) := sC_w (by omega) f128
  have f139 : hC H (am_wI h122 0 13 (h122.1 130 3)) := hC_w (by omega) f129
  have f140 : mC M (am_wI h122 0 13 (h122.1 130 3)) := mC_w (by omega) f130
  have f141 : (am_wI h122 0 13 (h122.1 130 3)).1 0 12 = nI (M.2.2 0) := (em_wn _ _ (by omega)).trans f131
  generalize am_wI h122 0 13 (h122.1 130 3) = h132 at f133 f134 f135 f136 f137 f138 f139 f140 f141 ⊢
  refine am_goX 2 (show am_sh h132 0 = some (10, 0) ∧ pz_S 4 (some .boolean) am_r114 3 Q 80 [(3, .ref 130), (0, .ref 0), (1, .int (nI 0)), (2, .int (Int32.ofInt 1))] [am_rf (h132.2.2.1 0 10)] h132 from ⟨ex_0 f133, ?_⟩)
  rw [show am_rf (h132.2.2.1 0 10) = .ref 47 from congrArg am_rf (ex_r0_10 f133)]
  refine am_goX 2 (show am_sh h132 47 = some (2, 0) ∧ narrow (am_fty 2 2) (.int (Int32.ofInt 0)) = .int (Int32.ofInt 0) ∧ fits (am_fty 2 2) (.int (Int32.ofInt 0)) = true ∧ pz_S 4 (some .boolean) am_r114 3 Q 84 [(3, .ref 130), (0, .ref 0), (1, .int (nI 0)), (2, .int (Int32.ofInt 1))] [] (am_wI h132 47 2 (Int32.ofInt 0)) from ⟨ex_47 f133, rfl, rfl, ?_⟩)
  have f143 : ex_P (am_wI h132 47 2 (Int32.ofInt 0)) := f133
  have f144 : cI C := f134
  have f145 : c_v 6 C (am_wI h132 47 2 (Int32.ofInt 0)) := c_v_w (by omega) f135
  have f146 : c_d 6 C (am_wI h132 47 2 (Int32.ofInt 0)) := c_d_w (by omega) f136
  have f147 : (am_wI h132 47 2 (Int32.ofInt 0)).2.2.1 0 3 = some 6 := f137
  have f148 : sC 36 (M.2.1 0) (am_wI h132 47 2 (Int32.ofInt 0)) := sC_w (by omega) f138
  have f149 : hC (0, H.2) (am_wI h132 47 2 (Int32.ofInt 0)) := hC_z f139
  have f150 : mC M (am_wI h132 47 2 (Int32.ofInt 0)) := mC_w (by omega) f140
  have f151 : (am_wI h132 47 2 (Int32.ofInt 0)).1 0 12 = nI (M.2.2 0) := (em_wn _ _ (by omega)).trans f141
  generalize am_wI h132 47 2 (Int32.ofInt 0) = h142 at f143 f144 f145 f146 f147 f148 f149 f150 f151 ⊢
  exact am_goX 2 (show (∃ ty, (some .boolean) = some ty ∧ narrow ty (.int (Int32.ofInt 1)) = .int (Int32.ofInt 1)) ∧ h142.2.2.2.2 = 175 ∧ _ from ⟨⟨.boolean, rfl, rfl⟩, ex_175 f143, hQ _ f143 f144 f145 f146 f147 f148 f149 f150 f151⟩)
def d_114n  : Int32 := Int32.ofInt 0
theorem d_114_nK6_0 (hP : ex_P h) (hI : cI C) (hT : c_v 6 C h) (hD : c_d 6 C h) (hR : h.2.2.1 0 3 = some 6) (hS : sC 36 s h) (hH : hC H h) (hM : mC M h) (hx : h.1 0 12 = nI x) (hm1 : M.1 0 = false) (hQ : ∀ h1, (ex_P h1) → (cI C) → (c_v 6 C h1) → (c_d 6 C h1) → (h1.2.2.1 0 3 = some 6) → (sC 36 s h1) → (hC H h1) → (mC M h1) → (h1.1 0 12 = nI x) → Q (some (.int d_114n)) h1) : am_call am_cod 4 114 [.ref 0, .int (nI 0), .int (Int32.ofInt 1)] h Q := by
  have h6 := hT.1.2.1
  have h5 := hT.2.1.2.1
  refine pz_call (n := 114) (nL := 4) (rt := (some .boolean)) (rows := am_r114) (d := 3) (by decide +kernel) (by decide +kernel) rfl (by funext pc; rfl) (ex_175 hP) (by exact Nat.le_of_ble_eq_true rfl) ?_
  refine am_goX 4 (show 0 ≤ 8 ∧ h.2.2.2.2 + am_al 60 ≤ 175 ∧ am_call am_cod 3 60 [.int (nI 0), .int (Int32.ofInt 0), .int (Int32.ofInt 3)] h (fun vv h' => pz_S 4 (some .boolean) am_r114 3 Q 6 [(0, .ref 0), (1, .int (nI 0)), (2, .int (Int32.ofInt 1))] (vv.toList ++ []) h') from ⟨by decide, ex_lim hP rfl, am_call.up (d_60_w hP ?_) (by decide)⟩)
  rw [show d_60 (nI 0) (Int32.ofInt 0) (Int32.ofInt 3) = Int32.ofInt 1 from (by decide)]
  refine am_goX 1 (show (¬ (Int32.ofInt 1) = 0 → pz_S 4 (some .boolean) am_r114 3 Q 11 [(0, .ref 0), (1, .int (nI 0)), (2, .int (Int32.ofInt 1))] [] h) ∧ (¬ ¬ (Int32.ofInt 1) = 0 → pz_S 4 (some .boolean) am_r114 3 Q 9 [(0, .ref 0), (1, .int (nI 0)), (2, .int (Int32.ofInt 1))] [] h) from ⟨fun _ => ?_, fun hz => absurd (by decide) hz⟩)
  refine am_goX 2 (show am_sh h 0 = some (10, 0) ∧ pz_S 4 (some .boolean) am_r114 3 Q 15 [(0, .ref 0), (1, .int (nI 0)), (2, .int (Int32.ofInt 1))] [am_rf (h.2.2.1 0 11)] h from ⟨ex_0 hP, ?_⟩)
  rw [show am_rf (h.2.2.1 0 11) = .ref 129 from congrArg am_rf (ex_r0_11 hP)]
  refine am_goX 2 (show ∃ jj nn : Nat, (am_sh h 129 = some (16, nn) ∨ am_sh h 129 = some (17, nn)) ∧ jj < nn ∧ nI 0 = nI jj ∧ pz_S 4 (some .boolean) am_r114 3 Q 17 [(0, .ref 0), (1, .int (nI 0)), (2, .int (Int32.ofInt 1))] [am_rf (h.2.2.1 129 jj)] h from ⟨0, 4, Or.inl (ex_129 hP), by decide, rfl, ?_⟩)
  rw [show am_rf (h.2.2.1 129 0) = .ref 130 from congrArg am_rf (ex_r129_0 hP)]
  refine am_goX 3 (show 3 < 4 ∧ (¬ (Int32.ofInt 1) = 0 → pz_S 4 (some .boolean) am_r114 3 Q 40 [(3, .ref 130), (0, .ref 0), (1, .int (nI 0)), (2, .int (Int32.ofInt 1))] [] h) ∧ (¬ ¬ (Int32.ofInt 1) = 0 → pz_S 4 (some .boolean) am_r114 3 Q 22 [(3, .ref 130), (0, .ref 0), (1, .int (nI 0)), (2, .int (Int32.ofInt 1))] [] h) from ⟨by decide, fun _ => ?_, fun hz => absurd (by decide) hz⟩)
  refine am_goX 2 (show am_sh h 130 = some (5, 0) ∧ pz_S 4 (some .boolean) am_r114 3 Q 44 [(3, .ref 130), (0, .ref 0), (1, .int (nI 0)), (2, .int (Int32.ofInt 1))] [.int (h.1 130 0)] h from ⟨ex_130 hP, ?_⟩)
  rw [show h.1 130 0 = Int32.ofInt 0 from ((hM 0 (by decide)).1.trans (by rw [hm1]; rfl))]
  refine am_goX 1 (show (¬ (Int32.ofInt 0) = 0 → pz_S 4 (some .boolean) am_r114 3 Q 49 [(3, .ref 130), (0, .ref 0), (1, .int (nI 0)), (2, .int (Int32.ofInt 1))] [] h) ∧ (¬ ¬ (Int32.ofInt 0) = 0 → pz_S 4 (some .boolean) am_r114 3 Q 47 [(3, .ref 130), (0, .ref 0), (1, .int (nI 0)), (2, .int (Int32.ofInt 1))] [] h) from ⟨fun hz => absurd hz (by decide), fun _ => ?_⟩)
  exact am_goX 2 (show (∃ ty, (some .boolean) = some ty ∧ narrow ty (.int (Int32.ofInt 0)) = .int (Int32.ofInt 0)) ∧ h.2.2.2.2 = 175 ∧ _ from ⟨⟨.boolean, rfl, rfl⟩, ex_175 hP, hQ _ hP hI hT hD hR hS hH hM hx⟩)
def d_114l1_M (s : dS) (H : dH) (M : dMk) (x : Nat) : dMk := (mset M 1 s x)
def d_114l1 (s : dS) (H : dH) (M : dMk) (x : Nat) : Int32 := Int32.ofInt 1
theorem d_114_lK6_1 (hP : ex_P h) (hI : cI C) (hT : c_v 6 C h) (hD : c_d 6 C h) (hR : h.2.2.1 0 3 = some 6) (hS : sC 36 s h) (hH : hC H h) (hM : mC M h) (hx : h.1 0 12 = nI x)  (hQ : ∀ h1, (ex_P h1) → (cI C) → (c_v 6 C h1) → (c_d 6 C h1) → (h1.2.2.1 0 3 = some 6) → (sC 36 s h1) → (hC H h1) → (mC (d_114l1_M s H M x) h1) → (h1.1 0 12 = nI x) → Q (some (.int (d_114l1 s H M x))) h1) : am_call am_cod 4 114 [.ref 0, .int (nI 1), .int (Int32.ofInt 0)] h Q := by
  have h6 := hT.1.2.1
  have h5 := hT.2.1.2.1
  refine pz_call (n := 114) (nL := 4) (rt := (some .boolean)) (rows := am_r114) (d := 3) (by decide +kernel) (by decide +kernel) rfl (by funext pc; rfl) (ex_175 hP) (by exact Nat.le_of_ble_eq_true rfl) ?_
  refine am_goX 4 (show 0 ≤ 8 ∧ h.2.2.2.2 + am_al 60 ≤ 175 ∧ am_call am_cod 3 60 [.int (nI 1), .int (Int32.ofInt 0), .int (Int32.ofInt 3)] h (fun vv h' => pz_S 4 (some .boolean) am_r114 3 Q 6 [(0, .ref 0), (1, .int (nI 1)), (2, .int (Int32.ofInt 0))] (vv.toList ++ []) h') from ⟨by decide, ex_lim hP rfl, am_call.up (d_60_w hP ?_) (by decide)⟩)
  rw [show d_60 (nI 1) (Int32.ofInt 0) (Int32.ofInt 3) = Int32.ofInt 1 from (by decide)]
  refine am_goX 1 (show (¬ (Int32.ofInt 1) = 0 → pz_S 4 (some .boolean) am_r114 3 Q 11 [(0, .ref 0), (1, .int (nI 1)), (2, .int (Int32.ofInt 0))] [] h) ∧ (¬ ¬ (Int32.ofInt 1) = 0 → pz_S 4 (some .boolean) am_r114 3 Q 9 [(0, .ref 0), (1, .int (nI 1)), (2, .int (Int32.ofInt 0))] [] h) from ⟨fun _ => ?_, fun hz => absurd (by decide) hz⟩)
  refine am_goX 2 (show am_sh h 0 = some (10, 0) ∧ pz_S 4 (some .boolean) am_r114 3 Q 15 [(0, .ref 0), (1, .int (nI 1)), (2, .int (Int32.ofInt 0))] [am_rf (h.2.2.1 0 11)] h from ⟨ex_0 hP, ?_⟩)
  rw [show am_rf (h.2.2.1 0 11) = .ref 129 from congrArg am_rf (ex_r0_11 hP)]
  refine am_goX 2 (show ∃ jj nn : Nat, (am_sh h 129 = some (16, nn) ∨ am_sh h 129 = some (17, nn)) ∧ jj < nn ∧ nI 1 = nI jj ∧ pz_S 4 (some .boolean) am_r114 3 Q 17 [(0, .ref 0), (1, .int (nI 1)), (2, .int (Int32.ofInt 0))] [am_rf (h.2.2.1 129 jj)] h from ⟨1, 4, Or.inl (ex_129 hP), by decide, rfl, ?_⟩)
  rw [show am_rf (h.2.2.1 129 1) = .ref 136 from congrArg am_rf (ex_r129_1 hP)]
  refine am_goX 3 (show 3 < 4 ∧ (¬ (Int32.ofInt 0) = 0 → pz_S 4 (some .boolean) am_r114 3 Q 40 [(3, .ref 136), (0, .ref 0), (1, .int (nI 1)), (2, .int (Int32.ofInt 0))] [] h) ∧ (¬ ¬ (Int32.ofInt 0) = 0 → pz_S 4 (some .boolean) am_r114 3 Q 22 [(3, .ref 136), (0, .ref 0), (1, .int (nI 1)), (2, .int (Int32.ofInt 0))] [] h) from ⟨by decide, fun hz => absurd hz (by decide), fun _ => ?_⟩)
  refine am_goX 3 (show am_sh h 0 = some (10, 0) ∧ pz_S 4 (some .boolean) am_r114 3 Q 27 [(3, .ref 136), (0, .ref 0), (1, .int (nI 1)), (2, .int (Int32.ofInt 0))] [am_rf (h.2.2.1 0 7), .ref 136] h from ⟨ex_0 hP, ?_⟩)
  rw [show am_rf (h.2.2.1 0 7) = .ref 36 from congrArg am_rf (ex_r0_7 hP)]
  refine am_goX 2 (show am_sh h 0 = some (10, 0) ∧ pz_S 4 (some .boolean) am_r114 3 Q 31 [(3, .ref 136), (0, .ref 0), (1, .int (nI 1)), (2, .int (Int32.ofInt 0))] [.int (h.1 0 12), .ref 36, .ref 136] h from ⟨ex_0 hP, ?_⟩)
  rw [show h.1 0 12 = nI x from hx]
  refine am_goX 3 (show am_sh h 0 = some (10, 0) ∧ am_rc h 136 5 ∧ 0 ≤ 8 ∧ h.2.2.2.2 + am_al 115 ≤ 175 ∧ am_call am_cod 3 115 [.ref 136, .ref 36, .int (nI x), .int (h.1 0 13)] h (fun vv h' => pz_S 4 (some .boolean) am_r114 3 Q 38 [(3, .ref 136), (0, .ref 0), (1, .int (nI 1)), (2, .int (Int32.ofInt 0))] (vv.toList ++ []) h') from ⟨ex_0 hP, Or.inl ⟨by decide, ex_136 hP⟩, by decide, ex_lim hP rfl, am_call.up (k_115_1 hP (fun h152 f153 f154 f155 f156 f157 => ?_)) (by decide)⟩)
  have f158 : mC (mset M 1 s x) h152 := mC_set (m := 1) (fun a j n1 => f154.2 a j n1) f155 (sC_cp f156 hS) f157 hM
  have f159 : c_v 6 C h152 := c_v_fr (fun a k u1 u2 => f154.2 a k (by omega)) hT
  have f160 : c_d 6 C h152 := c_d_fr (fun k => f154.2 _ k (by omega)) hD
  have f161 : h152.2.2.1 0 3 = some 6 := (congrArg (fun q => q.2.1 0 3) f154.1).trans hR
  have f162 : sC 36 s h152 := sC_fr (fun a k u1 u2 => f154.2 a k (by omega)) hS
  have f163 : hC H h152 := hC_fr (fun a k u1 u2 => f154.2 a k (by omega)) hH
  have f164 : h152.1 0 12 = nI x := (f154.2 0 12 (by omega)).trans hx
  exact am_goX 2 (show (∃ ty, (some .boolean) = some ty ∧ narrow ty (.int (Int32.ofInt 1)) = .int (Int32.ofInt 1)) ∧ h152.2.2.2.2 = 175 ∧ _ from ⟨⟨.boolean, rfl, rfl⟩, ex_175 f153, hQ _ f153 hI f159 f160 f161 f162 f163 f158 f164⟩)
def d_114b1_s (s : dS) (H : dH) (M : dMk) (x : Nat) : dS := (M.2.1 1)
def d_114b1_H (s : dS) (H : dH) (M : dMk) (x : Nat) : dH := (0, H.2)
def d_114b1_x (s : dS) (H : dH) (M : dMk) (x : Nat) : Nat := (M.2.2 1)
def d_114b1 (s : dS) (H : dH) (M : dMk) (x : Nat) : Int32 := Int32.ofInt 1
theorem d_114_bK6_1 (hP : ex_P h) (hI : cI C) (hT : c_v 6 C h) (hD : c_d 6 C h) (hR : h.2.2.1 0 3 = some 6) (hS : sC 36 s h) (hH : hC H h) (hM : mC M h) (hx : h.1 0 12 = nI x) (hm1 : M.1 1 = true) (hQ : ∀ h1, (ex_P h1) → (cI C) → (c_v 6 C h1) → (c_d 6 C h1) → (h1.2.2.1 0 3 = some 6) → (sC 36 (d_114b1_s s H M x) h1) → (hC (d_114b1_H s H M x) h1) → (mC M h1) → (h1.1 0 12 = nI (d_114b1_x s H M x)) → Q (some (.int (d_114b1 s H M x))) h1) : am_call am_cod 4 114 [.ref 0, .int (nI 1), .int (Int32.ofInt 1)] h Q := by
  have h6 := hT.1.2.1
  have h5 := hT.2.1.2.1
  refine pz_call (n := 114) (nL := 4) (rt := (some .boolean)) (rows := am_r114) (d := 3) (by decide +kernel) (by decide +kernel) rfl (by funext pc; rfl) (ex_175 hP) (by exact Nat.le_of_ble_eq_true rfl) ?_
  refine am_goX 4 (show 0 ≤ 8 ∧ h.2.2.2.2 + am_al 60 ≤ 175 ∧ am_call am_cod 3 60 [.int (nI 1), .int (Int32.ofInt 0), .int (Int32.ofInt 3)] h (fun vv h' => pz_S 4 (some .boolean) am_r114 3 Q 6 [(0, .ref 0), (1, .int (nI 1)), (2, .int (Int32.ofInt 1))] (vv.toList ++ []) h') from ⟨by decide, ex_lim hP rfl, am_call.up (d_60_w hP ?_) (by decide)⟩)
  rw [show d_60 (nI 1) (Int32.ofInt 0) (Int32.ofInt 3) = Int32.ofInt 1 from (by decide)]
  refine am_goX 1 (show (¬ (Int32.ofInt 1) = 0 → pz_S 4 (some .boolean) am_r114 3 Q 11 [(0, .ref 0), (1, .int (nI 1)), (2, .int (Int32.ofInt 1))] [] h) ∧ (¬ ¬ (Int32.ofInt 1) = 0 → pz_S 4 (some .boolean) am_r114 3 Q 9 [(0, .ref 0), (1, .int (nI 1)), (2, .int (Int32.ofInt 1))] [] h) from ⟨fun _ => ?_, fun hz => absurd (by decide) hz⟩)
  refine am_goX 2 (show am_sh h 0 = some (10, 0) ∧ pz_S 4 (some .boolean) am_r114 3 Q 15 [(0, .ref 0), (1, .int (nI 1)), (2, .int (Int32.ofInt 1))] [am_rf (h.2.2.1 0 11)] h from ⟨ex_0 hP, ?_⟩)
  rw [show am_rf (h.2.2.1 0 11) = .ref 129 from congrArg am_rf (ex_r0_11 hP)]
  refine am_goX 2 (show ∃ jj nn : Nat, (am_sh h 129 = some (16, nn) ∨ am_sh h 129 = some (17, nn)) ∧ jj < nn ∧ nI 1 = nI jj ∧ pz_S 4 (some .boolean) am_r114 3 Q 17 [(0, .ref 0), (1, .int (nI 1)), (2, .int (Int32.ofInt 1))] [am_rf (h.2.2.1 129 jj)] h from ⟨1, 4, Or.inl (ex_129 hP), by decide, rfl, ?_⟩)
  rw [show am_rf (h.2.2.1 129 1) = .ref 136 from congrArg am_rf (ex_r129_1 hP)]
  refine am_goX 3 (show 3 < 4 ∧ (¬ (Int32.ofInt 1) = 0 → pz_S 4 (some .boolean) am_r114 3 Q 40 [(3, .ref 136), (0, .ref 0), (1, .int (nI 1)), (2, .int (Int32.ofInt 1))] [] h) ∧ (¬ ¬ (Int32.ofInt 1) = 0 → pz_S 4 (some .boolean) am_r114 3 Q 22 [(3, .ref 136), (0, .ref 0), (1, .int (nI 1)), (2, .int (Int32.ofInt 1))] [] h) from ⟨by decide, fun _ => ?_, fun hz => absurd (by decide) hz⟩)
  refine am_goX 2 (show am_sh h 136 = some (5, 0) ∧ pz_S 4 (some .boolean) am_r114 3 Q 44 [(3, .ref 136), (0, .ref 0), (1, .int (nI 1)), (2, .int (Int32.ofInt 1))] [.int (h.1 136 0)] h from ⟨ex_136 hP, ?_⟩)
  rw [show h.1 136 0 = Int32.ofInt 1 from ((hM 1 (by decide)).1.trans (by rw [hm1]; rfl))]
  refine am_goX 1 (show (¬ (Int32.ofInt 1) = 0 → pz_S 4 (some .boolean) am_r114 3 Q 49 [(3, .ref 136), (0, .ref 0), (1, .int (nI 1)), (2, .int (Int32.ofInt 1))] [] h) ∧ (¬ ¬ (Int32.ofInt 1) = 0 → pz_S 4 (some .boolean) am_r114 3 Q 47 [(3, .ref 136), (0, .ref 0), (1, .int (nI 1)), (2, .int (Int32.ofInt 1))] [] h) from ⟨fun _ => ?_, fun hz => absurd (by decide) hz⟩)
  refine am_goX 2 (show am_sh h 0 = some (10, 0) ∧ pz_S 4 (some .boolean) am_r114 3 Q 53 [(3, .ref 136), (0, .ref 0), (1, .int (nI 1)), (2, .int (Int32.ofInt 1))] [am_rf (h.2.2.1 0 7)] h from ⟨ex_0 hP, ?_⟩)
  rw [show am_rf (h.2.2.1 0 7) = .ref 36 from congrArg am_rf (ex_r0_7 hP)]
  refine am_goX 2 (show am_sh h 136 = some (5, 0) ∧ pz_S 4 (some .boolean) am_r114 3 Q 57 [(3, .ref 136), (0, .ref 0), (1, .int (nI 1)), (2, .int (Int32.ofInt 1))] [am_rf (h.2.2.1 136 1), .ref 36] h from ⟨ex_136 hP, ?_⟩)
  rw [show am_rf (h.2.2.1 136 1) = .ref 137 from congrArg am_rf (ex_r136_1 hP)]
  refine am_goX 1 (show am_rc h 36 6 ∧ 0 ≤ 8 ∧ h.2.2.2.2 + am_al 99 ≤ 175 ∧ am_call am_cod 3 99 [.ref 36, .ref 137] h (fun vv h' => pz_S 4 (some .boolean) am_r114 3 Q 60 [(3, .ref 136), (0, .ref 0), (1, .int (nI 1)), (2, .int (Int32.ofInt 1))] (vv.toList ++ []) h') from ⟨Or.inl ⟨by decide, ex_36 hP⟩, by decide, ex_lim hP rfl, am_call.up (q_99 stO_36 stO_137 (by decide) hP (fun h165 f166 f167 f168 f169 => ?_)) (by decide)⟩)
  have f170 : sC 36 (M.2.1 1) h165 := sC_cp f169 ((hM 1 (by decide)).2 hm1).1
  have f171 : c_v 6 C h165 := c_v_fr (fun a k u1 u2 => f168 a k (by omega)) hT
  have f172 : c_d 6 C h165 := c_d_fr (fun k => f168 _ k (by omega)) hD
  have f173 : h165.2.2.1 0 3 = some 6 := (congrArg (fun q => q.2.1 0 3) f167).trans hR
  have f174 : hC H h165 := hC_fr (fun a k u1 u2 => f168 a k (by omega)) hH
  have f175 : mC M h165 := mC_fr (fun a k u1 u2 => f168 a k (by omega)) hM
  have f176 : h165.1 0 12 = nI x := (f168 0 12 (by omega)).trans hx
  refine am_goX 3 (show am_sh h165 136 = some (5, 0) ∧ pz_S 4 (some .boolean) am_r114 3 Q 65 [(3, .ref 136), (0, .ref 0), (1, .int (nI 1)), (2, .int (Int32.ofInt 1))] [.int (h165.1 136 2), .ref 0] h165 from ⟨ex_136 f166, ?_⟩)
  rw [show h165.1 136 2 = nI (M.2.2 1) from ((f175 1 (by decide)).2 hm1).2]
  refine am_goX 1 (show am_sh h165 0 = some (10, 0) ∧ narrow (am_fty 10 12) (.int (nI (M.2.2 1))) = .int (nI (M.2.2 1)) ∧ fits (am_fty 10 12) (.int (nI (M.2.2 1))) = true ∧ pz_S 4 (some .boolean) am_r114 3 Q 68 [(3, .ref 136), (0, .ref 0), (1, .int (nI 1)), (2, .int (Int32.ofInt 1))] [] (am_wI h165 0 12 (nI (M.2.2 1))) from ⟨ex_0 f166, rfl, rfl, ?_⟩)
  have f178 : ex_P (am_wI h165 0 12 (nI (M.2.2 1))) := f166
  have f179 : cI C := hI
  have f180 : c_v 6 C (am_wI h165 0 12 (nI (M.2.2 1))) := c_v_w (by omega) f171
  have f181 : c_d 6 C (am_wI h165 0 12 (nI (M.2.2 1))) := c_d_w (by omega) f172
  have f182 : (am_wI h165 0 12 (nI (M.2.2 1))).2.2.1 0 3 = some 6 := f173
  have f183 : sC 36 (M.2.1 1) (am_wI h165 0 12 (nI (M.2.2 1))) := sC_w (by omega) f170
  have f184 : hC H (am_wI h165 0 12 (nI (M.2.2 1))) := hC_w (by omega) f174
  have f185 : mC M (am_wI h165 0 12 (nI (M.2.2 1))) := mC_w (by omega) f175
  have f186 : (am_wI h165 0 12 (nI (M.2.2 1))).1 0 12 = nI (M.2.2 1) := (em_we _ _ _ _).trans (rfl)
  generalize am_wI h165 0 12 (nI (M.2.2 1)) = h177 at f178 f179 f180 f181 f182 f183 f184 f185 f186 ⊢
  refine am_goX 4 (show am_sh h177 136 = some (5, 0) ∧ am_sh h177 0 = some (10, 0) ∧ narrow (am_fty 10 13) (.int (h177.1 136 3)) = .int (h177.1 136 3) ∧ fits (am_fty 10 13) (.int (h177.1 136 3)) = true ∧ pz_S 4 (some .boolean) am_r114 3 Q 76 [(3, .ref 136), (0, .ref 0), (1, .int (nI 1)), (2, .int (Int32.ofInt 1))] [] (am_wI h177 0 13 (h177.1 136 3)) from ⟨ex_136 f178, ex_0 f178, rfl, rfl, ?_⟩)
  have f188 : ex_P (am_wI h177 0 13 (h177.1 136 3)) := f178
  have f189 : cI C := f179
  have f190 : c_v 6 C (am_wI h177 0 13 (h177.1 136 3)) := c_v_w (by omega) f180
  have f191 : c_d 6 C (am_wI h177 0 13 (h177.1 136 3)) := c_d_w (by omega) f181
  have f192 : (am_wI h177 0 13 (h177.1 136 3)).2.2.1 0 3 = some 6 := f182
  have f193 : sC 36 (M.2.1 1) (am_wI h177 0 13 (h177.1 136 3)) := sC_w (by omega) f183
  have f194 : hC H (am_wI h177 0 13 (h177.1 136 3)) := hC_w (by omega) f184
  have f195 : mC M (am_wI h177 0 13 (h177.1 136 3)) := mC_w (by omega) f185
  have f196 : (am_wI h177 0 13 (h177.1 136 3)).1 0 12 = nI (M.2.2 1) := (em_wn _ _ (by omega)).trans f186
  generalize am_wI h177 0 13 (h177.1 136 3) = h187 at f188 f189 f190 f191 f192 f193 f194 f195 f196 ⊢
  refine am_goX 2 (show am_sh h187 0 = some (10, 0) ∧ pz_S 4 (some .boolean) am_r114 3 Q 80 [(3, .ref 136), (0, .ref 0), (1, .int (nI 1)), (2, .int (Int32.ofInt 1))] [am_rf (h187.2.2.1 0 10)] h187 from ⟨ex_0 f188, ?_⟩)
  rw [show am_rf (h187.2.2.1 0 10) = .ref 47 from congrArg am_rf (ex_r0_10 f188)]
  refine am_goX 2 (show am_sh h187 47 = some (2, 0) ∧ narrow (am_fty 2 2) (.int (Int32.ofInt 0)) = .int (Int32.ofInt 0) ∧ fits (am_fty 2 2) (.int (Int32.ofInt 0)) = true ∧ pz_S 4 (some .boolean) am_r114 3 Q 84 [(3, .ref 136), (0, .ref 0), (1, .int (nI 1)), (2, .int (Int32.ofInt 1))] [] (am_wI h187 47 2 (Int32.ofInt 0)) from ⟨ex_47 f188, rfl, rfl, ?_⟩)
  have f198 : ex_P (am_wI h187 47 2 (Int32.ofInt 0)) := f188
  have f199 : cI C := f189
  have f200 : c_v 6 C (am_wI h187 47 2 (Int32.ofInt 0)) := c_v_w (by omega) f190
  have f201 : c_d 6 C (am_wI h187 47 2 (Int32.ofInt 0)) := c_d_w (by omega) f191
  have f202 : (am_wI h187 47 2 (Int32.ofInt 0)).2.2.1 0 3 = some 6 := f192
  have f203 : sC 36 (M.2.1 1) (am_wI h187 47 2 (Int32.ofInt 0)) := sC_w (by omega) f193
  have f204 : hC (0, H.2) (am_wI h187 47 2 (Int32.ofInt 0)) := hC_z f194
  have f205 : mC M (am_wI h187 47 2 (Int32.ofInt 0)) := mC_w (by omega) f195
  have f206 : (am_wI h187 47 2 (Int32.ofInt 0)).1 0 12 = nI (M.2.2 1) := (em_wn _ _ (by omega)).trans f196
  generalize am_wI h187 47 2 (Int32.ofInt 0) = h197 at f198 f199 f200 f201 f202 f203 f204 f205 f206 ⊢
  exact am_goX 2 (show (∃ ty, (some .boolean) = some ty ∧ narrow ty (.int (Int32.ofInt 1)) = .int (Int32.ofInt 1)) ∧ h197.2.2.2.2 = 175 ∧ _ from ⟨⟨.boolean, rfl, rfl⟩, ex_175 f198, hQ _ f198 f199 f200 f201 f202 f203 f204 f205 f206⟩)
theorem d_114_nK6_1 (hP : ex_P h) (hI : cI C) (hT : c_v 6 C h) (hD : c_d 6 C h) (hR : h.2.2.1 0 3 = some 6) (hS : sC 36 s h) (hH : hC H h) (hM : mC M h) (hx : h.1 0 12 = nI x) (hm1 : M.1 1 = false) (hQ : ∀ h1, (ex_P h1) → (cI C) → (c_v 6 C h1) → (c_d 6 C h1) → (h1.2.2.1 0 3 = some 6) → (sC 36 s h1) → (hC H h1) → (mC M h1) → (h1.1 0 12 = nI x) → Q (some (.int d_114n)) h1) : am_call am_cod 4 114 [.ref 0, .int (nI 1), .int (Int32.ofInt 1)] h Q := by
  have h6 := hT.1.2.1
  have h5 := hT.2.1.2.1
  refine pz_call (n := 114) (nL := 4) (rt := (some .boolean)) (rows := am_r114) (d := 3) (by decide +kernel) (by decide +kernel) rfl (by funext pc; rfl) (ex_175 hP) (by exact Nat.le_of_ble_eq_true rfl) ?_
  refine am_goX 4 (show 0 ≤ 8 ∧ h.2.2.2.2 + am_al 60 ≤ 175 ∧ am_call am_cod 3 60 [.int (nI 1), .int (Int32.ofInt 0), .int (Int32.ofInt 3)] h (fun vv h' => pz_S 4 (some .boolean) am_r114 3 Q 6 [(0, .ref 0), (1, .int (nI 1)), (2, .int (Int32.ofInt 1))] (vv.toList ++ []) h') from ⟨by decide, ex_lim hP rfl, am_call.up (d_60_w hP ?_) (by decide)⟩)
  rw [show d_60 (nI 1) (Int32.ofInt 0) (Int32.ofInt 3) = Int32.ofInt 1 from (by decide)]
  refine am_goX 1 (show (¬ (Int32.ofInt 1) = 0 → pz_S 4 (some .boolean) am_r114 3 Q 11 [(0, .ref 0), (1, .int (nI 1)), (2, .int (Int32.ofInt 1))] [] h) ∧ (¬ ¬ (Int32.ofInt 1) = 0 → pz_S 4 (some .boolean) am_r114 3 Q 9 [(0, .ref 0), (1, .int (nI 1)), (2, .int (Int32.ofInt 1))] [] h) from ⟨fun _ => ?_, fun hz => absurd (by decide) hz⟩)
  refine am_goX 2 (show am_sh h 0 = some (10, 0) ∧ pz_S 4 (some .boolean) am_r114 3 Q 15 [(0, .ref 0), (1, .int (nI 1)), (2, .int (Int32.ofInt 1))] [am_rf (h.2.2.1 0 11)] h from ⟨ex_0 hP, ?_⟩)
  rw [show am_rf (h.2.2.1 0 11) = .ref 129 from congrArg am_rf (ex_r0_11 hP)]
  refine am_goX 2 (show ∃ jj nn : Nat, (am_sh h 129 = some (16, nn) ∨ am_sh h 129 = some (17, nn)) ∧ jj < nn ∧ nI 1 = nI jj ∧ pz_S 4 (some .boolean) am_r114 3 Q 17 [(0, .ref 0), (1, .int (nI 1)), (2, .int (Int32.ofInt 1))] [am_rf (h.2.2.1 129 jj)] h from ⟨1, 4, Or.inl (ex_129 hP), by decide, rfl, ?_⟩)
  rw [show am_rf (h.2.2.1 129 1) = .ref 136 from congrArg am_rf (ex_r129_1 hP)]
  refine am_goX 3 (show 3 < 4 ∧ (¬ (Int32.ofInt 1) = 0 → pz_S 4 (some .boolean) am_r114 3 Q 40 [(3, .ref 136), (0, .ref 0), (1, .int (nI 1)), (2, .int (Int32.ofInt 1))] [] h) ∧ (¬ ¬ (Int32.ofInt 1) = 0 → pz_S 4 (some .boolean) am_r114 3 Q 22 [(3, .ref 136), (0, .ref 0), (1, .int (nI 1)), (2, .int (Int32.ofInt 1))] [] h) from ⟨by decide, fun _ => ?_, fun hz => absurd (by decide) hz⟩)
  refine am_goX 2 (show am_sh h 136 = some (5, 0) ∧ pz_S 4 (some .boolean) am_r114 3 Q 44 [(3, .ref 136), (0, .ref 0), (1, .int (nI 1)), (2, .int (Int32.ofInt 1))] [.int (h.1 136 0)] h from ⟨ex_136 hP, ?_⟩)
  rw [show h.1 136 0 = Int32.ofInt 0 from ((hM 1 (by decide)).1.trans (by rw [hm1]; rfl))]
  refine am_goX 1 (show (¬ (Int32.ofInt 0) = 0 → pz_S 4 (some .boolean) am_r114 3 Q 49 [(3, .ref 136), (0, .ref 0), (1, .int (nI 1)), (2, .int (Int32.ofInt 1))] [] h) ∧ (¬ ¬ (Int32.ofInt 0) = 0 → pz_S 4 (some .boolean) am_r114 3 Q 47 [(3, .ref 136), (0, .ref 0), (1, .int (nI 1)), (2, .int (Int32.ofInt 1))] [] h) from ⟨fun hz => absurd hz (by decide), fun _ => ?_⟩)
  exact am_goX 2 (show (∃ ty, (some .boolean) = some ty ∧ narrow ty (.int (Int32.ofInt 0)) = .int (Int32.ofInt 0)) ∧ h.2.2.2.2 = 175 ∧ _ from ⟨⟨.boolean, rfl, rfl⟩, ex_175 hP, hQ _ hP hI hT hD hR hS hH hM hx⟩)
def d_114l2_M (s : dS) (H : dH) (M : dMk) (x : Nat) : dMk := (mset M 2 s x)
def d_114l2 (s : dS) (H : dH) (M : dMk) (x : Nat) : Int32 := Int32.ofInt 1
theorem d_114_lK6_2 (hP : ex_P h) (hI : cI C) (hT : c_v 6 C h) (hD : c_d 6 C h) (hR : h.2.2.1 0 3 = some 6) (hS : sC 36 s h) (hH : hC H h) (hM : mC M h) (hx : h.1 0 12 = nI x)  (hQ : ∀ h1, (ex_P h1) → (cI C) → (c_v 6 C h1) → (c_d 6 C h1) → (h1.2.2.1 0 3 = some 6) → (sC 36 s h1) → (hC H h1) → (mC (d_114l2_M s H M x) h1) → (h1.1 0 12 = nI x) → Q (some (.int (d_114l2 s H M x))) h1) : am_call am_cod 4 114 [.ref 0, .int (nI 2), .int (Int32.ofInt 0)] h Q := by
  have h6 := hT.1.2.1
  have h5 := hT.2.1.2.1
  refine pz_call (n := 114) (nL := 4) (rt := (some .boolean)) (rows := am_r114) (d := 3) (by decide +kernel) (by decide +kernel) rfl (by funext pc; rfl) (ex_175 hP) (by exact Nat.le_of_ble_eq_true rfl) ?_
  refine am_goX 4 (show 0 ≤ 8 ∧ h.2.2.2.2 + am_al 60 ≤ 175 ∧ am_call am_cod 3 60 [.int (nI 2), .int (Int32.ofInt 0), .int (Int32.ofInt 3)] h (fun vv h' => pz_S 4 (some .boolean) am_r114 3 Q 6 [(0, .ref 0), (1, .int (nI 2)), (2, .int (Int32.ofInt 0))] (vv.toList ++ []) h') from ⟨by decide, ex_lim hP rfl, am_call.up (d_60_w hP ?_) (by decide)⟩)
  rw [show d_60 (nI 2) (Int32.ofInt 0) (Int32.ofInt 3) = Int32.ofInt 1 from (by decide)]
  refine am_goX 1 (show (¬ (Int32.ofInt 1) = 0 → pz_S 4 (some .boolean) am_r114 3 Q 11 [(0, .ref 0), (1, .int (nI 2)), (2, .int (Int32.ofInt 0))] [] h) ∧ (¬ ¬ (Int32.ofInt 1) = 0 → pz_S 4 (some .boolean) am_r114 3 Q 9 [(0, .ref 0), (1, .int (nI 2)), (2, .int (Int32.ofInt 0))] [] h) from ⟨fun _ => ?_, fun hz => absurd (by decide) hz⟩)
  refine am_goX 2 (show am_sh h 0 = some (10, 0) ∧ pz_S 4 (some .boolean) am_r114 3 Q 15 [(0, .ref 0), (1, .int (nI 2)), (2, .int (Int32.ofInt 0))] [am_rf (h.2.2.1 0 11)] h from ⟨ex_0 hP, ?_⟩)
  rw [show am_rf (h.2.2.1 0 11) = .ref 129 from congrArg am_rf (ex_r0_11 hP)]
  refine am_goX 2 (show ∃ jj nn : Nat, (am_sh h 129 = some (16, nn) ∨ am_sh h 129 = some (17, nn)) ∧ jj < nn ∧ nI 2 = nI jj ∧ pz_S 4 (some .boolean) am_r114 3 Q 17 [(0, .ref 0), (1, .int (nI 2)), (2, .int (Int32.ofInt 0))] [am_rf (h.2.2.1 129 jj)] h from ⟨2, 4, Or.inl (ex_129 hP), by decide, rfl, ?_⟩)
  rw [show am_rf (h.2.2.1 129 2) = .ref 142 from congrArg am_rf (ex_r129_2 hP)]
  refine am_goX 3 (show 3 < 4 ∧ (¬ (Int32.ofInt 0) = 0 → pz_S 4 (some .boolean) am_r114 3 Q 40 [(3, .ref 142), (0, .ref 0), (1, .int (nI 2)), (2, .int (Int32.ofInt 0))] [] h) ∧ (¬ ¬ (Int32.ofInt 0) = 0 → pz_S 4 (some .boolean) am_r114 3 Q 22 [(3, .ref 142), (0, .ref 0), (1, .int (nI 2)), (2, .int (Int32.ofInt 0))] [] h) from ⟨by decide, fun hz => absurd hz (by decide), fun _ => ?_⟩)
  refine am_goX 3 (show am_sh h 0 = some (10, 0) ∧ pz_S 4 (some .boolean) am_r114 3 Q 27 [(3, .ref 142), (0, .ref 0), (1, .int (nI 2)), (2, .int (Int32.ofInt 0))] [am_rf (h.2.2.1 0 7), .ref 142] h from ⟨ex_0 hP, ?_⟩)
  rw [show am_rf (h.2.2.1 0 7) = .ref 36 from congrArg am_rf (ex_r0_7 hP)]
  refine am_goX 2 (show am_sh h 0 = some (10, 0) ∧ pz_S 4 (some .boolean) am_r114 3 Q 31 [(3, .ref 142), (0, .ref 0), (1, .int (nI 2)), (2, .int (Int32.ofInt 0))] [.int (h.1 0 12), .ref 36, .ref 142] h from ⟨ex_0 hP, ?_⟩)
  rw [show h.1 0 12 = nI x from hx]
  refine am_goX 3 (show am_sh h 0 = some (10, 0) ∧ am_rc h 142 5 ∧ 0 ≤ 8 ∧ h.2.2.2.2 + am_al 115 ≤ 175 ∧ am_call am_cod 3 115 [.ref 142, .ref 36, .int (nI x), .int (h.1 0 13)] h (fun vv h' => pz_S 4 (some .boolean) am_r114 3 Q 38 [(3, .ref 142), (0, .ref 0), (1, .int (nI 2)), (2, .int (Int32.ofInt 0))] (vv.toList ++ []) h') from ⟨ex_0 hP, Or.inl ⟨by decide, ex_142 hP⟩, by decide, ex_lim hP rfl, am_call.up (k_115_2 hP (fun h207 f208 f209 f210 f211 f212 => ?_)) (by decide)⟩)
  have f213 : mC (mset M 2 s x) h207 := mC_set (m := 2) (fun a j n1 => f209.2 a j n1) f210 (sC_cp f211 hS) f212 hM
  have f214 : c_v 6 C h207 := c_v_fr (fun a k u1 u2 => f209.2 a k (by omega)) hT
  have f215 : c_d 6 C h207 := c_d_fr (fun k => f209.2 _ k (by omega)) hD
  have f216 : h207.2.2.1 0 3 = some 6 := (congrArg (fun q => q.2.1 0 3) f209.1).trans hR
  have f217 : sC 36 s h207 := sC_fr (fun a k u1 u2 => f209.2 a k (by omega)) hS
  have f218 : hC H h207 := hC_fr (fun a k u1 u2 => f209.2 a k (by omega)) hH
  have f219 : h207.1 0 12 = nI x := (f209.2 0 12 (by omega)).trans hx
  exact am_goX 2 (show (∃ ty, (some .boolean) = some ty ∧ narrow ty (.int (Int32.ofInt 1)) = .int (Int32.ofInt 1)) ∧ h207.2.2.2.2 = 175 ∧ _ from ⟨⟨.boolean, rfl, rfl⟩, ex_175 f208, hQ _ f208 hI f214 f215 f216 f217 f218 f213 f219⟩)
def d_114b2_s (s : dS) (H : dH) (M : dMk) (x : Nat) : dS := (M.2.1 2)
def d_114b2_H (s : dS) (H : dH) (M : dMk) (x : Nat) : dH := (0, H.2)
def d_114b2_x (s : dS) (H : dH) (M : dMk) (x : Nat) : Nat := (M.2.2 2)
def d_114b2 (s : dS) (H : dH) (M : dMk) (x : Nat) : Int32 := Int32.ofInt 1
theorem d_114_bK6_2 (hP : ex_P h) (hI : cI C) (hT : c_v 6 C h) (hD : c_d 6 C h) (hR : h.2.2.1 0 3 = some 6) (hS : sC 36 s h) (hH : hC H h) (hM : mC M h) (hx : h.1 0 12 = nI x) (hm1 : M.1 2 = true) (hQ : ∀ h1, (ex_P h1) → (cI C) → (c_v 6 C h1) → (c_d 6 C h1) → (h1.2.2.1 0 3 = some 6) → (sC 36 (d_114b2_s s H M x) h1) → (hC (d_114b2_H s H M x) h1) → (mC M h1) → (h1.1 0 12 = nI (d_114b2_x s H M x)) → Q (some (.int (d_114b2 s H M x))) h1) : am_call am_cod 4 114 [.ref 0, .int (nI 2), .int (Int32.ofInt 1)] h Q := by
  have h6 := hT.1.2.1
  have h5 := hT.2.1.2.1
  refine pz_call (n := 114) (nL := 4) (rt := (some .boolean)) (rows := am_r114) (d := 3) (by decide +kernel) (by decide +kernel) rfl (by funext pc; rfl) (ex_175 hP) (by exact Nat.le_of_ble_eq_true rfl) ?_
  refine am_goX 4 (show 0 ≤ 8 ∧ h.2.2.2.2 + am_al 60 ≤ 175 ∧ am_call am_cod 3 60 [.int (nI 2), .int (Int32.ofInt 0), .int (Int32.ofInt 3)] h (fun vv h' => pz_S 4 (some .boolean) am_r114 3 Q 6 [(0, .ref 0), (1, .int (nI 2)), (2, .int (Int32.ofInt 1))] (vv.toList ++ []) h') from ⟨by decide, ex_lim hP rfl, am_call.up (d_60_w hP ?_) (by decide)⟩)
  rw [show d_60 (nI 2) (Int32.ofInt 0) (Int32.ofInt 3) = Int32.ofInt 1 from (by decide)]
  refine am_goX 1 (show (¬ (Int32.ofInt 1) = 0 → pz_S 4 (some .boolean) am_r114 3 Q 11 [(0, .ref 0), (1, .int (nI 2)), (2, .int (Int32.ofInt 1))] [] h) ∧ (¬ ¬ (Int32.ofInt 1) = 0 → pz_S 4 (some .boolean) am_r114 3 Q 9 [(0, .ref 0), (1, .int (nI 2)), (2, .int (Int32.ofInt 1))] [] h) from ⟨fun _ => ?_, fun hz => absurd (by decide) hz⟩)
  refine am_goX 2 (show am_sh h 0 = some (10, 0) ∧ pz_S 4 (some .boolean) am_r114 3 Q 15 [(0, .ref 0), (1, .int (nI 2)), (2, .int (Int32.ofInt 1))] [am_rf (h.2.2.1 0 11)] h from ⟨ex_0 hP, ?_⟩)
  rw [show am_rf (h.2.2.1 0 11) = .ref 129 from congrArg am_rf (ex_r0_11 hP)]
  refine am_goX 2 (show ∃ jj nn : Nat, (am_sh h 129 = some (16, nn) ∨ am_sh h 129 = some (17, nn)) ∧ jj < nn ∧ nI 2 = nI jj ∧ pz_S 4 (some .boolean) am_r114 3 Q 17 [(0, .ref 0), (1, .int (nI 2)), (2, .int (Int32.ofInt 1))] [am_rf (h.2.2.1 129 jj)] h from ⟨2, 4, Or.inl (ex_129 hP), by decide, rfl, ?_⟩)
  rw [show am_rf (h.2.2.1 129 2) = .ref 142 from congrArg am_rf (ex_r129_2 hP)]
  refine am_goX 3 (show 3 < 4 ∧ (¬ (Int32.ofInt 1) = 0 → pz_S 4 (some .boolean) am_r114 3 Q 40 [(3, .ref 142), (0, .ref 0), (1, .int (nI 2)), (2, .int (Int32.ofInt 1))] [] h) ∧ (¬ ¬ (Int32.ofInt 1) = 0 → pz_S 4 (some .boolean) am_r114 3 Q 22 [(3, .ref 142), (0, .ref 0), (1, .int (nI 2)), (2, .int (Int32.ofInt 1))] [] h) from ⟨by decide, fun _ => ?_, fun hz => absurd (by decide) hz⟩)
  refine am_goX 2 (show am_sh h 142 = some (5, 0) ∧ pz_S 4 (some .boolean) am_r114 3 Q 44 [(3, .ref 142), (0, .ref 0), (1, .int (nI 2)), (2, .int (Int32.ofInt 1))] [.int (h.1 142 0)] h from ⟨ex_142 hP, ?_⟩)
  rw [show h.1 142 0 = Int32.ofInt 1 from ((hM 2 (by decide)).1.trans (by rw [hm1]; rfl))]
  refine am_goX 1 (show (¬ (Int32.ofInt 1) = 0 → pz_S 4 (some .boolean) am_r114 3 Q 49 [(3, .ref 142), (0, .ref 0), (1, .int (nI 2)), (2, .int (Int32.ofInt 1))] [] h) ∧ (¬ ¬ (Int32.ofInt 1) = 0 → pz_S 4 (some .boolean) am_r114 3 Q 47 [(3, .ref 142), (0, .ref 0), (1, .int (nI 2)), (2, .int (Int32.ofInt 1))] [] h) from ⟨fun _ => ?_, fun hz => absurd (by decide) hz⟩)
  refine am_goX 2 (show am_sh h 0 = some (10, 0) ∧ pz_S 4 (some .boolean) am_r114 3 Q 53 [(3, .ref 142), (0, .ref 0), (1, .int (nI 2)), (2, .int (Int32.ofInt 1))] [am_rf (h.2.2.1 0 7)] h from ⟨ex_0 hP, ?_⟩)
  rw [show am_rf (h.2.2.1 0 7) = .ref 36 from congrArg am_rf (ex_r0_7 hP)]
  refine am_goX 2 (show am_sh h 142 = some (5, 0) ∧ pz_S 4 (some .boolean) am_r114 3 Q 57 [(3, .ref 142), (0, .ref 0), (1, .int (nI 2)), (2, .int (Int32.ofInt 1))] [am_rf (h.2.2.1 142 1), .ref 36] h from ⟨ex_142 hP, ?_⟩)
  rw [show am_rf (h.2.2.1 142 1) = .ref 143 from congrArg am_rf (ex_r142_1 hP)]
  refine am_goX 1 (show am_rc h 36 6 ∧ 0 ≤ 8 ∧ h.2.2.2.2 + am_al 99 ≤ 175 ∧ am_call am_cod 3 99 [.ref 36, .ref 143] h (fun vv h' => pz_S 4 (some .boolean) am_r114 3 Q 60 [(3, .ref 142), (0, .ref 0), (1, .int (nI 2)), (2, .int (Int32.ofInt 1))] (vv.toList ++ []) h') from ⟨Or.inl ⟨by decide, ex_36 hP⟩, by decide, ex_lim hP rfl, am_call.up (q_99 stO_36 stO_143 (by decide) hP (fun h220 f221 f222 f223 f224 => ?_)) (by decide)⟩)
  have f225 : sC 36 (M.2.1 2) h220 := sC_cp f224 ((hM 2 (by decide)).2 hm1).1
  have f226 : c_v 6 C h220 := c_v_fr (fun a k u1 u2 => f223 a k (by omega)) hT
  have f227 : c_d 6 C h220 := c_d_fr (fun k => f223 _ k (by omega)) hD
  have f228 : h220.2.2.1 0 3 = some 6 := (congrArg (fun q => q.2.1 0 3) f222).trans hR
  have f229 : hC H h220 := hC_fr (fun a k u1 u2 => f223 a k (by omega)) hH
  have f230 : mC M h220 := mC_fr (fun a k u1 u2 => f223 a k (by omega)) hM
  have f231 : h220.1 0 12 = nI x := (f223 0 12 (by omega)).trans hx
  refine am_goX 3 (show am_sh h220 142 = some (5, 0) ∧ pz_S 4 (some .boolean) am_r114 3 Q 65 [(3, .ref 142), (0, .ref 0), (1, .int (nI 2)), (2, .int (Int32.ofInt 1))] [.int (h220.1 142 2), .ref 0] h220 from ⟨ex_142 f221, ?_⟩)
  rw [show h220.1 142 2 = nI (M.2.2 2) from ((f230 2 (by decide)).2 hm1).2]
  refine am_goX 1 (show am_sh h220 0 = some (10, 0) ∧ narrow (am_fty 10 12) (.int (nI (M.2.2 2))) = .int (nI (M.2.2 2)) ∧ fits (am_fty 10 12) (.int (nI (M.2.2 2))) = true ∧ pz_S 4 (some .boolean) am_r114 3 Q 68 [(3, .ref 142), (0, .ref 0), (1, .int (nI 2)), (2, .int (Int32.ofInt 1))] [] (am_wI h220 0 12 (nI (M.2.2 2))) from ⟨ex_0 f221, rfl, rfl, ?_⟩)
  have f233 : ex_P (am_wI h220 0 12 (nI (M.2.2 2))) := f221
  have f234 : cI C := hI
  have f235 : c_v 6 C (am_wI h220 0 12 (nI (M.2.2 2))) := c_v_w (by omega) f226
  have f236 : c_d 6 C (am_wI h220 0 12 (nI (M.2.2 2))) := c_d_w (by omega) f227
  have f237 : (am_wI h220 0 12 (nI (M.2.2 2))).2.2.1 0 3 = some 6 := f228
  have f238 : sC 36 (M.2.1 2) (am_wI h220 0 12 (nI (M.2.2 2))) := sC_w (by omega) f225
  have f239 : hC H (am_wI h220 0 12 (nI (M.2.2 2))) := hC_w (by omega) f229
  have f240 : mC M (am_wI h220 0 12 (nI (M.2.2 2))) := mC_w (by omega) f230
  have f241 : (am_wI h220 0 12 (nI (M.2.2 2))).1 0 12 = nI (M.2.2 2) := (em_we _ _ _ _).trans (rfl)
  generalize am_wI h220 0 12 (nI (M.2.2 2)) = h232 at f233 f234 f235 f236 f237 f238 f239 f240 f241 ⊢
  refine am_goX 4 (show am_sh h232 142 = some (5, 0) ∧ am_sh h232 0 = some (10, 0) ∧ narrow (am_fty 10 13) (.int (h232.1 142 3)) = .int (h232.1 142 3) ∧ fits (am_fty 10 13) (.int (h232.1 142 3)) = true ∧ pz_S 4 (some .boolean) am_r114 3 Q 76 [(3, .ref 142), (0, .ref 0), (1, .int (nI 2)), (2, .int (Int32.ofInt 1))] [] (am_wI h232 0 13 (h232.1 142 3)) from ⟨ex_142 f233, ex_0 f233, rfl, rfl, ?_⟩)
  have f243 : ex_P (am_wI h232 0 13 (h232.1 142 3)) := f233
  have f244 : cI C := f234
  have f245 : c_v 6 C (am_wI h232 0 13 (h232.1 142 3)) := c_v_w (by omega) f235
  have f246 : c_d 6 C (am_wI h232 0 13 (h232.1 142 3)) := c_d_w (by omega) f236
  have f247 : (am_wI h232 0 13 (h232.1 142 3)).2.2.1 0 3 = some 6 := f237
  have f248 : sC 36 (M.2.1 2) (am_wI h232 0 13 (h232.1 142 3)) := sC_w (by omega) f238
  have f249 : hC H (am_wI h232 0 13 (h232.1 142 3)) := hC_w (by omega) f239
  have f250 : mC M (am_wI h232 0 13 (h232.1 142 3)) := mC_w (by omega) f240
  have f251 : (am_wI h232 0 13 (h232.1 142 3)).1 0 12 = nI (M.2.2 2) := (em_wn _ _ (by omega)).trans f241
  generalize am_wI h232 0 13 (h232.1 142 3) = h242 at f243 f244 f245 f246 f247 f248 f249 f250 f251 ⊢
  refine am_goX 2 (show am_sh h242 0 = some (10, 0) ∧ pz_S 4 (some .boolean) am_r114 3 Q 80 [(3, .ref 142), (0, .ref 0), (1, .int (nI 2)), (2, .int (Int32.ofInt 1))] [am_rf (h242.2.2.1 0 10)] h242 from ⟨ex_0 f243, ?_⟩)
  rw [show am_rf (h242.2.2.1 0 10) = .ref 47 from congrArg am_rf (ex_r0_10 f243)]
  refine am_goX 2 (show am_sh h242 47 = some (2, 0) ∧ narrow (am_fty 2 2) (.int (Int32.ofInt 0)) = .int (Int32.ofInt 0) ∧ fits (am_fty 2 2) (.int (Int32.ofInt 0)) = true ∧ pz_S 4 (some .boolean) am_r114 3 Q 84 [(3, .ref 142), (0, .ref 0), (1, .int (nI 2)), (2, .int (Int32.ofInt 1))] [] (am_wI h242 47 2 (Int32.ofInt 0)) from ⟨ex_47 f243, rfl, rfl, ?_⟩)
  have f253 : ex_P (am_wI h242 47 2 (Int32.ofInt 0)) := f243
  have f254 : cI C := f244
  have f255 : c_v 6 C (am_wI h242 47 2 (Int32.ofInt 0)) := c_v_w (by omega) f245
  have f256 : c_d 6 C (am_wI h242 47 2 (Int32.ofInt 0)) := c_d_w (by omega) f246
  have f257 : (am_wI h242 47 2 (Int32.ofInt 0)).2.2.1 0 3 = some 6 := f247
  have f258 : sC 36 (M.2.1 2) (am_wI h242 47 2 (Int32.ofInt 0)) := sC_w (by omega) f248
  have f259 : hC (0, H.2) (am_wI h242 47 2 (Int32.ofInt 0)) := hC_z f249
  have f260 : mC M (am_wI h242 47 2 (Int32.ofInt 0)) := mC_w (by omega) f250
  have f261 : (am_wI h242 47 2 (Int32.ofInt 0)).1 0 12 = nI (M.2.2 2) := (em_wn _ _ (by omega)).trans f251
  generalize am_wI h242 47 2 (Int32.ofInt 0) = h252 at f253 f254 f255 f256 f257 f258 f259 f260 f261 ⊢
  exact am_goX 2 (show (∃ ty, (some .boolean) = some ty ∧ narrow ty (.int (Int32.ofInt 1)) = .int (Int32.ofInt 1)) ∧ h252.2.2.2.2 = 175 ∧ _ from ⟨⟨.boolean, rfl, rfl⟩, ex_175 f253, hQ _ f253 f254 f255 f256 f257 f258 f259 f260 f261⟩)
theorem d_114_nK6_2 (hP : ex_P h) (hI : cI C) (hT : c_v 6 C h) (hD : c_d 6 C h) (hR : h.2.2.1 0 3 = some 6) (hS : sC 36 s h) (hH : hC H h) (hM : mC M h) (hx : h.1 0 12 = nI x) (hm1 : M.1 2 = false) (hQ : ∀ h1, (ex_P h1) → (cI C) → (c_v 6 C h1) → (c_d 6 C h1) → (h1.2.2.1 0 3 = some 6) → (sC 36 s h1) → (hC H h1) → (mC M h1) → (h1.1 0 12 = nI x) → Q (some (.int d_114n)) h1) : am_call am_cod 4 114 [.ref 0, .int (nI 2), .int (Int32.ofInt 1)] h Q := by
  have h6 := hT.1.2.1
  have h5 := hT.2.1.2.1
  refine pz_call (n := 114) (nL := 4) (rt := (some .boolean)) (rows := am_r114) (d := 3) (by decide +kernel) (by decide +kernel) rfl (by funext pc; rfl) (ex_175 hP) (by exact Nat.le_of_ble_eq_true rfl) ?_
  refine am_goX 4 (show 0 ≤ 8 ∧ h.2.2.2.2 + am_al 60 ≤ 175 ∧ am_call am_cod 3 60 [.int (nI 2), .int (Int32.ofInt 0), .int (Int32.ofInt 3)] h (fun vv h' => pz_S 4 (some .boolean) am_r114 3 Q 6 [(0, .ref 0), (1, .int (nI 2)), (2, .int (Int32.ofInt 1))] (vv.toList ++ []) h') from ⟨by decide, ex_lim hP rfl, am_call.up (d_60_w hP ?_) (by decide)⟩)
  rw [show d_60 (nI 2) (Int32.ofInt 0) (Int32.ofInt 3) = Int32.ofInt 1 from (by decide)]
  refine am_goX 1 (show (¬ (Int32.ofInt 1) = 0 → pz_S 4 (some .boolean) am_r114 3 Q 11 [(0, .ref 0), (1, .int (nI 2)), (2, .int (Int32.ofInt 1))] [] h) ∧ (¬ ¬ (Int32.ofInt 1) = 0 → pz_S 4 (some .boolean) am_r114 3 Q 9 [(0, .ref 0), (1, .int (nI 2)), (2, .int (Int32.ofInt 1))] [] h) from ⟨fun _ => ?_, fun hz => absurd (by decide) hz⟩)
  refine am_goX 2 (show am_sh h 0 = some (10, 0) ∧ pz_S 4 (some .boolean) am_r114 3 Q 15 [(0, .ref 0), (1, .int (nI 2)), (2, .int (Int32.ofInt 1))] [am_rf (h.2.2.1 0 11)] h from ⟨ex_0 hP, ?_⟩)
  rw [show am_rf (h.2.2.1 0 11) = .ref 129 from congrArg am_rf (ex_r0_11 hP)]
  refine am_goX 2 (show ∃ jj nn : Nat, (am_sh h 129 = some (16, nn) ∨ am_sh h 129 = some (17, nn)) ∧ jj < nn ∧ nI 2 = nI jj ∧ pz_S 4 (some .boolean) am_r114 3 Q 17 [(0, .ref 0), (1, .int (nI 2)), (2, .int (Int32.ofInt 1))] [am_rf (h.2.2.1 129 jj)] h from ⟨2, 4, Or.inl (ex_129 hP), by decide, rfl, ?_⟩)
  rw [show am_rf (h.2.2.1 129 2) = .ref 142 from congrArg am_rf (ex_r129_2 hP)]
  refine am_goX 3 (show 3 < 4 ∧ (¬ (Int32.ofInt 1) = 0 → pz_S 4 (some .boolean) am_r114 3 Q 40 [(3, .ref 142), (0, .ref 0), (1, .int (nI 2)), (2, .int (Int32.ofInt 1))] [] h) ∧ (¬ ¬ (Int32.ofInt 1) = 0 → pz_S 4 (some .boolean) am_r114 3 Q 22 [(3, .ref 142), (0, .ref 0), (1, .int (nI 2)), (2, .int (Int32.ofInt 1))] [] h) from ⟨by decide, fun _ => ?_, fun hz => absurd (by decide) hz⟩)
  refine am_goX 2 (show am_sh h 142 = some (5, 0) ∧ pz_S 4 (some .boolean) am_r114 3 Q 44 [(3, .ref 142), (0, .ref 0), (1, .int (nI 2)), (2, .int (Int32.ofInt 1))] [.int (h.1 142 0)] h from ⟨ex_142 hP, ?_⟩)
  rw [show h.1 142 0 = Int32.ofInt 0 from ((hM 2 (by decide)).1.trans (by rw [hm1]; rfl))]
  refine am_goX 1 (show (¬ (Int32.ofInt 0) = 0 → pz_S 4 (some .boolean) am_r114 3 Q 49 [(3, .ref 142), (0, .ref 0), (1, .int (nI 2)), (2, .int (Int32.ofInt 1))] [] h) ∧ (¬ ¬ (Int32.ofInt 0) = 0 → pz_S 4 (some .boolean) am_r114 3 Q 47 [(3, .ref 142), (0, .ref 0), (1, .int (nI 2)), (2, .int (Int32.ofInt 1))] [] h) from ⟨fun hz => absurd hz (by decide), fun _ => ?_⟩)
  exact am_goX 2 (show (∃ ty, (some .boolean) = some ty ∧ narrow ty (.int (Int32.ofInt 0)) = .int (Int32.ofInt 0)) ∧ h.2.2.2.2 = 175 ∧ _ from ⟨⟨.boolean, rfl, rfl⟩, ex_175 hP, hQ _ hP hI hT hD hR hS hH hM hx⟩)
def d_114l3_M (s : dS) (H : dH) (M : dMk) (x : Nat) : dMk := (mset M 3 s x)
def d_114l3 (s : dS) (H : dH) (M : dMk) (x : Nat) : Int32 := Int32.ofInt 1
theorem d_114_lK6_3 (hP : ex_P h) (hI : cI C) (hT : c_v 6 C h) (hD : c_d 6 C h) (hR : h.2.2.1 0 3 = some 6) (hS : sC 36 s h) (hH : hC H h) (hM : mC M h) (hx : h.1 0 12 = nI x)  (hQ : ∀ h1, (ex_P h1) → (cI C) → (c_v 6 C h1) → (c_d 6 C h1) → (h1.2.2.1 0 3 = some 6) → (sC 36 s h1) → (hC H h1) → (mC (d_114l3_M s H M x) h1) → (h1.1 0 12 = nI x) → Q (some (.int (d_114l3 s H M x))) h1) : am_call am_cod 4 114 [.ref 0, .int (nI 3), .int (Int32.ofInt 0)] h Q := by
  have h6 := hT.1.2.1
  have h5 := hT.2.1.2.1
  refine pz_call (n := 114) (nL := 4) (rt := (some .boolean)) (rows := am_r114) (d := 3) (by decide +kernel) (by decide +kernel) rfl (by funext pc; rfl) (ex_175 hP) (by exact Nat.le_of_ble_eq_true rfl) ?_
  refine am_goX 4 (show 0 ≤ 8 ∧ h.2.2.2.2 + am_al 60 ≤ 175 ∧ am_call am_cod 3 60 [.int (nI 3), .int (Int32.ofInt 0), .int (Int32.ofInt 3)] h (fun vv h' => pz_S 4 (some .boolean) am_r114 3 Q 6 [(0, .ref 0), (1, .int (nI 3)), (2, .int (Int32.ofInt 0))] (vv.toList ++ []) h') from ⟨by decide, ex_lim hP rfl, am_call.up (d_60_w hP ?_) (by decide)⟩)
  rw [show d_60 (nI 3) (Int32.ofInt 0) (Int32.ofInt 3) = Int32.ofInt 1 from (by decide)]
  refine am_goX 1 (show (¬ (Int32.ofInt 1) = 0 → pz_S 4 (some .boolean) am_r114 3 Q 11 [(0, .ref 0), (1, .int (nI 3)), (2, .int (Int32.ofInt 0))] [] h) ∧ (¬ ¬ (Int32.ofInt 1) = 0 → pz_S 4 (some .boolean) am_r114 3 Q 9 [(0, .ref 0), (1, .int (nI 3)), (2, .int (Int32.ofInt 0))] [] h) from ⟨fun _ => ?_, fun hz => absurd (by decide) hz⟩)
  refine am_goX 2 (show am_sh h 0 = some (10, 0) ∧ pz_S 4 (some .boolean) am_r114 3 Q 15 [(0, .ref 0), (1, .int (nI 3)), (2, .int (Int32.ofInt 0))] [am_rf (h.2.2.1 0 11)] h from ⟨ex_0 hP, ?_⟩)
  rw [show am_rf (h.2.2.1 0 11) = .ref 129 from congrArg am_rf (ex_r0_11 hP)]
  refine am_goX 2 (show ∃ jj nn : Nat, (am_sh h 129 = some (16, nn) ∨ am_sh h 129 = some (17, nn)) ∧ jj < nn ∧ nI 3 = nI jj ∧ pz_S 4 (some .boolean) am_r114 3 Q 17 [(0, .ref 0), (1, .int (nI 3)), (2, .int (Int32.ofInt 0))] [am_rf (h.2.2.1 129 jj)] h from ⟨3, 4, Or.inl (ex_129 hP), by decide, rfl, ?_⟩)
  rw [show am_rf (h.2.2.1 129 3) = .ref 148 from congrArg am_rf (ex_r129_3 hP)]
  refine am_goX 3 (show 3 < 4 ∧ (¬ (Int32.ofInt 0) = 0 → pz_S 4 (some .boolean) am_r114 3 Q 40 [(3, .ref 148), (0, .ref 0), (1, .int (nI 3)), (2, .int (Int32.ofInt 0))] [] h) ∧ (¬ ¬ (Int32.ofInt 0) = 0 → pz_S 4 (some .boolean) am_r114 3 Q 22 [(3, .ref 148), (0, .ref 0), (1, .int (nI 3)), (2, .int (Int32.ofInt 0))] [] h) from ⟨by decide, fun hz => absurd hz (by decide), fun _ => ?_⟩)
  refine am_goX 3 (show am_sh h 0 = some (10, 0) ∧ pz_S 4 (some .boolean) am_r114 3 Q 27 [(3, .ref 148), (0, .ref 0), (1, .int (nI 3)), (2, .int (Int32.ofInt 0))] [am_rf (h.2.2.1 0 7), .ref 148] h from ⟨ex_0 hP, ?_⟩)
  rw [show am_rf (h.2.2.1 0 7) = .ref 36 from congrArg am_rf (ex_r0_7 hP)]
  refine am_goX 2 (show am_sh h 0 = some (10, 0) ∧ pz_S 4 (some .boolean) am_r114 3 Q 31 [(3, .ref 148), (0, .ref 0), (1, .int (nI 3)), (2, .int (Int32.ofInt 0))] [.int (h.1 0 12), .ref 36, .ref 148] h from ⟨ex_0 hP, ?_⟩)
  rw [show h.1 0 12 = nI x from hx]
  refine am_goX 3 (show am_sh h 0 = some (10, 0) ∧ am_rc h 148 5 ∧ 0 ≤ 8 ∧ h.2.2.2.2 + am_al 115 ≤ 175 ∧ am_call am_cod 3 115 [.ref 148, .ref 36, .int (nI x), .int (h.1 0 13)] h (fun vv h' => pz_S 4 (some .boolean) am_r114 3 Q 38 [(3, .ref 148), (0, .ref 0), (1, .int (nI 3)), (2, .int (Int32.ofInt 0))] (vv.toList ++ []) h') from ⟨ex_0 hP, Or.inl ⟨by decide, ex_148 hP⟩, by decide, ex_lim hP rfl, am_call.up (k_115_3 hP (fun h262 f263 f264 f265 f266 f267 => ?_)) (by decide)⟩)
  have f268 : mC (mset M 3 s x) h262 := mC_set (m := 3) (fun a j n1 => f264.2 a j n1) f265 (sC_cp f266 hS) f267 hM
  have f269 : c_v 6 C h262 := c_v_fr (fun a k u1 u2 => f264.2 a k (by omega)) hT
  have f270 : c_d 6 C h262 := c_d_fr (fun k => f264.2 _ k (by omega)) hD
  have f271 : h262.2.2.1 0 3 = some 6 := (congrArg (fun q => q.2.1 0 3) f264.1).trans hR
  have f272 : sC 36 s h262 := sC_fr (fun a k u1 u2 => f264.2 a k (by omega)) hS
  have f273 : hC H h262 := hC_fr (fun a k u1 u2 => f264.2 a k (by omega)) hH
  have f274 : h262.1 0 12 = nI x := (f264.2 0 12 (by omega)).trans hx
  exact am_goX 2 (show (∃ ty, (some .boolean) = some ty ∧ narrow ty (.int (Int32.ofInt 1)) = .int (Int32.ofInt 1)) ∧ h262.2.2.2.2 = 175 ∧ _ from ⟨⟨.boolean, rfl, rfl⟩, ex_175 f263, hQ _ f263 hI f269 f270 f271 f272 f273 f268 f274⟩)
def d_114b3_s (s : dS) (H : dH) (M : dMk) (x : Nat) : dS := (M.2.1 3)
def d_114b3_H (s : dS) (H : dH) (M : dMk) (x : Nat) : dH := (0, H.2)
def d_114b3_x (s : dS) (H : dH) (M : dMk) (x : Nat) : Nat := (M.2.2 3)
def d_114b3 (s : dS) (H : dH) (M : dMk) (x : Nat) : Int32 := Int32.ofInt 1
theorem d_114_bK6_3 (hP : ex_P h) (hI : cI C) (hT : c_v 6 C h) (hD : c_d 6 C h) (hR : h.2.2.1 0 3 = some 6) (hS : sC 36 s h) (hH : hC H h) (hM : mC M h) (hx : h.1 0 12 = nI x) (hm1 : M.1 3 = true) (hQ : ∀ h1, (ex_P h1) → (cI C) → (c_v 6 C h1) → (c_d 6 C h1) → (h1.2.2.1 0 3 = some 6) → (sC 36 (d_114b3_s s H M x) h1) → (hC (d_114b3_H s H M x) h1) → (mC M h1) → (h1.1 0 12 = nI (d_114b3_x s H M x)) → Q (some (.int (d_114b3 s H M x))) h1) : am_call am_cod 4 114 [.ref 0, .int (nI 3), .int (Int32.ofInt 1)] h Q := by
  have h6 := hT.1.2.1
  have h5 := hT.2.1.2.1
  refine pz_call (n := 114) (nL := 4) (rt := (some .boolean)) (rows := am_r114) (d := 3) (by decide +kernel) (by decide +kernel) rfl (by funext pc; rfl) (ex_175 hP) (by exact Nat.le_of_ble_eq_true rfl) ?_
  refine am_goX 4 (show 0 ≤ 8 ∧ h.2.2.2.2 + am_al 60 ≤ 175 ∧ am_call am_cod 3 60 [.int (nI 3), .int (Int32.ofInt 0), .int (Int32.ofInt 3)] h (fun vv h' => pz_S 4 (some .boolean) am_r114 3 Q 6 [(0, .ref 0), (1, .int (nI 3)), (2, .int (Int32.ofInt 1))] (vv.toList ++ []) h') from ⟨by decide, ex_lim hP rfl, am_call.up (d_60_w hP ?_) (by decide)⟩)
  rw [show d_60 (nI 3) (Int32.ofInt 0) (Int32.ofInt 3) = Int32.ofInt 1 from (by decide)]
  refine am_goX 1 (show (¬ (Int32.ofInt 1) = 0 → pz_S 4 (some .boolean) am_r114 3 Q 11 [(0, .ref 0), (1, .int (nI 3)), (2, .int (Int32.ofInt 1))] [] h) ∧ (¬ ¬ (Int32.ofInt 1) = 0 → pz_S 4 (some .boolean) am_r114 3 Q 9 [(0, .ref 0), (1, .int (nI 3)), (2, .int (Int32.ofInt 1))] [] h) from ⟨fun _ => ?_, fun hz => absurd (by decide) hz⟩)
  refine am_goX 2 (show am_sh h 0 = some (10, 0) ∧ pz_S 4 (some .boolean) am_r114 3 Q 15 [(0, .ref 0), (1, .int (nI 3)), (2, .int (Int32.ofInt 1))] [am_rf (h.2.2.1 0 11)] h from ⟨ex_0 hP, ?_⟩)
  rw [show am_rf (h.2.2.1 0 11) = .ref 129 from congrArg am_rf (ex_r0_11 hP)]
  refine am_goX 2 (show ∃ jj nn : Nat, (am_sh h 129 = some (16, nn) ∨ am_sh h 129 = some (17, nn)) ∧ jj < nn ∧ nI 3 = nI jj ∧ pz_S 4 (some .boolean) am_r114 3 Q 17 [(0, .ref 0), (1, .int (nI 3)), (2, .int (Int32.ofInt 1))] [am_rf (h.2.2.1 129 jj)] h from ⟨3, 4, Or.inl (ex_129 hP), by decide, rfl, ?_⟩)
  rw [show am_rf (h.2.2.1 129 3) = .ref 148 from congrArg am_rf (ex_r129_3 hP)]
  refine am_goX 3 (show 3 < 4 ∧ (¬ (Int32.ofInt 1) = 0 → pz_S 4 (some .boolean) am_r114 3 Q 40 [(3, .ref 148), (0, .ref 0), (1, .int (nI 3)), (2, .int (Int32.ofInt 1))] [] h) ∧ (¬ ¬ (Int32.ofInt 1) = 0 → pz_S 4 (some .boolean) am_r114 3 Q 22 [(3, .ref 148), (0, .ref 0), (1, .int (nI 3)), (2, .int (Int32.ofInt 1))] [] h) from ⟨by decide, fun _ => ?_, fun hz => absurd (by decide) hz⟩)
  refine am_goX 2 (show am_sh h 148 = some (5, 0) ∧ pz_S 4 (some .boolean) am_r114 3 Q 44 [(3, .ref 148), (0, .ref 0), (1, .int (nI 3)), (2, .int (Int32.ofInt 1))] [.int (h.1 148 0)] h from ⟨ex_148 hP, ?_⟩)
  rw [show h.1 148 0 = Int32.ofInt 1 from ((hM 3 (by decide)).1.trans (by rw [hm1]; rfl))]
  refine am_goX 1 (show (¬ (Int32.ofInt 1) = 0 → pz_S 4 (some .boolean) am_r114 3 Q 49 [(3, .ref 148), (0, .ref 0), (1, .int (nI 3)), (2, .int (Int32.ofInt 1))] [] h) ∧ (¬ ¬ (Int32.ofInt 1) = 0 → pz_S 4 (some .boolean) am_r114 3 Q 47 [(3, .ref 148), (0, .ref 0), (1, .int (nI 3)), (2, .int (Int32.ofInt 1))] [] h) from ⟨fun _ => ?_, fun hz => absurd (by decide) hz⟩)
  refine am_goX 2 (show am_sh h 0 = some (10, 0) ∧ pz_S 4 (some .boolean) am_r114 3 Q 53 [(3, .ref 148), (0, .ref 0), (1, .int (nI 3)), (2, .int (Int32.ofInt 1))] [am_rf (h.2.2.1 0 7)] h from ⟨ex_0 hP, ?_⟩)
  rw [show am_rf (h.2.2.1 0 7) = .ref 36 from congrArg am_rf (ex_r0_7 hP)]
  refine am_goX 2 (show am_sh h 148 = some (5, 0) ∧ pz_S 4 (some .boolean) am_r114 3 Q 57 [(3, .ref 148), (0, .ref 0), (1, .int (nI 3)), (2, .int (Int32.ofInt 1))] [am_rf (h.2.2.1 148 1), .ref 36] h from ⟨ex_148 hP, ?_⟩)
  rw [show am_rf (h.2.2.1 148 1) = .ref 149 from congrArg am_rf (ex_r148_1 hP)]
  refine am_goX 1 (show am_rc h 36 6 ∧ 0 ≤ 8 ∧ h.2.2.2.2 + am_al 99 ≤ 175 ∧ am_call am_cod 3 99 [.ref 36, .ref 149] h (fun vv h' => pz_S 4 (some .boolean) am_r114 3 Q 60 [(3, .ref 148), (0, .ref 0), (1, .int (nI 3)), (2, .int (Int32.ofInt 1))] (vv.toList ++ []) h') from ⟨Or.inl ⟨by decide, ex_36 hP⟩, by decide, ex_lim hP rfl, am_call.up (q_99 stO_36 stO_149 (by decide) hP (fun h275 f276 f277 f278 f279 => ?_)) (by decide)⟩)
  have f280 : sC 36 (M.2.1 3) h275 := sC_cp f279 ((hM 3 (by decide)).2 hm1).1
  have f281 : c_v 6 C h275 := c_v_fr (fun a k u1 u2 => f278 a k (by omega)) hT
  have f282 : c_d 6 C h275 := c_d_fr (fun k => f278 _ k (by omega)) hD
  have f283 : h275.2.2.1 0 3 = some 6 := (congrArg (fun q => q.2.1 0 3) f277).trans hR
  have f284 : hC H h275 := hC_fr (fun a k u1 u2 => f278 a k (by omega)) hH
  have f285 : mC M h275 := mC_fr (fun a k u1 u2 => f278 a k (by omega)) hM
  have f286 : h275.1 0 12 = nI x := (f278 0 12 (by omega)).trans hx
  refine am_goX 3 (show am_sh h275 148 = some (5, 0) ∧ pz_S 4 (some .boolean) am_r114 3 Q 65 [(3, .ref 148), (0, .ref 0), (1, .int (nI 3)), (2, .int (Int32.ofInt 1))] [.int (h275.1 148 2), .ref 0] h275 from ⟨ex_148 f276, ?_⟩)
  rw [show h275.1 148 2 = nI (M.2.2 3) from ((f285 3 (by decide)).2 hm1).2]
  refine am_goX 1 (show am_sh h275 0 = some (10, 0) ∧ narrow (am_fty 10 12) (.int (nI (M.2.2 3))) = .int (nI (M.2.2 3)) ∧ fits (am_fty 10 12) (.int (nI (M.2.2 3))) = true ∧ pz_S 4 (some .boolean) am_r114 3 Q 68 [(3, .ref 148), (0, .ref 0), (1, .int (nI 3)), (2, .int (Int32.ofInt 1))] [] (am_wI h275 0 12 (nI (M.2.2 3))) from ⟨ex_0 f276, rfl, rfl, ?_⟩)
  have f288 : ex_P (am_wI h275 0 12 (nI (M.2.2 3))) := f276
  have f289 : cI C := hI
  have f290 : c_v 6 C (am_wI h275 0 12 (nI (M.2.2 3))) := c_v_w (by omega) f281
  have f291 : c_d 6 C (am_wI h275 0 12 (nI (M.2.2 3))) := c_d_w (by omega) f282
  have f292 : (am_wI h275 0 12 (nI (M.2.2 3))).2.2.1 0 3 = some 6 := f283
  have f293 : sC 36 (M.2.1 3) (am_wI h275 0 12 (nI (M.2.2 3))) := sC_w (by omega) f280
  have f294 : hC H (am_wI h275 0 12 (nI (M.2.2 3))) := hC_w (by omega) f284
  have f295 : mC M (am_wI h275 0 12 (nI (M.2.2 3))) := mC_w (by omega) f285
  have f296 : (am_wI h275 0 12 (nI (M.2.2 3))).1 0 12 = nI (M.2.2 3) := (em_we _ _ _ _).trans (rfl)
  generalize am_wI h275 0 12 (nI (M.2.2 3)) = h287 at f288 f289 f290 f291 f292 f293 f294 f295 f296 ⊢
  refine am_goX 4 (show am_sh h287 148 = some (5, 0) ∧ am_sh h287 0 = some (10, 0) ∧ narrow (am_fty 10 13) (.int (h287.1 148 3)) = .int (h287.1 148 3) ∧ fits (am_fty 10 13) (.int (h287.1 148 3)) = true ∧ pz_S 4 (some .boolean) am_r114 3 Q 76 [(3, .ref 148), (0, .ref 0), (1, .int (nI 3)), (2, .int (Int32.ofInt 1))] [] (am_wI h287 0 13 (h287.1 148 3)) from ⟨ex_148 f288, ex_0 f288, rfl, rfl, ?_⟩)
  have f298 : ex_P (am_wI h287 0 13 (h287.1 148 3)) := f288
  have f299 : cI C := f289
  have f300 : c_v 6 C (am_wI h287 0 13 (h287.1 148 3)) := c_v_w (by omega) f290
  have f301 : c_d 6 C (am_wI h287 0 13 (h287.1 148 3)) := c_d_w (by omega) f291
  have f302 : (am_wI h287 0 13 (h287.1 148 3)).2.2.1 0 3 = some 6 := f292
  have f303 : sC 36 (M.2.1 3) (am_wI h287 0 13 (h287.1 148 3)) := sC_w (by omega) f293
  have f304 : hC H (am_wI h287 0 13 (h287.1 148 3)) := hC_w (by omega) f294
  have f305 : mC M (am_wI h287 0 13 (h287.1 148 3)) := mC_w (by omega) f295
  have f306 : (am_wI h287 0 13 (h287.1 148 3)).1 0 12 = nI (M.2.2 3) := (em_wn _ _ (by omega)).trans f296
  generalize am_wI h287 0 13 (h287.1 148 3) = h297 at f298 f299 f300 f301 f302 f303 f304 f305 f306 ⊢
  refine am_goX 2 (show am_sh h297 0 = some (10, 0) ∧ pz_S 4 (some .boolean) am_r114 3 Q 80 [(3, .ref 148), (0, .ref 0), (1, .int (nI 3)), (2, .int (Int32.ofInt 1))] [am_rf (h297.2.2.1 0 10)] h297 from ⟨ex_0 f298, ?_⟩)
  rw [show am_rf (h297.2.2.1 0 10) = .ref 47 from congrArg am_rf (ex_r0_10 f298)]
  refine am_goX 2 (show am_sh h297 47 = some (2, 0) ∧ narrow (am_fty 2 2) (.int (Int32.ofInt 0)) = .int (Int32.ofInt 0) ∧ fits (am_fty 2 2) (.int (Int32.ofInt 0)) = true ∧ pz_S 4 (some .boolean) am_r114 3 Q 84 [(3, .ref 148), (0, .ref 0), (1, .int (nI 3)), (2, .int (Int32.ofInt 1))] [] (am_wI h297 47 2 (Int32.ofInt 0)) from ⟨ex_47 f298, rfl, rfl, ?_⟩)
  have f308 : ex_P (am_wI h297 47 2 (Int32.ofInt 0)) := f298
  have f309 : cI C := f299
  have f310 : c_v 6 C (am_wI h297 47 2 (Int32.ofInt 0)) := c_v_w (by omega) f300
  have f311 : c_d 6 C (am_wI h297 47 2 (Int32.ofInt 0)) := c_d_w (by omega) f301
  have f312 : (am_wI h297 47 2 (Int32.ofInt 0)).2.2.1 0 3 = some 6 := f302
  have f313 : sC 36 (M.2.1 3) (am_wI h297 47 2 (Int32.ofInt 0)) := sC_w (by omega) f303
  have f314 : hC (0, H.2) (am_wI h297 47 2 (Int32.ofInt 0)) := hC_z f304
  have f315 : mC M (am_wI h297 47 2 (Int32.ofInt 0)) := mC_w (by omega) f305
  have f316 : (am_wI h297 47 2 (Int32.ofInt 0)).1 0 12 = nI (M.2.2 3) := (em_wn _ _ (by omega)).trans f306
  generalize am_wI h297 47 2 (Int32.ofInt 0) = h307 at f308 f309 f310 f311 f312 f313 f314 f315 f316 ⊢
  exact am_goX 2 (show (∃ ty, (some .boolean) = some ty ∧ narrow ty (.int (Int32.ofInt 1)) = .int (Int32.ofInt 1)) ∧ h307.2.2.2.2 = 175 ∧ _ from ⟨⟨.boolean, rfl, rfl⟩, ex_175 f308, hQ _ f308 f309 f310 f311 f312 f313 f314 f315 f316⟩)
theorem d_114_nK6_3 (hP : ex_P h) (hI : cI C) (hT : c_v 6 C h) (hD : c_d 6 C h) (hR : h.2.2.1 0 3 = some 6) (hS : sC 36 s h) (hH : hC H h) (hM : mC M h) (hx : h.1 0 12 = nI x) (hm1 : M.1 3 = false) (hQ : ∀ h1, (ex_P h1) → (cI C) → (c_v 6 C h1) → (c_d 6 C h1) → (h1.2.2.1 0 3 = some 6) → (sC 36 s h1) → (hC H h1) → (mC M h1) → (h1.1 0 12 = nI x) → Q (some (.int d_114n)) h1) : am_call am_cod 4 114 [.ref 0, .int (nI 3), .int (Int32.ofInt 1)] h Q := by
  have h6 := hT.1.2.1
  have h5 := hT.2.1.2.1
  refine pz_call (n := 114) (nL := 4) (rt := (some .boolean)) (rows := am_r114) (d := 3) (by decide +kernel) (by decide +kernel) rfl (by funext pc; rfl) (ex_175 hP) (by exact Nat.le_of_ble_eq_true rfl) ?_
  refine am_goX 4 (show 0 ≤ 8 ∧ h.2.2.2.2 + am_al 60 ≤ 175 ∧ am_call am_cod 3 60 [.int (nI 3), .int (Int32.ofInt 0), .int (Int32.ofInt 3)] h (fun vv h' => pz_S 4 (some .boolean) am_r114 3 Q 6 [(0, .ref 0), (1, .int (nI 3)), (2, .int (Int32.ofInt 1))] (vv.toList ++ []) h') from ⟨by decide, ex_lim hP rfl, am_call.up (d_60_w hP ?_) (by decide)⟩)
  rw [show d_60 (nI 3) (Int32.ofInt 0) (Int32.ofInt 3) = Int32.ofInt 1 from (by decide)]
  refine am_goX 1 (show (¬ (Int32.ofInt 1) = 0 → pz_S 4 (some .boolean) am_r114 3 Q 11 [(0, .ref 0), (1, .int (nI 3)), (2, .int (Int32.ofInt 1))] [] h) ∧ (¬ ¬ (Int32.ofInt 1) = 0 → pz_S 4 (some .boolean) am_r114 3 Q 9 [(0, .ref 0), (1, .int (nI 3)), (2, .int (Int32.ofInt 1))] [] h) from ⟨fun _ => ?_, fun hz => absurd (by decide) hz⟩)
  refine am_goX 2 (show am_sh h 0 = some (10, 0) ∧ pz_S 4 (some .boolean) am_r114 3 Q 15 [(0, .ref 0), (1, .int (nI 3)), (2, .int (Int32.ofInt 1))] [am_rf (h.2.2.1 0 11)] h from ⟨ex_0 hP, ?_⟩)
  rw [show am_rf (h.2.2.1 0 11) = .ref 129 from congrArg am_rf (ex_r0_11 hP)]
  refine am_goX 2 (show ∃ jj nn : Nat, (am_sh h 129 = some (16, nn) ∨ am_sh h 129 = some (17, nn)) ∧ jj < nn ∧ nI 3 = nI jj ∧ pz_S 4 (some .boolean) am_r114 3 Q 17 [(0, .ref 0), (1, .int (nI 3)), (2, .int (Int32.ofInt 1))] [am_rf (h.2.2.1 129 jj)] h from ⟨3, 4, Or.inl (ex_129 hP), by decide, rfl, ?_⟩)
  rw [show am_rf (h.2.2.1 129 3) = .ref 148 from congrArg am_rf (ex_r129_3 hP)]
  refine am_goX 3 (show 3 < 4 ∧ (¬ (Int32.ofInt 1) = 0 → pz_S 4 (some .boolean) am_r114 3 Q 40 [(3, .ref 148), (0, .ref 0), (1, .int (nI 3)), (2, .int (Int32.ofInt 1))] [] h) ∧ (¬ ¬ (Int32.ofInt 1) = 0 → pz_S 4 (some .boolean) am_r114 3 Q 22 [(3, .ref 148), (0, .ref 0), (1, .int (nI 3)), (2, .int (Int32.ofInt 1))] [] h) from ⟨by decide, fun _ => ?_, fun hz => absurd (by decide) hz⟩)
  refine am_goX 2 (show am_sh h 148 = some (5, 0) ∧ pz_S 4 (some .boolean) am_r114 3 Q 44 [(3, .ref 148), (0, .ref 0), (1, .int (nI 3)), (2, .int (Int32.ofInt 1))] [.int (h.1 148 0)] h from ⟨ex_148 hP, ?_⟩)
  rw [show h.1 148 0 = Int32.ofInt 0 from ((hM 3 (by decide)).1.trans (by rw [hm1]; rfl))]
  refine am_goX 1 (show (¬ (Int32.ofInt 0) = 0 → pz_S 4 (some .boolean) am_r114 3 Q 49 [(3, .ref 148), (0, .ref 0), (1, .int (nI 3)), (2, .int (Int32.ofInt 1))] [] h) ∧ (¬ ¬ (Int32.ofInt 0) = 0 → pz_S 4 (some .boolean) am_r114 3 Q 47 [(3, .ref 148), (0, .ref 0), (1, .int (nI 3)), (2, .int (Int32.ofInt 1))] [] h) from ⟨fun hz => absurd hz (by decide), fun _ => ?_⟩)
  exact am_goX 2 (show (∃ ty, (some .boolean) = some ty ∧ narrow ty (.int (Int32.ofInt 0)) = .int (Int32.ofInt 0)) ∧ h.2.2.2.2 = 175 ∧ _ from ⟨⟨.boolean, rfl, rfl⟩, ex_175 hP, hQ _ hP hI hT hD hR hS hH hM hx⟩)
theorem d_114_xK6 (hP : ex_P h) (hI : cI C) (hT : c_v 6 C h) (hD : c_d 6 C h) (hR : h.2.2.1 0 3 = some 6) (hS : sC 36 s h) (hH : hC H h) (hM : mC M h) (hx : h.1 0 12 = nI x) (ew : d_60 w (Int32.ofInt 0) (Int32.ofInt 3) = Int32.ofInt 0) (hQ : ∀ h1, (ex_P h1) → (cI C) → (c_v 6 C h1) → (c_d 6 C h1) → (h1.2.2.1 0 3 = some 6) → (sC 36 s h1) → (hC H h1) → (mC M h1) → (h1.1 0 12 = nI x) → Q (some (.int d_114n)) h1) : am_call am_cod 4 114 [.ref 0, .int w, .int b] h Q := by
  have h6 := hT.1.2.1
  have h5 := hT.2.1.2.1
  refine pz_call (n := 114) (nL := 4) (rt := (some .boolean)) (rows := am_r114) (d := 3) (by decide +kernel) (by decide +kernel) rfl (by funext pc; rfl) (ex_175 hP) (by exact Nat.le_of_ble_eq_true rfl) ?_
  refine am_goX 4 (show 0 ≤ 8 ∧ h.2.2.2.2 + am_al 60 ≤ 175 ∧ am_call am_cod 3 60 [.int w, .int (Int32.ofInt 0), .int (Int32.ofInt 3)] h (fun vv h' => pz_S 4 (some .boolean) am_r114 3 Q 6 [(0, .ref 0), (1, .int w), (2, .int b)] (vv.toList ++ []) h') from ⟨by decide, ex_lim hP rfl, am_call.up (d_60_w hP ?_) (by decide)⟩)
  rw [show d_60 w (Int32.ofInt 0) (Int32.ofInt 3) = Int32.ofInt 0 from ew]
  refine am_goX 1 (show (¬ (Int32.ofInt 0) = 0 → pz_S 4 (some .boolean) am_r114 3 Q 11 [(0, .ref 0), (1, .int w), (2, .int b)] [] h) ∧ (¬ ¬ (Int32.ofInt 0) = 0 → pz_S 4 (some .boolean) am_r114 3 Q 9 [(0, .ref 0), (1, .int w), (2, .int b)] [] h) from ⟨fun hz => absurd hz (by decide), fun _ => ?_⟩)
  exact am_goX 2 (show (∃ ty, (some .boolean) = some ty ∧ narrow ty (.int (Int32.ofInt 0)) = .int (Int32.ofInt 0)) ∧ h.2.2.2.2 = 175 ∧ _ from ⟨⟨.boolean, rfl, rfl⟩, ex_175 hP, hQ _ hP hI hT hD hR hS hH hM hx⟩)
theorem d_114_lK17_0 (hP : ex_P h) (hI : cI C) (hT : c_v 17 C h) (hD : c_d 17 C h) (hR : h.2.2.1 0 3 = some 17) (hS : sC 36 s h) (hH : hC H h) (hM : mC M h) (hx : h.1 0 12 = nI x)  (hQ : ∀ h1, (ex_P h1) → (cI C) → (c_v 17 C h1) → (c_d 17 C h1) → (h1.2.2.1 0 3 = some 17) → (sC 36 s h1) → (hC H h1) → (mC (d_114l0_M s H M x) h1) → (h1.1 0 12 = nI x) → Q (some (.int (d_114l0 s H M x))) h1) : am_call am_cod 4 114 [.ref 0, .int (nI 0), .int (Int32.ofInt 0)] h Q := by
  have h6 := hT.1.2.1
  have h5 := hT.2.1.2.1
  refine pz_call (n := 114) (nL := 4) (rt := (some .boolean)) (rows := am_r114) (d := 3) (by decide +kernel) (by decide +kernel) rfl (by funext pc; rfl) (ex_175 hP) (by exact Nat.le_of_ble_eq_true rfl) ?_
  refine am_goX 4 (show 0 ≤ 8 ∧ h.2.2.2.2 + am_al 60 ≤ 175 ∧ am_call am_cod 3 60 [.int (nI 0), .int (Int32.ofInt 0), .int (Int32.ofInt 3)] h (fun vv h' => pz_S 4 (some .boolean) am_r114 3 Q 6 [(0, .ref 0), (1, .int (nI 0)), (2, .int (Int32.ofInt 0))] (vv.toList ++ []) h') from ⟨by decide, ex_lim hP rfl, am_call.up (d_60_w hP ?_) (by decide)⟩)
  rw [show d_60 (nI 0) (Int32.ofInt 0) (Int32.ofInt 3) = Int32.ofInt 1 from (by decide)]
  refine am_goX 1 (show (¬ (Int32.ofInt 1) = 0 → pz_S 4 (some .boolean) am_r114 3 Q 11 [(0, .ref 0), (1, .int (nI 0)), (2, .int (Int32.ofInt 0))] [] h) ∧ (¬ ¬ (Int32.ofInt 1) = 0 → pz_S 4 (some .boolean) am_r114 3 Q 9 [(0, .ref 0), (1, .int (nI 0)), (2, .int (Int32.ofInt 0))] [] h) from ⟨fun _ => ?_, fun hz => absurd (by decide) hz⟩)
  refine am_goX 2 (show am_sh h 0 = some (10, 0) ∧ pz_S 4 (some .boolean) am_r114 3 Q 15 [(0, .ref 0), (1, .int (nI 0)), (2, .int (Int32.ofInt 0))] [am_rf (h.2.2.1 0 11)] h from ⟨ex_0 hP, ?_⟩)
  rw [show am_rf (h.2.2.1 0 11) = .ref 129 from congrArg am_rf (ex_r0_11 hP)]
  refine am_goX 2 (show ∃ jj nn : Nat, (am_sh h 129 = some (16, nn) ∨ am_sh h 129 = some (17, nn)) ∧ jj < nn ∧ nI 0 = nI jj ∧ pz_S 4 (some .boolean) am_r114 3 Q 17 [(0, .ref 0), (1, .int (nI 0)), (2, .int (Int32.ofInt 0))] [am_rf (h.2.2.1 129 jj)] h from ⟨0, 4, Or.inl (ex_129 hP), by decide, rfl, ?_⟩)
  rw [show am_rf (h.2.2.1 129 0) = .ref 130 from congrArg am_rf (ex_r129_0 hP)]
  refine am_goX 3 (show 3 < 4 ∧ (¬ (Int32.ofInt 0) = 0 → pz_S 4 (some .boolean) am_r114 3 Q 40 [(3, .ref 130), (0, .ref 0), (1, .int (nI 0)), (2, .int (Int32.ofInt 0))] [] h) ∧ (¬ ¬ (Int32.ofInt 0) = 0 → pz_S 4 (some .boolean) am_r114 3 Q 22 [(3, .ref 130), (0, .ref 0), (1, .int (nI 0)), (2, .int (Int32.ofInt 0))] [] h) from ⟨by decide, fun hz => absurd hz (by decide), fun _ => ?_⟩)
  refine am_goX 3 (show am_sh h 0 = some (10, 0) ∧ pz_S 4 (some .boolean) am_r114 3 Q 27 [(3, .ref 130), (0, .ref 0), (1, .int (nI 0)), (2, .int (Int32.ofInt 0))] [am_rf (h.2.2.1 0 7), .ref 130] h from ⟨ex_0 hP, ?_⟩)
  rw [show am_rf (h.2.2.1 0 7) = .ref 36 from congrArg am_rf (ex_r0_7 hP)]
  refine am_goX 2 (show am_sh h 0 = some (10, 0) ∧ pz_S 4 (some .boolean) am_r114 3 Q 31 [(3, .ref 130), (0, .ref 0), (1, .int (nI 0)), (2, .int (Int32.ofInt 0))] [.int (h.1 0 12), .ref 36, .ref 130] h from ⟨ex_0 hP, ?_⟩)
  rw [show h.1 0 12 = nI x from hx]
  refine am_goX 3 (show am_sh h 0 = some (10, 0) ∧ am_rc h 130 5 ∧ 0 ≤ 8 ∧ h.2.2.2.2 + am_al 115 ≤ 175 ∧ am_call am_cod 3 115 [.ref 130, .ref 36, .int (nI x), .int (h.1 0 13)] h (fun vv h' => pz_S 4 (some .boolean) am_r114 3 Q 38 [(3, .ref 130), (0, .ref 0), (1, .int (nI 0)), (2, .int (Int32.ofInt 0))] (vv.toList ++ []) h') from ⟨ex_0 hP, Or.inl ⟨by decide, ex_130 hP⟩, by decide, ex_lim hP rfl, am_call.up (k_115_0 hP (fun h317 f318 f319 f320 f321 f322 => ?_)) (by decide)⟩)
  have f323 : mC (mset M 0 s x) h317 := mC_set (m := 0) (fun a j n1 => f319.2 a j n1) f320 (sC_cp f321 hS) f322 hM
  have f324 : c_v 17 C h317 := c_v_fr (fun a k u1 u2 => f319.2 a k (by omega)) hT
  have f325 : c_d 17 C h317 := c_d_fr (fun k => f319.2 _ k (by omega)) hD
  have f326 : h317.2.2.1 0 3 = some 17 := (congrArg (fun q => q.2.1 0 3) f319.1).trans hR
  have f327 : sC 36 s h317 := sC_fr (fun a k u1 u2 => f319.2 a k (by omega)) hS
  have f328 : hC H h317 := hC_fr (fun a k u1 u2 => f319.2 a k (by omega)) hH
  have f329 : h317.1 0 12 = nI x := (f319.2 0 12 (by omega)).trans hx
  exact am_goX 2 (show (∃ ty, (some .boolean) = some ty ∧ narrow ty (.int (Int32.ofInt 1)) = .int (Int32.ofInt 1)) ∧ h317.2.2.2.2 = 175 ∧ _ from ⟨⟨.boolean, rfl, rfl⟩, ex_175 f318, hQ _ f318 hI f324 f325 f326 f327 f328 f323 f329⟩)
theorem d_114_bK17_0 (hP : ex_P h) (hI : cI C) (hT : c_v 17 C h) (hD : c_d 17 C h) (hR : h.2.2.1 0 3 = some 17) (hS : sC 36 s h) (hH : hC H h) (hM : mC M h) (hx : h.1 0 12 = nI x) (hm1 : M.1 0 = true) (hQ : ∀ h1, (ex_P h1) → (cI C) → (c_v 17 C h1) → (c_d 17 C h1) → (h1.2.2.1 0 3 = some 17) → (sC 36 (d_114b0_s s H M x) h1) → (hC (d_114b0_H s H M x) h1) → (mC M h1) → (h1.1 0 12 = nI (d_114b0_x s H M x)) → Q (some (.int (d_114b0 s H M x))) h1) : am_call am_cod 4 114 [.ref 0, .int (nI 0), .int (Int32.ofInt 1)] h Q := by
  have h6 := hT.1.2.1
  have h5 := hT.2.1.2.1
  refine pz_call (n := 114) (nL := 4) (rt := (some .boolean)) (rows := am_r114) (d := 3) (by decide +kernel) (by decide +kernel) rfl (by funext pc; rfl) (ex_175 hP) (by exact Nat.le_of_ble_eq_true rfl) ?_
  refine am_goX 4 (show 0 ≤ 8 ∧ h.2.2.2.2 + am_al 60 ≤ 175 ∧ am_call am_cod 3 60 [.int (nI 0), .int (Int32.ofInt 0), .int (Int32.ofInt 3)] h (fun vv h' => pz_S 4 (some .boolean) am_r114 3 Q 6 [(0, .ref 0), (1, .int (nI 0)), (2, .int (Int32.ofInt 1))] (vv.toList ++ []) h') from ⟨by decide, ex_lim hP rfl, am_call.up (d_60_w hP ?_) (by decide)⟩)
  rw [show d_60 (nI 0) (Int32.ofInt 0) (Int32.ofInt 3) = Int32.ofInt 1 from (by decide)]
  refine am_goX 1 (show (¬ (Int32.ofInt 1) = 0 → pz_S 4 (some .boolean) am_r114 3 Q 11 [(0, .ref 0), (1, .int (nI 0)), (2, .int (Int32.ofInt 1))] [] h) ∧ (¬ ¬ (Int32.ofInt 1) = 0 → pz_S 4 (some .boolean) am_r114 3 Q 9 [(0, .ref 0), (1, .int (nI 0)), (2, .int (Int32.ofInt 1))] [] h) from ⟨fun _ => ?_, fun hz => absurd (by decide) hz⟩)
  refine am_goX 2 (show am_sh h 0 = some (10, 0) ∧ pz_S 4 (some .boolean) am_r114 3 Q 15 [(0, .ref 0), (1, .int (nI 0)), (2, .int (Int32.ofInt 1))] [am_rf (h.2.2.1 0 11)] h from ⟨ex_0 hP, ?_⟩)
  rw [show am_rf (h.2.2.1 0 11) = .ref 129 from congrArg am_rf (ex_r0_11 hP)]
  refine am_goX 2 (show ∃ jj nn : Nat, (am_sh h 129 = some (16, nn) ∨ am_sh h 129 = some (17, nn)) ∧ jj < nn ∧ nI 0 = nI jj ∧ pz_S 4 (some .boolean) am_r114 3 Q 17 [(0, .ref 0), (1, .int (nI 0)), (2, .int (Int32.ofInt 1))] [am_rf (h.2.2.1 129 jj)] h from ⟨0, 4, Or.inl (ex_129 hP), by decide, rfl, ?_⟩)
  rw [show am_rf (h.2.2.1 129 0) = .ref 130 from congrArg am_rf (ex_r129_0 hP)]
  refine am_goX 3 (show 3 < 4 ∧ (¬ (Int32.ofInt 1) = 0 → pz_S 4 (some .boolean) am_r114 3 Q 40 [(3, .ref 130), (0, .ref 0), (1, .int (nI 0)), (2, .int (Int32.ofInt 1))] [] h) ∧ (¬ ¬ (Int32.ofInt 1) = 0 → pz_S 4 (some .boolean) am_r114 3 Q 22 [(3, .ref 130), (0, .ref 0), (1, .int (nI 0)), (2, .int (Int32.ofInt 1))] [] h) from ⟨by decide, fun _ => ?_, fun hz => absurd (by decide) hz⟩)
  refine am_goX 2 (show am_sh h 130 = some (5, 0) ∧ pz_S 4 (some .boolean) am_r114 3 Q 44 [(3, .ref 130), (0, .ref 0), (1, .int (nI 0)), (2, .int (Int32.ofInt 1))] [.int (h.1 130 0)] h from ⟨ex_130 hP, ?_⟩)
  rw [show h.1 130 0 = Int32.ofInt 1 from ((hM 0 (by decide)).1.trans (by rw [hm1]; rfl))]
  refine am_goX 1 (show (¬ (Int32.ofInt 1) = 0 → pz_S 4 (some .boolean) am_r114 3 Q 49 [(3, .ref 130), (0, .ref 0), (1, .int (nI 0)), (2, .int (Int32.ofInt 1))] [] h) ∧ (¬ ¬ (Int32.ofInt 1) = 0 → pz_S 4 (some .boolean) am_r114 3 Q 47 [(3, .ref 130), (0, .ref 0), (1, .int (nI 0)), (2, .int (Int32.ofInt 1))] [] h) from ⟨fun _ => ?_, fun hz => absurd (by decide) hz⟩)
  refine am_goX 2 (show am_sh h 0 = some (10, 0) ∧ pz_S 4 (some .boolean) am_r114 3 Q 53 [(3, .ref 130), (0, .ref 0), (1, .int (nI 0)), (2, .int (Int32.ofInt 1))] [am_rf (h.2.2.1 0 7)] h from ⟨ex_0 hP, ?_⟩)
  rw [show am_rf (h.2.2.1 0 7) = .ref 36 from congrArg am_rf (ex_r0_7 hP)]
  refine am_goX 2 (show am_sh h 130 = some (5, 0) ∧ pz_S 4 (some .boolean) am_r114 3 Q 57 [(3, .ref 130), (0, .ref 0), (1, .int (nI 0)), (2, .int (Int32.ofInt 1))] [am_rf (h.2.2.1 130 1), .ref 36] h from ⟨ex_130 hP, ?_⟩)
  rw [show am_rf (h.2.2.1 130 1) = .ref 131 from congrArg am_rf (ex_r130_1 hP)]
  refine am_goX 1 (show am_rc h 36 6 ∧ 0 ≤ 8 ∧ h.2.2.2.2 + am_al 99 ≤ 175 ∧ am_call am_cod 3 99 [.ref 36, .ref 131] h (fun vv h' => pz_S 4 (some .boolean) am_r114 3 Q 60 [(3, .ref 130), (0, .ref 0), (1, .int (nI 0)), (2, .int (Int32.ofInt 1))] (vv.toList ++ []) h') from ⟨Or.inl ⟨by decide, ex_36 hP⟩, by decide, ex_lim hP rfl, am_call.up (q_99 stO_36 stO_131 (by decide) hP (fun h330 f331 f332 f333 f334 => ?_)) (by decide)⟩)
  have f335 : sC 36 (M.2.1 0) h330 := sC_cp f334 ((hM 0 (by decide)).2 hm1).1
  have f336 : c_v 17 C h330 := c_v_fr (fun a k u1 u2 => f333 a k (by omega)) hT
  have f337 : c_d 17 C h330 := c_d_fr (fun k => f333 _ k (by omega)) hD
  have f338 : h330.2.2.1 0 3 = some 17 := (congrArg (fun q => q.2.1 0 3) f332).trans hR
  have f339 : hC H h330 := hC_fr (fun a k u1 u2 => f333 a k (by omega)) hH
  have f340 : mC M h330 := mC_fr (fun a k u1 u2 => f333 a k (by omega)) hM
  have f341 : h330.1 0 12 = nI x := (f333 0 12 (by omega)).trans hx
  refine am_goX 3 (show am_sh h330 130 = some (5, 0) ∧ pz_S 4 (some .boolean) am_r114 3 Q 65 [(3, .ref 130), (0, .ref 0), (1, .int (nI 0)), (2, .int (Int32.ofInt 1))] [.int (h330.1 130 2), .ref 0] h330 from ⟨ex_130 f331, ?_⟩)
  rw [show h330.1 130 2 = nI (M.2.2 0) from ((f340 0 (by decide)).2 hm1).2]
  refine am_goX 1 (show am_sh h330 0 = some (10, 0) ∧ narrow (am_fty 10 12) (.int (nI (M.2.2 0))) = .int (nI (M.2.2 0)) ∧ fits (am_fty 10 12) (.int (nI (M.2.2 0))) = true ∧ pz_S 4 (some .boolean) am_r114 3 Q 68 [(3, .ref 130), (0, .ref 0), (1, .int (nI 0)), (2, .int (Int32.ofInt 1))] [] (am_wI h330 0 12 (nI (M.2.2 0))) from ⟨ex_0 f331, rfl, rfl, ?_⟩)
  have f343 : ex_P (am_wI h330 0 12 (nI (M.2.2 0))) := f331
  have f344 : cI C := hI
  have f345 : c_v 17 C (am_wI h330 0 12 (nI (M.2.2 0))) := c_v_w (by omega) f336
  have f346 : c_d 17 C (am_wI h330 0 12 (nI (M.2.2 0))) := c_d_w (by omega) f337
  have f347 : (am_wI h330 0 12 (nI (M.2.2 0))).2.2.1 0 3 = some 17 := f338
  have f348 : sC 36 (M.2.1 0) (am_wI h330 0 12 (nI (M.2.2 0))) := sC_w (by omega) f335
  have f349 : hC H (am_wI h330 0 12 (nI (M.2.2 0))) := hC_w (by omega) f339
  have f350 : mC M (am_wI h330 0 12 (nI (M.2.2 0))) := mC_w (by omega) f340
  have f351 : (am_wI h330 0 12 (nI (M.2.2 0))).1 0 12 = nI (M.2.2 0) := (em_we _ _ _ _).trans (rfl)
  generalize am_wI h330 0 12 (nI (M.2.2 0)) = h342 at f343 f344 f345 f346 f347 f348 f349 f350 f351 ⊢
  refine am_goX 4 (show am_sh h342 130 = some (5, 0) ∧ am_sh h342 0 = some (10, 0) ∧ narrow (am_fty 10 13) (.int (h342.1 130 3)) = .int (h342.1 130 3) ∧ fits (am_fty 10 13) (.int (h342.1 130 3)) = true ∧ pz_S 4 (some .boolean) am_r114 3 Q 76 [(3, .ref 130), (0, .ref 0), (1, .int (nI 0)), (2, .int (Int32.ofInt 1))] [] (am_wI h342 0 13 (h342.1 130 3)) from ⟨ex_130 f343, ex_0 f343, rfl, rfl, ?_⟩)
  have f353 : ex_P (am_wI h342 0 13 (h342.1 130 3)) := f343
  have f354 : cI C := f344
  have f355 : c_v 17 C (am_wI h342 0 13 (h342.1 130 3)) := c_v_w (by omega) f345
  have f356 : c_d 17 C (am_wI h342 0 13 (h342.1 130 3)) := c_d_w (by omega) f346
  have f357 : (am_wI h342 0 13 (h342.1 130 3)).2.2.1 0 3 = some 17 := f347
  have f358 : sC 36 (M.2.1 0) (am_wI h342 0 13 (h342.1 130 3)) := sC_w (by omega) f348
  have f359 : hC H (am_wI h342 0 13 (h342.1 130 3)) := hC_w (by omega) f349
  have f360 : mC M (am_wI h342 0 13 (h342.1 130 3)) := mC_w (by omega) f350
  have f361 : (am_wI h342 0 13 (h342.1 130 3)).1 0 12 = nI (M.2.2 0) := (em_wn _ _ (by omega)).trans f351
  generalize am_wI h342 0 13 (h342.1 130 3) = h352 at f353 f354 f355 f356 f357 f358 f359 f360 f361 ⊢
  refine am_goX 2 (show am_sh h352 0 = some (10, 0) ∧ pz_S 4 (some .boolean) am_r114 3 Q 80 [(3, .ref 130), (0, .ref 0), (1, .int (nI 0)), (2, .int (Int32.ofInt 1))] [am_rf (h352.2.2.1 0 10)] h352 from ⟨ex_0 f353, ?_⟩)
  rw [show am_rf (h352.2.2.1 0 10) = .ref 47 from congrArg am_rf (ex_r0_10 f353)]
  refine am_goX 2 (show am_sh h352 47 = some (2, 0) ∧ narrow (am_fty 2 2) (.int (Int32.ofInt 0)) = .int (Int32.ofInt 0) ∧ fits (am_fty 2 2) (.int (Int32.ofInt 0)) = true ∧ pz_S 4 (some .boolean) am_r114 3 Q 84 [(3, .ref 130), (0, .ref 0), (1, .int (nI 0)), (2, .int (Int32.ofInt 1))] [] (am_wI h352 47 2 (Int32.ofInt 0)) from ⟨ex_47 f353, rfl, rfl, ?_⟩)
  have f363 : ex_P (am_wI h352 47 2 (Int32.ofInt 0)) := f353
  have f364 : cI C := f354
  have f365 : c_v 17 C (am_wI h352 47 2 (Int32.ofInt 0)) := c_v_w (by omega) f355
  have f366 : c_d 17 C (am_wI h352 47 2 (Int32.ofInt 0)) := c_d_w (by omega) f356
  have f367 : (am_wI h352 47 2 (Int32.ofInt 0)).2.2.1 0 3 = some 17 := f357
  have f368 : sC 36 (M.2.1 0) (am_wI h352 47 2 (Int32.ofInt 0)) := sC_w (by omega) f358
  have f369 : hC (0, H.2) (am_wI h352 47 2 (Int32.ofInt 0)) := hC_z f359
  have f370 : mC M (am_wI h352 47 2 (Int32.ofInt 0)) := mC_w (by omega) f360
  have f371 : (am_wI h352 47 2 (Int32.ofInt 0)).1 0 12 = nI (M.2.2 0) := (em_wn _ _ (by omega)).trans f361
  generalize am_wI h352 47 2 (Int32.ofInt 0) = h362 at f363 f364 f365 f366 f367 f368 f369 f370 f371 ⊢
  exact am_goX 2 (show (∃ ty, (some .boolean) = some ty ∧ narrow ty (.int (Int32.ofInt 1)) = .int (Int32.ofInt 1)) ∧ h362.2.2.2.2 = 175 ∧ _ from ⟨⟨.boolean, rfl, rfl⟩, ex_175 f363, hQ _ f363 f364 f365 f366 f367 f368 f369 f370 f371⟩)
theorem d_114_nK17_0 (hP : ex_P h) (hI : cI C) (hT : c_v 17 C h) (hD : c_d 17 C h) (hR : h.2.2.1 0 3 = some 17) (hS : sC 36 s h) (hH : hC H h) (hM : mC M h) (hx : h.1 0 12 = nI x) (hm1 : M.1 0 = false) (hQ : ∀ h1, (ex_P h1) → (cI C) → (c_v 17 C h1) → (c_d 17 C h1) → (h1.2.2.1 0 3 = some 17) → (sC 36 s h1) → (hC H h1) → (mC M h1) → (h1.1 0 12 = nI x) → Q (some (.int d_114n)) h1) : am_call am_cod 4 114 [.ref 0, .int (nI 0), .int (Int32.ofInt 1)] h Q := by
  have h6 := hT.1.2.1
  have h5 := hT.2.1.2.1
  refine pz_call (n := 114) (nL := 4) (rt := (some .boolean)) (rows := am_r114) (d := 3) (by decide +kernel) (by decide +kernel) rfl (by funext pc; rfl) (ex_175 hP) (by exact Nat.le_of_ble_eq_true rfl) ?_
  refine am_goX 4 (show 0 ≤ 8 ∧ h.2.2.2.2 + am_al 60 ≤ 175 ∧ am_call am_cod 3 60 [.int (nI 0), .int (Int32.ofInt 0), .int (Int32.ofInt 3)] h (fun vv h' => pz_S 4 (some .boolean) am_r114 3 Q 6 [(0, .ref 0), (1, .int (nI 0)), (2, .int (Int32.ofInt 1))] (vv.toList ++ []) h') from ⟨by decide, ex_lim hP rfl, am_call.up (d_60_w hP ?_) (by decide)⟩)
  rw [show d_60 (nI 0) (Int32.ofInt 0) (Int32.ofInt 3) = Int32.ofInt 1 from (by decide)]
  refine am_goX 1 (show (¬ (Int32.ofInt 1) = 0 → pz_S 4 (some .boolean) am_r114 3 Q 11 [(0, .ref 0), (1, .int (nI 0)), (2, .int (Int32.ofInt 1))] [] h) ∧ (¬ ¬ (Int32.ofInt 1) = 0 → pz_S 4 (some .boolean) am_r114 3 Q 9 [(0, .ref 0), (1, .int (nI 0)), (2, .int (Int32.ofInt 1))] [] h) from ⟨fun _ => ?_, fun hz => absurd (by decide) hz⟩)
  refine am_goX 2 (show am_sh h 0 = some (10, 0) ∧ pz_S 4 (some .boolean) am_r114 3 Q 15 [(0, .ref 0), (1, .int (nI 0)), (2, .int (Int32.ofInt 1))] [am_rf (h.2.2.1 0 11)] h from ⟨ex_0 hP, ?_⟩)
  rw [show am_rf (h.2.2.1 0 11) = .ref 129 from congrArg am_rf (ex_r0_11 hP)]
  refine am_goX 2 (show ∃ jj nn : Nat, (am_sh h 129 = some (16, nn) ∨ am_sh h 129 = some (17, nn)) ∧ jj < nn ∧ nI 0 = nI jj ∧ pz_S 4 (some .boolean) am_r114 3 Q 17 [(0, .ref 0), (1, .int (nI 0)), (2, .int (Int32.ofInt 1))] [am_rf (h.2.2.1 129 jj)] h from ⟨0, 4, Or.inl (ex_129 hP), by decide, rfl, ?_⟩)
  rw [show am_rf (h.2.2.1 129 0) = .ref 130 from congrArg am_rf (ex_r129_0 hP)]
  refine am_goX 3 (show 3 < 4 ∧ (¬ (Int32.ofInt 1) = 0 → pz_S 4 (some .boolean) am_r114 3 Q 40 [(3, .ref 130), (0, .ref 0), (1, .int (nI 0)), (2, .int (Int32.ofInt 1))] [] h) ∧ (¬ ¬ (Int32.ofInt 1) = 0 → pz_S 4 (some .boolean) am_r114 3 Q 22 [(3, .ref 130), (0, .ref 0), (1, .int (nI 0)), (2, .int (Int32.ofInt 1))] [] h) from ⟨by decide, fun _ => ?_, fun hz => absurd (by decide) hz⟩)
  refine am_goX 2 (show am_sh h 130 = some (5, 0) ∧ pz_S 4 (some .boolean) am_r114 3 Q 44 [(3, .ref 130), (0, .ref 0), (1, .int (nI 0)), (2, .int (Int32.ofInt 1))] [.int (h.1 130 0)] h from ⟨ex_130 hP, ?_⟩)
  rw [show h.1 130 0 = Int32.ofInt 0 from ((hM 0 (by decide)).1.trans (by rw [hm1]; rfl))]
  refine am_goX 1 (show (¬ (Int32.ofInt 0) = 0 → pz_S 4 (some .boolean) am_r114 3 Q 49 [(3, .ref 130), (0, .ref 0), (1, .int (nI 0)), (2, .int (Int32.ofInt 1))] [] h) ∧ (¬ ¬ (Int32.ofInt 0) = 0 → pz_S 4 (some .boolean) am_r114 3 Q 47 [(3, .ref 130), (0, .ref 0), (1, .int (nI 0)), (2, .int (Int32.ofInt 1))] [] h) from ⟨fun hz => absurd hz (by decide), fun _ => ?_⟩)
  exact am_goX 2 (show (∃ ty, (some .boolean) = some ty ∧ narrow ty (.int (Int32.ofInt 0)) = .int (Int32.ofInt 0)) ∧ h.2.2.2.2 = 175 ∧ _ from ⟨⟨.boolean, rfl, rfl⟩, ex_175 hP, hQ _ hP hI hT hD hR hS hH hM hx⟩)
theorem d_114_lK17_1 (hP : ex_P h) (hI : cI C) (hT : c_v 17 C h) (hD : c_d 17 C h) (hR : h.2.2.1 0 3 = some 17) (hS : sC 36 s h) (hH : hC H h) (hM : mC M h) (hx : h.1 0 12 = nI x)  (hQ : ∀ h1, (ex_P h1) → (cI C) → (c_v 17 C h1) → (c_d 17 C h1) → (h1.2.2.1 0 3 = some 17) → (sC 36 s h1) → (hC H h1) → (mC (d_114l1_M s H M x) h1) → (h1.1 0 12 = nI x) → Q (some (.int (d_114l1 s H M x))) h1) : am_call am_cod 4 114 [.ref 0, .int (nI 1), .int (Int32.ofInt 0)] h Q := by
  have h6 := hT.1.2.1
  have h5 := hT.2.1.2.1
  refine pz_call (n := 114) (nL := 4) (rt := (some .boolean)) (rows := am_r114) (d := 3) (by decide +kernel) (by decide +kernel) rfl (by funext pc; rfl) (ex_175 hP) (by exact Nat.le_of_ble_eq_true rfl) ?_
  refine am_goX 4 (show 0 ≤ 8 ∧ h.2.2.2.2 + am_al 60 ≤ 175 ∧ am_call am_cod 3 60 [.int (nI 1), .int (Int32.ofInt 0), .int (Int32.ofInt 3)] h (fun vv h' => pz_S 4 (some .boolean) am_r114 3 Q 6 [(0, .ref 0), (1, .int (nI 1)), (2, .int (Int32.ofInt 0))] (vv.toList ++ []) h') from ⟨by decide, ex_lim hP rfl, am_call.up (d_60_w hP ?_) (by decide)⟩)
  rw [show d_60 (nI 1) (Int32.ofInt 0) (Int32.ofInt 3) = Int32.ofInt 1 from (by decide)]
  refine am_goX 1 (show (¬ (Int32.ofInt 1) = 0 → pz_S 4 (some .boolean) am_r114 3 Q 11 [(0, .ref 0), (1, .int (nI 1)), (2, .int (Int32.ofInt 0))] [] h) ∧ (¬ ¬ (Int32.ofInt 1) = 0 → pz_S 4 (some .boolean) am_r114 3 Q 9 [(0, .ref 0), (1, .int (nI 1)), (2, .int (Int32.ofInt 0))] [] h) from ⟨fun _ => ?_, fun hz => absurd (by decide) hz⟩)
  refine am_goX 2 (show am_sh h 0 = some (10, 0) ∧ pz_S 4 (some .boolean) am_r114 3 Q 15 [(0, .ref 0), (1, .int (nI 1)), (2, .int (Int32.ofInt 0))] [am_rf (h.2.2.1 0 11)] h from ⟨ex_0 hP, ?_⟩)
  rw [show am_rf (h.2.2.1 0 11) = .ref 129 from congrArg am_rf (ex_r0_11 hP)]
  refine am_goX 2 (show ∃ jj nn : Nat, (am_sh h 129 = some (16, nn) ∨ am_sh h 129 = some (17, nn)) ∧ jj < nn ∧ nI 1 = nI jj ∧ pz_S 4 (some .boolean) am_r114 3 Q 17 [(0, .ref 0), (1, .int (nI 1)), (2, .int (Int32.ofInt 0))] [am_rf (h.2.2.1 129 jj)] h from ⟨1, 4, Or.inl (ex_129 hP), by decide, rfl, ?_⟩)
  rw [show am_rf (h.2.2.1 129 1) = .ref 136 from congrArg am_rf (ex_r129_1 hP)]
  refine am_goX 3 (show 3 < 4 ∧ (¬ (Int32.ofInt 0) = 0 → pz_S 4 (some .boolean) am_r114 3 Q 40 [(3, .ref 136), (0, .ref 0), (1, .int (nI 1)), (2, .int (Int32.ofInt 0))] [] h) ∧ (¬ ¬ (Int32.ofInt 0) = 0 → pz_S 4 (some .boolean) am_r114 3 Q 22 [(3, .ref 136), (0, .ref 0), (1, .int (nI 1)), (2, .int (Int32.ofInt 0))] [] h) from ⟨by decide, fun hz => absurd hz (by decide), fun _ => ?_⟩)
  refine am_goX 3 (show am_sh h 0 = some (10, 0) ∧ pz_S 4 (some .boolean) am_r114 3 Q 27 [(3, .ref 136), (0, .ref 0), (1, .int (nI 1)), (2, .int (Int32.ofInt 0))] [am_rf (h.2.2.1 0 7), .ref 136] h from ⟨ex_0 hP, ?_⟩)
  rw [show am_rf (h.2.2.1 0 7) = .ref 36 from congrArg am_rf (ex_r0_7 hP)]
  refine am_goX 2 (show am_sh h 0 = some (10, 0) ∧ pz_S 4 (some .boolean) am_r114 3 Q 31 [(3, .ref 136), (0, .ref 0), (1, .int (nI 1)), (2, .int (Int32.ofInt 0))] [.int (h.1 0 12), .ref 36, .ref 136] h from ⟨ex_0 hP, ?_⟩)
  rw [show h.1 0 12 = nI x from hx]
  refine am_goX 3 (show am_sh h 0 = some (10, 0) ∧ am_rc h 136 5 ∧ 0 ≤ 8 ∧ h.2.2.2.2 + am_al 115 ≤ 175 ∧ am_call am_cod 3 115 [.ref 136, .ref 36, .int (nI x), .int (h.1 0 13)] h (fun vv h' => pz_S 4 (some .boolean) am_r114 3 Q 38 [(3, .ref 136), (0, .ref 0), (1, .int (nI 1)), (2, .int (Int32.ofInt 0))] (vv.toList ++ []) h') from ⟨ex_0 hP, Or.inl ⟨by decide, ex_136 hP⟩, by decide, ex_lim hP rfl, am_call.up (k_115_1 hP (fun h372 f373 f374 f375 f376 f377 => ?_)) (by decide)⟩)
  have f378 : mC (mset M 1 s x) h372 := mC_set (m := 1) (fun a j n1 => f374.2 a j n1) f375 (sC_cp f376 hS) f377 hM
  have f379 : c_v 17 C h372 := c_v_fr (fun a k u1 u2 => f374.2 a k (by omega)) hT
  have f380 : c_d 17 C h372 := c_d_fr (fun k => f374.2 _ k (by omega)) hD
  have f381 : h372.2.2.1 0 3 = some 17 := (congrArg (fun q => q.2.1 0 3) f374.1).trans hR
  have f382 : sC 36 s h372 := sC_fr (fun a k u1 u2 => f374.2 a k (by omega)) hS
  have f383 : hC H h372 := hC_fr (fun a k u1 u2 => f374.2 a k (by omega)) hH
  have f384 : h372.1 0 12 = nI x := (f374.2 0 12 (by omega)).trans hx
  exact am_goX 2 (show (∃ ty, (some .boolean) = some ty ∧ narrow ty (.int (Int32.ofInt 1)) = .int (Int32.ofInt 1)) ∧ h372.2.2.2.2 = 175 ∧ _ from ⟨⟨.boolean, rfl, rfl⟩, ex_175 f373, hQ _ f373 hI f379 f380 f381 f382 f383 f378 f384⟩)
theorem d_114_bK17_1 (hP : ex_P h) (hI : cI C) (hT : c_v 17 C h) (hD : c_d 17 C h) (hR : h.2.2.1 0 3 = some 17) (hS : sC 36 s h) (hH : hC H h) (hM : mC M h) (hx : h.1 0 12 = nI x) (hm1 : M.1 1 = true) (hQ : ∀ h1, (ex_P h1) → (cI C) → (c_v 17 C h1) → (c_d 17 C h1) → (h1.2.2.1 0 3 = some 17) → (sC 36 (d_114b1_s s H M x) h1) → (hC (d_114b1_H s H M x) h1) → (mC M h1) → (h1.1 0 12 = nI (d_114b1_x s H M x)) → Q (some (.int (d_114b1 s H M x))) h1) : am_call am_cod 4 114 [.ref 0, .int (nI 1), .int (Int32.ofInt 1)] h Q := by
  have h6 := hT.1.2.1
  have h5 := hT.2.1.2.1
  refine pz_call (n := 114) (nL := 4) (rt := (some .boolean)) (rows := am_r114) (d := 3) (by decide +kernel) (by decide +kernel) rfl (by funext pc; rfl) (ex_175 hP) (by exact Nat.le_of_ble_eq_true rfl) ?_
  refine am_goX 4 (show 0 ≤ 8 ∧ h.2.2.2.2 + am_al 60 ≤ 175 ∧ am_call am_cod 3 60 [.int (nI 1), .int (Int32.ofInt 0), .int (Int32.ofInt 3)] h (fun vv h' => pz_S 4 (some .boolean) am_r114 3 Q 6 [(0, .ref 0), (1, .int (nI 1)), (2, .int (Int32.ofInt 1))] (vv.toList ++ []) h') from ⟨by decide, ex_lim hP rfl, am_call.up (d_60_w hP ?_) (by decide)⟩)
  rw [show d_60 (nI 1) (Int32.ofInt 0) (Int32.ofInt 3) = Int32.ofInt 1 from (by decide)]
  refine am_goX 1 (show (¬ (Int32.ofInt 1) = 0 → pz_S 4 (some .boolean) am_r114 3 Q 11 [(0, .ref 0), (1, .int (nI 1)), (2, .int (Int32.ofInt 1))] [] h) ∧ (¬ ¬ (Int32.ofInt 1) = 0 → pz_S 4 (some .boolean) am_r114 3 Q 9 [(0, .ref 0), (1, .int (nI 1)), (2, .int (Int32.ofInt 1))] [] h) from ⟨fun _ => ?_, fun hz => absurd (by decide) hz⟩)
  refine am_goX 2 (show am_sh h 0 = some (10, 0) ∧ pz_S 4 (some .boolean) am_r114 3 Q 15 [(0, .ref 0), (1, .int (nI 1)), (2, .int (Int32.ofInt 1))] [am_rf (h.2.2.1 0 11)] h from ⟨ex_0 hP, ?_⟩)
  rw [show am_rf (h.2.2.1 0 11) = .ref 129 from congrArg am_rf (ex_r0_11 hP)]
  refine am_goX 2 (show ∃ jj nn : Nat, (am_sh h 129 = some (16, nn) ∨ am_sh h 129 = some (17, nn)) ∧ jj < nn ∧ nI 1 = nI jj ∧ pz_S 4 (some .boolean) am_r114 3 Q 17 [(0, .ref 0), (1, .int (nI 1)), (2, .int (Int32.ofInt 1))] [am_rf (h.2.2.1 129 jj)] h from ⟨1, 4, Or.inl (ex_129 hP), by decide, rfl, ?_⟩)
  rw [show am_rf (h.2.2.1 129 1) = .ref 136 from congrArg am_rf (ex_r129_1 hP)]
  refine am_goX 3 (show 3 < 4 ∧ (¬ (Int32.ofInt 1) = 0 → pz_S 4 (some .boolean) am_r114 3 Q 40 [(3, .ref 136), (0, .ref 0), (1, .int (nI 1)), (2, .int (Int32.ofInt 1))] [] h) ∧ (¬ ¬ (Int32.ofInt 1) = 0 → pz_S 4 (some .boolean) am_r114 3 Q 22 [(3, .ref 136), (0, .ref 0), (1, .int (nI 1)), (2, .int (Int32.ofInt 1))] [] h) from ⟨by decide, fun _ => ?_, fun hz => absurd (by decide) hz⟩)
  refine am_goX 2 (show am_sh h 136 = some (5, 0) ∧ pz_S 4 (some .boolean) am_r114 3 Q 44 [(3, .ref 136), (0, .ref 0), (1, .int (nI 1)), (2, .int (Int32.ofInt 1))] [.int (h.1 136 0)] h from ⟨ex_136 hP, ?_⟩)
  rw [show h.1 136 0 = Int32.ofInt 1 from ((hM 1 (by decide)).1.trans (by rw [hm1]; rfl))]
  refine am_goX 1 (show (¬ (Int32.ofInt 1) = 0 → pz_S 4 (some .boolean) am_r114 3 Q 49 [(3, .ref 136), (0, .ref 0), (1, .int (nI 1)), (2, .int (Int32.ofInt 1))] [] h) ∧ (¬ ¬ (Int32.ofInt 1) = 0 → pz_S 4 (some .boolean) am_r114 3 Q 47 [(3, .ref 136), (0, .ref 0), (1, .int (nI 1)), (2, .int (Int32.ofInt 1))] [] h) from ⟨fun _ => ?_, fun hz => absurd (by decide) hz⟩)
  refine am_goX 2 (show am_sh h 0 = some (10, 0) ∧ pz_S 4 (some .boolean) am_r114 3 Q 53 [(3, .ref 136), (0, .ref 0), (1, .int (nI 1)), (2, .int (Int32.ofInt 1))] [am_rf (h.2.2.1 0 7)] h from ⟨ex_0 hP, ?_⟩)
  rw [show am_rf (h.2.2.1 0 7) = .ref 36 from congrArg am_rf (ex_r0_7 hP)]
  refine am_goX 2 (show am_sh h 136 = some (5, 0) ∧ pz_S 4 (some .boolean) am_r114 3 Q 57 [(3, .ref 136), (0, .ref 0), (1, .int (nI 1)), (2, .int (Int32.ofInt 1))] [am_rf (h.2.2.1 136 1), .ref 36] h from ⟨ex_136 hP, ?_⟩)
  rw [show am_rf (h.2.2.1 136 1) = .ref 137 from congrArg am_rf (ex_r136_1 hP)]
  refine am_goX 1 (show am_rc h 36 6 ∧ 0 ≤ 8 ∧ h.2.2.2.2 + am_al 99 ≤ 175 ∧ am_call am_cod 3 99 [.ref 36, .ref 137] h (fun vv h' => pz_S 4 (some .boolean) am_r114 3 Q 60 [(3, .ref 136), (0, .ref 0), (1, .int (nI 1)), (2, .int (Int32.ofInt 1))] (vv.toList ++ []) h') from ⟨Or.inl ⟨by decide, ex_36 hP⟩, by decide, ex_lim hP rfl, am_call.up (q_99 stO_36 stO_137 (by decide) hP (fun h385 f386 f387 f388 f389 => ?_)) (by decide)⟩)
  have f390 : sC 36 (M.2.1 1) h385 := sC_cp f389 ((hM 1 (by decide)).2 hm1).1
  have f391 : c_v 17 C h385 := c_v_fr (fun a k u1 u2 => f388 a k (by omega)) hT
  have f392 : c_d 17 C h385 := c_d_fr (fun k => f388 _ k (by omega)) hD
  have f393 : h385.2.2.1 0 3 = some 17 := (congrArg (fun q => q.2.1 0 3) f387).trans hR
  have f394 : hC H h385 := hC_fr (fun a k u1 u2 => f388 a k (by omega)) hH
  have f395 : mC M h385 := mC_fr (fun a k u1 u2 => f388 a k (by omega)) hM
  have f396 : h385.1 0 12 = nI x := (f388 0 12 (by omega)).trans hx
  refine am_goX 3 (show am_sh h385 136 = some (5, 0) ∧ pz_S 4 (some .boolean) am_r114 3 Q 65 [(3, .ref 136), (0, .ref 0), (1, .int (nI 1)), (2, .int (Int32.ofInt 1))] [.int (h385.1 136 2), .ref 0] h385 from ⟨ex_136 f386, ?_⟩)
  rw [show h385.1 136 2 = nI (M.2.2 1) from ((f395 1 (by decide)).2 hm1).2]
  refine am_goX 1 (show am_sh h385 0 = some (10, 0) ∧ narrow (am_fty 10 12) (.int (nI (M.2.2 1))) = .int (nI (M.2.2 1)) ∧ fits (am_fty 10 12) (.int (nI (M.2.2 1))) = true ∧ pz_S 4 (some .boolean) am_r114 3 Q 68 [(3, .ref 136), (0, .ref 0), (1, .int (nI 1)), (2, .int (Int32.ofInt 1))] [] (am_wI h385 0 12 (nI (M.2.2 1))) from ⟨ex_0 f386, rfl, rfl, ?_⟩)
  have f398 : ex_P (am_wI h385 0 12 (nI (M.2.2 1))) := f386
  have f399 : cI C := hI
  have f400 : c_v 17 C (am_wI h385 0 12 (nI (M.2.2 1))) := c_v_w (by omega) f391
  have f401 : c_d 17 C (am_wI h385 0 12 (nI (M.2.2 1))) := c_d_w (by omega) f392
  have f402 : (am_wI h385 0 12 (nI (M.2.2 1))).2.2.1 0 3 = some 17 := f393
  have f403 : sC 36 (M.2.1 1) (am_wI h385 0 12 (nI (M.2.2 1))) := sC_w (by omega) f390
  have f404 : hC H (am_wI h385 0 12 (nI (M.2.2 1))) := hC_w (by omega) f394
  have f405 : mC M (am_wI h385 0 12 (nI (M.2.2 1))) := mC_w (by omega) f395
  have f406 : (am_wI h385 0 12 (nI (M.2.2 1))).1 0 12 = nI (M.2.2 1) := (em_we _ _ _ _).trans (rfl)
  generalize am_wI h385 0 12 (nI (M.2.2 1)) = h397 at f398 f399 f400 f401 f402 f403 f404 f405 f406 ⊢
  refine am_goX 4 (show am_sh h397 136 = some (5, 0) ∧ am_sh h397 0 = some (10, 0) ∧ narrow (am_fty 10 13) (.int (h397.1 136 3)) = .int (h397.1 136 3) ∧ fits (am_fty 10 13) (.int (h397.1 136 3)) = true ∧ pz_S 4 (some .boolean) am_r114 3 Q 76 [(3, .ref 136), (0, .ref 0), (1, .int (nI 1)), (2, .int (Int32.ofInt 1))] [] (am_wI h397 0 13 (h397.1 136 3)) from ⟨ex_136 f398, ex_0 f398, rfl, rfl, ?_⟩)
  have f408 : ex_P (am_wI h397 0 13 (h397.1 136 3)) := f398
  have f409 : cI C := f399
  have f410 : c_v 17 C (am_wI h397 0 13 (h397.1 136 3)) := c_v_w (by omega) f400
  have f411 : c_d 17 C (am_wI h397 0 13 (h397.1 136 3)) := c_d_w (by omega) f401
  have f412 : (am_wI h397 0 13 (h397.1 136 3)).2.2.1 0 3 = some 17 := f402
  have f413 : sC 36 (M.2.1 1) (am_wI h397 0 13 (h397.1 136 3)) := sC_w (by omega) f403
  have f414 : hC H (am_wI h397 0 13 (h397.1 136 3)) := hC_w (by omega) f404
  have f415 : mC M (am_wI h397 0 13 (h397.1 136 3)) := mC_w (by omega) f405
  have f416 : (am_wI h397 0 13 (h397.1 136 3)).1 0 12 = nI (M.2.2 1) := (em_wn _ _ (by omega)).trans f406
  generalize am_wI h397 0 13 (h397.1 136 3) = h407 at f408 f409 f410 f411 f412 f413 f414 f415 f416 ⊢
  refine am_goX 2 (show am_sh h407 0 = some (10, 0) ∧ pz_S 4 (some .boolean) am_r114 3 Q 80 [(3, .ref 136), (0, .ref 0), (1, .int (nI 1)), (2, .int (Int32.ofInt 1))] [am_rf (h407.2.2.1 0 10)] h407 from ⟨ex_0 f408, ?_⟩)
  rw [show am_rf (h407.2.2.1 0 10) = .ref 47 from congrArg am_rf (ex_r0_10 f408)]
  refine am_goX 2 (show am_sh h407 47 = some (2, 0) ∧ narrow (am_fty 2 2) (.int (Int32.ofInt 0)) = .int (Int32.ofInt 0) ∧ fits (am_fty 2 2) (.int (Int32.ofInt 0)) = true ∧ pz_S 4 (some .boolean) am_r114 3 Q 84 [(3, .ref 136), (0, .ref 0), (1, .int (nI 1)), (2, .int (Int32.ofInt 1))] [] (am_wI h407 47 2 (Int32.ofInt 0)) from ⟨ex_47 f408, rfl, rfl, ?_⟩)
  have f418 : ex_P (am_wI h407 47 2 (Int32.ofInt 0)) := f408
  have f419 : cI C := f409
  have f420 : c_v 17 C (am_wI h407 47 2 (Int32.ofInt 0)) := c_v_w (by omega) f410
  have f421 : c_d 17 C (am_wI h407 47 2 (Int32.ofInt 0)) := c_d_w (by omega) f411
  have f422 : (am_wI h407 47 2 (Int32.ofInt 0)).2.2.1 0 3 = some 17 := f412
  have f423 : sC 36 (M.2.1 1) (am_wI h407 47 2 (Int32.ofInt 0)) := sC_w (by omega) f413
  have f424 : hC (0, H.2) (am_wI h407 47 2 (Int32.ofInt 0)) := hC_z f414
  have f425 : mC M (am_wI h407 47 2 (Int32.ofInt 0)) := mC_w (by omega) f415
  have f426 : (am_wI h407 47 2 (Int32.ofInt 0)).1 0 12 = nI (M.2.2 1) := (em_wn _ _ (by omega)).trans f416
  generalize am_wI h407 47 2 (Int32.ofInt 0) = h417 at f418 f419 f420 f421 f422 f423 f424 f425 f426 ⊢
  exact am_goX 2 (show (∃ ty, (some .boolean) = some ty ∧ narrow ty (.int (Int32.ofInt 1)) = .int (Int32.ofInt 1)) ∧ h417.2.2.2.2 = 175 ∧ _ from ⟨⟨.boolean, rfl, rfl⟩, ex_175 f418, hQ _ f418 f419 f420 f421 f422 f423 f424 f425 f426⟩)
theorem d_114_nK17_1 (hP : ex_P h) (hI : cI C) (hT : c_v 17 C h) (hD : c_d 17 C h) (hR : h.2.2.1 0 3 = some 17) (hS : sC 36 s h) (hH : hC H h) (hM : mC M h) (hx : h.1 0 12 = nI x) (hm1 : M.1 1 = false) (hQ : ∀ h1, (ex_P h1) → (cI C) → (c_v 17 C h1) → (c_d 17 C h1) → (h1.2.2.1 0 3 = some 17) → (sC 36 s h1) → (hC H h1) → (mC M h1) → (h1.1 0 12 = nI x) → Q (some (.int d_114n)) h1) : am_call am_cod 4 114 [.ref 0, .int (nI 1), .int (Int32.ofInt 1)] h Q := by
  have h6 := hT.1.2.1
  have h5 := hT.2.1.2.1
  refine pz_call (n := 114) (nL := 4) (rt := (some .boolean)) (rows := am_r114) (d := 3) (by decide +kernel) (by decide +kernel) rfl (by funext pc; rfl) (ex_175 hP) (by exact Nat.le_of_ble_eq_true rfl) ?_
  refine am_goX 4 (show 0 ≤ 8 ∧ h.2.2.2.2 + am_al 60 ≤ 175 ∧ am_call am_cod 3 60 [.int (nI 1), .int (Int32.ofInt 0), .int (Int32.ofInt 3)] h (fun vv h' => pz_S 4 (some .boolean) am_r114 3 Q 6 [(0, .ref 0), (1, .int (nI 1)), (2, .int (Int32.ofInt 1))] (vv.toList ++ []) h') from ⟨by decide, ex_lim hP rfl, am_call.up (d_60_w hP ?_) (by decide)⟩)
  rw [show d_60 (nI 1) (Int32.ofInt 0) (Int32.ofInt 3) = Int32.ofInt 1 from (by decide)]
  refine am_goX 1 (show (¬ (Int32.ofInt 1) = 0 → pz_S 4 (some .boolean) am_r114 3 Q 11 [(0, .ref 0), (1, .int (nI 1)), (2, .int (Int32.ofInt 1))] [] h) ∧ (¬ ¬ (Int32.ofInt 1) = 0 → pz_S 4 (some .boolean) am_r114 3 Q 9 [(0, .ref 0), (1, .int (nI 1)), (2, .int (Int32.ofInt 1))] [] h) from ⟨fun _ => ?_, fun hz => absurd (by decide) hz⟩)
  refine am_goX 2 (show am_sh h 0 = some (10, 0) ∧ pz_S 4 (some .boolean) am_r114 3 Q 15 [(0, .ref 0), (1, .int (nI 1)), (2, .int (Int32.ofInt 1))] [am_rf (h.2.2.1 0 11)] h from ⟨ex_0 hP, ?_⟩)
  rw [show am_rf (h.2.2.1 0 11) = .ref 129 from congrArg am_rf (ex_r0_11 hP)]
  refine am_goX 2 (show ∃ jj nn : Nat, (am_sh h 129 = some (16, nn) ∨ am_sh h 129 = some (17, nn)) ∧ jj < nn ∧ nI 1 = nI jj ∧ pz_S 4 (some .boolean) am_r114 3 Q 17 [(0, .ref 0), (1, .int (nI 1)), (2, .int (Int32.ofInt 1))] [am_rf (h.2.2.1 129 jj)] h from ⟨1, 4, Or.inl (ex_129 hP), by decide, rfl, ?_⟩)
  rw [show am_rf (h.2.2.1 129 1) = .ref 136 from congrArg am_rf (ex_r129_1 hP)]
  refine am_goX 3 (show 3 < 4 ∧ (¬ (Int32.ofInt 1) = 0 → pz_S 4 (some .boolean) am_r114 3 Q 40 [(3, .ref 136), (0, .ref 0), (1, .int (nI 1)), (2, .int (Int32.ofInt 1))] [] h) ∧ (¬ ¬ (Int32.ofInt 1) = 0 → pz_S 4 (some .boolean) am_r114 3 Q 22 [(3, .ref 136), (0, .ref 0), (1, .int (nI 1)), (2, .int (Int32.ofInt 1))] [] h) from ⟨by decide, fun _ => ?_, fun hz => absurd (by decide) hz⟩)
  refine am_goX 2 (show am_sh h 136 = some (5, 0) ∧ pz_S 4 (some .boolean) am_r114 3 Q 44 [(3, .ref 136), (0, .ref 0), (1, .int (nI 1)), (2, .int (Int32.ofInt 1))] [.int (h.1 136 0)] h from ⟨ex_136 hP, ?_⟩)
  rw [show h.1 136 0 = Int32.ofInt 0 from ((hM 1 (by decide)).1.trans (by rw [hm1]; rfl))]
  refine am_goX 1 (show (¬ (Int32.ofInt 0) = 0 → pz_S 4 (some .boolean) am_r114 3 Q 49 [(3, .ref 136), (0, .ref 0), (1, .int (nI 1)), (2, .int (Int32.ofInt 1))] [] h) ∧ (¬ ¬ (Int32.ofInt 0) = 0 → pz_S 4 (some .boolean) am_r114 3 Q 47 [(3, .ref 136), (0, .ref 0), (1, .int (nI 1)), (2, .int (Int32.ofInt 1))] [] h) from ⟨fun hz => absurd hz (by decide), fun _ => ?_⟩)
  exact am_goX 2 (show (∃ ty, (some .boolean) = some ty ∧ narrow ty (.int (Int32.ofInt 0)) = .int (Int32.ofInt 0)) ∧ h.2.2.2.2 = 175 ∧ _ from ⟨⟨.boolean, rfl, rfl⟩, ex_175 hP, hQ _ hP hI hT hD hR hS hH hM hx⟩)
theorem d_114_lK17_2 (hP : ex_P h) (hI : cI C) (hT : c_v 17 C h) (hD : c_d 17 C h) (hR : h.2.2.1 0 3 = some 17) (hS : sC 36 s h) (hH : hC H h) (hM : mC M h) (hx : h.1 0 12 = nI x)  (hQ : ∀ h1, (ex_P h1) → (cI C) → (c_v 17 C h1) → (c_d 17 C h1) → (h1.2.2.1 0 3 = some 17) → (sC 36 s h1) → (hC H h1) → (mC (d_114l2_M s H M x) h1) → (h1.1 0 12 = nI x) → Q (some (.int (d_114l2 s H M x))) h1) : am_call am_cod 4 114 [.ref 0, .int (nI 2), .int (Int32.ofInt 0)] h Q := by
  have h6 := hT.1.2.1
  have h5 := hT.2.1.2.1
  refine pz_call (n := 114) (nL := 4) (rt := (some .boolean)) (rows := am_r114) (d := 3) (by decide +kernel) (by decide +kernel) rfl (by funext pc; rfl) (ex_175 hP) (by exact Nat.le_of_ble_eq_true rfl) ?_
  refine am_goX 4 (show 0 ≤ 8 ∧ h.2.2.2.2 + am_al 60 ≤ 175 ∧ am_call am_cod 3 60 [.int (nI 2), .int (Int32.ofInt 0), .int (Int32.ofInt 3)] h (fun vv h' => pz_S 4 (some .boolean) am_r114 3 Q 6 [(0, .ref 0), (1, .int (nI 2)), (2, .int (Int32.ofInt 0))] (vv.toList ++ []) h') from ⟨by decide, ex_lim hP rfl, am_call.up (d_60_w hP ?_) (by decide)⟩)
  rw [show d_60 (nI 2) (Int32.ofInt 0) (Int32.ofInt 3) = Int32.ofInt 1 from (by decide)]
  refine am_goX 1 (show (¬ (Int32.ofInt 1) = 0 → pz_S 4 (some .boolean) am_r114 3 Q 11 [(0, .ref 0), (1, .int (nI 2)), (2, .int (Int32.ofInt 0))] [] h) ∧ (¬ ¬ (Int32.ofInt 1) = 0 → pz_S 4 (some .boolean) am_r114 3 Q 9 [(0, .ref 0), (1, .int (nI 2)), (2, .int (Int32.ofInt 0))] [] h) from ⟨fun _ => ?_, fun hz => absurd (by decide) hz⟩)
  refine am_goX 2 (show am_sh h 0 = some (10, 0) ∧ pz_S 4 (some .boolean) am_r114 3 Q 15 [(0, .ref 0), (1, .int (nI 2)), (2, .int (Int32.ofInt 0))] [am_rf (h.2.2.1 0 11)] h from ⟨ex_0 hP, ?_⟩)
  rw [show am_rf (h.2.2.1 0 11) = .ref 129 from congrArg am_rf (ex_r0_11 hP)]
  refine am_goX 2 (show ∃ jj nn : Nat, (am_sh h 129 = some (16, nn) ∨ am_sh h 129 = some (17, nn)) ∧ jj < nn ∧ nI 2 = nI jj ∧ pz_S 4 (some .boolean) am_r114 3 Q 17 [(0, .ref 0), (1, .int (nI 2)), (2, .int (Int32.ofInt 0))] [am_rf (h.2.2.1 129 jj)] h from ⟨2, 4, Or.inl (ex_129 hP), by decide, rfl, ?_⟩)
  rw [show am_rf (h.2.2.1 129 2) = .ref 142 from congrArg am_rf (ex_r129_2 hP)]
  refine am_goX 3 (show 3 < 4 ∧ (¬ (Int32.ofInt 0) = 0 → pz_S 4 (some .boolean) am_r114 3 Q 40 [(3, .ref 142), (0, .ref 0), (1, .int (nI 2)), (2, .int (Int32.ofInt 0))] [] h) ∧ (¬ ¬ (Int32.ofInt 0) = 0 → pz_S 4 (some .boolean) am_r114 3 Q 22 [(3, .ref 142), (0, .ref 0), (1, .int (nI 2)), (2, .int (Int32.ofInt 0))] [] h) from ⟨by decide, fun hz => absurd hz (by decide), fun _ => ?_⟩)
  refine am_goX 3 (show am_sh h 0 = some (10, 0) ∧ pz_S 4 (some .boolean) am_r114 3 Q 27 [(3, .ref 142), (0, .ref 0), (1, .int (nI 2)), (2, .int (Int32.ofInt 0))] [am_rf (h.2.2.1 0 7), .ref 142] h from ⟨ex_0 hP, ?_⟩)
  rw [show am_rf (h.2.2.1 0 7) = .ref 36 from congrArg am_rf (ex_r0_7 hP)]
  refine am_goX 2 (show am_sh h 0 = some (10, 0) ∧ pz_S 4 (some .boolean) am_r114 3 Q 31 [(3, .ref 142), (0, .ref 0), (1, .int (nI 2)), (2, .int (Int32.ofInt 0))] [.int (h.1 0 12), .ref 36, .ref 142] h from ⟨ex_0 hP, ?_⟩)
  rw [show h.1 0 12 = nI x from hx]
  refine am_goX 3 (show am_sh h 0 = some (10, 0) ∧ am_rc h 142 5 ∧ 0 ≤ 8 ∧ h.2.2.2.2 + am_al 115 ≤ 175 ∧ am_call am_cod 3 115 [.ref 142, .ref 36, .int (nI x), .int (h.1 0 13)] h (fun vv h' => pz_S 4 (some .boolean) am_r114 3 Q 38 [(3, .ref 142), (0, .ref 0), (1, .int (nI 2)), (2, .int (Int32.ofInt 0))] (vv.toList ++ []) h') from ⟨ex_0 hP, Or.inl ⟨by decide, ex_142 hP⟩, by decide, ex_lim hP rfl, am_call.up (k_115_2 hP (fun h427 f428 f429 f430 f431 f432 => ?_)) (by decide)⟩)
  have f433 : mC (mset M 2 s x) h427 := mC_set (m := 2) (fun a j n1 => f429.2 a j n1) f430 (sC_cp f431 hS) f432 hM
  have f434 : c_v 17 C h427 := c_v_fr (fun a k u1 u2 => f429.2 a k (by omega)) hT
  have f435 : c_d 17 C h427 := c_d_fr (fun k => f429.2 _ k (by omega)) hD
  have f436 : h427.2.2.1 0 3 = some 17 := (congrArg (fun q => q.2.1 0 3) f429.1).trans hR
  have f437 : sC 36 s h427 := sC_fr (fun a k u1 u2 => f429.2 a k (by omega)) hS
  have f438 : hC H h427 := hC_fr (fun a k u1 u2 => f429.2 a k (by omega)) hH
  have f439 : h427.1 0 12 = nI x := (f429.2 0 12 (by omega)).trans hx
  exact am_goX 2 (show (∃ ty, (some .boolean) = some ty ∧ narrow ty (.int (Int32.ofInt 1)) = .int (Int32.ofInt 1)) ∧ h427.2.2.2.2 = 175 ∧ _ from ⟨⟨.boolean, rfl, rfl⟩, ex_175 f428, hQ _ f428 hI f434 f435 f436 f437 f438 f433 f439⟩)
theorem d_114_bK17_2 (hP : ex_P h) (hI : cI C) (hT : c_v 17 C h) (hD : c_d 17 C h) (hR : h.2.2.1 0 3 = some 17) (hS : sC 36 s h) (hH : hC H h) (hM : mC M h) (hx : h.1 0 12 = nI x) (hm1 : M.1 2 = true) (hQ : ∀ h1, (ex_P h1) → (cI C) → (c_v 17 C h1) → (c_d 17 C h1) → (h1.2.2.1 0 3 = some 17) → (sC 36 (d_114b2_s s H M x) h1) → (hC (d_114b2_H s H M x) h1) → (mC M h1) → (h1.1 0 12 = nI (d_114b2_x s H M x)) → Q (some (.int (d_114b2 s H M x))) h1) : am_call am_cod 4 114 [.ref 0, .int (nI 2), .int (Int32.ofInt 1)] h Q := by
  have h6 := hT.1.2.1
  have h5 := hT.2.1.2.1
  refine pz_call (n := 114) (nL := 4) (rt := (some .boolean)) (rows := am_r114) (d := 3) (by decide +kernel) (by decide +kernel) rfl (by funext pc; rfl) (ex_175 hP) (by exact Nat.le_of_ble_eq_true rfl) ?_
  refine am_goX 4 (show 0 ≤ 8 ∧ h.2.2.2.2 + am_al 60 ≤ 175 ∧ am_call am_cod 3 60 [.int (nI 2), .int (Int32.ofInt 0), .int (Int32.ofInt 3)] h (fun vv h' => pz_S 4 (some .boolean) am_r114 3 Q 6 [(0, .ref 0), (1, .int (nI 2)), (2, .int (Int32.ofInt 1))] (vv.toList ++ []) h') from ⟨by decide, ex_lim hP rfl, am_call.up (d_60_w hP ?_) (by decide)⟩)
  rw [show d_60 (nI 2) (Int32.ofInt 0) (Int32.ofInt 3) = Int32.ofInt 1 from (by decide)]
  refine am_goX 1 (show (¬ (Int32.ofInt 1) = 0 → pz_S 4 (some .boolean) am_r114 3 Q 11 [(0, .ref 0), (1, .int (nI 2)), (2, .int (Int32.ofInt 1))] [] h) ∧ (¬ ¬ (Int32.ofInt 1) = 0 → pz_S 4 (some .boolean) am_r114 3 Q 9 [(0, .ref 0), (1, .int (nI 2)), (2, .int (Int32.ofInt 1))] [] h) from ⟨fun _ => ?_, fun hz => absurd (by decide) hz⟩)
  refine am_goX 2 (show am_sh h 0 = some (10, 0) ∧ pz_S 4 (some .boolean) am_r114 3 Q 15 [(0, .ref 0), (1, .int (nI 2)), (2, .int (Int32.ofInt 1))] [am_rf (h.2.2.1 0 11)] h from ⟨ex_0 hP, ?_⟩)
  rw [show am_rf (h.2.2.1 0 11) = .ref 129 from congrArg am_rf (ex_r0_11 hP)]
  refine am_goX 2 (show ∃ jj nn : Nat, (am_sh h 129 = some (16, nn) ∨ am_sh h 129 = some (17, nn)) ∧ jj < nn ∧ nI 2 = nI jj ∧ pz_S 4 (some .boolean) am_r114 3 Q 17 [(0, .ref 0), (1, .int (nI 2)), (2, .int (Int32.ofInt 1))] [am_rf (h.2.2.1 129 jj)] h from ⟨2, 4, Or.inl (ex_129 hP), by decide, rfl, ?_⟩)
  rw [show am_rf (h.2.2.1 129 2) = .ref 142 from congrArg am_rf (ex_r129_2 hP)]
  refine am_goX 3 (show 3 < 4 ∧ (¬ (Int32.ofInt 1) = 0 → pz_S 4 (some .boolean) am_r114 3 Q 40 [(3, .ref 142), (0, .ref 0), (1, .int (nI 2)), (2, .int (Int32.ofInt 1))] [] h) ∧ (¬ ¬ (Int32.ofInt 1) = 0 → pz_S 4 (some .boolean) am_r114 3 Q 22 [(3, .ref 142), (0, .ref 0), (1, .int (nI 2)), (2, .int (Int32.ofInt 1))] [] h) from ⟨by decide, fun _ => ?_, fun hz => absurd (by decide) hz⟩)
  refine am_goX 2 (show am_sh h 142 = some (5, 0) ∧ pz_S 4 (some .boolean) am_r114 3 Q 44 [(3, .ref 142), (0, .ref 0), (1, .int (nI 2)), (2, .int (Int32.ofInt 1))] [.int (h.1 142 0)] h from ⟨ex_142 hP, ?_⟩)
  rw [show h.1 142 0 = Int32.ofInt 1 from ((hM 2 (by decide)).1.trans (by rw [hm1]; rfl))]
  refine am_goX 1 (show (¬ (Int32.ofInt 1) = 0 → pz_S 4 (some .boolean) am_r114 3 Q 49 [(3, .ref 142), (0, .ref 0), (1, .int (nI 2)), (2, .int (Int32.ofInt 1))] [] h) ∧ (¬ ¬ (Int32.ofInt 1) = 0 → pz_S 4 (some .boolean) am_r114 3 Q 47 [(3, .ref 142), (0, .ref 0), (1, .int (nI 2)), (2, .int (Int32.ofInt 1))] [] h) from ⟨fun _ => ?_, fun hz => absurd (by decide) hz⟩)
  refine am_goX 2 (show am_sh h 0 = some (10, 0) ∧ pz_S 4 (some .boolean) am_r114 3 Q 53 [(3, .ref 142), (0, .ref 0), (1, .int (nI 2)), (2, .int (Int32.ofInt 1))] [am_rf (h.2.2.1 0 7)] h from ⟨ex_0 hP, ?_⟩)
  rw [show am_rf (h.2.2.1 0 7) = .ref 36 from congrArg am_rf (ex_r0_7 hP)]
  refine am_goX 2 (show am_sh h 142 = some (5, 0) ∧ pz_S 4 (some .boolean) am_r114 3 Q 57 [(3, .ref 142), (0, .ref 0), (1, .int (nI 2)), (2, .int (Int32.ofInt 1))] [am_rf (h.2.2.1 142 1), .ref 36] h from ⟨ex_142 hP, ?_⟩)
  rw [show am_rf (h.2.2.1 142 1) = .ref 143 from congrArg am_rf (ex_r142_1 hP)]
  refine am_goX 1 (show am_rc h 36 6 ∧ 0 ≤ 8 ∧ h.2.2.2.2 + am_al 99 ≤ 175 ∧ am_call am_cod 3 99 [.ref 36, .ref 143] h (fun vv h' => pz_S 4 (some .boolean) am_r114 3 Q 60 [(3, .ref 142), (0, .ref 0), (1, .int (nI 2)), (2, .int (Int32.ofInt 1))] (vv.toList ++ []) h') from ⟨Or.inl ⟨by decide, ex_36 hP⟩, by decide, ex_lim hP rfl, am_call.up (q_99 stO_36 stO_143 (by decide) hP (fun h440 f441 f442 f443 f444 => ?_)) (by decide)⟩)
  have f445 : sC 36 (M.2.1 2) h440 := sC_cp f444 ((hM 2 (by decide)).2 hm1).1
  have f446 : c_v 17 C h440 := c_v_fr (fun a k u1 u2 => f443 a k (by omega)) hT
  have f447 : c_d 17 C h440 := c_d_fr (fun k => f443 _ k (by omega)) hD
  have f448 : h440.2.2.1 0 3 = some 17 := (congrArg (fun q => q.2.1 0 3) f442).trans hR
  have f449 : hC H h440 := hC_fr (fun a k u1 u2 => f443 a k (by omega)) hH
  have f450 : mC M h440 := mC_fr (fun a k u1 u2 => f443 a k (by omega)) hM
  have f451 : h440.1 0 12 = nI x := (f443 0 12 (by omega)).trans hx
  refine am_goX 3 (show am_sh h440 142 = some (5, 0) ∧ pz_S 4 (some .boolean) am_r114 3 Q 65 [(3, .ref 142), (0, .ref 0), (1, .int (nI 2)), (2, .int (Int32.ofInt 1))] [.int (h440.1 142 2), .ref 0] h440 from ⟨ex_142 f441, ?_⟩)
  rw [show h440.1 142 2 = nI (M.2.2 2) from ((f450 2 (by decide)).2 hm1).2]
  refine am_goX 1 (show am_sh h440 0 = some (10, 0) ∧ narrow (am_fty 10 12) (.int (nI (M.2.2 2))) = .int (nI (M.2.2 2)) ∧ fits (am_fty 10 12) (.int (nI (M.2.2 2))) = true ∧ pz_S 4 (some .boolean) am_r114 3 Q 68 [(3, .ref 142), (0, .ref 0), (1, .int (nI 2)), (2, .int (Int32.ofInt 1))] [] (am_wI h440 0 12 (nI (M.2.2 2))) from ⟨ex_0 f441, rfl, rfl, ?_⟩)
  have f453 : ex_P (am_wI h440 0 12 (nI (M.2.2 2))) := f441
  have f454 : cI C := hI
  have f455 : c_v 17 C (am_wI h440 0 12 (nI (M.2.2 2))) := c_v_w (by omega) f446
  have f456 : c_d 17 C (am_wI h440 0 12 (nI (M.2.2 2))) := c_d_w (by omega) f447
  have f457 : (am_wI h440 0 12 (nI (M.2.2 2))).2.2.1 0 3 = some 17 := f448
  have f458 : sC 36 (M.2.1 2) (am_wI h440 0 12 (nI (M.2.2 2))) := sC_w (by omega) f445
  have f459 : hC H (am_wI h440 0 12 (nI (M.2.2 2))) := hC_w (by omega) f449
  have f460 : mC M (am_wI h440 0 12 (nI (M.2.2 2))) := mC_w (by omega) f450
  have f461 : (am_wI h440 0 12 (nI (M.2.2 2))).1 0 12 = nI (M.2.2 2) := (em_we _ _ _ _).trans (rfl)
  generalize am_wI h440 0 12 (nI (M.2.2 2)) = h452 at f453 f454 f455 f456 f457 f458 f459 f460 f461 ⊢
  refine am_goX 4 (show am_sh h452 142 = some (5, 0) ∧ am_sh h452 0 = some (10, 0) ∧ narrow (am_fty 10 13) (.int (h452.1 142 3)) = .int (h452.1 142 3) ∧ fits (am_fty 10 13) (.int (h452.1 142 3)) = true ∧ pz_S 4 (some .boolean) am_r114 3 Q 76 [(3, .ref 142), (0, .ref 0), (1, .int (nI 2)), (2, .int (Int32.ofInt 1))] [] (am_wI h452 0 13 (h452.1 142 3)) from ⟨ex_142 f453, ex_0 f453, rfl, rfl, ?_⟩)
  have f463 : ex_P (am_wI h452 0 13 (h452.1 142 3)) := f453
  have f464 : cI C := f454
  have f465 : c_v 17 C (am_wI h452 0 13 (h452.1 142 3)) := c_v_w (by omega) f455
  have f466 : c_d 17 C (am_wI h452 0 13 (h452.1 142 3)) := c_d_w (by omega) f456
  have f467 : (am_wI h452 0 13 (h452.1 142 3)).2.2.1 0 3 = some 17 := f457
  have f468 : sC 36 (M.2.1 2) (am_wI h452 0 13 (h452.1 142 3)) := sC_w (by omega) f458
  have f469 : hC H (am_wI h452 0 13 (h452.1 142 3)) := hC_w (by omega) f459
  have f470 : mC M (am_wI h452 0 13 (h452.1 142 3)) := mC_w (by omega) f460
  have f471 : (am_wI h452 0 13 (h452.1 142 3)).1 0 12 = nI (M.2.2 2) := (em_wn _ _ (by omega)).trans f461
  generalize am_wI h452 0 13 (h452.1 142 3) = h462 at f463 f464 f465 f466 f467 f468 f469 f470 f471 ⊢
  refine am_goX 2 (show am_sh h462 0 = some (10, 0) ∧ pz_S 4 (some .boolean) am_r114 3 Q 80 [(3, .ref 142), (0, .ref 0), (1, .int (nI 2)), (2, .int (Int32.ofInt 1))] [am_rf (h462.2.2.1 0 10)] h462 from ⟨ex_0 f463, ?_⟩)
  rw [show am_rf (h462.2.2.1 0 10) = .ref 47 from congrArg am_rf (ex_r0_10 f463)]
  refine am_goX 2 (show am_sh h462 47 = some (2, 0) ∧ narrow (am_fty 2 2) (.int (Int32.ofInt 0)) = .int (Int32.ofInt 0) ∧ fits (am_fty 2 2) (.int (Int32.ofInt 0)) = true ∧ pz_S 4 (some .boolean) am_r114 3 Q 84 [(3, .ref 142), (0, .ref 0), (1, .int (nI 2)), (2, .int (Int32.ofInt 1))] [] (am_wI h462 47 2 (Int32.ofInt 0)) from ⟨ex_47 f463, rfl, rfl, ?_⟩)
  have f473 : ex_P (am_wI h462 47 2 (Int32.ofInt 0)) := f463
  have f474 : cI C := f464
  have f475 : c_v 17 C (am_wI h462 47 2 (Int32.ofInt 0)) := c_v_w (by omega) f465
  have f476 : c_d 17 C (am_wI h462 47 2 (Int32.ofInt 0)) := c_d_w (by omega) f466
  have f477 : (am_wI h462 47 2 (Int32.ofInt 0)).2.2.1 0 3 = some 17 := f467
  have f478 : sC 36 (M.2.1 2) (am_wI h462 47 2 (Int32.ofInt 0)) := sC_w (by omega) f468
  have f479 : hC (0, H.2) (am_wI h462 47 2 (Int32.ofInt 0)) := hC_z f469
  have f480 : mC M (am_wI h462 47 2 (Int32.ofInt 0)) := mC_w (by omega) f470
  have f481 : (am_wI h462 47 2 (Int32.ofInt 0)).1 0 12 = nI (M.2.2 2) := (em_wn _ _ (by omega)).trans f471
  generalize am_wI h462 47 2 (Int32.ofInt 0) = h472 at f473 f474 f475 f476 f477 f478 f479 f480 f481 ⊢
  exact am_goX 2 (show (∃ ty, (some .boolean) = some ty ∧ narrow ty (.int (Int32.ofInt 1)) = .int (Int32.ofInt 1)) ∧ h472.2.2.2.2 = 175 ∧ _ from ⟨⟨.boolean, rfl, rfl⟩, ex_175 f473, hQ _ f473 f474 f475 f476 f477 f478 f479 f480 f481⟩)
theorem d_114_nK17_2 (hP : ex_P h) (hI : cI C) (hT : c_v 17 C h) (hD : c_d 17 C h) (hR : h.2.2.1 0 3 = some 17) (hS : sC 36 s h) (hH : hC H h) (hM : mC M h) (hx : h.1 0 12 = nI x) (hm1 : M.1 2 = false) (hQ : ∀ h1, (ex_P h1) → (cI C) → (c_v 17 C h1) → (c_d 17 C h1) → (h1.2.2.1 0 3 = some 17) → (sC 36 s h1) → (hC H h1) → (mC M h1) → (h1.1 0 12 = nI x) → Q (some (.int d_114n)) h1) : am_call am_cod 4 114 [.ref 0, .int (nI 2), .int (Int32.ofInt 1)] h Q := by
  have h6 := hT.1.2.1
  have h5 := hT.2.1.2.1
  refine pz_call (n := 114) (nL := 4) (rt := (some .boolean)) (rows := am_r114) (d := 3) (by decide +kernel) (by decide +kernel) rfl (by funext pc; rfl) (ex_175 hP) (by exact Nat.le_of_ble_eq_true rfl) ?_
  refine am_goX 4 (show 0 ≤ 8 ∧ h.2.2.2.2 + am_al 60 ≤ 175 ∧ am_call am_cod 3 60 [.int (nI 2), .int (Int32.ofInt 0), .int (Int32.ofInt 3)] h (fun vv h' => pz_S 4 (some .boolean) am_r114 3 Q 6 [(0, .ref 0), (1, .int (nI 2)), (2, .int (Int32.ofInt 1))] (vv.toList ++ []) h') from ⟨by decide, ex_lim hP rfl, am_call.up (d_60_w hP ?_) (by decide)⟩)
  rw [show d_60 (nI 2) (Int32.ofInt 0) (Int32.ofInt 3) = Int32.ofInt 1 from (by decide)]
  refine am_goX 1 (show (¬ (Int32.ofInt 1) = 0 → pz_S 4 (some .boolean) am_r114 3 Q 11 [(0, .ref 0), (1, .int (nI 2)), (2, .int (Int32.ofInt 1))] [] h) ∧ (¬ ¬ (Int32.ofInt 1) = 0 → pz_S 4 (some .boolean) am_r114 3 Q 9 [(0, .ref 0), (1, .int (nI 2)), (2, .int (Int32.ofInt 1))] [] h) from ⟨fun _ => ?_, fun hz => absurd (by decide) hz⟩)
  refine am_goX 2 (show am_sh h 0 = some (10, 0) ∧ pz_S 4 (some .boolean) am_r114 3 Q 15 [(0, .ref 0), (1, .int (nI 2)), (2, .int (Int32.ofInt 1))] [am_rf (h.2.2.1 0 11)] h from ⟨ex_0 hP, ?_⟩)
  rw [show am_rf (h.2.2.1 0 11) = .ref 129 from congrArg am_rf (ex_r0_11 hP)]
  refine am_goX 2 (show ∃ jj nn : Nat, (am_sh h 129 = some (16, nn) ∨ am_sh h 129 = some (17, nn)) ∧ jj < nn ∧ nI 2 = nI jj ∧ pz_S 4 (some .boolean) am_r114 3 Q 17 [(0, .ref 0), (1, .int (nI 2)), (2, .int (Int32.ofInt 1))] [am_rf (h.2.2.1 129 jj)] h from ⟨2, 4, Or.inl (ex_129 hP), by decide, rfl, ?_⟩)
  rw [show am_rf (h.2.2.1 129 2) = .ref 142 from congrArg am_rf (ex_r129_2 hP)]
  refine am_goX 3 (show 3 < 4 ∧ (¬ (Int32.ofInt 1) = 0 → pz_S 4 (some .boolean) am_r114 3 Q 40 [(3, .ref 142), (0, .ref 0), (1, .int (nI 2)), (2, .int (Int32.ofInt 1))] [] h) ∧ (¬ ¬ (Int32.ofInt 1) = 0 → pz_S 4 (some .boolean) am_r114 3 Q 22 [(3, .ref 142), (0, .ref 0), (1, .int (nI 2)), (2, .int (Int32.ofInt 1))] [] h) from ⟨by decide, fun _ => ?_, fun hz => absurd (by decide) hz⟩)
  refine am_goX 2 (show am_sh h 142 = some (5, 0) ∧ pz_S 4 (some .boolean) am_r114 3 Q 44 [(3, .ref 142), (0, .ref 0), (1, .int (nI 2)), (2, .int (Int32.ofInt 1))] [.int (h.1 142 0)] h from ⟨ex_142 hP, ?_⟩)
  rw [show h.1 142 0 = Int32.ofInt 0 from ((hM 2 (by decide)).1.trans (by rw [hm1]; rfl))]
  refine am_goX 1 (show (¬ (Int32.ofInt 0) = 0 → pz_S 4 (some .boolean) am_r114 3 Q 49 [(3, .ref 142), (0, .ref 0), (1, .int (nI 2)), (2, .int (Int32.ofInt 1))] [] h) ∧ (¬ ¬ (Int32.ofInt 0) = 0 → pz_S 4 (some .boolean) am_r114 3 Q 47 [(3, .ref 142), (0, .ref 0), (1, .int (nI 2)), (2, .int (Int32.ofInt 1))] [] h) from ⟨fun hz => absurd hz (by decide), fun _ => ?_⟩)
  exact am_goX 2 (show (∃ ty, (some .boolean) = some ty ∧ narrow ty (.int (Int32.ofInt 0)) = .int (Int32.ofInt 0)) ∧ h.2.2.2.2 = 175 ∧ _ from ⟨⟨.boolean, rfl, rfl⟩, ex_175 hP, hQ _ hP hI hT hD hR hS hH hM hx⟩)
theorem d_114_lK17_3 (hP : ex_P h) (hI : cI C) (hT : c_v 17 C h) (hD : c_d 17 C h) (hR : h.2.2.1 0 3 = some 17) (hS : sC 36 s h) (hH : hC H h) (hM : mC M h) (hx : h.1 0 12 = nI x)  (hQ : ∀ h1, (ex_P h1) → (cI C) → (c_v 17 C h1) → (c_d 17 C h1) → (h1.2.2.1 0 3 = some 17) → (sC 36 s h1) → (hC H h1) → (mC (d_114l3_M s H M x) h1) → (h1.1 0 12 = nI x) → Q (some (.int (d_114l3 s H M x))) h1) : am_call am_cod 4 114 [.ref 0, .int (nI 3), .int (Int32.ofInt 0)] h Q := by
  have h6 := hT.1.2.1
  have h5 := hT.2.1.2.1
  refine pz_call (n := 114) (nL := 4) (rt := (some .boolean)) (rows := am_r114) (d := 3) (by decide +kernel) (by decide +kernel) rfl (by funext pc; rfl) (ex_175 hP) (by exact Nat.le_of_ble_eq_true rfl) ?_
  refine am_goX 4 (show 0 ≤ 8 ∧ h.2.2.2.2 + am_al 60 ≤ 175 ∧ am_call am_cod 3 60 [.int (nI 3), .int (Int32.ofInt 0), .int (Int32.ofInt 3)] h (fun vv h' => pz_S 4 (some .boolean) am_r114 3 Q 6 [(0, .ref 0), (1, .int (nI 3)), (2, .int (Int32.ofInt 0))] (vv.toList ++ []) h') from ⟨by decide, ex_lim hP rfl, am_call.up (d_60_w hP ?_) (by decide)⟩)
  rw [show d_60 (nI 3) (Int32.ofInt 0) (Int32.ofInt 3) = Int32.ofInt 1 from (by decide)]
  refine am_goX 1 (show (¬ (Int32.ofInt 1) = 0 → pz_S 4 (some .boolean) am_r114 3 Q 11 [(0, .ref 0), (1, .int (nI 3)), (2, .int (Int32.ofInt 0))] [] h) ∧ (¬ ¬ (Int32.ofInt 1) = 0 → pz_S 4 (some .boolean) am_r114 3 Q 9 [(0, .ref 0), (1, .int (nI 3)), (2, .int (Int32.ofInt 0))] [] h) from ⟨fun _ => ?_, fun hz => absurd (by decide) hz⟩)
  refine am_goX 2 (show am_sh h 0 = some (10, 0) ∧ pz_S 4 (some .boolean) am_r114 3 Q 15 [(0, .ref 0), (1, .int (nI 3)), (2, .int (Int32.ofInt 0))] [am_rf (h.2.2.1 0 11)] h from ⟨ex_0 hP, ?_⟩)
  rw [show am_rf (h.2.2.1 0 11) = .ref 129 from congrArg am_rf (ex_r0_11 hP)]
  refine am_goX 2 (show ∃ jj nn : Nat, (am_sh h 129 = some (16, nn) ∨ am_sh h 129 = some (17, nn)) ∧ jj < nn ∧ nI 3 = nI jj ∧ pz_S 4 (some .boolean) am_r114 3 Q 17 [(0, .ref 0), (1, .int (nI 3)), (2, .int (Int32.ofInt 0))] [am_rf (h.2.2.1 129 jj)] h from ⟨3, 4, Or.inl (ex_129 hP), by decide, rfl, ?_⟩)
  rw [show am_rf (h.2.2.1 129 3) = .ref 148 from congrArg am_rf (ex_r129_3 hP)]
  refine am_goX 3 (show 3 < 4 ∧ (¬ (Int32.ofInt 0) = 0 → pz_S 4 (some .boolean) am_r114 3 Q 40 [(3, .ref 148), (0, .ref 0), (1, .int (nI 3)), (2, .int (Int32.ofInt 0))] [] h) ∧ (¬ ¬ (Int32.ofInt 0) = 0 → pz_S 4 (some .boolean) am_r114 3 Q 22 [(3, .ref 148), (0, .ref 0), (1, .int (nI 3)), (2, .int (Int32.ofInt 0))] [] h) from ⟨by decide, fun hz => absurd hz (by decide), fun _ => ?_⟩)
  refine am_goX 3 (show am_sh h 0 = some (10, 0) ∧ pz_S 4 (some .boolean) am_r114 3 Q 27 [(3, .ref 148), (0, .ref 0), (1, .int (nI 3)), (2, .int (Int32.ofInt 0))] [am_rf (h.2.2.1 0 7), .ref 148] h from ⟨ex_0 hP, ?_⟩)
  rw [show am_rf (h.2.2.1 0 7) = .ref 36 from congrArg am_rf (ex_r0_7 hP)]
  refine am_goX 2 (show am_sh h 0 = some (10, 0) ∧ pz_S 4 (some .boolean) am_r114 3 Q 31 [(3, .ref 148), (0, .ref 0), (1, .int (nI 3)), (2, .int (Int32.ofInt 0))] [.int (h.1 0 12), .ref 36, .ref 148] h from ⟨ex_0 hP, ?_⟩)
  rw [show h.1 0 12 = nI x from hx]
  refine am_goX 3 (show am_sh h 0 = some (10, 0) ∧ am_rc h 148 5 ∧ 0 ≤ 8 ∧ h.2.2.2.2 + am_al 115 ≤ 175 ∧ am_call am_cod 3 115 [.ref 148, .ref 36, .int (nI x), .int (h.1 0 13)] h (fun vv h' => pz_S 4 (some .boolean) am_r114 3 Q 38 [(3, .ref 148), (0, .ref 0), (1, .int (nI 3)), (2, .int (Int32.ofInt 0))] (vv.toList ++ []) h') from ⟨ex_0 hP, Or.inl ⟨by decide, ex_148 hP⟩, by decide, ex_lim hP rfl, am_call.up (k_115_3 hP (fun h482 f483 f484 f485 f486 f487 => ?_)) (by decide)⟩)
  have f488 : mC (mset M 3 s x) h482 := mC_set (m := 3) (fun a j n1 => f484.2 a j n1) f485 (sC_cp f486 hS) f487 hM
  have f489 : c_v 17 C h482 := c_v_fr (fun a k u1 u2 => f484.2 a k (by omega)) hT
  have f490 : c_d 17 C h482 := c_d_fr (fun k => f484.2 _ k (by omega)) hD
  have f491 : h482.2.2.1 0 3 = some 17 := (congrArg (fun q => q.2.1 0 3) f484.1).trans hR
  have f492 : sC 36 s h482 := sC_fr (fun a k u1 u2 => f484.2 a k (by omega)) hS
  have f493 : hC H h482 := hC_fr (fun a k u1 u2 => f484.2 a k (by omega)) hH
  have f494 : h482.1 0 12 = nI x := (f484.2 0 12 (by omega)).trans hx
  exact am_goX 2 (show (∃ ty, (some .boolean) = some ty ∧ narrow ty (.int (Int32.ofInt 1)) = .int (Int32.ofInt 1)) ∧ h482.2.2.2.2 = 175 ∧ _ from ⟨⟨.boolean, rfl, rfl⟩, ex_175 f483, hQ _ f483 hI f489 f490 f491 f492 f493 f488 f494⟩)
theorem d_114_bK17_3 (hP : ex_P h) (hI : cI C) (hT : c_v 17 C h) (hD : c_d 17 C h) (hR : h.2.2.1 0 3 = some 17) (hS : sC 36 s h) (hH : hC H h) (hM : mC M h) (hx : h.1 0 12 = nI x) (hm1 : M.1 3 = true) (hQ : ∀ h1, (ex_P h1) → (cI C) → (c_v 17 C h1) → (c_d 17 C h1) → (h1.2.2.1 0 3 = some 17) → (sC 36 (d_114b3_s s H M x) h1) → (hC (d_114b3_H s H M x) h1) → (mC M h1) → (h1.1 0 12 = nI (d_114b3_x s H M x)) → Q (some (.int (d_114b3 s H M x))) h1) : am_call am_cod 4 114 [.ref 0, .int (nI 3), .int (Int32.ofInt 1)] h Q := by
  have h6 := hT.1.2.1
  have h5 := hT.2.1.2.1
  refine pz_call (n := 114) (nL := 4) (rt := (some .boolean)) (rows := am_r114) (d := 3) (by decide +kernel) (by decide +kernel) rfl (by funext pc; rfl) (ex_175 hP) (by exact Nat.le_of_ble_eq_true rfl) ?_
  refine am_goX 4 (show 0 ≤ 8 ∧ h.2.2.2.2 + am_al 60 ≤ 175 ∧ am_call am_cod 3 60 [.int (nI 3), .int (Int32.ofInt 0), .int (Int32.ofInt 3)] h (fun vv h' => pz_S 4 (some .boolean) am_r114 3 Q 6 [(0, .ref 0), (1, .int (nI 3)), (2, .int (Int32.ofInt 1))] (vv.toList ++ []) h') from ⟨by decide, ex_lim hP rfl, am_call.up (d_60_w hP ?_) (by decide)⟩)
  rw [show d_60 (nI 3) (Int32.ofInt 0) (Int32.ofInt 3) = Int32.ofInt 1 from (by decide)]
  refine am_goX 1 (show (¬ (Int32.ofInt 1) = 0 → pz_S 4 (some .boolean) am_r114 3 Q 11 [(0, .ref 0), (1, .int (nI 3)), (2, .int (Int32.ofInt 1))] [] h) ∧ (¬ ¬ (Int32.ofInt 1) = 0 → pz_S 4 (some .boolean) am_r114 3 Q 9 [(0, .ref 0), (1, .int (nI 3)), (2, .int (Int32.ofInt 1))] [] h) from ⟨fun _ => ?_, fun hz => absurd (by decide) hz⟩)
  refine am_goX 2 (show am_sh h 0 = some (10, 0) ∧ pz_S 4 (some .boolean) am_r114 3 Q 15 [(0, .ref 0), (1, .int (nI 3)), (2, .int (Int32.ofInt 1))] [am_rf (h.2.2.1 0 11)] h from ⟨ex_0 hP, ?_⟩)
  rw [show am_rf (h.2.2.1 0 11) = .ref 129 from congrArg am_rf (ex_r0_11 hP)]
  refine am_goX 2 (show ∃ jj nn : Nat, (am_sh h 129 = some (16, nn) ∨ am_sh h 129 = some (17, nn)) ∧ jj < nn ∧ nI 3 = nI jj ∧ pz_S 4 (some .boolean) am_r114 3 Q 17 [(0, .ref 0), (1, .int (nI 3)), (2, .int (Int32.ofInt 1))] [am_rf (h.2.2.1 129 jj)] h from ⟨3, 4, Or.inl (ex_129 hP), by decide, rfl, ?_⟩)
  rw [show am_rf (h.2.2.1 129 3) = .ref 148 from congrArg am_rf (ex_r129_3 hP)]
  refine am_goX 3 (show 3 < 4 ∧ (¬ (Int32.ofInt 1) = 0 → pz_S 4 (some .boolean) am_r114 3 Q 40 [(3, .ref 148), (0, .ref 0), (1, .int (nI 3)), (2, .int (Int32.ofInt 1))] [] h) ∧ (¬ ¬ (Int32.ofInt 1) = 0 → pz_S 4 (some .boolean) am_r114 3 Q 22 [(3, .ref 148), (0, .ref 0), (1, .int (nI 3)), (2, .int (Int32.ofInt 1))] [] h) from ⟨by decide, fun _ => ?_, fun hz => absurd (by decide) hz⟩)
  refine am_goX 2 (show am_sh h 148 = some (5, 0) ∧ pz_S 4 (some .boolean) am_r114 3 Q 44 [(3, .ref 148), (0, .ref 0), (1, .int (nI 3)), (2, .int (Int32.ofInt 1))] [.int (h.1 148 0)] h from ⟨ex_148 hP, ?_⟩)
  rw [show h.1 148 0 = Int32.ofInt 1 from ((hM 3 (by decide)).1.trans (by rw [hm1]; rfl))]
  refine am_goX 1 (show (¬ (Int32.ofInt 1) = 0 → pz_S 4 (some .boolean) am_r114 3 Q 49 [(3, .ref 148), (0, .ref 0), (1, .int (nI 3)), (2, .int (Int32.ofInt 1))] [] h) ∧ (¬ ¬ (Int32.ofInt 1) = 0 → pz_S 4 (some .boolean) am_r114 3 Q 47 [(3, .ref 148), (0, .ref 0), (1, .int (nI 3)), (2, .int (Int32.ofInt 1))] [] h) from ⟨fun _ => ?_, fun hz => absurd (by decide) hz⟩)
  refine am_goX 2 (show am_sh h 0 = some (10, 0) ∧ pz_S 4 (some .boolean) am_r114 3 Q 53 [(3, .ref 148), (0, .ref 0), (1, .int (nI 3)), (2, .int (Int32.ofInt 1))] [am_rf (h.2.2.1 0 7)] h from ⟨ex_0 hP, ?_⟩)
  rw [show am_rf (h.2.2.1 0 7) = .ref 36 from congrArg am_rf (ex_r0_7 hP)]
  refine am_goX 2 (show am_sh h 148 = some (5, 0) ∧ pz_S 4 (some .boolean) am_r114 3 Q 57 [(3, .ref 148), (0, .ref 0), (1, .int (nI 3)), (2, .int (Int32.ofInt 1))] [am_rf (h.2.2.1 148 1), .ref 36] h from ⟨ex_148 hP, ?_⟩)
  rw [show am_rf (h.2.2.1 148 1) = .ref 149 from congrArg am_rf (ex_r148_1 hP)]
  refine am_goX 1 (show am_rc h 36 6 ∧ 0 ≤ 8 ∧ h.2.2.2.2 + am_al 99 ≤ 175 ∧ am_call am_cod 3 99 [.ref 36, .ref 149] h (fun vv h' => pz_S 4 (some .boolean) am_r114 3 Q 60 [(3, .ref 148), (0, .ref 0), (1, .int (nI 3)), (2, .int (Int32.ofInt 1))] (vv.toList ++ []) h') from ⟨Or.inl ⟨by decide, ex_36 hP⟩, by decide, ex_lim hP rfl, am_call.up (q_99 stO_36 stO_149 (by decide) hP (fun h495 f496 f497 f498 f499 => ?_)) (by decide)⟩)
  have f500 : sC 36 (M.2.1 3) h495 := sC_cp f499 ((hM 3 (by decide)).2 hm1).1
  have f501 : c_v 17 C h495 := c_v_fr (fun a k u1 u2 => f498 a k (by omega)) hT
  have f502 : c_d 17 C h495 := c_d_fr (fun k => f498 _ k (by omega)) hD
  have f503 : h495.2.2.1 0 3 = some 17 := (congrArg (fun q => q.2.1 0 3) f497).trans hR
  have f504 : hC H h495 := hC_fr (fun a k u1 u2 => f498 a k (by omega)) hH
  have f505 : mC M h495 := mC_fr (fun a k u1 u2 => f498 a k (by omega)) hM
  have f506 : h495.1 0 12 = nI x := (f498 0 12 (by omega)).trans hx
  refine am_goX 3 (show am_sh h495 148 = some (5, 0) ∧ pz_S 4 (some .boolean) am_r114 3 Q 65 [(3, .ref 148), (0, .ref 0), (1, .int (nI 3)), (2, .int (Int32.ofInt 1))] [.int (h495.1 148 2), .ref 0] h495 from ⟨ex_148 f496, ?_⟩)
  rw [show h495.1 148 2 = nI (M.2.2 3) from ((f505 3 (by decide)).2 hm1).2]
  refine am_goX 1 (show am_sh h495 0 = some (10, 0) ∧ narrow (am_fty 10 12) (.int (nI (M.2.2 3))) = .int (nI (M.2.2 3)) ∧ fits (am_fty 10 12) (.int (nI (M.2.2 3))) = true ∧ pz_S 4 (some .boolean) am_r114 3 Q 68 [(3, .ref 148), (0, .ref 0), (1, .int (nI 3)), (2, .int (Int32.ofInt 1))] [] (am_wI h495 0 12 (nI (M.2.2 3))) from ⟨ex_0 f496, rfl, rfl, ?_⟩)
  have f508 : ex_P (am_wI h495 0 12 (nI (M.2.2 3))) := f496
  have f509 : cI C := hI
  have f510 : c_v 17 C (am_wI h495 0 12 (nI (M.2.2 3))) := c_v_w (by omega) f501
  have f511 : c_d 17 C (am_wI h495 0 12 (nI (M.2.2 3))) := c_d_w (by omega) f502
  have f512 : (am_wI h495 0 12 (nI (M.2.2 3))).2.2.1 0 3 = some 17 := f503
  have f513 : sC 36 (M.2.1 3) (am_wI h495 0 12 (nI (M.2.2 3))) := sC_w (by omega) f500
  have f514 : hC H (am_wI h495 0 12 (nI (M.2.2 3))) := hC_w (by omega) f504
  have f515 : mC M (am_wI h495 0 12 (nI (M.2.2 3))) := mC_w (by omega) f505
  have f516 : (am_wI h495 0 12 (nI (M.2.2 3))).1 0 12 = nI (M.2.2 3) := (em_we _ _ _ _).trans (rfl)
  generalize am_wI h495 0 12 (nI (M.2.2 3)) = h507 at f508 f509 f510 f511 f512 f513 f514 f515 f516 ⊢
  refine am_goX 4 (show am_sh h507 148 = some (5, 0) ∧ am_sh h507 0 = some (10, 0) ∧ narrow (am_fty 10 13) (.int (h507.1 148 3)) = .int (h507.1 148 3) ∧ fits (am_fty 10 13) (.int (h507.1 148 3)) = true ∧ pz_S 4 (some .boolean) am_r114 3 Q 76 [(3, .ref 148), (0, .ref 0), (1, .int (nI 3)), (2, .int (Int32.ofInt 1))] [] (am_wI h507 0 13 (h507.1 148 3)) from ⟨ex_148 f508, ex_0 f508, rfl, rfl, ?_⟩)
  have f518 : ex_P (am_wI h507 0 13 (h507.1 148 3)) := f508
  have f519 : cI C := f509
  have f520 : c_v 17 C (am_wI h507 0 13 (h507.1 148 3)) := c_v_w (by omega) f510
  have f521 : c_d 17 C (am_wI h507 0 13 (h507.1 148 3)) := c_d_w (by omega) f511
  have f522 : (am_wI h507 0 13 (h507.1 148 3)).2.2.1 0 3 = some 17 := f512
  have f523 : sC 36 (M.2.1 3) (am_wI h507 0 13 (h507.1 148 3)) := sC_w (by omega) f513
  have f524 : hC H (am_wI h507 0 13 (h507.1 148 3)) := hC_w (by omega) f514
  have f525 : mC M (am_wI h507 0 13 (h507.1 148 3)) := mC_w (by omega) f515
  have f526 : (am_wI h507 0 13 (h507.1 148 3)).1 0 12 = nI (M.2.2 3) := (em_wn _ _ (by omega)).trans f516
  generalize am_wI h507 0 13 (h507.1 148 3) = h517 at f518 f519 f520 f521 f522 f523 f524 f525 f526 ⊢
  refine am_goX 2 (show am_sh h517 0 = some (10, 0) ∧ pz_S 4 (some .boolean) am_r114 3 Q 80 [(3, .ref 148), (0, .ref 0), (1, .int (nI 3)), (2, .int (Int32.ofInt 1))] [am_rf (h517.2.2.1 0 10)] h517 from ⟨ex_0 f518, ?_⟩)
  rw [show am_rf (h517.2.2.1 0 10) = .ref 47 from congrArg am_rf (ex_r0_10 f518)]
  refine am_goX 2 (show am_sh h517 47 = some (2, 0) ∧ narrow (am_fty 2 2) (.int (Int32.ofInt 0)) = .int (Int32.ofInt 0) ∧ fits (am_fty 2 2) (.int (Int32.ofInt 0)) = true ∧ pz_S 4 (some .boolean) am_r114 3 Q 84 [(3, .ref 148), (0, .ref 0), (1, .int (nI 3)), (2, .int (Int32.ofInt 1))] [] (am_wI h517 47 2 (Int32.ofInt 0)) from ⟨ex_47 f518, rfl, rfl, ?_⟩)
  have f528 : ex_P (am_wI h517 47 2 (Int32.ofInt 0)) := f518
  have f529 : cI C := f519
  have f530 : c_v 17 C (am_wI h517 47 2 (Int32.ofInt 0)) := c_v_w (by omega) f520
  have f531 : c_d 17 C (am_wI h517 47 2 (Int32.ofInt 0)) := c_d_w (by omega) f521
  have f532 : (am_wI h517 47 2 (Int32.ofInt 0)).2.2.1 0 3 = some 17 := f522
  have f533 : sC 36 (M.2.1 3) (am_wI h517 47 2 (Int32.ofInt 0)) := sC_w (by omega) f523
  have f534 : hC (0, H.2) (am_wI h517 47 2 (Int32.ofInt 0)) := hC_z f524
  have f535 : mC M (am_wI h517 47 2 (Int32.ofInt 0)) := mC_w (by omega) f525
  have f536 : (am_wI h517 47 2 (Int32.ofInt 0)).1 0 12 = nI (M.2.2 3) := (em_wn _ _ (by omega)).trans f526
  generalize am_wI h517 47 2 (Int32.ofInt 0) = h527 at f528 f529 f530 f531 f532 f533 f534 f535 f536 ⊢
  exact am_goX 2 (show (∃ ty, (some .boolean) = some ty ∧ narrow ty (.int (Int32.ofInt 1)) = .int (Int32.ofInt 1)) ∧ h527.2.2.2.2 = 175 ∧ _ from ⟨⟨.boolean, rfl, rfl⟩, ex_175 f528, hQ _ f528 f529 f530 f531 f532 f533 f534 f535 f536⟩)
theorem d_114_nK17_3 (hP : ex_P h) (hI : cI C) (hT : c_v 17 C h) (hD : c_d 17 C h) (hR : h.2.2.1 0 3 = some 17) (hS : sC 36 s h) (hH : hC H h) (hM : mC M h) (hx : h.1 0 12 = nI x) (hm1 : M.1 3 = false) (hQ : ∀ h1, (ex_P h1) → (cI C) → (c_v 17 C h1) → (c_d 17 C h1) → (h1.2.2.1 0 3 = some 17) → (sC 36 s h1) → (hC H h1) → (mC M h1) → (h1.1 0 12 = nI x) → Q (some (.int d_114n)) h1) : am_call am_cod 4 114 [.ref 0, .int (nI 3), .int (Int32.ofInt 1)] h Q := by
  have h6 := hT.1.2.1
  have h5 := hT.2.1.2.1
  refine pz_call (n := 114) (nL := 4) (rt := (some .boolean)) (rows := am_r114) (d := 3) (by decide +kernel) (by decide +kernel) rfl (by funext pc; rfl) (ex_175 hP) (by exact Nat.le_of_ble_eq_true rfl) ?_
  refine am_goX 4 (show 0 ≤ 8 ∧ h.2.2.2.2 + am_al 60 ≤ 175 ∧ am_call am_cod 3 60 [.int (nI 3), .int (Int32.ofInt 0), .int (Int32.ofInt 3)] h (fun vv h' => pz_S 4 (some .boolean) am_r114 3 Q 6 [(0, .ref 0), (1, .int (nI 3)), (2, .int (Int32.ofInt 1))] (vv.toList ++ []) h') from ⟨by decide, ex_lim hP rfl, am_call.up (d_60_w hP ?_) (by decide)⟩)
  rw [show d_60 (nI 3) (Int32.ofInt 0) (Int32.ofInt 3) = Int32.ofInt 1 from (by decide)]
  refine am_goX 1 (show (¬ (Int32.ofInt 1) = 0 → pz_S 4 (some .boolean) am_r114 3 Q 11 [(0, .ref 0), (1, .int (nI 3)), (2, .int (Int32.ofInt 1))] [] h) ∧ (¬ ¬ (Int32.ofInt 1) = 0 → pz_S 4 (some .boolean) am_r114 3 Q 9 [(0, .ref 0), (1, .int (nI 3)), (2, .int (Int32.ofInt 1))] [] h) from ⟨fun _ => ?_, fun hz => absurd (by decide) hz⟩)
  refine am_goX 2 (show am_sh h 0 = some (10, 0) ∧ pz_S 4 (some .boolean) am_r114 3 Q 15 [(0, .ref 0), (1, .int (nI 3)), (2, .int (Int32.ofInt 1))] [am_rf (h.2.2.1 0 11)] h from ⟨ex_0 hP, ?_⟩)
  rw [show am_rf (h.2.2.1 0 11) = .ref 129 from congrArg am_rf (ex_r0_11 hP)]
  refine am_goX 2 (show ∃ jj nn : Nat, (am_sh h 129 = some (16, nn) ∨ am_sh h 129 = some (17, nn)) ∧ jj < nn ∧ nI 3 = nI jj ∧ pz_S 4 (some .boolean) am_r114 3 Q 17 [(0, .ref 0), (1, .int (nI 3)), (2, .int (Int32.ofInt 1))] [am_rf (h.2.2.1 129 jj)] h from ⟨3, 4, Or.inl (ex_129 hP), by decide, rfl, ?_⟩)
  rw [show am_rf (h.2.2.1 129 3) = .ref 148 from congrArg am_rf (ex_r129_3 hP)]
  refine am_goX 3 (show 3 < 4 ∧ (¬ (Int32.ofInt 1) = 0 → pz_S 4 (some .boolean) am_r114 3 Q 40 [(3, .ref 148), (0, .ref 0), (1, .int (nI 3)), (2, .int (Int32.ofInt 1))] [] h) ∧ (¬ ¬ (Int32.ofInt 1) = 0 → pz_S 4 (some .boolean) am_r114 3 Q 22 [(3, .ref 148), (0, .ref 0), (1, .int (nI 3)), (2, .int (Int32.ofInt 1))] [] h) from ⟨by decide, fun _ => ?_, fun hz => absurd (by decide) hz⟩)
  refine am_goX 2 (show am_sh h 148 = some (5, 0) ∧ pz_S 4 (some .boolean) am_r114 3 Q 44 [(3, .ref 148), (0, .ref 0), (1, .int (nI 3)), (2, .int (Int32.ofInt 1))] [.int (h.1 148 0)] h from ⟨ex_148 hP, ?_⟩)
  rw [show h.1 148 0 = Int32.ofInt 0 from ((hM 3 (by decide)).1.trans (by rw [hm1]; rfl))]
  refine am_goX 1 (show (¬ (Int32.ofInt 0) = 0 → pz_S 4 (some .boolean) am_r114 3 Q 49 [(3, .ref 148), (0, .ref 0), (1, .int (nI 3)), (2, .int (Int32.ofInt 1))] [] h) ∧ (¬ ¬ (Int32.ofInt 0) = 0 → pz_S 4 (some .boolean) am_r114 3 Q 47 [(3, .ref 148), (0, .ref 0), (1, .int (nI 3)), (2, .int (Int32.ofInt 1))] [] h) from ⟨fun hz => absurd hz (by decide), fun _ => ?_⟩)
  exact am_goX 2 (show (∃ ty, (some .boolean) = some ty ∧ narrow ty (.int (Int32.ofInt 0)) = .int (Int32.ofInt 0)) ∧ h.2.2.2.2 = 175 ∧ _ from ⟨⟨.boolean, rfl, rfl⟩, ex_175 hP, hQ _ hP hI hT hD hR hS hH hM hx⟩)
theorem d_114_xK17 (hP : ex_P h) (hI : cI C) (hT : c_v 17 C h) (hD : c_d 17 C h) (hR : h.2.2.1 0 3 = some 17) (hS : sC 36 s h) (hH : hC H h) (hM : mC M h) (hx : h.1 0 12 = nI x) (ew : d_60 w (Int32.ofInt 0) (Int32.ofInt 3) = Int32.ofInt 0) (hQ : ∀ h1, (ex_P h1) → (cI C) → (c_v 17 C h1) → (c_d 17 C h1) → (h1.2.2.1 0 3 = some 17) → (sC 36 s h1) → (hC H h1) → (mC M h1) → (h1.1 0 12 = nI x) → Q (some (.int d_114n)) h1) : am_call am_cod 4 114 [.ref 0, .int w, .int b] h Q := by
  have h6 := hT.1.2.1
  have h5 := hT.2.1.2.1
  refine pz_call (n := 114) (nL := 4) (rt := (some .boolean)) (rows := am_r114) (d := 3) (by decide +kernel) (by decide +kernel) rfl (by funext pc; rfl) (ex_175 hP) (by exact Nat.le_of_ble_eq_true rfl) ?_
  refine am_goX 4 (show 0 ≤ 8 ∧ h.2.2.2.2 + am_al 60 ≤ 175 ∧ am_call am_cod 3 60 [.int w, .int (Int32.ofInt 0), .int (Int32.ofInt 3)] h (fun vv h' => pz_S 4 (some .boolean) am_r114 3 Q 6 [(0, .ref 0), (1, .int w), (2, .int b)] (vv.toList ++ []) h') from ⟨by decide, ex_lim hP rfl, am_call.up (d_60_w hP ?_) (by decide)⟩)
  rw [show d_60 w (Int32.ofInt 0) (Int32.ofInt 3) = Int32.ofInt 0 from ew]
  refine am_goX 1 (show (¬ (Int32.ofInt 0) = 0 → pz_S 4 (some .boolean) am_r114 3 Q 11 [(0, .ref 0), (1, .int w), (2, .int b)] [] h) ∧ (¬ ¬ (Int32.ofInt 0) = 0 → pz_S 4 (some .boolean) am_r114 3 Q 9 [(0, .ref 0), (1, .int w), (2, .int b)] [] h) from ⟨fun hz => absurd hz (by decide), fun _ => ?_⟩)
  exact am_goX 2 (show (∃ ty, (some .boolean) = some ty ∧ narrow ty (.int (Int32.ofInt 0)) = .int (Int32.ofInt 0)) ∧ h.2.2.2.2 = 175 ∧ _ from ⟨⟨.boolean, rfl, rfl⟩, ex_175 hP, hQ _ hP hI hT hD hR hS hH hM hx⟩)
theorem d_291_l (hP : ex_P h) (hI : cI C) (hT : tR C h) (hO : ∀ e, e < dE C → h.1 172 e = dW V e) (hS : sR 0 (dP C) s h) (hH : hL (dP C) H h) (hx : h.1 170 24 = nI x) (hM : mL (dP C) M h) (hm : m < 4) (hQ : ∀ h1, ex_P h1 → cI C → tR C h1 → (∀ e, e < dE C → h1.1 172 e = dW V e) → sR 0 (dP C) s h1 → hL (dP C) H h1 → mL (dP C) (mset M m s x) h1 → h1.1 170 24 = nI x → Q (some (.int (Int32.ofInt 1))) h1) : am_call am_cod 3 291 [.ref 154, .int (nI m), .int (Int32.ofInt 0)] h Q := by
  have h6 := hT.1.2.1
  have h5 := hT.2.1.2.1
  refine pz_call (n := 291) (nL := 3) (rt := (some .boolean)) (rows := am_r291) (d := 2) (by decide +kernel) (by decide +kernel) rfl (by funext pc; rfl) (ex_175 hP) (by exact Nat.le_of_ble_eq_true rfl) ?_
  have hX := mX_0 (m := m) (h := h)
  refine am_goX 3 (show am_sh h 154 = some (11, 0) ∧ narrow (am_fty 11 0) (.int (Int32.ofInt 0)) = .int (Int32.ofInt 0) ∧ fits (am_fty 11 0) (.int (Int32.ofInt 0)) = true ∧ pz_S 3 (some .boolean) am_r291 2 Q 5 [(0, .ref 154), (1, .int (nI m)), (2, .int (Int32.ofInt 0))] [] (am_wI h 154 0 (Int32.ofInt 0)) from ⟨ex_154 hP, rfl, rfl, ?_⟩)
  have f538 : ex_P (am_wI h 154 0 (Int32.ofInt 0)) := hP
  have f539 : cI C := hI
  have f540 : tR C (am_wI h 154 0 (Int32.ofInt 0)) := tR_w (by omega) hT
  have f541 : ∀ e, e < dE C → (am_wI h 154 0 (Int32.ofInt 0)).1 172 e = dW V e := on_w (by omega) hO
  have f542 : sR 0 (dP C) s (am_wI h 154 0 (Int32.ofInt 0)) := sR_o (by omega) hS
  have f543 : hL (dP C) H (am_wI h 154 0 (Int32.ofInt 0)) := hL_w (by omega) hH
  have f544 : (am_wI h 154 0 (Int32.ofInt 0)).1 170 24 = nI x := (em_wn _ _ (by omega)).trans hx
  have f545 : mX m h (am_wI h 154 0 (Int32.ofInt 0)) := mX_w (by omega) hX
  generalize am_wI h 154 0 (Int32.ofInt 0) = h537 at f538 f539 f540 f541 f542 f543 f544 f545 ⊢
  refine am_goX 4 (show 0 ≤ 8 ∧ h537.2.2.2.2 + am_al 207 ≤ 175 ∧ am_call am_cod 2 207 [.int (nI m), .int (Int32.ofInt 0), .int (Int32.ofInt 3)] h537 (fun vv h' => pz_S 3 (some .boolean) am_r291 2 Q 11 [(0, .ref 154), (1, .int (nI m)), (2, .int (Int32.ofInt 0))] (vv.toList ++ []) h') from ⟨by decide, ex_lim f538 rfl, am_call.up (d_207_w f538 ?_) (by decide)⟩)
  rw [show d_207 (nI m) (Int32.ofInt 0) (Int32.ofInt 3) = Int32.ofInt 1 from ((d_207_e _ _ _).trans (v_60 (lo := 0) (hi := 3) (by omega) (by omega) (by decide)))]
  refine am_goX 1 (show ((Int32.ofInt 1) = 0 → pz_S 3 (some .boolean) am_r291 2 Q 27 [(0, .ref 154), (1, .int (nI m)), (2, .int (Int32.ofInt 0))] [] h537) ∧ (¬ ((Int32.ofInt 1) = 0) → pz_S 3 (some .boolean) am_r291 2 Q 14 [(0, .ref 154), (1, .int (nI m)), (2, .int (Int32.ofInt 0))] [] h537) from ⟨fun hz => absurd hz (by decide), fun _ => ?_⟩)
  refine am_goX 2 (show ((Int32.ofInt 0) = 0 → pz_S 3 (some .boolean) am_r291 2 Q 29 [(0, .ref 154), (1, .int (nI m)), (2, .int (Int32.ofInt 0))] [] h537) ∧ (¬ ((Int32.ofInt 0) = 0) → pz_S 3 (some .boolean) am_r291 2 Q 18 [(0, .ref 154), (1, .int (nI m)), (2, .int (Int32.ofInt 0))] [] h537) from ⟨fun _ => ?_, fun hz => absurd (by decide) hz⟩)
  refine am_goX 2 (show am_sh h537 154 = some (11, 0) ∧ pz_S 3 (some .boolean) am_r291 2 Q 33 [(0, .ref 154), (1, .int (nI m)), (2, .int (Int32.ofInt 0))] [am_rf (h537.2.2.1 154 26)] h537 from ⟨ex_154 f538, ?_⟩)
  rw [show am_rf (h537.2.2.1 154 26) = .ref 171 from congrArg am_rf (ex_r154_26 f538)]
  refine am_goX 3 (show ∃ jj nn : Nat, am_so h537 171 = some (15, nn) ∧ jj < nn ∧ nI m = nI jj ∧ pz_S 3 (some .boolean) am_r291 2 Q 36 [(0, .ref 154), (1, .int (nI m)), (2, .int (Int32.ofInt 0))] [] (am_wI h537 171 jj (vp_nar .boolean (Int32.ofInt 1))) from ⟨m, 4, ex_w171 f538, (by omega), rfl, ?_⟩)
  have f547 : ex_P (am_wI h537 171 m (vp_nar .boolean (Int32.ofInt 1))) := f538
  have f548 : cI C := f539
  have f549 : tR C (am_wI h537 171 m (vp_nar .boolean (Int32.ofInt 1))) := tR_w (by omega) f540
  have f550 : ∀ e, e < dE C → (am_wI h537 171 m (vp_nar .boolean (Int32.ofInt 1))).1 172 e = dW V e := on_w (by omega) f541
  have f551 : sR 0 (dP C) s (am_wI h537 171 m (vp_nar .boolean (Int32.ofInt 1))) := sR_o (by omega) f542
  have f552 : hL (dP C) H (am_wI h537 171 m (vp_nar .boolean (Int32.ofInt 1))) := hL_w (by omega) f543
  have f553 : (am_wI h537 171 m (vp_nar .boolean (Int32.ofInt 1))).1 170 24 = nI x := (em_wn _ _ (by omega)).trans f544
  have f554 : mX m h (am_wI h537 171 m (vp_nar .boolean (Int32.ofInt 1))) := mX_w (by omega) f545
  have f555 : (am_wI h537 171 m (vp_nar .boolean (Int32.ofInt 1))).1 171 m = 1 := em_we _ _ _ _
  generalize am_wI h537 171 m (vp_nar .boolean (Int32.ofInt 1)) = h546 at f547 f548 f549 f550 f551 f552 f553 f554 f555 ⊢
  refine am_goX 3 (show ((Int32.ofInt 0) = 0 → pz_S 3 (some .boolean) am_r291 2 Q 50 [(0, .ref 154), (1, .int (nI m)), (2, .int (Int32.ofInt 0))] [.ref 154] h546) ∧ (¬ ((Int32.ofInt 0) = 0) → pz_S 3 (some .boolean) am_r291 2 Q 41 [(0, .ref 154), (1, .int (nI m)), (2, .int (Int32.ofInt 0))] [.ref 154] h546) from ⟨fun _ => ?_, fun hz => absurd (by decide) hz⟩)
  refine am_goX 3 (show ((Int32.ofInt 0) = 0 → pz_S 3 (some .boolean) am_r291 2 Q 59 [(0, .ref 154), (1, .int (nI m)), (2, .int (Int32.ofInt 0))] [.int (Int32.ofInt 0), .ref 154] h546) ∧ (¬ ((Int32.ofInt 0) = 0) → pz_S 3 (some .boolean) am_r291 2 Q 55 [(0, .ref 154), (1, .int (nI m)), (2, .int (Int32.ofInt 0))] [.int (Int32.ofInt 0), .ref 154] h546) from ⟨fun _ => ?_, fun hz => absurd (by decide) hz⟩)
  refine am_goX 6 (show pz_S 3 (some .boolean) am_r291 2 Q 67 [(0, .ref 154), (1, .int (nI m)), (2, .int (Int32.ofInt 0))] [.int ((Int8.ofInt 49).toInt32), .int (((Int8.ofInt 49).toInt32) * ((Int32.ofInt 1) + (nI m))), .int (Int32.ofInt 0), .ref 154] h546 from ?_)
  rw [show Int32.ofInt 0 = nI 0 from rfl]
  rw [show ((Int8.ofInt 49).toInt32) * ((Int32.ofInt 1) + (nI m)) = nI (49 * (1 + m)) from (dn_m (show (Int8.ofInt 49).toInt32 = nI 49 by decide) (dn_a rfl rfl))]
  rw [show (Int8.ofInt 49).toInt32 = nI 49 from (show (Int8.ofInt 49).toInt32 = nI 49 by decide)]
  refine am_goX 1 (show am_rc h546 154 11 ∧ 0 ≤ 8 ∧ h546.2.2.2.2 + am_al 232 ≤ 175 ∧ am_call am_cod 2 232 [.ref 154, .int (nI 0), .int (nI (49 * (1 + m))), .int (nI 49)] h546 (fun vv h' => pz_S 3 (some .boolean) am_r291 2 Q 70 [(0, .ref 154), (1, .int (nI m)), (2, .int (nI 0))] (vv.toList ++ []) h') from ⟨Or.inl ⟨by decide, ex_154 f547⟩, by decide, ex_lim f547 rfl, am_call.up (q_232 (A := 0) (B := (49 * (1 + m))) (K := 49) rfl rfl rfl (by omega) (by omega) (by omega) f547 (fun h556 f557 f558 f559 f560 => ?_)) (by decide)⟩)
  have f561 : mX m h h556 := ⟨fun j hj hn => (f559 _ _ (by omega)).trans (f554.1 j hj hn), fun q h1 h2 h3 => (f559 _ _ (by omega)).trans (f554.2 q h1 h2 h3)⟩
  have f562 : sR (49 + 49 * m) (dP C) s h556 := sR_cp (A := 0) (fun j hj => by have w := f560 j (by omega); rw [show (49 * (1 + m)) + j = 49 + 49 * m + j by omega] at w; exact w) h6 f551
  have f563 : h556.1 170 (73 + 49 * m) = nI x := by have w := f560 24 (by omega); rw [show (49 * (1 + m)) + 24 = 73 + 49 * m by omega] at w; exact w.trans f553
  have f564 : h556.1 171 m = 1 := (f559 _ _ (by omega)).trans f555
  have f565 : tR C h556 := tR_fr (fun a k u1 u2 => f559 a k (by omega)) f549
  have f566 : ∀ e, e < dE C → h556.1 172 e = dW V e := fun e he => (f559 172 e (by omega)).trans (f550 e he)
  have f567 : sR 0 (dP C) s h556 := sR_fr (fun k u1 u2 => f559 170 k (by omega)) f549.1.2.1 f551
  have f568 : hL (dP C) H h556 := hL_fr f549.1.2.1 (f559 154 25 (by omega)) (fun k u1 u2 => f559 170 k (by omega)) f552
  have f569 : h556.1 170 24 = nI x := (f559 170 24 (by omega)).trans f553
  refine am_goX 3 (show ((nI 0) = 0 → pz_S 3 (some .boolean) am_r291 2 Q 79 [(0, .ref 154), (1, .int (nI m)), (2, .int (nI 0))] [.ref 154] h556) ∧ (¬ ((nI 0) = 0) → pz_S 3 (some .boolean) am_r291 2 Q 75 [(0, .ref 154), (1, .int (nI m)), (2, .int (nI 0))] [.ref 154] h556) from ⟨fun _ => ?_, fun hz => absurd (by decide) hz⟩)
  refine am_goX 2 (show am_sh h556 154 = some (11, 0) ∧ pz_S 3 (some .boolean) am_r291 2 Q 83 [(0, .ref 154), (1, .int (nI m)), (2, .int (nI 0))] [.int (h556.1 154 25), .ref 154] h556 from ⟨ex_154 f557, ?_⟩)
  rw [show h556.1 154 25 = nI H.1 from f568.2.1]
  refine am_goX 1 (show am_sh h556 154 = some (11, 0) ∧ narrow (am_fty 11 25) (.int (nI H.1)) = .int (nI H.1) ∧ fits (am_fty 11 25) (.int (nI H.1)) = true ∧ pz_S 3 (some .boolean) am_r291 2 Q 86 [(0, .ref 154), (1, .int (nI m)), (2, .int (nI 0))] [] (am_wI h556 154 25 (nI H.1)) from ⟨ex_154 f557, rfl, rfl, ?_⟩)
  have f571 : ex_P (am_wI h556 154 25 (nI H.1)) := f557
  have f572 : cI C := f548
  have f573 : tR C (am_wI h556 154 25 (nI H.1)) := tR_w (by omega) f565
  have f574 : ∀ e, e < dE C → (am_wI h556 154 25 (nI H.1)).1 172 e = dW V e := on_w (by omega) f566
  have f575 : sR 0 (dP C) s (am_wI h556 154 25 (nI H.1)) := sR_o (by omega) f567
  have f576 : hL (dP C) H (am_wI h556 154 25 (nI H.1)) := hL_same f568
  have f577 : (am_wI h556 154 25 (nI H.1)).1 170 24 = nI x := (em_wn _ _ (by omega)).trans f569
  have f578 : mX m h (am_wI h556 154 25 (nI H.1)) := mX_w (by omega) f561
  have f579 : (am_wI h556 154 25 (nI H.1)).1 171 m = 1 := (em_wn _ _ (by omega)).trans f564
  have f580 : sR (49 + 49 * m) (dP C) s (am_wI h556 154 25 (nI H.1)) := sR_o (by omega) f562
  have f581 : (am_wI h556 154 25 (nI H.1)).1 170 (73 + 49 * m) = nI x := (em_wn _ _ (by omega)).trans f563
  generalize am_wI h556 154 25 (nI H.1) = h570 at f571 f572 f573 f574 f575 f576 f577 f578 f579 f580 f581 ⊢
  exact am_goX 2 (show (∃ ty, (some .boolean) = some ty ∧ narrow ty (.int (Int32.ofInt 1)) = .int (Int32.ofInt 1)) ∧ h570.2.2.2.2 = 175 ∧ _ from ⟨⟨.boolean, rfl, rfl⟩, ex_175 f571, hQ _ f571 f572 f573 f574 f575 f576 (mL_set h6 f578.1 f578.2 f579 f580 f581 hM) f577⟩)
def d_291b_s (s : dS) (H : dH) (M : dMk) (x m : Nat) : dS := (M.2.1 m)
def d_291b_H (s : dS) (H : dH) (M : dMk) (x m : Nat) : dH := (0, H.2)
def d_291b_x (s : dS) (H : dH) (M : dMk) (x m : Nat) : Nat := (M.2.2 m)
def d_291b (s : dS) (H : dH) (M : dMk) (x m : Nat) : Int32 := Int32.ofInt 1
theorem d_291_b (hP : ex_P h) (hI : cI C) (hT : tR C h) (hO : ∀ e, e < dE C → h.1 172 e = dW V e) (hS : sR 0 (dP C) s h) (hH : hL (dP C) H h) (hM : mL (dP C) M h) (hx : h.1 170 24 = nI x) (hm : m < 4) (hm1 : M.1 m = true) (hQ : ∀ h1, (ex_P h1) → (cI C) → (tR C h1) → (∀ e, e < dE C → h1.1 172 e = dW V e) → (sR 0 (dP C) (d_291b_s s H M x m) h1) → (hL (dP C) (d_291b_H s H M x m) h1) → (mL (dP C) M h1) → (h1.1 170 24 = nI (d_291b_x s H M x m)) → Q (some (.int (d_291b s H M x m))) h1) : am_call am_cod 3 291 [.ref 154, .int (nI m), .int (Int32.ofInt 1)] h Q := by
  have h6 := hT.1.2.1
  have h5 := hT.2.1.2.1
  refine pz_call (n := 291) (nL := 3) (rt := (some .boolean)) (rows := am_r291) (d := 2) (by decide +kernel) (by decide +kernel) rfl (by funext pc; rfl) (ex_175 hP) (by exact Nat.le_of_ble_eq_true rfl) ?_
  refine am_goX 3 (show am_sh h 154 = some (11, 0) ∧ narrow (am_fty 11 0) (.int (Int32.ofInt 0)) = .int (Int32.ofInt 0) ∧ fits (am_fty 11 0) (.int (Int32.ofInt 0)) = true ∧ pz_S 3 (some .boolean) am_r291 2 Q 5 [(0, .ref 154), (1, .int (nI m)), (2, .int (Int32.ofInt 1))] [] (am_wI h 154 0 (Int32.ofInt 0)) from ⟨ex_154 hP, rfl, rfl, ?_⟩)
  have f583 : ex_P (am_wI h 154 0 (Int32.ofInt 0)) := hP
  have f584 : cI C := hI
  have f585 : tR C (am_wI h 154 0 (Int32.ofInt 0)) := tR_w (by omega) hT
  have f586 : ∀ e, e < dE C → (am_wI h 154 0 (Int32.ofInt 0)).1 172 e = dW V e := on_w (by omega) hO
  have f587 : sR 0 (dP C) s (am_wI h 154 0 (Int32.ofInt 0)) := sR_o (by omega) hS
  have f588 : hL (dP C) H (am_wI h 154 0 (Int32.ofInt 0)) := hL_w (by omega) hH
  have f589 : mL (dP C) M (am_wI h 154 0 (Int32.ofInt 0)) := mL_w (by omega) hM
  have f590 : (am_wI h 154 0 (Int32.ofInt 0)).1 170 24 = nI x := (em_wn _ _ (by omega)).trans hx
  generalize am_wI h 154 0 (Int32.ofInt 0) = h582 at f583 f584 f585 f586 f587 f588 f589 f590 ⊢
  refine am_goX 4 (show 0 ≤ 8 ∧ h582.2.2.2.2 + am_al 207 ≤ 175 ∧ am_call am_cod 2 207 [.int (nI m), .int (Int32.ofInt 0), .int (Int32.ofInt 3)] h582 (fun vv h' => pz_S 3 (some .boolean) am_r291 2 Q 11 [(0, .ref 154), (1, .int (nI m)), (2, .int (Int32.ofInt 1))] (vv.toList ++ []) h') from ⟨by decide, ex_lim f583 rfl, am_call.up (d_207_w f583 ?_) (by decide)⟩)
  rw [show d_207 (nI m) (Int32.ofInt 0) (Int32.ofInt 3) = Int32.ofInt 1 from ((d_207_e _ _ _).trans (v_60 (lo := 0) (hi := 3) (by omega) (by omega) (by decide)))]
  refine am_goX 1 (show ((Int32.ofInt 1) = 0 → pz_S 3 (some .boolean) am_r291 2 Q 27 [(0, .ref 154), (1, .int (nI m)), (2, .int (Int32.ofInt 1))] [] h582) ∧ (¬ ((Int32.ofInt 1) = 0) → pz_S 3 (some .boolean) am_r291 2 Q 14 [(0, .ref 154), (1, .int (nI m)), (2, .int (Int32.ofInt 1))] [] h582) from ⟨fun hz => absurd hz (by decide), fun _ => ?_⟩)
  refine am_goX 2 (show ((Int32.ofInt 1) = 0 → pz_S 3 (some .boolean) am_r291 2 Q 29 [(0, .ref 154), (1, .int (nI m)), (2, .int (Int32.ofInt 1))] [] h582) ∧ (¬ ((Int32.ofInt 1) = 0) → pz_S 3 (some .boolean) am_r291 2 Q 18 [(0, .ref 154), (1, .int (nI m)), (2, .int (Int32.ofInt 1))] [] h582) from ⟨fun hz => absurd hz (by decide), fun _ => ?_⟩)
  refine am_goX 2 (show am_sh h582 154 = some (11, 0) ∧ pz_S 3 (some .boolean) am_r291 2 Q 22 [(0, .ref 154), (1, .int (nI m)), (2, .int (Int32.ofInt 1))] [am_rf (h582.2.2.1 154 26)] h582 from ⟨ex_154 f583, ?_⟩)
  rw [show am_rf (h582.2.2.1 154 26) = .ref 171 from congrArg am_rf (ex_r154_26 f583)]
  refine am_goX 2 (show (∃ jj nn : Nat, am_sh h582 171 = some (15, nn) ∧ jj < nn ∧ nI m = nI jj ∧ pz_S 3 (some .boolean) am_r291 2 Q 24 [(0, .ref 154), (1, .int (nI m)), (2, .int (Int32.ofInt 1))] [.int (h582.1 171 jj)] h582) ∨ _ from Or.inl ⟨m, 4, ex_171 f583, (by omega), rfl, ?_⟩)
  rw [show h582.1 171 m = Int32.ofInt 1 from ((f589 m hm).1.trans (by rw [hm1]; rfl))]
  refine am_goX 1 (show (¬ (Int32.ofInt 1) = 0 → pz_S 3 (some .boolean) am_r291 2 Q 29 [(0, .ref 154), (1, .int (nI m)), (2, .int (Int32.ofInt 1))] [] h582) ∧ (¬ ¬ (Int32.ofInt 1) = 0 → pz_S 3 (some .boolean) am_r291 2 Q 27 [(0, .ref 154), (1, .int (nI m)), (2, .int (Int32.ofInt 1))] [] h582) from ⟨fun _ => ?_, fun hz => absurd (by decide) hz⟩)
  refine am_goX 2 (show am_sh h582 154 = some (11, 0) ∧ pz_S 3 (some .boolean) am_r291 2 Q 33 [(0, .ref 154), (1, .int (nI m)), (2, .int (Int32.ofInt 1))] [am_rf (h582.2.2.1 154 26)] h582 from ⟨ex_154 f583, ?_⟩)
  rw [show am_rf (h582.2.2.1 154 26) = .ref 171 from congrArg am_rf (ex_r154_26 f583)]
  refine am_goX 3 (show ∃ jj nn : Nat, am_so h582 171 = some (15, nn) ∧ jj < nn ∧ nI m = nI jj ∧ pz_S 3 (some .boolean) am_r291 2 Q 36 [(0, .ref 154), (1, .int (nI m)), (2, .int (Int32.ofInt 1))] [] (am_wI h582 171 jj (vp_nar .boolean (Int32.ofInt 1))) from ⟨m, 4, ex_w171 f583, (by omega), rfl, ?_⟩)
  have f592 : ex_P (am_wI h582 171 m (vp_nar .boolean (Int32.ofInt 1))) := f583
  have f593 : cI C := f584
  have f594 : tR C (am_wI h582 171 m (vp_nar .boolean (Int32.ofInt 1))) := tR_w (by omega) f585
  have f595 : ∀ e, e < dE C → (am_wI h582 171 m (vp_nar .boolean (Int32.ofInt 1))).1 172 e = dW V e := on_w (by omega) f586
  have f596 : sR 0 (dP C) s (am_wI h582 171 m (vp_nar .boolean (Int32.ofInt 1))) := sR_o (by omega) f587
  have f597 : hL (dP C) H (am_wI h582 171 m (vp_nar .boolean (Int32.ofInt 1))) := hL_w (by omega) f588
  have f598 : mL (dP C) M (am_wI h582 171 m (vp_nar .boolean (Int32.ofInt 1))) := mL_same hm hm1 f589
  have f599 : (am_wI h582 171 m (vp_nar .boolean (Int32.ofInt 1))).1 170 24 = nI x := (em_wn _ _ (by omega)).trans f590
  generalize am_wI h582 171 m (vp_nar .boolean (Int32.ofInt 1)) = h591 at f592 f593 f594 f595 f596 f597 f598 f599 ⊢
  refine am_goX 3 (show ((Int32.ofInt 1) = 0 → pz_S 3 (some .boolean) am_r291 2 Q 50 [(0, .ref 154), (1, .int (nI m)), (2, .int (Int32.ofInt 1))] [.ref 154] h591) ∧ (¬ ((Int32.ofInt 1) = 0) → pz_S 3 (some .boolean) am_r291 2 Q 41 [(0, .ref 154), (1, .int (nI m)), (2, .int (Int32.ofInt 1))] [.ref 154] h591) from ⟨fun hz => absurd hz (by decide), fun _ => ?_⟩)
  refine am_goX 8 (show ((Int32.ofInt 1) = 0 → pz_S 3 (some .boolean) am_r291 2 Q 59 [(0, .ref 154), (1, .int (nI m)), (2, .int (Int32.ofInt 1))] [.int (((Int8.ofInt 49).toInt32) * ((Int32.ofInt 1) + (nI m))), .ref 154] h591) ∧ (¬ ((Int32.ofInt 1) = 0) → pz_S 3 (some .boolean) am_r291 2 Q 55 [(0, .ref 154), (1, .int (nI m)), (2, .int (Int32.ofInt 1))] [.int (((Int8.ofInt 49).toInt32) * ((Int32.ofInt 1) + (nI m))), .ref 154] h591) from ⟨fun hz => absurd hz (by decide), fun _ => ?_⟩)
  refine am_goX 3 (show pz_S 3 (some .boolean) am_r291 2 Q 67 [(0, .ref 154), (1, .int (nI m)), (2, .int (Int32.ofInt 1))] [.int ((Int8.ofInt 49).toInt32), .int (Int32.ofInt 0), .int (((Int8.ofInt 49).toInt32) * ((Int32.ofInt 1) + (nI m))), .ref 154] h591 from ?_)
  rw [show ((Int8.ofInt 49).toInt32) * ((Int32.ofInt 1) + (nI m)) = nI (49 * (1 + m)) from (dn_m (show (Int8.ofInt 49).toInt32 = nI 49 by decide) (dn_a rfl rfl))]
  rw [show Int32.ofInt 0 = nI 0 from rfl]
  rw [show (Int8.ofInt 49).toInt32 = nI 49 from (show (Int8.ofInt 49).toInt32 = nI 49 by decide)]
  refine am_goX 1 (show am_rc h591 154 11 ∧ 0 ≤ 8 ∧ h591.2.2.2.2 + am_al 232 ≤ 175 ∧ am_call am_cod 2 232 [.ref 154, .int (nI (49 * (1 + m))), .int (nI 0), .int (nI 49)] h591 (fun vv h' => pz_S 3 (some .boolean) am_r291 2 Q 70 [(0, .ref 154), (1, .int (nI m)), (2, .int (Int32.ofInt 1))] (vv.toList ++ []) h') from ⟨Or.inl ⟨by decide, ex_154 f592⟩, by decide, ex_lim f592 rfl, am_call.up (q_232 (A := (49 * (1 + m))) (B := 0) (K := 49) rfl rfl rfl (by omega) (by omega) (by omega) f592 (fun h600 f601 f602 f603 f604 => ?_)) (by decide)⟩)
  have f605 : sR 0 (dP C) (M.2.1 m) h600 := sR_cp (A := 49 + 49 * m) (fun j hj => by have w := f604 j (by omega); rw [show (49 * (1 + m)) + j = 49 + 49 * m + j by omega] at w; exact w) h6 ((f598 m hm).2 hm1).1
  have f606 : h600.1 170 24 = nI (M.2.2 m) := by have w := f604 24 (by omega); rw [show (49 * (1 + m)) + 24 = 73 + 49 * m by omega] at w; exact w.trans ((f598 m hm).2 hm1).2
  have f607 : tR C h600 := tR_fr (fun a k u1 u2 => f603 a k (by omega)) f594
  have f608 : ∀ e, e < dE C → h600.1 172 e = dW V e := fun e he => (f603 172 e (by omega)).trans (f595 e he)
  have f609 : hL (dP C) H h600 := hL_fr f594.1.2.1 (f603 154 25 (by omega)) (fun k u1 u2 => f603 170 k (by omega)) f597
  have f610 : mL (dP C) M h600 := mL_fr f594.1.2.1 (fun m hm => f603 171 m (by omega)) (fun k u1 u2 => f603 170 k (by omega)) f598
  refine am_goX 3 (show ((Int32.ofInt 1) = 0 → pz_S 3 (some .boolean) am_r291 2 Q 79 [(0, .ref 154), (1, .int (nI m)), (2, .int (Int32.ofInt 1))] [.ref 154] h600) ∧ (¬ ((Int32.ofInt 1) = 0) → pz_S 3 (some .boolean) am_r291 2 Q 75 [(0, .ref 154), (1, .int (nI m)), (2, .int (Int32.ofInt 1))] [.ref 154] h600) from ⟨fun hz => absurd hz (by decide), fun _ => ?_⟩)
  refine am_goX 3 (show am_sh h600 154 = some (11, 0) ∧ narrow (am_fty 11 25) (.int (Int32.ofInt 0)) = .int (Int32.ofInt 0) ∧ fits (am_fty 11 25) (.int (Int32.ofInt 0)) = true ∧ pz_S 3 (some .boolean) am_r291 2 Q 86 [(0, .ref 154), (1, .int (nI m)), (2, .int (Int32.ofInt 1))] [] (am_wI h600 154 25 (Int32.ofInt 0)) from ⟨ex_154 f601, rfl, rfl, ?_⟩)
  have f612 : ex_P (am_wI h600 154 25 (Int32.ofInt 0)) := f601
  have f613 : cI C := f593
  have f614 : tR C (am_wI h600 154 25 (Int32.ofInt 0)) := tR_w (by omega) f607
  have f615 : ∀ e, e < dE C → (am_wI h600 154 25 (Int32.ofInt 0)).1 172 e = dW V e := on_w (by omega) f608
  have f616 : sR 0 (dP C) (M.2.1 m) (am_wI h600 154 25 (Int32.ofInt 0)) := sR_o (by omega) f605
  have f617 : hL (dP C) (0, H.2) (am_wI h600 154 25 (Int32.ofInt 0)) := hL_z f609
  have f618 : mL (dP C) M (am_wI h600 154 25 (Int32.ofInt 0)) := mL_w (by omega) f610
  have f619 : (am_wI h600 154 25 (Int32.ofInt 0)).1 170 24 = nI (M.2.2 m) := (em_wn _ _ (by omega)).trans f606
  generalize am_wI h600 154 25 (Int32.ofInt 0) = h611 at f612 f613 f614 f615 f616 f617 f618 f619 ⊢
  exact am_goX 2 (show (∃ ty, (some .boolean) = some ty ∧ narrow ty (.int (Int32.ofInt 1)) = .int (Int32.ofInt 1)) ∧ h611.2.2.2.2 = 175 ∧ _ from ⟨⟨.boolean, rfl, rfl⟩, ex_175 f612, hQ _ f612 f613 f614 f615 f616 f617 f618 f619⟩)
def d_291n  : Int32 := Int32.ofInt 0
theorem d_291_n (hP : ex_P h) (hI : cI C) (hT : tR C h) (hO : ∀ e, e < dE C → h.1 172 e = dW V e) (hS : sR 0 (dP C) s h) (hH : hL (dP C) H h) (hM : mL (dP C) M h) (hx : h.1 170 24 = nI x) (hm : m < 4) (hm1 : M.1 m = false) (hQ : ∀ h1, (ex_P h1) → (cI C) → (tR C h1) → (∀ e, e < dE C → h1.1 172 e = dW V e) → (sR 0 (dP C) s h1) → (hL (dP C) H h1) → (mL (dP C) M h1) → (h1.1 170 24 = nI x) → Q (some (.int d_291n)) h1) : am_call am_cod 3 291 [.ref 154, .int (nI m), .int (Int32.ofInt 1)] h Q := by
  have h6 := hT.1.2.1
  have h5 := hT.2.1.2.1
  refine pz_call (n := 291) (nL := 3) (rt := (some .boolean)) (rows := am_r291) (d := 2) (by decide +kernel) (by decide +kernel) rfl (by funext pc; rfl) (ex_175 hP) (by exact Nat.le_of_ble_eq_true rfl) ?_
  refine am_goX 3 (show am_sh h 154 = some (11, 0) ∧ narrow (am_fty 11 0) (.int (Int32.ofInt 0)) = .int (Int32.ofInt 0) ∧ fits (am_fty 11 0) (.int (Int32.ofInt 0)) = true ∧ pz_S 3 (some .boolean) am_r291 2 Q 5 [(0, .ref 154), (1, .int (nI m)), (2, .int (Int32.ofInt 1))] [] (am_wI h 154 0 (Int32.ofInt 0)) from ⟨ex_154 hP, rfl, rfl, ?_⟩)
  have f621 : ex_P (am_wI h 154 0 (Int32.ofInt 0)) := hP
  have f622 : cI C := hI
  have f623 : tR C (am_wI h 154 0 (Int32.ofInt 0)) := tR_w (by omega) hT
  have f624 : ∀ e, e < dE C → (am_wI h 154 0 (Int32.ofInt 0)).1 172 e = dW V e := on_w (by omega) hO
  have f625 : sR 0 (dP C) s (am_wI h 154 0 (Int32.ofInt 0)) := sR_o (by omega) hS
  have f626 : hL (dP C) H (am_wI h 154 0 (Int32.ofInt 0)) := hL_w (by omega) hH
  have f627 : mL (dP C) M (am_wI h 154 0 (Int32.ofInt 0)) := mL_w (by omega) hM
  have f628 : (am_wI h 154 0 (Int32.ofInt 0)).1 170 24 = nI x := (em_wn _ _ (by omega)).trans hx
  generalize am_wI h 154 0 (Int32.ofInt 0) = h620 at f621 f622 f623 f624 f625 f626 f627 f628 ⊢
  refine am_goX 4 (show 0 ≤ 8 ∧ h620.2.2.2.2 + am_al 207 ≤ 175 ∧ am_call am_cod 2 207 [.int (nI m), .int (Int32.ofInt 0), .int (Int32.ofInt 3)] h620 (fun vv h' => pz_S 3 (some .boolean) am_r291 2 Q 11 [(0, .ref 154), (1, .int (nI m)), (2, .int (Int32.ofInt 1))] (vv.toList ++ []) h') from ⟨by decide, ex_lim f621 rfl, am_call.up (d_207_w f621 ?_) (by decide)⟩)
  rw [show d_207 (nI m) (Int32.ofInt 0) (Int32.ofInt 3) = Int32.ofInt 1 from ((d_207_e _ _ _).trans (v_60 (lo := 0) (hi := 3) (by omega) (by omega) (by decide)))]
  refine am_goX 1 (show ((Int32.ofInt 1) = 0 → pz_S 3 (some .boolean) am_r291 2 Q 27 [(0, .ref 154), (1, .int (nI m)), (2, .int (Int32.ofInt 1))] [] h620) ∧ (¬ ((Int32.ofInt 1) = 0) → pz_S 3 (some .boolean) am_r291 2 Q 14 [(0, .ref 154), (1, .int (nI m)), (2, .int (Int32.ofInt 1))] [] h620) from ⟨fun hz => absurd hz (by decide), fun _ => ?_⟩)
  refine am_goX 2 (show ((Int32.ofInt 1) = 0 → pz_S 3 (some .boolean) am_r291 2 Q 29 [(0, .ref 154), (1, .int (nI m)), (2, .int (Int32.ofInt 1))] [] h620) ∧ (¬ ((Int32.ofInt 1) = 0) → pz_S 3 (some .boolean) am_r291 2 Q 18 [(0, .ref 154), (1, .int (nI m)), (2, .int (Int32.ofInt 1))] [] h620) from ⟨fun hz => absurd hz (by decide), fun _ => ?_⟩)
  refine am_goX 2 (show am_sh h620 154 = some (11, 0) ∧ pz_S 3 (some .boolean) am_r291 2 Q 22 [(0, .ref 154), (1, .int (nI m)), (2, .int (Int32.ofInt 1))] [am_rf (h620.2.2.1 154 26)] h620 from ⟨ex_154 f621, ?_⟩)
  rw [show am_rf (h620.2.2.1 154 26) = .ref 171 from congrArg am_rf (ex_r154_26 f621)]
  refine am_goX 2 (show (∃ jj nn : Nat, am_sh h620 171 = some (15, nn) ∧ jj < nn ∧ nI m = nI jj ∧ pz_S 3 (some .boolean) am_r291 2 Q 24 [(0, .ref 154), (1, .int (nI m)), (2, .int (Int32.ofInt 1))] [.int (h620.1 171 jj)] h620) ∨ _ from Or.inl ⟨m, 4, ex_171 f621, (by omega), rfl, ?_⟩)
  rw [show h620.1 171 m = Int32.ofInt 0 from ((f627 m hm).1.trans (by rw [hm1]; rfl))]
  refine am_goX 1 (show (¬ (Int32.ofInt 0) = 0 → pz_S 3 (some .boolean) am_r291 2 Q 29 [(0, .ref 154), (1, .int (nI m)), (2, .int (Int32.ofInt 1))] [] h620) ∧ (¬ ¬ (Int32.ofInt 0) = 0 → pz_S 3 (some .boolean) am_r291 2 Q 27 [(0, .ref 154), (1, .int (nI m)), (2, .int (Int32.ofInt 1))] [] h620) from ⟨fun hz => absurd hz (by decide), fun _ => ?_⟩)
  exact am_goX 2 (show (∃ ty, (some .boolean) = some ty ∧ narrow ty (.int (Int32.ofInt 0)) = .int (Int32.ofInt 0)) ∧ h620.2.2.2.2 = 175 ∧ _ from ⟨⟨.boolean, rfl, rfl⟩, ex_175 f621, hQ _ f621 f622 f623 f624 f625 f626 f627 f628⟩)
theorem d_291_xL (hP : ex_P h) (hI : cI C) (hT : tR C h) (hO : ∀ e, e < dE C → h.1 172 e = dW V e) (hS : sR 0 (dP C) s h) (hH : hL (dP C) H h) (hM : mL (dP C) M h) (hx : h.1 170 24 = nI x) (ew : d_60 w (Int32.ofInt 0) (Int32.ofInt 3) = Int32.ofInt 0) (hQ : ∀ h1, (ex_P h1) → (cI C) → (tR C h1) → (∀ e, e < dE C → h1.1 172 e = dW V e) → (sR 0 (dP C) s h1) → (hL (dP C) H h1) → (mL (dP C) M h1) → (h1.1 170 24 = nI x) → Q (some (.int d_291n)) h1) : am_call am_cod 3 291 [.ref 154, .int w, .int b] h Q := by
  have h6 := hT.1.2.1
  have h5 := hT.2.1.2.1
  refine pz_call (n := 291) (nL := 3) (rt := (some .boolean)) (rows := am_r291) (d := 2) (by decide +kernel) (by decide +kernel) rfl (by funext pc; rfl) (ex_175 hP) (by exact Nat.le_of_ble_eq_true rfl) ?_
  refine am_goX 3 (show am_sh h 154 = some (11, 0) ∧ narrow (am_fty 11 0) (.int (Int32.ofInt 0)) = .int (Int32.ofInt 0) ∧ fits (am_fty 11 0) (.int (Int32.ofInt 0)) = true ∧ pz_S 3 (some .boolean) am_r291 2 Q 5 [(0, .ref 154), (1, .int w), (2, .int b)] [] (am_wI h 154 0 (Int32.ofInt 0)) from ⟨ex_154 hP, rfl, rfl, ?_⟩)
  have f630 : ex_P (am_wI h 154 0 (Int32.ofInt 0)) := hP
  have f631 : cI C := hI
  have f632 : tR C (am_wI h 154 0 (Int32.ofInt 0)) := tR_w (by omega) hT
  have f633 : ∀ e, e < dE C → (am_wI h 154 0 (Int32.ofInt 0)).1 172 e = dW V e := on_w (by omega) hO
  have f634 : sR 0 (dP C) s (am_wI h 154 0 (Int32.ofInt 0)) := sR_o (by omega) hS
  have f635 : hL (dP C) H (am_wI h 154 0 (Int32.ofInt 0)) := hL_w (by omega) hH
  have f636 : mL (dP C) M (am_wI h 154 0 (Int32.ofInt 0)) := mL_w (by omega) hM
  have f637 : (am_wI h 154 0 (Int32.ofInt 0)).1 170 24 = nI x := (em_wn _ _ (by omega)).trans hx
  generalize am_wI h 154 0 (Int32.ofInt 0) = h629 at f630 f631 f632 f633 f634 f635 f636 f637 ⊢
  refine am_goX 4 (show 0 ≤ 8 ∧ h629.2.2.2.2 + am_al 207 ≤ 175 ∧ am_call am_cod 2 207 [.int w, .int (Int32.ofInt 0), .int (Int32.ofInt 3)] h629 (fun vv h' => pz_S 3 (some .boolean) am_r291 2 Q 11 [(0, .ref 154), (1, .int w), (2, .int b)] (vv.toList ++ []) h') from ⟨by decide, ex_lim f630 rfl, am_call.up (d_207_w f630 ?_) (by decide)⟩)
  rw [show d_207 w (Int32.ofInt 0) (Int32.ofInt 3) = Int32.ofInt 0 from ((d_207_e _ _ _).trans ew)]
  refine am_goX 1 (show ((Int32.ofInt 0) = 0 → pz_S 3 (some .boolean) am_r291 2 Q 27 [(0, .ref 154), (1, .int w), (2, .int b)] [] h629) ∧ (¬ ((Int32.ofInt 0) = 0) → pz_S 3 (some .boolean) am_r291 2 Q 14 [(0, .ref 154), (1, .int w), (2, .int b)] [] h629) from ⟨fun _ => ?_, fun hz => absurd (by decide) hz⟩)
  exact am_goX 2 (show (∃ ty, (some .boolean) = some ty ∧ narrow ty (.int (Int32.ofInt 0)) = .int (Int32.ofInt 0)) ∧ h629.2.2.2.2 = 175 ∧ _ from ⟨⟨.boolean, rfl, rfl⟩, ex_175 f630, hQ _ f630 f631 f632 f633 f634 f635 f636 f637⟩)
