/-! begins OF THE REFERENCE, EXACTLY -/
/-- state 0 as a canton begins -/
def bs_v (P : Nat) (h : am_H) (k : Nat) : Int32 := if 2 ≤ k ∧ k < 2 + P then h.1 160 (5 + 3 * (k - 2)) else 0
def bR (P E : Nat) (h h1 : am_H) : Prop := h1.2 = h.2 ∧ (∀ o k, ¬ ((o = 154 ∧ k = 25) ∨ (o = 167 ∧ k = 0) ∨ (o = 170 ∧ k ≤ 24) ∨ (o = 171 ∧ k < 4) ∨ (o = 172 ∧ k < 5)) → h1.1 o k = h.1 o k) ∧ ((∀ k, k < 24 → h1.1 170 k = bs_v P h k) ∧ h1.1 170 24 = 0) ∧ h1.1 167 0 = 0 ∧ h1.1 154 25 = 0 ∧ (∀ m, m < 4 → h1.1 171 m = 0) ∧ (∀ e, e < E → h1.1 172 e = h.1 160 (22 + 2 * e))
variable {h : am_H} {P E : Nat} {Q : am_Q}
theorem ex_167 {h : am_H} (hP : ex_P h) : am_sh h 167 = some (13, 250) := (ex_so hP (by decide +kernel)).2
theorem ex_w167 {h : am_H} (hP : ex_P h) : am_so h 167 = some (13, 250) := (ex_so hP (by decide +kernel)).1
theorem ex_170 {h : am_H} (hP : ex_P h) : am_sh h 170 = some (13, 1127) := (ex_so hP (by decide +kernel)).2
theorem ex_w170 {h : am_H} (hP : ex_P h) : am_so h 170 = some (13, 1127) := (ex_so hP (by decide +kernel)).1
theorem ex_171 {h : am_H} (hP : ex_P h) : am_sh h 171 = some (15, 4) := (ex_so hP (by decide +kernel)).2
theorem ex_w171 {h : am_H} (hP : ex_P h) : am_so h 171 = some (15, 4) := (ex_so hP (by decide +kernel)).1
theorem ex_172 {h : am_H} (hP : ex_P h) : am_sh h 172 = some (13, 5) := (ex_so hP (by decide +kernel)).2
theorem ex_w172 {h : am_H} (hP : ex_P h) : am_so h 172 = some (13, 5) := (ex_so hP (by decide +kernel)).1
theorem ex_r154_21 {h : am_H} (hP : ex_P h) : h.2.2.1 154 21 = some 167 := hP.2 154 21 167 (by decide +kernel)
theorem ex_r154_24 {h : am_H} (hP : ex_P h) : h.2.2.1 154 24 = some 170 := hP.2 154 24 170 (by decide +kernel)
theorem ex_r154_26 {h : am_H} (hP : ex_P h) : h.2.2.1 154 26 = some 171 := hP.2 154 26 171 (by decide +kernel)
theorem ex_r154_27 {h : am_H} (hP : ex_P h) : h.2.2.1 154 27 = some 172 := hP.2 154 27 172 (by decide +kernel)
theorem b_183 (hP : ex_P h) (hQ : Q (some (.int (h.1 160 1))) h) : am_call am_cod 1 183 [.ref 154] h Q := by
  refine pz_call (n := 183) (nL := 1) (rt := (some .int)) (rows := am_r183) (d := 0) (by decide +kernel) (by decide +kernel) rfl (by funext pc; rfl) (ex_175 hP) (by exact Nat.le_of_ble_eq_true rfl) ?_
  refine am_goX 2 (show am_sh h 154 = some (11, 0) ∧ pz_S 1 (some .int) am_r183 0 Q 4 [(0, .ref 154)] [am_rf (h.2.2.1 154 10)] h from ⟨ex_154 hP, ?_⟩)
  rw [ex_r154_10 (h := h) hP]
  refine am_goX 2 (show ∃ jj nn : Nat, am_sh h 160 = some (13, nn) ∧ jj < nn ∧ (Int32.ofInt 1) = nI jj ∧ pz_S 1 (some .int) am_r183 0 Q 6 [(0, .ref 154)] [.int (h.1 160 jj)] h from ⟨1, 80, ex_160 hP, by decide, by decide, ?_⟩)
  exact am_goX 1 (show (∃ ty, (some .int) = some ty ∧ narrow ty (.int ((h.1 160 1))) = .int ((h.1 160 1))) ∧ h.2.2.2.2 = 175 ∧ _ from ⟨⟨.int, rfl, rfl⟩, ex_175 hP, hQ⟩)
theorem b_186 (hP : ex_P h) (hQ : Q (some (.int (h.1 160 0))) h) : am_call am_cod 1 186 [.ref 154] h Q := by
  refine pz_call (n := 186) (nL := 1) (rt := (some .int)) (rows := am_r186) (d := 0) (by decide +kernel) (by decide +kernel) rfl (by funext pc; rfl) (ex_175 hP) (by exact Nat.le_of_ble_eq_true rfl) ?_
  refine am_goX 2 (show am_sh h 154 = some (11, 0) ∧ pz_S 1 (some .int) am_r186 0 Q 4 [(0, .ref 154)] [am_rf (h.2.2.1 154 10)] h from ⟨ex_154 hP, ?_⟩)
  rw [ex_r154_10 (h := h) hP]
  refine am_goX 2 (show ∃ jj nn : Nat, am_sh h 160 = some (13, nn) ∧ jj < nn ∧ (Int32.ofInt 0) = nI jj ∧ pz_S 1 (some .int) am_r186 0 Q 6 [(0, .ref 154)] [.int (h.1 160 jj)] h from ⟨0, 80, ex_160 hP, by decide, by decide, ?_⟩)
  exact am_goX 1 (show (∃ ty, (some .int) = some ty ∧ narrow ty (.int ((h.1 160 0))) = .int ((h.1 160 0))) ∧ h.2.2.2.2 = 175 ∧ _ from ⟨⟨.int, rfl, rfl⟩, ex_175 hP, hQ⟩)
theorem b_184 {i : Nat} (hi : i < 6) (hP : ex_P h) (hQ : Q (some (.int (h.1 160 (22 + 2 * i)))) h) : am_call am_cod 1 184 [.ref 154, .int (nI i), .int (Int32.ofInt 0)] h Q := by
  refine pz_call (n := 184) (nL := 3) (rt := (some .int)) (rows := am_r184) (d := 0) (by decide +kernel) (by decide +kernel) rfl (by funext pc; rfl) (ex_175 hP) (by exact Nat.le_of_ble_eq_true rfl) ?_
  refine am_goX 2 (show am_sh h 154 = some (11, 0) ∧ pz_S 3 (some .int) am_r184 0 Q 4 [(0, .ref 154), (1, .int (nI i)), (2, .int (Int32.ofInt 0))] [am_rf (h.2.2.1 154 10)] h from ⟨ex_154 hP, ?_⟩)
  rw [ex_r154_10 (h := h) hP]
  refine am_goX 8 (show ∃ jj nn : Nat, am_sh h 160 = some (13, nn) ∧ jj < nn ∧ (((Int8.ofInt 22).toInt32 + ((Int32.ofInt 2) * (nI i))) + (Int32.ofInt 0)) = nI jj ∧ pz_S 3 (some .int) am_r184 0 Q 13 [(0, .ref 154), (1, .int (nI i)), (2, .int (Int32.ofInt 0))] [.int (h.1 160 jj)] h from ⟨(22 + 2 * i), 80, ex_160 hP, by omega, (by
    rw [show Int32.ofInt 2 * nI i = nI (2 * i) from nI_mul 2 _, show (Int8.ofInt 22).toInt32 + nI (2 * i) = nI (22 + 2 * i) from nI_add 22 _]
    exact Int32.add_zero _), ?_⟩)
  exact am_goX 1 (show (∃ ty, (some .int) = some ty ∧ narrow ty (.int ((h.1 160 (22 + 2 * i)))) = .int ((h.1 160 (22 + 2 * i)))) ∧ h.2.2.2.2 = 175 ∧ _ from ⟨⟨.int, rfl, rfl⟩, ex_175 hP, hQ⟩)
theorem b_187 {i : Nat} (hi : i < 6) (hP : ex_P h) (hQ : Q (some (.int (h.1 160 (5 + 3 * i)))) h) : am_call am_cod 1 187 [.ref 154, .int (nI i), .int (Int32.ofInt 1)] h Q := by
  refine pz_call (n := 187) (nL := 3) (rt := (some .int)) (rows := am_r187) (d := 0) (by decide +kernel) (by decide +kernel) rfl (by funext pc; rfl) (ex_175 hP) (by exact Nat.le_of_ble_eq_true rfl) ?_
  refine am_goX 2 (show am_sh h 154 = some (11, 0) ∧ pz_S 3 (some .int) am_r187 0 Q 4 [(0, .ref 154), (1, .int (nI i)), (2, .int (Int32.ofInt 1))] [am_rf (h.2.2.1 154 10)] h from ⟨ex_154 hP, ?_⟩)
  rw [ex_r154_10 (h := h) hP]
  refine am_goX 8 (show ∃ jj nn : Nat, am_sh h 160 = some (13, nn) ∧ jj < nn ∧ (((Int32.ofInt 4) + ((Int32.ofInt 3) * (nI i))) + (Int32.ofInt 1)) = nI jj ∧ pz_S 3 (some .int) am_r187 0 Q 12 [(0, .ref 154), (1, .int (nI i)), (2, .int (Int32.ofInt 1))] [.int (h.1 160 jj)] h from ⟨(5 + 3 * i), 80, ex_160 hP, by omega, (by
    rw [show Int32.ofInt 3 * nI i = nI (3 * i) from nI_mul 3 _, show Int32.ofInt 4 + nI (3 * i) = nI (4 + 3 * i) from nI_add 4 _, xw_i1]
    congr 1
    omega), ?_⟩)
  exact am_goX 1 (show (∃ ty, (some .int) = some ty ∧ narrow ty (.int ((h.1 160 (5 + 3 * i)))) = .int ((h.1 160 (5 + 3 * i)))) ∧ h.2.2.2.2 = 175 ∧ _ from ⟨⟨.int, rfl, rfl⟩, ex_175 hP, hQ⟩)
theorem b_182l (hE : E ≤ 5) : ∀ (m i : Nat) (h : am_H), i + m = E → ex_P h → h.1 160 1 = nI E → (∀ e, e < i → h.1 172 e = h.1 160 (22 + 2 * e)) → (∀ h1, ex_P h1 → h1.2 = h.2 → (∀ o k, ¬ (o = 172 ∧ k < 5) → h1.1 o k = h.1 o k) → (∀ e, e < E → h1.1 172 e = h.1 160 (22 + 2 * e)) → Q none h1) → pz_S 2 none am_r182 1 Q 2 [(1, .int (nI i)), (0, .ref 154)] [] h := by
  intro m
  induction m with
  | zero =>
    intro i h hi hP e1 hj hQ
    refine am_goX 3 (show am_rc h 154 11 ∧ 1 ≤ 8 ∧ h.2.2.2.2 + am_al 183 ≤ 175 ∧ am_call am_cod 1 183 [.ref 154] h (fun vv h' => pz_S 2 none am_r182 1 Q 7 [(1, .int (nI i)), (0, .ref 154)] (vv.toList ++ [.int (nI i)]) h') from ⟨Or.inl ⟨by decide, ex_154 hP⟩, by decide, ex_lim hP rfl, b_183 hP ?_⟩)
    rw [e1]
    refine am_goX 1 (show ((nI E) ≤ (nI i) → pz_S 2 none am_r182 1 Q 28 [(1, .int (nI i)), (0, .ref 154)] [] h) ∧ (¬ ((nI E) ≤ (nI i)) → pz_S 2 none am_r182 1 Q 10 [(1, .int (nI i)), (0, .ref 154)] [] h) from ⟨fun _ => ?_, fun hz => absurd (nI_le (by omega) (by omega)) hz⟩)
    exact am_goX 1 (show (none : Option FieldType) = none ∧ h.2.2.2.2 = 175 ∧ _ from ⟨rfl, ex_175 hP, hQ _ hP rfl (fun _ _ _ => rfl) (fun e he => hj e (by omega))⟩)
  | succ m ih =>
    intro i h hi hP e1 hj hQ
    refine am_goX 3 (show am_rc h 154 11 ∧ 1 ≤ 8 ∧ h.2.2.2.2 + am_al 183 ≤ 175 ∧ am_call am_cod 1 183 [.ref 154] h (fun vv h' => pz_S 2 none am_r182 1 Q 7 [(1, .int (nI i)), (0, .ref 154)] (vv.toList ++ [.int (nI i)]) h') from ⟨Or.inl ⟨by decide, ex_154 hP⟩, by decide, ex_lim hP rfl, b_183 hP ?_⟩)
    rw [e1]
    refine am_goX 1 (show ((nI E) ≤ (nI i) → pz_S 2 none am_r182 1 Q 28 [(1, .int (nI i)), (0, .ref 154)] [] h) ∧ (¬ ((nI E) ≤ (nI i)) → pz_S 2 none am_r182 1 Q 10 [(1, .int (nI i)), (0, .ref 154)] [] h) from ⟨fun hz => absurd hz (by rw [nI_leI (by omega) (by omega)]; omega), fun _ => ?_⟩)
    refine am_goX 2 (show am_sh h 154 = some (11, 0) ∧ pz_S 2 none am_r182 1 Q 14 [(1, .int (nI i)), (0, .ref 154)] [am_rf (h.2.2.1 154 27)] h from ⟨ex_154 hP, ?_⟩)
    rw [ex_r154_27 (h := h) hP]
    refine am_goX 5 (show am_rc h 154 11 ∧ 2 ≤ 8 ∧ h.2.2.2.2 + am_al 184 ≤ 175 ∧ am_call am_cod 1 184 [.ref 154, .int (nI i), .int (Int32.ofInt 0)] h (fun vv h' => pz_S 2 none am_r182 1 Q 21 [(1, .int (nI i)), (0, .ref 154)] (vv.toList ++ [.int (nI i), .ref 172]) h') from ⟨Or.inl ⟨by decide, ex_154 hP⟩, by decide, ex_lim hP rfl, b_184 (by omega) hP ?_⟩)
    refine am_goX 1 (show ∃ jj nn : Nat, am_so h 172 = some (13, nn) ∧ jj < nn ∧ (nI i) = nI jj ∧ pz_S 2 none am_r182 1 Q 22 [(1, .int (nI i)), (0, .ref 154)] [] (am_wI h 172 jj ((h.1 160 (22 + 2 * i)))) from ⟨i, 5, ex_w172 hP, by omega, rfl, ?_⟩)
    refine am_goX 2 (show 1 < 2 ∧ pz_S 2 none am_r182 1 Q 2 [(1, .int ((nI i) + Int32.ofInt 1)), (0, .ref 154)] [] (am_wI h 172 i ((h.1 160 (22 + 2 * i)))) from ⟨by decide, ?_⟩)
    rw [xw_i1]
    refine ih (i + 1) _ (by omega) hP (by rw [em_wn _ _ (by omega)]; exact e1) (fun e he => ?_) (fun h1 p1 p2 p3 p4 => hQ h1 p1 p2 (fun o k hn => by rw [p3 o k hn, em_wn _ _ (by omega)]) (fun e he => by rw [p4 e he, em_wn _ _ (by omega)]))
    by_cases ee : e = i
    · rw [ee, em_we, em_wn _ _ (by omega)]
    · rw [em_wn _ _ (by omega), em_wn _ _ (by omega)]
      exact hj e (by omega)
theorem b_182 (hE : E ≤ 5) (hP : ex_P h) (e1 : h.1 160 1 = nI E) (hQ : ∀ h1, ex_P h1 → h1.2 = h.2 → (∀ o k, ¬ (o = 172 ∧ k < 5) → h1.1 o k = h.1 o k) → (∀ e, e < E → h1.1 172 e = h.1 160 (22 + 2 * e)) → Q none h1) : am_call am_cod 2 182 [.ref 154] h Q := by
  refine pz_call (n := 182) (nL := 2) (rt := none) (rows := am_r182) (d := 1) (by decide +kernel) (by decide +kernel) rfl (by funext pc; rfl) (ex_175 hP) (by exact Nat.le_of_ble_eq_true rfl) ?_
  refine am_goX 2 (show 1 < 2 ∧ pz_S 2 none am_r182 1 Q 2 [(1, .int (Int32.ofInt 0)), (0, .ref 154)] [] h from ⟨by decide, ?_⟩)
  exact b_182l hE E 0 h (Nat.zero_add _) hP e1 (fun e he => absurd he (Nat.not_lt_zero e)) hQ
theorem b_185b (hPm : P ≤ 6) : ∀ (m i : Nat) (h : am_H), i + m = P → ex_P h → h.1 160 0 = nI P → (∀ j, j < i → h.1 170 (2 + j) = h.1 160 (5 + 3 * j)) → (∀ h1, ex_P h1 → h1.2 = h.2 → (∀ o k, ¬ (o = 170 ∧ 2 ≤ k ∧ k < 2 + P) → h1.1 o k = h.1 o k) → (∀ j, j < P → h1.1 170 (2 + j) = h.1 160 (5 + 3 * j)) → Q none h1) → pz_S 3 none am_r185 1 Q 25 [(2, .int (nI i)), (0, .ref 154), (1, .int (Int32.ofInt 0))] [] h := by
  intro m
  induction m with
  | zero =>
    intro i h hi hP e1 hj hQ
    refine am_goX 3 (show am_rc h 154 11 ∧ 1 ≤ 8 ∧ h.2.2.2.2 + am_al 186 ≤ 175 ∧ am_call am_cod 1 186 [.ref 154] h (fun vv h' => pz_S 3 none am_r185 1 Q 30 [(2, .int (nI i)), (0, .ref 154), (1, .int (Int32.ofInt 0))] (vv.toList ++ [.int (nI i)]) h') from ⟨Or.inl ⟨by decide, ex_154 hP⟩, by decide, ex_lim hP rfl, b_186 hP ?_⟩)
    rw [e1]
    refine am_goX 1 (show ((nI P) ≤ (nI i) → pz_S 3 none am_r185 1 Q 55 [(2, .int (nI i)), (0, .ref 154), (1, .int (Int32.ofInt 0))] [] h) ∧ (¬ ((nI P) ≤ (nI i)) → pz_S 3 none am_r185 1 Q 33 [(2, .int (nI i)), (0, .ref 154), (1, .int (Int32.ofInt 0))] [] h) from ⟨fun _ => ?_, fun hz => absurd (nI_le (by omega) (by omega)) hz⟩)
    exact am_goX 1 (show (none : Option FieldType) = none ∧ h.2.2.2.2 = 175 ∧ _ from ⟨rfl, ex_175 hP, hQ _ hP rfl (fun _ _ _ => rfl) (fun e he => hj e (by omega))⟩)
  | succ m ih =>
    intro i h hi hP e1 hj hQ
    refine am_goX 3 (show am_rc h 154 11 ∧ 1 ≤ 8 ∧ h.2.2.2.2 + am_al 186 ≤ 175 ∧ am_call am_cod 1 186 [.ref 154] h (fun vv h' => pz_S 3 none am_r185 1 Q 30 [(2, .int (nI i)), (0, .ref 154), (1, .int (Int32.ofInt 0))] (vv.toList ++ [.int (nI i)]) h') from ⟨Or.inl ⟨by decide, ex_154 hP⟩, by decide, ex_lim hP rfl, b_186 hP ?_⟩)
    rw [e1]
    refine am_goX 1 (show ((nI P) ≤ (nI i) → pz_S 3 none am_r185 1 Q 55 [(2, .int (nI i)), (0, .ref 154), (1, .int (Int32.ofInt 0))] [] h) ∧ (¬ ((nI P) ≤ (nI i)) → pz_S 3 none am_r185 1 Q 33 [(2, .int (nI i)), (0, .ref 154), (1, .int (Int32.ofInt 0))] [] h) from ⟨fun hz => absurd hz (by rw [nI_leI (by omega) (by omega)]; omega), fun _ => ?_⟩)
    refine am_goX 2 (show am_sh h 154 = some (11, 0) ∧ pz_S 3 none am_r185 1 Q 37 [(2, .int (nI i)), (0, .ref 154), (1, .int (Int32.ofInt 0))] [am_rf (h.2.2.1 154 24)] h from ⟨ex_154 hP, ?_⟩)
    rw [ex_r154_24 (h := h) hP]
    refine am_goX 9 (show am_rc h 154 11 ∧ 2 ≤ 8 ∧ h.2.2.2.2 + am_al 187 ≤ 175 ∧ am_call am_cod 1 187 [.ref 154, .int (nI i), .int (Int32.ofInt 1)] h (fun vv h' => pz_S 3 none am_r185 1 Q 48 [(2, .int (nI i)), (0, .ref 154), (1, .int (Int32.ofInt 0))] (vv.toList ++ [.int (((Int32.ofInt 0) + (Int32.ofInt 2)) + (nI i)), .ref 170]) h') from ⟨Or.inl ⟨by decide, ex_154 hP⟩, by decide, ex_lim hP rfl, b_187 (by omega) hP ?_⟩)
    refine am_goX 1 (show ∃ jj nn : Nat, am_so h 170 = some (13, nn) ∧ jj < nn ∧ (((Int32.ofInt 0) + (Int32.ofInt 2)) + (nI i)) = nI jj ∧ pz_S 3 none am_r185 1 Q 49 [(2, .int (nI i)), (0, .ref 154), (1, .int (Int32.ofInt 0))] [] (am_wI h 170 jj ((h.1 160 (5 + 3 * i)))) from ⟨(2 + i), 1127, ex_w170 hP, by omega, (by rw [show Int32.ofInt 0 + Int32.ofInt 2 = nI 2 by decide]; exact nI_add 2 i), ?_⟩)
    refine am_goX 2 (show 2 < 3 ∧ pz_S 3 none am_r185 1 Q 25 [(2, .int ((nI i) + Int32.ofInt 1)), (0, .ref 154), (1, .int (Int32.ofInt 0))] [] (am_wI h 170 (2 + i) ((h.1 160 (5 + 3 * i)))) from ⟨by decide, ?_⟩)
    rw [xw_i1]
    refine ih (i + 1) _ (by omega) hP (by rw [em_wn _ _ (by omega)]; exact e1) (fun e he => ?_) (fun h1 p1 p2 p3 p4 => hQ h1 p1 p2 (fun o k hn => by rw [p3 o k hn, em_wn _ _ (by omega)]) (fun e he => by rw [p4 e he, em_wn _ _ (by omega)]))
    by_cases ee : e = i
    · rw [ee, em_we, em_wn _ _ (by omega)]
    · rw [em_wn _ _ (by omega), em_wn _ _ (by omega)]
      exact hj e (by omega)
theorem b_185a (hPm : P ≤ 6) : ∀ (m i : Nat) (h : am_H), i + m = 24 → ex_P h → h.1 160 0 = nI P → (∀ j, j < i → h.1 170 j = 0) → (∀ h1, ex_P h1 → h1.2 = h.2 → (∀ o k, ¬ (o = 170 ∧ k < 24) → h1.1 o k = h.1 o k) → (∀ k, k < 24 → h1.1 170 k = bs_v P h k) → Q none h1) → pz_S 3 none am_r185 1 Q 2 [(2, .int (nI i)), (0, .ref 154), (1, .int (Int32.ofInt 0))] [] h := by
  intro m
  induction m with
  | zero =>
    intro i h hi hP e1 hj hQ
    refine am_goX 3 (show ((Int8.ofInt 24).toInt32 ≤ (nI i) → pz_S 3 none am_r185 1 Q 23 [(2, .int (nI i)), (0, .ref 154), (1, .int (Int32.ofInt 0))] [] h) ∧ (¬ ((Int8.ofInt 24).toInt32 ≤ (nI i)) → pz_S 3 none am_r185 1 Q 8 [(2, .int (nI i)), (0, .ref 154), (1, .int (Int32.ofInt 0))] [] h) from ⟨fun _ => ?_, fun hz => absurd (show nI 24 ≤ nI i from nI_le (by omega) (by omega)) hz⟩)
    refine am_goX 2 (show 2 < 3 ∧ pz_S 3 none am_r185 1 Q 25 [(2, .int (Int32.ofInt 0)), (0, .ref 154), (1, .int (Int32.ofInt 0))] [] h from ⟨by decide, ?_⟩)
    exact b_185b hPm P 0 h (Nat.zero_add _) hP e1 (fun j hj1 => absurd hj1 (Nat.not_lt_zero j)) (fun h1 p1 p2 p3 p4 => hQ h1 p1 p2 (fun o k hn => p3 o k (by omega)) (fun k hk => by
      unfold bs_v
      by_cases g : 2 ≤ k ∧ k < 2 + P
      · rw [if_pos g]
        have := p4 (k - 2) (by omega)
        rw [show 2 + (k - 2) = k by omega] at this
        exact this
      · rw [if_neg g, p3 170 k (by omega)]
        exact hj k (by omega)))
  | succ m ih =>
    intro i h hi hP e1 hj hQ
    refine am_goX 3 (show ((Int8.ofInt 24).toInt32 ≤ (nI i) → pz_S 3 none am_r185 1 Q 23 [(2, .int (nI i)), (0, .ref 154), (1, .int (Int32.ofInt 0))] [] h) ∧ (¬ ((Int8.ofInt 24).toInt32 ≤ (nI i)) → pz_S 3 none am_r185 1 Q 8 [(2, .int (nI i)), (0, .ref 154), (1, .int (Int32.ofInt 0))] [] h) from ⟨fun hz => absurd hz (show ¬ nI 24 ≤ nI i by rw [nI_leI (by omega) (by omega)]; omega), fun _ => ?_⟩)
    refine am_goX 2 (show am_sh h 154 = some (11, 0) ∧ pz_S 3 none am_r185 1 Q 12 [(2, .int (nI i)), (0, .ref 154), (1, .int (Int32.ofInt 0))] [am_rf (h.2.2.1 154 24)] h from ⟨ex_154 hP, ?_⟩)
    rw [ex_r154_24 (h := h) hP]
    refine am_goX 5 (show ∃ jj nn : Nat, am_so h 170 = some (13, nn) ∧ jj < nn ∧ ((Int32.ofInt 0) + (nI i)) = nI jj ∧ pz_S 3 none am_r185 1 Q 17 [(2, .int (nI i)), (0, .ref 154), (1, .int (Int32.ofInt 0))] [] (am_wI h 170 jj ((Int32.ofInt 0))) from ⟨i, 1127, ex_w170 hP, by omega, (by exact Int32.zero_add _), ?_⟩)
    refine am_goX 2 (show 2 < 3 ∧ pz_S 3 none am_r185 1 Q 2 [(2, .int ((nI i) + Int32.ofInt 1)), (0, .ref 154), (1, .int (Int32.ofInt 0))] [] (am_wI h 170 i ((Int32.ofInt 0))) from ⟨by decide, ?_⟩)
    rw [xw_i1]
    refine ih (i + 1) _ (by omega) hP (by rw [em_wn _ _ (by omega)]; exact e1) (fun e he => ?_) (fun h1 p1 p2 p3 p4 => hQ h1 p1 p2 (fun o k hn => by rw [p3 o k hn, em_wn _ _ (by omega)]) (fun k hk => by
      rw [p4 k hk]
      unfold bs_v
      by_cases g : 2 ≤ k ∧ k < 2 + P
      · rw [if_pos g, if_pos g, em_wn _ _ (by omega)]
      · rw [if_neg g, if_neg g]))
    by_cases ee : e = i
    · rw [ee, em_we]
      rfl
    · rw [em_wn _ _ (by omega)]
      exact hj e (by omega)
theorem b_185 (hPm : P ≤ 6) (hP : ex_P h) (e1 : h.1 160 0 = nI P) (hQ : ∀ h1, ex_P h1 → h1.2 = h.2 → (∀ o k, ¬ (o = 170 ∧ k < 24) → h1.1 o k = h.1 o k) → (∀ k, k < 24 → h1.1 170 k = bs_v P h k) → Q none h1) : am_call am_cod 2 185 [.ref 154, .int (Int32.ofInt 0)] h Q := by
  refine pz_call (n := 185) (nL := 3) (rt := none) (rows := am_r185) (d := 1) (by decide +kernel) (by decide +kernel) rfl (by funext pc; rfl) (ex_175 hP) (by exact Nat.le_of_ble_eq_true rfl) ?_
  refine am_goX 2 (show 2 < 3 ∧ pz_S 3 none am_r185 1 Q 2 [(2, .int (Int32.ofInt 0)), (0, .ref 154), (1, .int (Int32.ofInt 0))] [] h from ⟨by decide, ?_⟩)
  exact b_185a hPm 24 0 h rfl hP e1 (fun e he => absurd he (Nat.not_lt_zero e)) hQ
theorem b_181 (hPm : P ≤ 6) (hE : E ≤ 5) (hP : ex_P h) (e0 : h.1 160 0 = nI P) (e1 : h.1 160 1 = nI E) (hQ : ∀ h1, ex_P h1 → bR P E h h1 → Q none h1) : am_call am_cod 3 181 [.ref 154] h Q := by
  refine pz_call (n := 181) (nL := 2) (rt := none) (rows := am_r181) (d := 2) (by decide +kernel) (by decide +kernel) rfl (by funext pc; rfl) (ex_175 hP) (by exact Nat.le_of_ble_eq_true rfl) ?_
  refine am_goX 2 (show am_rc h 154 11 ∧ 0 ≤ 8 ∧ h.2.2.2.2 + am_al 182 ≤ 175 ∧ am_call am_cod 2 182 [.ref 154] h (fun vv h' => pz_S 2 none am_r181 2 Q 4 [(0, .ref 154)] (vv.toList ++ []) h') from ⟨Or.inl ⟨by decide, ex_154 hP⟩, by decide, ex_lim hP rfl, b_182 hE hP e1 (fun h1 p1 p2 p3 p4 => ?_)⟩)
  refine am_goX 3 (show am_rc h1 154 11 ∧ 0 ≤ 8 ∧ h1.2.2.2.2 + am_al 185 ≤ 175 ∧ am_call am_cod 2 185 [.ref 154, .int (Int32.ofInt 0)] h1 (fun vv h' => pz_S 2 none am_r181 2 Q 9 [(0, .ref 154)] (vv.toList ++ []) h') from ⟨Or.inl ⟨by decide, ex_154 p1⟩, by decide, ex_lim p1 rfl, b_185 hPm p1 (by rw [p3 160 0 (by omega)]; exact e0) (fun h2 q1 q2 q3 q4 => ?_)⟩)
  refine am_goX 2 (show am_sh h2 154 = some (11, 0) ∧ pz_S 2 none am_r181 2 Q 13 [(0, .ref 154)] [am_rf (h2.2.2.1 154 24)] h2 from ⟨ex_154 q1, ?_⟩)
  rw [ex_r154_24 (h := h2) q1]
  refine am_goX 3 (show ∃ jj nn : Nat, am_so h2 170 = some (13, nn) ∧ jj < nn ∧ (Int8.ofInt 24).toInt32 = nI jj ∧ pz_S 2 none am_r181 2 Q 17 [(0, .ref 154)] [] (am_wI h2 170 jj ((Int32.ofInt 0))) from ⟨24, 1127, ex_w170 q1, by decide, by decide, ?_⟩)
  refine am_goX 2 (show am_sh (am_wI h2 170 24 ((Int32.ofInt 0))) 154 = some (11, 0) ∧ pz_S 2 none am_r181 2 Q 21 [(0, .ref 154)] [am_rf ((am_wI h2 170 24 ((Int32.ofInt 0))).2.2.1 154 21)] (am_wI h2 170 24 ((Int32.ofInt 0))) from ⟨ex_154 q1, ?_⟩)
  rw [ex_r154_21 (h := am_wI h2 170 24 ((Int32.ofInt 0))) q1]
  refine am_goX 3 (show ∃ jj nn : Nat, am_so (am_wI h2 170 24 ((Int32.ofInt 0))) 167 = some (13, nn) ∧ jj < nn ∧ (Int32.ofInt 0) = nI jj ∧ pz_S 2 none am_r181 2 Q 24 [(0, .ref 154)] [] (am_wI (am_wI h2 170 24 ((Int32.ofInt 0))) 167 jj ((Int32.ofInt 0))) from ⟨0, 250, ex_w167 q1, by decide, by decide, ?_⟩)
  refine am_goX 3 (show am_sh (am_wI (am_wI h2 170 24 ((Int32.ofInt 0))) 167 0 ((Int32.ofInt 0))) 154 = some (11, 0) ∧ narrow (am_fty 11 25) (.int ((Int32.ofInt 0))) = .int ((Int32.ofInt 0)) ∧ fits (am_fty 11 25) (.int ((Int32.ofInt 0))) = true ∧ pz_S 2 none am_r181 2 Q 29 [(0, .ref 154)] [] (am_wI (am_wI (am_wI h2 170 24 ((Int32.ofInt 0))) 167 0 ((Int32.ofInt 0))) 154 25 ((Int32.ofInt 0))) from ⟨ex_154 q1, rfl, rfl, ?_⟩)
  refine am_goX 5 (show 1 < 2 ∧ ((Int32.ofInt 4) ≤ (Int32.ofInt 0) → pz_S 2 none am_r181 2 Q 49 [(1, .int (Int32.ofInt 0)), (0, .ref 154)] [] (am_wI (am_wI (am_wI h2 170 24 ((Int32.ofInt 0))) 167 0 ((Int32.ofInt 0))) 154 25 ((Int32.ofInt 0)))) ∧ (¬ ((Int32.ofInt 4) ≤ (Int32.ofInt 0)) → pz_S 2 none am_r181 2 Q 36 [(1, .int (Int32.ofInt 0)), (0, .ref 154)] [] (am_wI (am_wI (am_wI h2 170 24 ((Int32.ofInt 0))) 167 0 ((Int32.ofInt 0))) 154 25 ((Int32.ofInt 0)))) from ⟨by decide, fun hz => absurd hz (by decide), fun _ => ?_⟩)
  refine am_goX 2 (show am_sh (am_wI (am_wI (am_wI h2 170 24 ((Int32.ofInt 0))) 167 0 ((Int32.ofInt 0))) 154 25 ((Int32.ofInt 0))) 154 = some (11, 0) ∧ pz_S 2 none am_r181 2 Q 40 [(1, .int (Int32.ofInt 0)), (0, .ref 154)] [am_rf ((am_wI (am_wI (am_wI h2 170 24 ((Int32.ofInt 0))) 167 0 ((Int32.ofInt 0))) 154 25 ((Int32.ofInt 0))).2.2.1 154 26)] (am_wI (am_wI (am_wI h2 170 24 ((Int32.ofInt 0))) 167 0 ((Int32.ofInt 0))) 154 25 ((Int32.ofInt 0))) from ⟨ex_154 q1, ?_⟩)
  rw [ex_r154_26 (h := am_wI (am_wI (am_wI h2 170 24 ((Int32.ofInt 0))) 167 0 ((Int32.ofInt 0))) 154 25 ((Int32.ofInt 0))) q1]
  refine am_goX 3 (show ∃ jj nn : Nat, am_so (am_wI (am_wI (am_wI h2 170 24 ((Int32.ofInt 0))) 167 0 ((Int32.ofInt 0))) 154 25 ((Int32.ofInt 0))) 171 = some (15, nn) ∧ jj < nn ∧ (Int32.ofInt 0) = nI jj ∧ pz_S 2 none am_r181 2 Q 43 [(1, .int (Int32.ofInt 0)), (0, .ref 154)] [] (am_wI (am_wI (am_wI (am_wI h2 170 24 ((Int32.ofInt 0))) 167 0 ((Int32.ofInt 0))) 154 25 ((Int32.ofInt 0))) 171 jj (vp_nar .boolean (Int32.ofInt 0))) from ⟨0, 4, ex_w171 q1, by decide, by decide, ?_⟩)
  refine am_goX 5 (show 1 < 2 ∧ ((Int32.ofInt 4) ≤ ((Int32.ofInt 0) + Int32.ofInt 1) → pz_S 2 none am_r181 2 Q 49 [(1, .int ((Int32.ofInt 0) + Int32.ofInt 1)), (0, .ref 154)] [] (am_wI (am_wI (am_wI (am_wI h2 170 24 ((Int32.ofInt 0))) 167 0 ((Int32.ofInt 0))) 154 25 ((Int32.ofInt 0))) 171 0 (vp_nar .boolean (Int32.ofInt 0)))) ∧ (¬ ((Int32.ofInt 4) ≤ ((Int32.ofInt 0) + Int32.ofInt 1)) → pz_S 2 none am_r181 2 Q 36 [(1, .int ((Int32.ofInt 0) + Int32.ofInt 1)), (0, .ref 154)] [] (am_wI (am_wI (am_wI (am_wI h2 170 24 ((Int32.ofInt 0))) 167 0 ((Int32.ofInt 0))) 154 25 ((Int32.ofInt 0))) 171 0 (vp_nar .boolean (Int32.ofInt 0)))) from ⟨by decide, fun hz => absurd hz (by decide), fun _ => ?_⟩)
  refine am_goX 2 (show am_sh (am_wI (am_wI (am_wI (am_wI h2 170 24 ((Int32.ofInt 0))) 167 0 ((Int32.ofInt 0))) 154 25 ((Int32.ofInt 0))) 171 0 (vp_nar .boolean (Int32.ofInt 0))) 154 = some (11, 0) ∧ pz_S 2 none am_r181 2 Q 40 [(1, .int ((Int32.ofInt 0) + Int32.ofInt 1)), (0, .ref 154)] [am_rf ((am_wI (am_wI (am_wI (am_wI h2 170 24 ((Int32.ofInt 0))) 167 0 ((Int32.ofInt 0))) 154 25 ((Int32.ofInt 0))) 171 0 (vp_nar .boolean (Int32.ofInt 0))).2.2.1 154 26)] (am_wI (am_wI (am_wI (am_wI h2 170 24 ((Int32.ofInt 0))) 167 0 ((Int32.ofInt 0))) 154 25 ((Int32.ofInt 0))) 171 0 (vp_nar .boolean (Int32.ofInt 0))) from ⟨ex_154 q1, ?_⟩)
  rw [ex_r154_26 (h := am_wI (am_wI (am_wI (am_wI h2 170 24 ((Int32.ofInt 0))) 167 0 ((Int32.ofInt 0))) 154 25 ((Int32.ofInt 0))) 171 0 (vp_nar .boolean (Int32.ofInt 0))) q1]
  refine am_goX 3 (show ∃ jj nn : Nat, am_so (am_wI (am_wI (am_wI (am_wI h2 170 24 ((Int32.ofInt 0))) 167 0 ((Int32.ofInt 0))) 154 25 ((Int32.ofInt 0))) 171 0 (vp_nar .boolean (Int32.ofInt 0))) 171 = some (15, nn) ∧ jj < nn ∧ ((Int32.ofInt 0) + Int32.ofInt 1) = nI jj ∧ pz_S 2 none am_r181 2 Q 43 [(1, .int ((Int32.ofInt 0) + Int32.ofInt 1)), (0, .ref 154)] [] (am_wI (am_wI (am_wI (am_wI (am_wI h2 170 24 ((Int32.ofInt 0))) 167 0 ((Int32.ofInt 0))) 154 25 ((Int32.ofInt 0))) 171 0 (vp_nar .boolean (Int32.ofInt 0))) 171 jj (vp_nar .boolean (Int32.ofInt 0))) from ⟨1, 4, ex_w171 q1, by decide, by decide, ?_⟩)
  refine am_goX 5 (show 1 < 2 ∧ ((Int32.ofInt 4) ≤ (((Int32.ofInt 0) + Int32.ofInt 1) + Int32.ofInt 1) → pz_S 2 none am_r181 2 Q 49 [(1, .int (((Int32.ofInt 0) + Int32.ofInt 1) + Int32.ofInt 1)), (0, .ref 154)] [] (am_wI (am_wI (am_wI (am_wI (am_wI h2 170 24 ((Int32.ofInt 0))) 167 0 ((Int32.ofInt 0))) 154 25 ((Int32.ofInt 0))) 171 0 (vp_nar .boolean (Int32.ofInt 0))) 171 1 (vp_nar .boolean (Int32.ofInt 0)))) ∧ (¬ ((Int32.ofInt 4) ≤ (((Int32.ofInt 0) + Int32.ofInt 1) + Int32.ofInt 1)) → pz_S 2 none am_r181 2 Q 36 [(1, .int (((Int32.ofInt 0) + Int32.ofInt 1) + Int32.ofInt 1)), (0, .ref 154)] [] (am_wI (am_wI (am_wI (am_wI (am_wI h2 170 24 ((Int32.ofInt 0))) 167 0 ((Int32.ofInt 0))) 154 25 ((Int32.ofInt 0))) 171 0 (vp_nar .boolean (Int32.ofInt 0))) 171 1 (vp_nar .boolean (Int32.ofInt 0)))) from ⟨by decide, fun hz => absurd hz (by decide), fun _ => ?_⟩)
  refine am_goX 2 (show am_sh (am_wI (am_wI (am_wI (am_wI (am_wI h2 170 24 ((Int32.ofInt 0))) 167 0 ((Int32.ofInt 0))) 154 25 ((Int32.ofInt 0))) 171 0 (vp_nar .boolean (Int32.ofInt 0))) 171 1 (vp_nar .boolean (Int32.ofInt 0))) 154 = some (11, 0) ∧ pz_S 2 none am_r181 2 Q 40 [(1, .int (((Int32.ofInt 0) + Int32.ofInt 1) + Int32.ofInt 1)), (0, .ref 154)] [am_rf ((am_wI (am_wI (am_wI (am_wI (am_wI h2 170 24 ((Int32.ofInt 0))) 167 0 ((Int32.ofInt 0))) 154 25 ((Int32.ofInt 0))) 171 0 (vp_nar .boolean (Int32.ofInt 0))) 171 1 (vp_nar .boolean (Int32.ofInt 0))).2.2.1 154 26)] (am_wI (am_wI (am_wI (am_wI (am_wI h2 170 24 ((Int32.ofInt 0))) 167 0 ((Int32.ofInt 0))) 154 25 ((Int32.ofInt 0))) 171 0 (vp_nar .boolean (Int32.ofInt 0))) 171 1 (vp_nar .boolean (Int32.ofInt 0))) from ⟨ex_154 q1, ?_⟩)
  rw [ex_r154_26 (h := am_wI (am_wI (am_wI (am_wI (am_wI h2 170 24 ((Int32.ofInt 0))) 167 0 ((Int32.ofInt 0))) 154 25 ((Int32.ofInt 0))) 171 0 (vp_nar .boolean (Int32.ofInt 0))) 171 1 (vp_nar .boolean (Int32.ofInt 0))) q1]
  refine am_goX 3 (show ∃ jj nn : Nat, am_so (am_wI (am_wI (am_wI (am_wI (am_wI h2 170 24 ((Int32.ofInt 0))) 167 0 ((Int32.ofInt 0))) 154 25 ((Int32.ofInt 0))) 171 0 (vp_nar .boolean (Int32.ofInt 0))) 171 1 (vp_nar .boolean (Int32.ofInt 0))) 171 = some (15, nn) ∧ jj < nn ∧ (((Int32.ofInt 0) + Int32.ofInt 1) + Int32.ofInt 1) = nI jj ∧ pz_S 2 none am_r181 2 Q 43 [(1, .int (((Int32.ofInt 0) + Int32.ofInt 1) + Int32.ofInt 1)), (0, .ref 154)] [] (am_wI (am_wI (am_wI (am_wI (am_wI (am_wI h2 170 24 ((Int32.ofInt 0))) 167 0 ((Int32.ofInt 0))) 154 25 ((Int32.ofInt 0))) 171 0 (vp_nar .boolean (Int32.ofInt 0))) 171 1 (vp_nar .boolean (Int32.ofInt 0))) 171 jj (vp_nar .boolean (Int32.ofInt 0))) from ⟨2, 4, ex_w171 q1, by decide, by decide, ?_⟩)
  refine am_goX 5 (show 1 < 2 ∧ ((Int32.ofInt 4) ≤ ((((Int32.ofInt 0) + Int32.ofInt 1) + Int32.ofInt 1) + Int32.ofInt 1) → pz_S 2 none am_r181 2 Q 49 [(1, .int ((((Int32.ofInt 0) + Int32.ofInt 1) + Int32.ofInt 1) + Int32.ofInt 1)), (0, .ref 154)] [] (am_wI (am_wI (am_wI (am_wI (am_wI (am_wI h2 170 24 ((Int32.ofInt 0))) 167 0 ((Int32.ofInt 0))) 154 25 ((Int32.ofInt 0))) 171 0 (vp_nar .boolean (Int32.ofInt 0))) 171 1 (vp_nar .boolean (Int32.ofInt 0))) 171 2 (vp_nar .boolean (Int32.ofInt 0)))) ∧ (¬ ((Int32.ofInt 4) ≤ ((((Int32.ofInt 0) + Int32.ofInt 1) + Int32.ofInt 1) + Int32.ofInt 1)) → pz_S 2 none am_r181 2 Q 36 [(1, .int ((((Int32.ofInt 0) + Int32.ofInt 1) + Int32.ofInt 1) + Int32.ofInt 1)), (0, .ref 154)] [] (am_wI (am_wI (am_wI (am_wI (am_wI (am_wI h2 170 24 ((Int32.ofInt 0))) 167 0 ((Int32.ofInt 0))) 154 25 ((Int32.ofInt 0))) 171 0 (vp_nar .boolean (Int32.ofInt 0))) 171 1 (vp_nar .boolean (Int32.ofInt 0))) 171 2 (vp_nar .boolean (Int32.ofInt 0)))) from ⟨by decide, fun hz => absurd hz (by decide), fun _ => ?_⟩)
  refine am_goX 2 (show am_sh (am_wI (am_wI (am_wI (am_wI (am_wI (am_wI h2 170 24 ((Int32.ofInt 0))) 167 0 ((Int32.ofInt 0))) 154 25 ((Int32.ofInt 0))) 171 0 (vp_nar .boolean (Int32.ofInt 0))) 171 1 (vp_nar .boolean (Int32.ofInt 0))) 171 2 (vp_nar .boolean (Int32.ofInt 0))) 154 = some (11, 0) ∧ pz_S 2 none am_r181 2 Q 40 [(1, .int ((((Int32.ofInt 0) + Int32.ofInt 1) + Int32.ofInt 1) + Int32.ofInt 1)), (0, .ref 154)] [am_rf ((am_wI (am_wI (am_wI (am_wI (am_wI (am_wI h2 170 24 ((Int32.ofInt 0))) 167 0 ((Int32.ofInt 0))) 154 25 ((Int32.ofInt 0))) 171 0 (vp_nar .boolean (Int32.ofInt 0))) 171 1 (vp_nar .boolean (Int32.ofInt 0))) 171 2 (vp_nar .boolean (Int32.ofInt 0))).2.2.1 154 26)] (am_wI (am_wI (am_wI (am_wI (am_wI (am_wI h2 170 24 ((Int32.ofInt 0))) 167 0 ((Int32.ofInt 0))) 154 25 ((Int32.ofInt 0))) 171 0 (vp_nar .boolean (Int32.ofInt 0))) 171 1 (vp_nar .boolean (Int32.ofInt 0))) 171 2 (vp_nar .boolean (Int32.ofInt 0))) from ⟨ex_154 q1, ?_⟩)
  rw [ex_r154_26 (h := am_wI (am_wI (am_wI (am_wI (am_wI (am_wI h2 170 24 ((Int32.ofInt 0))) 167 0 ((Int32.ofInt 0))) 154 25 ((Int32.ofInt 0))) 171 0 (vp_nar .boolean (Int32.ofInt 0))) 171 1 (vp_nar .boolean (Int32.ofInt 0))) 171 2 (vp_nar .boolean (Int32.ofInt 0))) q1]
  refine am_goX 3 (show ∃ jj nn : Nat, am_so (am_wI (am_wI (am_wI (am_wI (am_wI (am_wI h2 170 24 ((Int32.ofInt 0))) 167 0 ((Int32.ofInt 0))) 154 25 ((Int32.ofInt 0))) 171 0 (vp_nar .boolean (Int32.ofInt 0))) 171 1 (vp_nar .boolean (Int32.ofInt 0))) 171 2 (vp_nar .boolean (Int32.ofInt 0))) 171 = some (15, nn) ∧ jj < nn ∧ ((((Int32.ofInt 0) + Int32.ofInt 1) + Int32.ofInt 1) + Int32.ofInt 1) = nI jj ∧ pz_S 2 none am_r181 2 Q 43 [(1, .int ((((Int32.ofInt 0) + Int32.ofInt 1) + Int32.ofInt 1) + Int32.ofInt 1)), (0, .ref 154)] [] (am_wI (am_wI (am_wI (am_wI (am_wI (am_wI (am_wI h2 170 24 ((Int32.ofInt 0))) 167 0 ((Int32.ofInt 0))) 154 25 ((Int32.ofInt 0))) 171 0 (vp_nar .boolean (Int32.ofInt 0))) 171 1 (vp_nar .boolean (Int32.ofInt 0))) 171 2 (vp_nar .boolean (Int32.ofInt 0))) 171 jj (vp_nar .boolean (Int32.ofInt 0))) from ⟨3, 4, ex_w171 q1, by decide, by decide, ?_⟩)
  refine am_goX 5 (show 1 < 2 ∧ ((Int32.ofInt 4) ≤ (((((Int32.ofInt 0) + Int32.ofInt 1) + Int32.ofInt 1) + Int32.ofInt 1) + Int32.ofInt 1) → pz_S 2 none am_r181 2 Q 49 [(1, .int (((((Int32.ofInt 0) + Int32.ofInt 1) + Int32.ofInt 1) + Int32.ofInt 1) + Int32.ofInt 1)), (0, .ref 154)] [] (am_wI (am_wI (am_wI (am_wI (am_wI (am_wI (am_wI h2 170 24 ((Int32.ofInt 0))) 167 0 ((Int32.ofInt 0))) 154 25 ((Int32.ofInt 0))) 171 0 (vp_nar .boolean (Int32.ofInt 0))) 171 1 (vp_nar .boolean (Int32.ofInt 0))) 171 2 (vp_nar .boolean (Int32.ofInt 0))) 171 3 (vp_nar .boolean (Int32.ofInt 0)))) ∧ (¬ ((Int32.ofInt 4) ≤ (((((Int32.ofInt 0) + Int32.ofInt 1) + Int32.ofInt 1) + Int32.ofInt 1) + Int32.ofInt 1)) → pz_S 2 none am_r181 2 Q 36 [(1, .int (((((Int32.ofInt 0) + Int32.ofInt 1) + Int32.ofInt 1) + Int32.ofInt 1) + Int32.ofInt 1)), (0, .ref 154)] [] (am_wI (am_wI (am_wI (am_wI (am_wI (am_wI (am_wI h2 170 24 ((Int32.ofInt 0))) 167 0 ((Int32.ofInt 0))) 154 25 ((Int32.ofInt 0))) 171 0 (vp_nar .boolean (Int32.ofInt 0))) 171 1 (vp_nar .boolean (Int32.ofInt 0))) 171 2 (vp_nar .boolean (Int32.ofInt 0))) 171 3 (vp_nar .boolean (Int32.ofInt 0)))) from ⟨by decide, fun _ => ?_, fun hz => absurd (by decide) hz⟩)
  refine am_goX 1 (show (none : Option FieldType) = none ∧ (am_wI (am_wI (am_wI (am_wI (am_wI (am_wI (am_wI h2 170 24 ((Int32.ofInt 0))) 167 0 ((Int32.ofInt 0))) 154 25 ((Int32.ofInt 0))) 171 0 (vp_nar .boolean (Int32.ofInt 0))) 171 1 (vp_nar .boolean (Int32.ofInt 0))) 171 2 (vp_nar .boolean (Int32.ofInt 0))) 171 3 (vp_nar .boolean (Int32.ofInt 0))).2.2.2.2 = 175 ∧ _ from ⟨rfl, ex_175 q1, hQ _ q1 ⟨q2.trans p2, fun o k hn => ?_, ⟨fun k hk => ?_, (by rw [em_wn _ _ (by omega), em_wn _ _ (by omega), em_wn _ _ (by omega), em_wn _ _ (by omega), em_wn _ _ (by omega), em_wn _ _ (by omega), em_we]; rfl)⟩, (by rw [em_wn _ _ (by omega), em_wn _ _ (by omega), em_wn _ _ (by omega), em_wn _ _ (by omega), em_wn _ _ (by omega), em_we]; rfl), (by rw [em_wn _ _ (by omega), em_wn _ _ (by omega), em_wn _ _ (by omega), em_wn _ _ (by omega), em_we]; rfl), fun m hm => ?_, fun e he => ?_⟩⟩)
  · rw [em_wn _ _ (by omega), em_wn _ _ (by omega), em_wn _ _ (by omega), em_wn _ _ (by omega), em_wn _ _ (by omega), em_wn _ _ (by omega), em_wn _ _ (by omega), q3 o k (by omega), p3 o k (by omega)]
  · rw [em_wn _ _ (by omega), em_wn _ _ (by omega), em_wn _ _ (by omega), em_wn _ _ (by omega), em_wn _ _ (by omega), em_wn _ _ (by omega), em_wn _ _ (by omega), q4 k hk]
    unfold bs_v
    by_cases g : 2 ≤ k ∧ k < 2 + P
    · rw [if_pos g, if_pos g, p3 160 _ (by omega)]
    · rw [if_neg g, if_neg g]
  · have hm : m = 0 ∨ m = 1 ∨ m = 2 ∨ m = 3 := by omega
    rcases hm with rfl | rfl | rfl | rfl
    · exact (by rw [em_wn _ _ (by omega), em_wn _ _ (by omega), em_wn _ _ (by omega), em_we]; rfl)
    · exact (by rw [em_wn _ _ (by omega), em_wn _ _ (by omega), em_we]; rfl)
    · exact (by rw [em_wn _ _ (by omega), em_we]; rfl)
    · exact (by rw [em_we]; rfl)
  · rw [em_wn _ _ (by omega), em_wn _ _ (by omega), em_wn _ _ (by omega), em_wn _ _ (by omega), em_wn _ _ (by omega), em_wn _ _ (by omega), em_wn _ _ (by omega), q3 172 e (by omega)]
    exact p4 e he
