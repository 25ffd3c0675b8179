/-! HISTORY AND MARKS AS VALUES -/
variable {h h0 : am_H} {Q : am_Q} {C : sp_C} {x y w z : Int32} {s u : dS} {D S n : Nat}
theorem sv2_231 : am_r231.all (fun q => sv2_ok q.2) = true := by decide +kernel
theorem q_232l {A B K : Nat} (hA : A + K ≤ 1127) (hB : B + K ≤ 1127) (hd : A + K ≤ B ∨ B + K ≤ A) : ∀ (m i : Nat) (h : am_H), i + m = K → ex_P h → (∀ j, j < i → h.1 170 (B + j) = h.1 170 (A + j)) → (∀ h1, ex_P h1 → h1.2 = h.2 → (∀ o k, ¬ (o = 170 ∧ B ≤ k ∧ k < B + K) → h1.1 o k = h.1 o k) → (∀ j, j < K → h1.1 170 (B + j) = h.1 170 (A + j)) → Q none h1) → pz_S 5 none am_r232 0 Q 3 [(4, .int (nI i)), (0, .ref 154), (1, .int (nI A)), (2, .int (nI B)), (3, .int (nI K))] [] h := by
  intro m
  induction m with
  | zero =>
    intro i h hi hP hj hQ
    refine am_goX 3 (show ((nI K) ≤ (nI i) → pz_S 5 none am_r232 0 Q 33 [(4, .int (nI i)), (0, .ref 154), (1, .int (nI A)), (2, .int (nI B)), (3, .int (nI K))] [] h) ∧ (¬ ((nI K) ≤ (nI i)) → pz_S 5 none am_r232 0 Q 9 [(4, .int (nI i)), (0, .ref 154), (1, .int (nI A)), (2, .int (nI B)), (3, .int (nI K))] [] h) from ⟨fun _ => ?_, fun hz => absurd (show nI K ≤ nI i from nI_le (by omega) (by omega)) hz⟩)
    exact am_goX 1 (show (none : Option FieldType) = none ∧ h.2.2.2.2 = 175 ∧ _ from ⟨rfl, ex_175 hP, hQ _ hP rfl (fun _ _ _ => rfl) (fun j hj1 => hj j (by omega))⟩)
  | succ m ih =>
    intro i h hi hP hj hQ
    refine am_goX 3 (show ((nI K) ≤ (nI i) → pz_S 5 none am_r232 0 Q 33 [(4, .int (nI i)), (0, .ref 154), (1, .int (nI A)), (2, .int (nI B)), (3, .int (nI K))] [] h) ∧ (¬ ((nI K) ≤ (nI i)) → pz_S 5 none am_r232 0 Q 9 [(4, .int (nI i)), (0, .ref 154), (1, .int (nI A)), (2, .int (nI B)), (3, .int (nI K))] [] h) from ⟨fun hz => absurd hz (show ¬ nI K ≤ nI i by rw [nI_leI (by omega) (by omega)]; omega), fun _ => ?_⟩)
    refine am_goX 2 (show am_sh h 154 = some (11, 0) ∧ pz_S 5 none am_r232 0 Q 13 [(4, .int (nI i)), (0, .ref 154), (1, .int (nI A)), (2, .int (nI B)), (3, .int (nI K))] [am_rf (h.2.2.1 154 24)] h from ⟨ex_154 hP, ?_⟩)
    rw [ex_r154_24 (h := h) hP]
    refine am_goX 5 (show am_sh h 154 = some (11, 0) ∧ pz_S 5 none am_r232 0 Q 21 [(4, .int (nI i)), (0, .ref 154), (1, .int (nI A)), (2, .int (nI B)), (3, .int (nI K))] [am_rf (h.2.2.1 154 24), .int ((nI B) + (nI i)), .ref 170] h from ⟨ex_154 hP, ?_⟩)
    rw [ex_r154_24 (h := h) hP]
    refine am_goX 4 (show ∃ jj nn : Nat, am_sh h 170 = some (13, nn) ∧ jj < nn ∧ ((nI A) + (nI i)) = nI jj ∧ pz_S 5 none am_r232 0 Q 26 [(4, .int (nI i)), (0, .ref 154), (1, .int (nI A)), (2, .int (nI B)), (3, .int (nI K))] [.int (h.1 170 jj), .int ((nI B) + (nI i)), .ref 170] h from ⟨(A + i), 1127, ex_170 hP, by omega, nI_add A i, ?_⟩)
    refine am_goX 1 (show ∃ jj nn : Nat, am_so h 170 = some (13, nn) ∧ jj < nn ∧ ((nI B) + (nI i)) = nI jj ∧ pz_S 5 none am_r232 0 Q 27 [(4, .int (nI i)), (0, .ref 154), (1, .int (nI A)), (2, .int (nI B)), (3, .int (nI K))] [] (am_wI h 170 jj (h.1 170 (A + i))) from ⟨B + i, 1127, ex_w170 hP, by omega, nI_add B i, ?_⟩)
    refine am_goX 2 (show 4 < 5 ∧ pz_S 5 none am_r232 0 Q 3 [(4, .int ((nI i) + Int32.ofInt 1)), (0, .ref 154), (1, .int (nI A)), (2, .int (nI B)), (3, .int (nI K))] [] (am_wI h 170 (B + i) (h.1 170 (A + i))) from ⟨by decide, ?_⟩)
    rw [xw_i1]
    refine ih (i + 1) _ (by omega) hP (fun j hj1 => ?_) (fun h1 p1 p2 p3 p4 => hQ h1 p1 p2 (fun o k hn => (p3 o k hn).trans (em_wn _ _ (by omega))) (fun j hj1 => (p4 j hj1).trans (em_wn _ _ (by omega))))
    by_cases ej : j = i
    · rw [ej, em_we, em_wn _ _ (by omega)]
    · rw [em_wn _ _ (by omega), em_wn _ _ (by omega)]
      exact hj j (by omega)
theorem q_232 {A B K : Nat} {x y z : Int32} (hx : x = nI A) (hy : y = nI B) (hz : z = nI K) (hA : A + K ≤ 1127) (hB : B + K ≤ 1127) (hd : A + K ≤ B ∨ B + K ≤ A) (hP : ex_P h) (hQ : ∀ h1, ex_P h1 → h1.2 = h.2 → (∀ o k, ¬ (o = 170 ∧ B ≤ k ∧ k < B + K) → h1.1 o k = h.1 o k) → (∀ j, j < K → h1.1 170 (B + j) = h.1 170 (A + j)) → Q none h1) : am_call am_cod 1 232 [.ref 154, .int x, .int y, .int z] h Q := by
  rw [hx, hy, hz]
  refine pz_call (n := 232) (nL := 5) (rt := none) (rows := am_r232) (d := 0) (by decide +kernel) (by decide +kernel) rfl (by funext pc; rfl) (ex_175 hP) (by exact Nat.le_of_ble_eq_true rfl) ?_
  refine am_goX 2 (show 4 < 5 ∧ pz_S 5 none am_r232 0 Q 3 [(4, .int (Int32.ofInt 0)), (0, .ref 154), (1, .int (nI A)), (2, .int (nI B)), (3, .int (nI K))] [] h from ⟨by decide, ?_⟩)
  exact q_232l hA hB hd K 0 h (Nat.zero_add K) hP (fun j hj => absurd hj (Nat.not_lt_zero j)) hQ
abbrev dH : Type := Nat × (Nat → dS)
abbrev dMk : Type := (Nat → Bool) × (Nat → dS) × (Nat → Nat)
/-- the class's history is H -/
def hC (H : dH) (h : am_H) : Prop := H.1 ≤ 16 ∧ h.1 47 2 = nI H.1 ∧ ∃ q, q < 16 ∧ h.1 47 1 = nI q ∧ ∀ j, j < H.1 → sC (49 + 5 * ((q + 16 - j) % 16)) (H.2 j) h
/-- the reference's history is H -/
def hL (P : Nat) (H : dH) (h : am_H) : Prop := H.1 ≤ 16 ∧ h.1 154 25 = nI H.1 ∧ ∀ j, j < H.1 → sR (245 + 49 * (H.1 - 1 - j)) P (H.2 j) h
/-- the class's marks are M -/
def mC (M : dMk) (h : am_H) : Prop := ∀ m, m < 4 → h.1 (130 + 6 * m) 0 = (bif M.1 m then 1 else 0) ∧ (M.1 m = true → sC (131 + 6 * m) (M.2.1 m) h ∧ h.1 (130 + 6 * m) 2 = nI (M.2.2 m))
/-- the reference's marks are M -/
def mL (P : Nat) (M : dMk) (h : am_H) : Prop := ∀ m, m < 4 → h.1 171 m = (bif M.1 m then 1 else 0) ∧ (M.1 m = true → sR (49 + 49 * m) P (M.2.1 m) h ∧ h.1 170 (73 + 49 * m) = nI (M.2.2 m))
abbrev hP1 (H : dH) (s : dS) : dH := (min (H.1 + 1) 16, fun j => if j = 0 then s else H.2 (j - 1))
abbrev hP0 (H : dH) : dH := (H.1 - 1, fun j => H.2 (j + 1))
theorem hC_fr {H : dH} {h g : am_H} (e : ∀ a k, 47 ≤ a → a ≤ 128 → g.1 a k = h.1 a k) (l : hC H h) : hC H g := by
  obtain ⟨a1, a2, q, a3, a4, a5⟩ := l
  exact ⟨a1, (e _ _ (by omega) (by omega)).trans a2, q, a3, (e _ _ (by omega) (by omega)).trans a4, fun j hj => sC_fr (fun a k u1 u2 => e a k (by omega) (by omega)) (a5 j hj)⟩
theorem mC_fr {M : dMk} {h g : am_H} (e : ∀ a k, 130 ≤ a → a ≤ 153 → g.1 a k = h.1 a k) (l : mC M h) : mC M g := fun m hm =>
  ⟨(e _ _ (by omega) (by omega)).trans (l m hm).1, fun z => ⟨sC_fr (fun a k u1 u2 => e a k (by omega) (by omega)) ((l m hm).2 z).1, (e _ _ (by omega) (by omega)).trans ((l m hm).2 z).2⟩⟩
theorem sR_fr {b P : Nat} {s : dS} {h g : am_H} (e : ∀ k, b ≤ k → k < b + 24 → g.1 170 k = h.1 170 k) (hP : P ≤ 6) (l : sR b P s h) : sR b P s g := sR_x e hP l
theorem sR_cp {A B P : Nat} {s : dS} {h g : am_H} (e : ∀ j, j < 24 → g.1 170 (B + j) = h.1 170 (A + j)) (hP : P ≤ 6) (l : sR A P s h) : sR B P s g := by
  obtain ⟨⟨a1, a2⟩, a3, a4, a5⟩ := l
  refine ⟨⟨(e 0 (by omega)).trans a1, (e 1 (by omega)).trans a2⟩, fun i hi => ?_, fun i hi => ?_, fun i hi => ⟨?_, ?_⟩⟩
  · have w := e (2 + i) (by omega)
    rw [← Nat.add_assoc, ← Nat.add_assoc] at w
    exact w.trans (a3 i hi)
  · have w := e (8 + i) (by omega)
    rw [← Nat.add_assoc, ← Nat.add_assoc] at w
    exact w.trans (a4 i hi)
  · have w := e (14 + i) (by omega)
    rw [← Nat.add_assoc, ← Nat.add_assoc] at w
    exact w.trans (a5 i hi).1
  · have w := e (19 + i) (by omega)
    rw [← Nat.add_assoc, ← Nat.add_assoc] at w
    exact w.trans (a5 i hi).2
theorem hL_fr {P : Nat} {H : dH} {h g : am_H} (hP : P ≤ 6) (e1 : g.1 154 25 = h.1 154 25) (e : ∀ k, 245 ≤ k → k < 1029 → g.1 170 k = h.1 170 k) (l : hL P H h) : hL P H g :=
  ⟨l.1, e1.trans l.2.1, fun j hj => sR_fr (fun k u1 u2 => e k (by omega) (by have := l.1; omega)) hP (l.2.2 j hj)⟩
theorem mL_fr {P : Nat} {M : dMk} {h g : am_H} (hP : P ≤ 6) (e1 : ∀ m, m < 4 → g.1 171 m = h.1 171 m) (e : ∀ k, 49 ≤ k → k < 245 → g.1 170 k = h.1 170 k) (l : mL P M h) : mL P M g := fun m hm =>
  ⟨(e1 m hm).trans (l m hm).1, fun z => ⟨sR_fr (fun k u1 u2 => e k (by omega) (by omega)) hP ((l m hm).2 z).1, (e _ (by omega) (by omega)).trans ((l m hm).2 z).2⟩⟩
/-- the class keeps -/
theorem k_98 {H : dH} (hP : ex_P h) (hS : sC 36 s h) (hH : hC H h) (hQ : ∀ h1, ex_P h1 → h1.2 = h.2 → (∀ o k, ¬ (47 ≤ o ∧ o ≤ 128) → h1.1 o k = h.1 o k) → hC (hP1 H s) h1 → Q none h1) : am_call am_cod 2 98 [.ref 47, .ref 36] h Q := by
  obtain ⟨hn, e2, q, hq, e1, hj⟩ := hH
  refine q_98 hq hn hP e1 e2 (fun h1 p1 p2 p3 p4 p5 p6 => hQ h1 p1 p2 (fun o k n1 => p3 o k (by omega) (by omega)) ⟨Nat.min_le_right _ _, p5, (q + 1) % 16, by omega, p4, fun j hj1 => ?_⟩)
  have hj1 : j < min (H.1 + 1) 16 := hj1
  show sC _ (if j = 0 then s else H.2 (j - 1)) h1
  by_cases ej : j = 0
  · rw [if_pos ej, ej, show ((q + 1) % 16 + 16 - 0) % 16 = (q + 1) % 16 by omega]
    exact sC_cp p6 hS
  · rw [if_neg ej, show ((q + 1) % 16 + 16 - j) % 16 = (q + 16 - (j - 1)) % 16 by omega]
    exact sC_fr (fun a k u1 u2 => p3 a k (by omega) (by omega)) (hj (j - 1) (by omega))
theorem k_113 {H : dH} (h0 : 0 < H.1) (hP : ex_P h) (hH : hC H h) (hQ : ∀ h1, ex_P h1 → h1.2 = h.2 → (∀ o k, ¬ (o = 47) → ¬ (36 ≤ o ∧ o ≤ 40) → h1.1 o k = h.1 o k) → hC (hP0 H) h1 → sC 36 (H.2 0) h1 → Q (some (.int (Int32.ofInt 1))) h1) : am_call am_cod 2 113 [.ref 47, .ref 36] h Q := by
  obtain ⟨hn, e2, q, hq, e1, hj⟩ := hH
  refine q_113 hq h0 hn hP e1 e2 (fun h1 p1 p2 p3 p4 p5 p6 => hQ h1 p1 p2 p3 ⟨Nat.le_trans (Nat.sub_le _ _) hn, p5, (q + 15) % 16, by omega, p4, fun j hj1 => ?_⟩ ?_)
  · have hj1 : j < H.1 - 1 := hj1
    rw [show ((q + 15) % 16 + 16 - j) % 16 = (q + 16 - (j + 1)) % 16 by omega]
    exact sC_fr (fun a k u1 u2 => p3 a k (by omega) (by omega)) (hj (j + 1) (by omega))
  · have w := hj 0 h0
    rw [show (q + 16 - 0) % 16 = q by omega] at w
    exact sC_cp p6 w
theorem k_113z {H : dH} (h0 : H.1 = 0) (hP : ex_P h) (hH : hC H h) (hQ : Q (some (.int (Int32.ofInt 0))) h) : am_call am_cod 2 113 [.ref 47, .ref 36] h Q := q_113z hP (by rw [hH.2.1, h0]) hQ
/-! the reference keeps -/
def rF (h0 h : am_H) : Prop := h.2 = h0.2 ∧ ∀ o k, ¬ (o = 154 ∧ k = 25) → ¬ (o = 170 ∧ 245 ≤ k ∧ k < 1029) → h.1 o k = h0.1 o k
theorem rF_0 {h : am_H} : rF h h := ⟨rfl, fun _ _ _ _ => rfl⟩
theorem rF_w {v : Int32} {h0 h : am_H} (l : rF h0 h) : rF h0 (am_wI h 154 25 v) := ⟨l.1, fun a j n1 n2 => (em_wn _ _ (fun z => n1 z)).trans (l.2 a j n1 n2)⟩
def shf (k : Nat) (h0 h : am_H) : Prop := h.2 = h0.2 ∧ (∀ o q, ¬ (o = 170 ∧ 245 ≤ q ∧ q < 1029) → h.1 o q = h0.1 o q) ∧ ∀ b i, i < 24 → 5 ≤ b → b < 21 → h.1 170 (49 * b + i) = h0.1 170 (49 * (if b + 1 < 5 + k then b + 1 else b) + i)
theorem shf_1 {h : am_H} : shf 1 h h := ⟨rfl, fun _ _ _ => rfl, fun b i _ h5 _ => by rw [if_neg (by omega)]⟩
theorem shf_s {k : Nat} {h0 h h1 : am_H} (l : shf k h0 h) (h1k : 1 ≤ k) (hk : k < 16) (p2 : h1.2 = h.2) (p3 : ∀ o q, ¬ (o = 170 ∧ 49 * ((5 + k) - 1) ≤ q ∧ q < 49 * ((5 + k) - 1) + 24) → h1.1 o q = h.1 o q) (p4 : ∀ j, j < 24 → h1.1 170 (49 * ((5 + k) - 1) + j) = h.1 170 (49 * (5 + k) + j)) : shf (k + 1) h0 h1 := by
  obtain ⟨l1, l2, l3⟩ := l
  refine ⟨p2.trans l1, fun o q n1 => (p3 o q (by omega)).trans (l2 o q n1), fun b i hi h5 hb => ?_⟩
  by_cases e : b = 4 + k
  · have w := p4 i hi
    rw [show (5 + k) - 1 = b by omega] at w
    rw [w, l3 (5 + k) i hi (by omega) (by omega), if_neg (by omega), if_pos (by omega), show b + 1 = 5 + k by omega]
  · rw [p3 170 (49 * b + i) (by omega), l3 b i hi h5 hb]
    by_cases e2 : b + 1 < 5 + k
    · rw [if_pos e2, if_pos (by omega)]
    · rw [if_neg e2, if_neg (by omega)]
theorem q_231l {h0 : am_H} : ∀ (m k : Nat) (h : am_H), k + m = 16 → 1 ≤ k → ex_P h → shf k h0 h → (∀ h1, ex_P h1 → shf 16 h0 h1 → pz_S 2 none am_r231 1 Q 43 [(0, .ref 154)] [] h1) → pz_S 2 none am_r231 1 Q 11 [(1, .int (nI k)), (0, .ref 154)] [] h := by
  intro m
  induction m with
  | zero =>
    intro k h hk h1k hP hF hZ
    obtain rfl : k = 16 := by omega
    refine am_goX 3 (show (((Int8.ofInt 16).toInt32) ≤ (nI 16) → pz_S 2 none am_r231 1 Q 43 [(1, .int (nI 16)), (0, .ref 154)] [] h) ∧ (¬ (((Int8.ofInt 16).toInt32) ≤ (nI 16)) → pz_S 2 none am_r231 1 Q 17 [(1, .int (nI 16)), (0, .ref 154)] [] h) from ⟨fun _ => ?_, fun hz => absurd (by decide) hz⟩)
    exact sv_S2 sv2_231 (by intro q hq; simp only [List.mem_cons, List.not_mem_nil, or_false] at hq; rcases hq with rfl <;> rfl) (hZ _ hP hF)
  | succ m ih =>
    intro k h hk h1k hP hF hZ
    refine am_goX 3 (show (((Int8.ofInt 16).toInt32) ≤ (nI k) → pz_S 2 none am_r231 1 Q 43 [(1, .int (nI k)), (0, .ref 154)] [] h) ∧ (¬ (((Int8.ofInt 16).toInt32) ≤ (nI k)) → pz_S 2 none am_r231 1 Q 17 [(1, .int (nI k)), (0, .ref 154)] [] h) from ⟨fun hz => absurd hz (show ¬ (nI 16 ≤ nI k) by rw [nI_leI (by omega) (by omega)]; omega), fun _ => ?_⟩)
    refine am_goX 14 (show pz_S 2 none am_r231 1 Q 34 [(1, .int (nI k)), (0, .ref 154)] [.int ((Int8.ofInt 24).toInt32), .int (((Int8.ofInt 49).toInt32) * (((Int32.ofInt 5) + (nI k)) - (Int32.ofInt 1))), .int (((Int8.ofInt 49).toInt32) * ((Int32.ofInt 5) + (nI k))), .ref 154] h from ?_)
    rw [show ((Int8.ofInt 49).toInt32) * ((Int32.ofInt 5) + (nI k)) = nI (49 * (5 + k)) from (dn_m (show (Int8.ofInt 49).toInt32 = nI 49 by decide) (dn_a rfl rfl))]
    rw [show ((Int8.ofInt 49).toInt32) * (((Int32.ofInt 5) + (nI k)) - (Int32.ofInt 1)) = nI (49 * ((5 + k) - 1)) from (dn_m (show (Int8.ofInt 49).toInt32 = nI 49 by decide) (dn_s (by omega) (dn_a rfl rfl) rfl))]
    rw [show (Int8.ofInt 24).toInt32 = nI 24 from (show (Int8.ofInt 24).toInt32 = nI 24 by decide)]
    refine am_goX 1 (show am_rc h 154 11 ∧ 0 ≤ 8 ∧ h.2.2.2.2 + am_al 232 ≤ 175 ∧ am_call am_cod 1 232 [.ref 154, .int (nI (49 * (5 + k))), .int (nI (49 * ((5 + k) - 1))), .int (nI 24)] h (fun vv h' => pz_S 2 none am_r231 1 Q 37 [(1, .int (nI k)), (0, .ref 154)] (vv.toList ++ []) h') from ⟨Or.inl ⟨by decide, ex_154 hP⟩, by decide, ex_lim hP rfl, am_call.up (q_232 (A := (49 * (5 + k))) (B := (49 * ((5 + k) - 1))) (K := 24) rfl rfl rfl (by omega) (by omega) (by omega) hP (fun h1 f2 f3 f4 f5 => ?_)) (by decide)⟩)
    have f6 : shf (k + 1) h0 h1 := shf_s hF h1k (by omega) f3 f4 f5
    refine am_goX 2 (show 1 < 2 ∧ pz_S 2 none am_r231 1 Q 11 [(1, .int ((nI k) + (Int32.ofInt 1))), (0, .ref 154)] [] h1 from ⟨by decide, ?_⟩)
    rw [show (nI k) + (Int32.ofInt 1) = nI (k + 1) from (dn_a rfl rfl)]
    exact sv_S2 sv2_231 (by intro q hq; simp only [List.mem_cons, List.not_mem_nil, or_false] at hq; rcases hq with rfl | rfl <;> rfl) (ih (k + 1) _ (by omega) (by omega) f2 f6 hZ)
theorem q_231a (hn : n < 16) (hP : ex_P h) (e1 : h.1 154 25 = nI n) (hQ : ∀ h1, ex_P h1 → rF h h1 → h1.1 154 25 = nI (n + 1) → (∀ j, j < 24 → h1.1 170 (49 * (5 + n) + j) = h.1 170 (0 + j)) → (∀ o k, ¬ (o = 154 ∧ k = 25) → ¬ (o = 170 ∧ 49 * (5 + n) ≤ k ∧ k < 49 * (5 + n) + 24) → h1.1 o k = h.1 o k) → Q none h1) : am_call am_cod 2 231 [.ref 154] h Q := by
  refine pz_call (n := 231) (nL := 2) (rt := none) (rows := am_r231) (d := 1) (by decide +kernel) (by decide +kernel) rfl (by funext pc; rfl) (ex_175 hP) (by exact Nat.le_of_ble_eq_true rfl) ?_
  have hX := rF_0 (h := h)
  refine am_goX 2 (show am_sh h 154 = some (11, 0) ∧ pz_S 2 none am_r231 1 Q 4 [(0, .ref 154)] [.int (h.1 154 25)] h from ⟨ex_154 hP, ?_⟩)
  rw [show h.1 154 25 = nI n from e1]
  refine am_goX 2 (show (¬ (nI n) = ((Int8.ofInt 16).toInt32) → pz_S 2 none am_r231 1 Q 53 [(0, .ref 154)] [] h) ∧ (¬ ¬ (nI n) = ((Int8.ofInt 16).toInt32) → pz_S 2 none am_r231 1 Q 9 [(0, .ref 154)] [] h) from ⟨fun _ => ?_, fun hz => absurd (show ¬ nI n = nI 16 from fun w => by have := nI_inj2 (by omega) (by omega) w; omega) hz⟩)
  refine am_goX 6 (show am_sh h 154 = some (11, 0) ∧ pz_S 2 none am_r231 1 Q 62 [(0, .ref 154)] [.int (h.1 154 25), .int (Int32.ofInt 5), .int ((Int8.ofInt 49).toInt32), .int (Int32.ofInt 0), .ref 154] h from ⟨ex_154 hP, ?_⟩)
  rw [show h.1 154 25 = nI n from e1]
  refine am_goX 3 (show pz_S 2 none am_r231 1 Q 66 [(0, .ref 154)] [.int ((Int8.ofInt 24).toInt32), .int (((Int8.ofInt 49).toInt32) * ((Int32.ofInt 5) + (nI n))), .int (Int32.ofInt 0), .ref 154] h from ?_)
  rw [show Int32.ofInt 0 = nI 0 from rfl]
  rw [show ((Int8.ofInt 49).toInt32) * ((Int32.ofInt 5) + (nI n)) = nI (49 * (5 + n)) from (dn_m (show (Int8.ofInt 49).toInt32 = nI 49 by decide) (dn_a rfl rfl))]
  rw [show (Int8.ofInt 24).toInt32 = nI 24 from (show (Int8.ofInt 24).toInt32 = nI 24 by decide)]
  refine am_goX 1 (show am_rc h 154 11 ∧ 0 ≤ 8 ∧ h.2.2.2.2 + am_al 232 ≤ 175 ∧ am_call am_cod 1 232 [.ref 154, .int (nI 0), .int (nI (49 * (5 + n))), .int (nI 24)] h (fun vv h' => pz_S 2 none am_r231 1 Q 69 [(0, .ref 154)] (vv.toList ++ []) h') from ⟨Or.inl ⟨by decide, ex_154 hP⟩, by decide, ex_lim hP rfl, am_call.up (q_232 (A := 0) (B := (49 * (5 + n))) (K := 24) rfl rfl rfl (by omega) (by omega) (by omega) hP (fun h7 f8 f9 f10 f11 => ?_)) (by decide)⟩)
  have f12 : h7.1 154 25 = nI n := (f10 154 25 (by omega)).trans e1
  have f13 : rF h h7 := ⟨f9.trans hX.1, fun a j n1 n2 => (f10 a j (by omega)).trans (hX.2 a j n1 n2)⟩
  have f14 : ∀ j, j < 24 → h7.1 170 ((49 * (5 + n)) + j) = h.1 170 (0 + j) := fun j hj => (f11 j hj).trans (hX.2 _ _ (by omega) (by omega))
  have f15 : ∀ o k, ¬ (o = 154 ∧ k = 25) → ¬ (o = 170 ∧ (49 * (5 + n)) ≤ k ∧ k < (49 * (5 + n)) + 24) → h7.1 o k = h.1 o k := fun o k n1 n2 => (f10 o k n2)
  refine am_goX 3 (show (Value.ref 154).category = 1 ∧ am_sh h7 154 = some (11, 0) ∧ pz_S 2 none am_r231 1 Q 74 [(0, .ref 154)] [.int (h7.1 154 25), .ref 154] h7 from ⟨rfl, ex_154 f8, ?_⟩)
  rw [show h7.1 154 25 = nI n from f12]
  refine am_goX 3 (show am_sh h7 154 = some (11, 0) ∧ narrow (am_fty 11 25) (.int ((nI n) + (Int32.ofInt 1))) = .int ((nI n) + (Int32.ofInt 1)) ∧ fits (am_fty 11 25) (.int ((nI n) + (Int32.ofInt 1))) = true ∧ pz_S 2 none am_r231 1 Q 79 [(0, .ref 154)] [] (am_wI h7 154 25 ((nI n) + (Int32.ofInt 1))) from ⟨ex_154 f8, rfl, rfl, ?_⟩)
  have f17 : ex_P (am_wI h7 154 25 ((nI n) + (Int32.ofInt 1))) := f8
  have f18 : (am_wI h7 154 25 ((nI n) + (Int32.ofInt 1))).1 154 25 = nI (n + 1) := (em_we _ _ _ _).trans ((dn_a rfl rfl))
  have f19 : rF h (am_wI h7 154 25 ((nI n) + (Int32.ofInt 1))) := rF_w f13
  have f20 : ∀ j, j < 24 → (am_wI h7 154 25 ((nI n) + (Int32.ofInt 1))).1 170 ((49 * (5 + n)) + j) = h.1 170 (0 + j) := fun j hj => (em_wn _ _ (by omega)).trans (f14 j hj)
  have f21 : ∀ o k, ¬ (o = 154 ∧ k = 25) → ¬ (o = 170 ∧ (49 * (5 + n)) ≤ k ∧ k < (49 * (5 + n)) + 24) → (am_wI h7 154 25 ((nI n) + (Int32.ofInt 1))).1 o k = h.1 o k := fun o k n1 n2 => (em_wn _ _ (fun z => n1 z)).trans (f15 o k n1 n2)
  generalize am_wI h7 154 25 ((nI n) + (Int32.ofInt 1)) = h16 at f17 f18 f19 f20 f21 ⊢
  exact am_goX 1 (show (none : Option FieldType) = none ∧ h16.2.2.2.2 = 175 ∧ _ from ⟨rfl, ex_175 f17, hQ _ f17 f19 f18 f20 f21⟩)
theorem q_231b (hP : ex_P h) (e1 : h.1 154 25 = nI 16) (hQ : ∀ h1, ex_P h1 → rF h h1 → h1.1 154 25 = nI 16 → (∀ j, j < 24 → h1.1 170 (980 + j) = h.1 170 (0 + j)) → (∀ b i, i < 24 → 5 ≤ b → b < 20 → h1.1 170 (49 * b + i) = h.1 170 (49 * (b + 1) + i)) → Q none h1) : am_call am_cod 2 231 [.ref 154] h Q := by
  refine pz_call (n := 231) (nL := 2) (rt := none) (rows := am_r231) (d := 1) (by decide +kernel) (by decide +kernel) rfl (by funext pc; rfl) (ex_175 hP) (by exact Nat.le_of_ble_eq_true rfl) ?_
  have hX := rF_0 (h := h)
  refine am_goX 2 (show am_sh h 154 = some (11, 0) ∧ pz_S 2 none am_r231 1 Q 4 [(0, .ref 154)] [.int (h.1 154 25)] h from ⟨ex_154 hP, ?_⟩)
  rw [show h.1 154 25 = nI 16 from e1]
  refine am_goX 2 (show (¬ (nI 16) = ((Int8.ofInt 16).toInt32) → pz_S 2 none am_r231 1 Q 53 [(0, .ref 154)] [] h) ∧ (¬ ¬ (nI 16) = ((Int8.ofInt 16).toInt32) → pz_S 2 none am_r231 1 Q 9 [(0, .ref 154)] [] h) from ⟨fun hz => absurd hz (by decide), fun _ => ?_⟩)
  refine am_goX 2 (show 1 < 2 ∧ pz_S 2 none am_r231 1 Q 11 [(1, .int (Int32.ofInt 1)), (0, .ref 154)] [] h from ⟨by decide, ?_⟩)
  refine q_231l 15 1 _ (by omega) (by omega) hP (shf_1 (h := h)) (fun h22 f23 f24 => ?_)
  have f25 : h22.1 154 25 = nI 16 := (f24.2.1 154 25 (by omega)).trans e1
  have f26 : rF h h22 := ⟨f24.1, fun a j n1 n2 => f24.2.1 a j n2⟩
  have f27 : ∀ b i, i < 24 → 5 ≤ b → b < 20 → h22.1 170 (49 * b + i) = h.1 170 (49 * (b + 1) + i) := fun b i u1 u2 u3 => by rw [f24.2.2 b i u1 u2 (by omega), if_pos (by omega)]
  refine am_goX 3 (show (Value.ref 154).category = 1 ∧ am_sh h22 154 = some (11, 0) ∧ pz_S 2 none am_r231 1 Q 48 [(0, .ref 154)] [.int (h22.1 154 25), .ref 154] h22 from ⟨rfl, ex_154 f23, ?_⟩)
  rw [show h22.1 154 25 = nI 16 from f25]
  refine am_goX 3 (show am_sh h22 154 = some (11, 0) ∧ narrow (am_fty 11 25) (.int ((nI 16) - (Int32.ofInt 1))) = .int ((nI 16) - (Int32.ofInt 1)) ∧ fits (am_fty 11 25) (.int ((nI 16) - (Int32.ofInt 1))) = true ∧ pz_S 2 none am_r231 1 Q 53 [(0, .ref 154)] [] (am_wI h22 154 25 ((nI 16) - (Int32.ofInt 1))) from ⟨ex_154 f23, rfl, rfl, ?_⟩)
  have f29 : ex_P (am_wI h22 154 25 ((nI 16) - (Int32.ofInt 1))) := f23
  have f30 : (am_wI h22 154 25 ((nI 16) - (Int32.ofInt 1))).1 154 25 = nI (16 - 1) := (em_we _ _ _ _).trans ((dn_s (by omega) rfl rfl))
  have f31 : rF h (am_wI h22 154 25 ((nI 16) - (Int32.ofInt 1))) := rF_w f26
  have f32 : ∀ b i, i < 24 → 5 ≤ b → b < 20 → (am_wI h22 154 25 ((nI 16) - (Int32.ofInt 1))).1 170 (49 * b + i) = h.1 170 (49 * (b + 1) + i) := fun b i u1 u2 u3 => (em_wn _ _ (by omega)).trans (f27 b i u1 u2 u3)
  generalize am_wI h22 154 25 ((nI 16) - (Int32.ofInt 1)) = h28 at f29 f30 f31 f32 ⊢
  refine am_goX 6 (show am_sh h28 154 = some (11, 0) ∧ pz_S 2 none am_r231 1 Q 62 [(0, .ref 154)] [.int (h28.1 154 25), .int (Int32.ofInt 5), .int ((Int8.ofInt 49).toInt32), .int (Int32.ofInt 0), .ref 154] h28 from ⟨ex_154 f29, ?_⟩)
  rw [show h28.1 154 25 = nI (16 - 1) from f30]
  refine am_goX 3 (show pz_S 2 none am_r231 1 Q 66 [(0, .ref 154)] [.int ((Int8.ofInt 24).toInt32), .int (((Int8.ofInt 49).toInt32) * ((Int32.ofInt 5) + (nI (16 - 1)))), .int (Int32.ofInt 0), .ref 154] h28 from ?_)
  rw [show Int32.ofInt 0 = nI 0 from rfl]
  rw [show ((Int8.ofInt 49).toInt32) * ((Int32.ofInt 5) + (nI (16 - 1))) = nI (49 * (5 + (16 - 1))) from (dn_m (show (Int8.ofInt 49).toInt32 = nI 49 by decide) (dn_a rfl rfl))]
  rw [show (Int8.ofInt 24).toInt32 = nI 24 from (show (Int8.ofInt 24).toInt32 = nI 24 by decide)]
  refine am_goX 1 (show am_rc h28 154 11 ∧ 0 ≤ 8 ∧ h28.2.2.2.2 + am_al 232 ≤ 175 ∧ am_call am_cod 1 232 [.ref 154, .int (nI 0), .int (nI (49 * (5 + (16 - 1)))), .int (nI 24)] h28 (fun vv h' => pz_S 2 none am_r231 1 Q 69 [(0, .ref 154)] (vv.toList ++ []) h') from ⟨Or.inl ⟨by decide, ex_154 f29⟩, by decide, ex_lim f29 rfl, am_call.up (q_232 (A := 0) (B := (49 * (5 + (16 - 1)))) (K := 24) rfl rfl rfl (by omega) (by omega) (by omega) f29 (fun h33 f34 f35 f36 f37 => ?_)) (by decide)⟩)
  have f38 : h33.1 154 25 = nI (16 - 1) := (f36 154 25 (by omega)).trans f30
  have f39 : rF h h33 := ⟨f35.trans f31.1, fun a j n1 n2 => (f36 a j (by omega)).trans (f31.2 a j n1 n2)⟩
  have f40 : ∀ j, j < 24 → h33.1 170 (980 + j) = h.1 170 (0 + j) := fun j hj => (f37 j hj).trans (f31.2 _ _ (by omega) (by omega))
  have f41 : ∀ b i, i < 24 → 5 ≤ b → b < 20 → h33.1 170 (49 * b + i) = h.1 170 (49 * (b + 1) + i) := fun b i u1 u2 u3 => (f36 _ _ (by omega)).trans (f32 b i u1 u2 u3)
  refine am_goX 3 (show (Value.ref 154).category = 1 ∧ am_sh h33 154 = some (11, 0) ∧ pz_S 2 none am_r231 1 Q 74 [(0, .ref 154)] [.int (h33.1 154 25), .ref 154] h33 from ⟨rfl, ex_154 f34, ?_⟩)
  rw [show h33.1 154 25 = nI (16 - 1) from f38]
  refine am_goX 3 (show am_sh h33 154 = some (11, 0) ∧ narrow (am_fty 11 25) (.int ((nI (16 - 1)) + (Int32.ofInt 1))) = .int ((nI (16 - 1)) + (Int32.ofInt 1)) ∧ fits (am_fty 11 25) (.int ((nI (16 - 1)) + (Int32.ofInt 1))) = true ∧ pz_S 2 none am_r231 1 Q 79 [(0, .ref 154)] [] (am_wI h33 154 25 ((nI (16 - 1)) + (Int32.ofInt 1))) from ⟨ex_154 f34, rfl, rfl, ?_⟩)
  have f43 : ex_P (am_wI h33 154 25 ((nI (16 - 1)) + (Int32.ofInt 1))) := f34
  have f44 : (am_wI h33 154 25 ((nI (16 - 1)) + (Int32.ofInt 1))).1 154 25 = nI ((16 - 1) + 1) := (em_we _ _ _ _).trans ((dn_a rfl rfl))
  have f45 : rF h (am_wI h33 154 25 ((nI (16 - 1)) + (Int32.ofInt 1))) := rF_w f39
  have f46 : ∀ j, j < 24 → (am_wI h33 154 25 ((nI (16 - 1)) + (Int32.ofInt 1))).1 170 (980 + j) = h.1 170 (0 + j) := fun j hj => (em_wn _ _ (by omega)).trans (f40 j hj)
  have f47 : ∀ b i, i < 24 → 5 ≤ b → b < 20 → (am_wI h33 154 25 ((nI (16 - 1)) + (Int32.ofInt 1))).1 170 (49 * b + i) = h.1 170 (49 * (b + 1) + i) := fun b i u1 u2 u3 => (em_wn _ _ (by omega)).trans (f41 b i u1 u2 u3)
  generalize am_wI h33 154 25 ((nI (16 - 1)) + (Int32.ofInt 1)) = h42 at f43 f44 f45 f46 f47 ⊢
  exact am_goX 1 (show (none : Option FieldType) = none ∧ h42.2.2.2.2 = 175 ∧ _ from ⟨rfl, ex_175 f43, hQ _ f43 f45 f44 f46 f47⟩)
theorem k_231 {P : Nat} {H : dH} (h6 : P ≤ 6) (hP : ex_P h) (hS : sR 0 P s h) (hH : hL P H h) (hQ : ∀ h1, ex_P h1 → rF h h1 → hL P (hP1 H s) h1 → Q none h1) : am_call am_cod 2 231 [.ref 154] h Q := by
  obtain ⟨hn, e1, hj⟩ := hH
  by_cases hlt : H.1 < 16
  · refine q_231a hlt hP e1 (fun h1 p1 p2 p3 p4 p5 => hQ h1 p1 p2 ⟨Nat.min_le_right _ _, ?_, fun j hj1 => ?_⟩)
    · show h1.1 154 25 = nI (min (H.1 + 1) 16)
      rw [p3, Nat.min_eq_left (by omega)]
    · have hj1 : j < min (H.1 + 1) 16 := hj1
      show sR (245 + 49 * (min (H.1 + 1) 16 - 1 - j)) P (if j = 0 then s else H.2 (j - 1)) h1
      rw [Nat.min_eq_left (show H.1 + 1 ≤ 16 by omega)]
      by_cases ej : j = 0
      · rw [if_pos ej, ej, show 245 + 49 * (H.1 + 1 - 1 - 0) = 49 * (5 + H.1) by omega]
        exact sR_cp p4 h6 hS
      · rw [if_neg ej, show H.1 + 1 - 1 - j = H.1 - 1 - (j - 1) by omega]
        exact sR_fr (fun k u1 u2 => p5 170 k (by omega) (by omega)) h6 (hj (j - 1) (by omega))
  · have e16 : H.1 = 16 := by omega
    refine q_231b hP (by rw [e1, e16]) (fun h1 p1 p2 p3 p4 p5 => hQ h1 p1 p2 ⟨Nat.min_le_right _ _, ?_, fun j hj1 => ?_⟩)
    · show h1.1 154 25 = nI (min (H.1 + 1) 16)
      rw [p3, Nat.min_eq_right (by omega)]
    · have hj1 : j < min (H.1 + 1) 16 := hj1
      show sR (245 + 49 * (min (H.1 + 1) 16 - 1 - j)) P (if j = 0 then s else H.2 (j - 1)) h1
      rw [Nat.min_eq_right (show 16 ≤ H.1 + 1 by omega)]
      by_cases ej : j = 0
      · rw [if_pos ej, ej]
        exact sR_cp (B := 980) p4 h6 hS
      · rw [if_neg ej]
        have w := hj (j - 1) (by omega)
        rw [e16] at w
        refine sR_cp (A := 245 + 49 * (16 - 1 - (j - 1))) (fun i hi => ?_) h6 w
        have z := p5 (5 + (16 - 1 - j)) i hi (by omega) (by omega)
        rw [show 49 * (5 + (16 - 1 - j)) + i = 245 + 49 * (16 - 1 - j) + i by omega, show 49 * (5 + (16 - 1 - j) + 1) + i = 245 + 49 * (16 - 1 - (j - 1)) + i by omega] at z
        exact z
