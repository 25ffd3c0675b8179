section
/-! WALKS: the class's day, with what it writes -/
theorem d_105_a {C : sp_C} {a b c d : Int32} : ∀ (m k n : Nat) (f g : Nat → Int32), (∀ j, j < n → f j = g j) → (d_105_6 C a b c d m k n f).1 = (d_105_6 C a b c d m k n g).1 ∧ ∀ j, j < (d_105_6 C a b c d m k n f).1 → (d_105_6 C a b c d m k n f).2 j = (d_105_6 C a b c d m k n g).2 j := by
  intro m
  induction m with
  | zero => exact fun k n f g hf => ⟨rfl, hf⟩
  | succ m ih =>
    intro k n f g hf
    have up : ∀ v w, v = w → ∀ j, j < n + 1 → sp_uI f n v j = sp_uI g n w j := fun v w e j hj => by
      show (if j = n then v else f j) = (if j = n then w else g j)
      by_cases ej : j = n
      · rw [if_pos ej, if_pos ej, e]
      · rw [if_neg ej, if_neg ej, hf j (by omega)]
    have ut : ∀ i v w, v = w → ∀ j, j < n → sp_uI f i v j = sp_uI g i w j := fun i v w e j hj => by
      show (if j = i then v else f j) = (if j = i then w else g j)
      by_cases ej : j = i
      · rw [if_pos ej, if_pos ej, e]
      · rw [if_neg ej, if_neg ej, hf j hj]
    have n0 : ¬ nI n ≤ 0 → 0 < n := fun h => by
      rcases Nat.eq_zero_or_pos n with w | w
      · rw [w] at h; exact absurd (by decide) h
      · exact w
    have n1 : ¬ nI n ≤ Int32.ofInt 1 → 1 < n := fun h => by
      rcases Nat.lt_or_ge 1 n with w | w
      · exact w
      · have : n = 0 ∨ n = 1 := by omega
        rcases this with w | w <;> (rw [w] at h; exact absurd (by decide) h)
    by_cases hA : dT C k < (Int8.ofInt (-4)).toInt32
    · by_cases hB : dT C k = (Int8.ofInt (-5)).toInt32
      · by_cases hE : nI n ≤ 0
        · by_cases hC : (Int8.ofInt (-5)).toInt32 ≤ dT C k
          · simp only [d_105_6, hA, hB, hE, hC, if_true, if_false, not_true_eq_false, not_false_eq_true, ite_not]
            simp only [hB] at hC
            first
            | exact ih _ _ _ _ hf
            | (simp only [hC, if_true]; exact ih _ _ _ _ hf)
          · exact absurd (by rw [hB]; exact Int32.le_refl _) hC
        · have := n0 hE
          simp only [d_105_6, hA, hB, hE, if_true, if_false, not_true_eq_false, not_false_eq_true, ite_not]
          refine ih _ _ _ _ (ut _ _ _ ?_)
          rw [hf (n - 1) (by omega)]
      · by_cases hC : (Int8.ofInt (-5)).toInt32 ≤ dT C k
        · simp only [d_105_6, hA, hB, hC, if_true, if_false, not_true_eq_false, not_false_eq_true, ite_not]
          exact ih _ _ _ _ hf
        · by_cases hD : nI n ≤ Int32.ofInt 1
          · simp only [d_105_6, hA, hB, hC, hD, if_true, if_false, not_true_eq_false, not_false_eq_true, ite_not]
            exact ih _ _ _ _ hf
          · have := n1 hD
            simp only [d_105_6, hA, hB, hC, hD, if_true, if_false, not_true_eq_false, not_false_eq_true, ite_not]
            refine ih _ _ _ _ (fun j hj => ut _ _ _ ?_ j (by omega))
            rw [hf (n - 1 - 1) (by omega), hf (n - 1) (by omega)]
    · by_cases hF : (Int8.ofInt 32).toInt32 ≤ nI n
      · by_cases hB : dT C k = (Int8.ofInt (-5)).toInt32
        · exact absurd (by rw [hB]; decide) hA
        · by_cases hC : (Int8.ofInt (-5)).toInt32 ≤ dT C k
          · simp only [d_105_6, hA, hF, hB, hC, if_true, if_false, not_true_eq_false, not_false_eq_true, ite_not]
            exact ih _ _ _ _ hf
          · by_cases hD : nI n ≤ Int32.ofInt 1
            · simp only [d_105_6, hA, hF, hB, hC, hD, if_true, if_false, not_true_eq_false, not_false_eq_true, ite_not]
              exact ih _ _ _ _ hf
            · have := n1 hD
              simp only [d_105_6, hA, hF, hB, hC, hD, if_true, if_false, not_true_eq_false, not_false_eq_true, ite_not]
              refine ih _ _ _ _ (fun j hj => ut _ _ _ ?_ j (by omega))
              rw [hf (n - 1 - 1) (by omega), hf (n - 1) (by omega)]
      · simp only [d_105_6, hA, hF, if_false]
        exact ih _ _ _ _ (up _ _ rfl)
/-- what the class's day leaves: all but State 36 and the law's stack of the canton c -/
def fC (c : Nat) (h0 h : am_H) : Prop := h.2 = h0.2 ∧ ∀ o k, ¬ (36 ≤ o ∧ o ≤ 40) → ¬ o = c + 10 → h.1 o k = h0.1 o k
theorem fC_0 {c : Nat} {h : am_H} : fC c h h := ⟨rfl, fun _ _ _ _ => rfl⟩
theorem fC_w {c o k : Nat} {v : Int32} {h0 h : am_H} (ho : (36 ≤ o ∧ o ≤ 40) ∨ o = c + 10) (l : fC c h0 h) : fC c h0 (am_wI h o k v) := ⟨l.1, fun a j h1 h2 => (em_wn _ _ (by omega)).trans (l.2 a j h1 h2)⟩
theorem fC_l {c : Nat} {h0 h h1 : am_H} (l : lfr (c + 10) h h1) (x : fC c h0 h) : fC c h0 h1 := ⟨l.1.trans x.1, fun a j n1 n2 => (l.2 a j n2).trans (x.2 a j n1 n2)⟩
/-- the law's worth -/
def dlaw (C : sp_C) (a b c d : Int32) : Int32 := d_105 C a b c d (fun _ => 0)
theorem d_105_e {C : sp_C} {a b c d : Int32} (f : Nat → Int32) : d_105 C a b c d f = dlaw C a b c d := by
  obtain ⟨e1, e2⟩ := d_105_a (C := C) (a := a) (b := b) (c := c) (d := d) (dM C) 0 0 f (fun _ => 0) (fun j hj => absurd hj (Nat.not_lt_zero j))
  unfold dlaw d_105
  rw [← e1]
  by_cases h : nI (d_105_6 C a b c d (dM C) 0 0 f).1 ≤ 0
  · rw [if_pos h, if_pos h]
  · rw [if_neg h, if_neg h]
    refine e2 0 ?_
    rcases Nat.eq_zero_or_pos (d_105_6 C a b c d (dM C) 0 0 f).1 with w | w
    · rw [w] at h; exact absurd (by decide) h
    · exact w
variable {h : am_H} {Q : am_Q} {C : sp_C} {x y w a b c d : Int32} {p q e : Nat} {s u : dS} {h0 : am_H} {f : Nat → Int32}
theorem q_105_6 (hP : ex_P h) (hT : c_v 6 C h) (hQ : ∀ h1, lfr 16 h h1 → Q (some (.int (dlaw C a b c d))) h1) : am_call am_cod 2 105 [.ref 14, .int a, .int b, .int c, .int d] h Q :=
  d_105_l6 (h0 := h) (f := fun j => h.1 16 j) hP hT lfr_0 (fun _ _ => rfl) (fun h1 _ _ l _ => by
    rw [d_105_e]
    exact hQ h1 l)
theorem q_105_17 (hP : ex_P h) (hT : c_v 17 C h) (hQ : ∀ h1, lfr 27 h h1 → Q (some (.int (dlaw C a b c d))) h1) : am_call am_cod 2 105 [.ref 25, .int a, .int b, .int c, .int d] h Q :=
  d_105_l17 (h0 := h) (f := fun j => h.1 27 j) hP hT lfr_0 (fun _ _ => rfl) (fun h1 _ _ l _ => by
    rw [d_105_e]
    exact hQ h1 l)
theorem ex_41 {h : am_H} (hP : ex_P h) : am_sh h 41 = some (6, 0) := (ex_so hP (by decide +kernel)).2
theorem ex_42 {h : am_H} (hP : ex_P h) : am_sh h 42 = some (13, 6) := (ex_so hP (by decide +kernel)).2
theorem ex_w42 {h : am_H} (hP : ex_P h) : am_so h 42 = some (13, 6) := (ex_so hP (by decide +kernel)).1
theorem ex_43 {h : am_H} (hP : ex_P h) : am_sh h 43 = some (13, 6) := (ex_so hP (by decide +kernel)).2
theorem ex_w43 {h : am_H} (hP : ex_P h) : am_so h 43 = some (13, 6) := (ex_so hP (by decide +kernel)).1
theorem ex_44 {h : am_H} (hP : ex_P h) : am_sh h 44 = some (13, 5) := (ex_so hP (by decide +kernel)).2
theorem ex_w44 {h : am_H} (hP : ex_P h) : am_so h 44 = some (13, 5) := (ex_so hP (by decide +kernel)).1
theorem ex_45 {h : am_H} (hP : ex_P h) : am_sh h 45 = some (13, 5) := (ex_so hP (by decide +kernel)).2
theorem ex_w45 {h : am_H} (hP : ex_P h) : am_so h 45 = some (13, 5) := (ex_so hP (by decide +kernel)).1
theorem ex_r41_2 {h : am_H} (hP : ex_P h) : h.2.2.1 41 2 = some 42 := hP.2 41 2 42 (by decide +kernel)
theorem ex_r41_3 {h : am_H} (hP : ex_P h) : h.2.2.1 41 3 = some 43 := hP.2 41 3 43 (by decide +kernel)
theorem ex_r41_4 {h : am_H} (hP : ex_P h) : h.2.2.1 41 4 = some 44 := hP.2 41 4 44 (by decide +kernel)
theorem ex_r41_5 {h : am_H} (hP : ex_P h) : h.2.2.1 41 5 = some 45 := hP.2 41 5 45 (by decide +kernel)
theorem sv2_88 : am_r88.all (fun q => sv2_ok q.2) = true := by decide +kernel
theorem sv2_89 : am_r89.all (fun q => sv2_ok q.2) = true := by decide +kernel
theorem sv2_100 : am_r100.all (fun q => sv2_ok q.2) = true := by decide +kernel
theorem sv2_101 : am_r101.all (fun q => sv2_ok q.2) = true := by decide +kernel
theorem sv2_104 : am_r104.all (fun q => sv2_ok q.2) = true := by decide +kernel
theorem sv2_108 : am_r108.all (fun q => sv2_ok q.2) = true := by decide +kernel
def d_89 (C : sp_C) (s : dS) (p : Nat) : Int32 := (if ¬ (dK C p) = (Int32.ofInt 3) then (s.2.2.1 p) - (Int32.ofInt 2) else Int32.ofInt 0)
theorem d_89_t6_36 (hP : ex_P h) (hI : cI C) (hT : c_v 6 C h) (hD : c_d 6 C h) (hS : sC 36 s h) (hX : fC 6 h0 h) (hp : p < dP C) (hQ : Q (some (.int (d_89 C s p))) h) : am_call am_cod 1 89 [.ref 6, .int (nI p), .ref 36] h Q := by
  have h6 := hT.1.2.1
  have h5 := hT.2.1.2.1
  refine pz_call (n := 89) (nL := 3) (rt := (some .int)) (rows := am_r89) (d := 0) (by decide +kernel) (by decide +kernel) rfl (by funext pc; rfl) (ex_175 hP) (by exact Nat.le_of_ble_eq_true rfl) ?_
  refine am_goX 2 (show am_sh h 6 = some (0, 0) ∧ pz_S 3 (some .int) am_r89 0 Q 4 [(0, .ref 6), (1, .int (nI p)), (2, .ref 36)] [am_rf (h.2.2.1 6 2)] h from ⟨ex_6 hP, ?_⟩)
  rw [show am_rf (h.2.2.1 6 2) = .ref 8 from congrArg am_rf (ex_r6_2 hP)]
  refine am_goX 2 (show ∃ jj nn : Nat, am_sh h 8 = some (13, nn) ∧ jj < nn ∧ nI p = nI jj ∧ pz_S 3 (some .int) am_r89 0 Q 6 [(0, .ref 6), (1, .int (nI p)), (2, .ref 36)] [.int (h.1 8 jj)] h from ⟨p, 6, ex_8 hP, (by omega), rfl, ?_⟩)
  rw [show h.1 8 p = dK C p from (hT.1.2.2 p (by omega)).1]
  suffices key : ∀ (v2 : Int32), v2 = (if ¬ (dK C p) = (Int32.ofInt 3) then (s.2.2.1 p) - (Int32.ofInt 2) else Int32.ofInt 0) → pz_S 3 (some .int) am_r89 0 Q 22 [] [.int v2] h by
    refine am_goX 2 (show (¬ (dK C p) = (Int32.ofInt 3) → pz_S 3 (some .int) am_r89 0 Q 14 [(0, .ref 6), (1, .int (nI p)), (2, .ref 36)] [] h) ∧ (¬ ¬ (dK C p) = (Int32.ofInt 3) → pz_S 3 (some .int) am_r89 0 Q 10 [(0, .ref 6), (1, .int (nI p)), (2, .ref 36)] [] h) from ⟨fun c1 => ?_, fun c1 => ?_⟩)
    · refine am_goX 2 (show am_sh h 36 = some (6, 0) ∧ pz_S 3 (some .int) am_r89 0 Q 18 [(0, .ref 6), (1, .int (nI p)), (2, .ref 36)] [am_rf (h.2.2.1 36 2)] h from ⟨ex_36 hP, ?_⟩)
      rw [show am_rf (h.2.2.1 36 2) = .ref 37 from congrArg am_rf (ex_r36_2 hP)]
      refine am_goX 2 (show ∃ jj nn : Nat, am_sh h 37 = some (13, nn) ∧ jj < nn ∧ nI p = nI jj ∧ pz_S 3 (some .int) am_r89 0 Q 20 [(0, .ref 6), (1, .int (nI p)), (2, .ref 36)] [.int (h.1 37 jj)] h from ⟨p, 6, ex_37 hP, (by omega), rfl, ?_⟩)
      rw [show h.1 37 p = s.2.2.1 p from (hS.2.1 p (by omega)).1]
      refine am_goX 2 (show pz_S 3 (some .int) am_r89 0 Q 22 [(0, .ref 6), (1, .int (nI p)), (2, .ref 36)] [.int ((s.2.2.1 p) - (Int32.ofInt 2))] h from ?_)
      exact sv_S2 sv2_89 (fun q hq => absurd hq List.not_mem_nil) (key _ (if_pos c1).symm)
    · refine am_goX 2 (show pz_S 3 (some .int) am_r89 0 Q 22 [(0, .ref 6), (1, .int (nI p)), (2, .ref 36)] [.int (Int32.ofInt 0)] h from ?_)
      exact sv_S2 sv2_89 (fun q hq => absurd hq List.not_mem_nil) (key _ (if_neg c1).symm)
  intro v2 e3
  subst e3
  exact am_goX 1 (show (∃ ty, (some .int) = some ty ∧ narrow ty (.int (if ¬ (dK C p) = (Int32.ofInt 3) then (s.2.2.1 p) - (Int32.ofInt 2) else Int32.ofInt 0)) = .int (if ¬ (dK C p) = (Int32.ofInt 3) then (s.2.2.1 p) - (Int32.ofInt 2) else Int32.ofInt 0)) ∧ h.2.2.2.2 = 175 ∧ _ from ⟨⟨.int, rfl, rfl⟩, ex_175 hP, hQ⟩)
def d_88 (C : sp_C) (s : dS) (p : Nat) (w : Int32) : Int32 := d_90 (s.1 + (if w = 0 then d_89 C s p else Int32.ofInt 0))
theorem d_88_t6_36 (hP : ex_P h) (hI : cI C) (hT : c_v 6 C h) (hD : c_d 6 C h) (hS : sC 36 s h) (hX : fC 6 h0 h) (hp : p < dP C) (hQ : Q (some (.int (d_88 C s p w))) h) : am_call am_cod 2 88 [.ref 6, .int (nI p), .ref 36, .int w] h Q := by
  have h6 := hT.1.2.1
  have h5 := hT.2.1.2.1
  refine pz_call (n := 88) (nL := 5) (rt := (some .int)) (rows := am_r88) (d := 1) (by decide +kernel) (by decide +kernel) rfl (by funext pc; rfl) (ex_175 hP) (by exact Nat.le_of_ble_eq_true rfl) ?_
  suffices key : ∀ (v5 : Int32), v5 = (if w = 0 then d_89 C s p else Int32.ofInt 0) → pz_S 5 (some .int) am_r88 1 Q 14 [(2, .ref 36)] [.int v5] h by
    refine am_goX 2 (show (w = 0 → pz_S 5 (some .int) am_r88 1 Q 8 [(0, .ref 6), (1, .int (nI p)), (2, .ref 36), (3, .int w)] [] h) ∧ (¬ (w = 0) → pz_S 5 (some .int) am_r88 1 Q 4 [(0, .ref 6), (1, .int (nI p)), (2, .ref 36), (3, .int w)] [] h) from ⟨fun c4 => ?_, fun c4 => ?_⟩)
    · refine am_goX 4 (show am_rc h 6 0 ∧ 0 ≤ 8 ∧ h.2.2.2.2 + am_al 89 ≤ 175 ∧ am_call am_cod 1 89 [.ref 6, .int (nI p), .ref 36] h (fun vv h' => pz_S 5 (some .int) am_r88 1 Q 14 [(0, .ref 6), (1, .int (nI p)), (2, .ref 36), (3, .int w)] (vv.toList ++ []) h') from ⟨Or.inl ⟨by decide, ex_6 hP⟩, by decide, ex_lim hP rfl, am_call.up (d_89_t6_36 hP hI hT hD hS hX (by omega) ?_) (by decide)⟩)
      exact sv_S2 sv2_88 (by intro q hq; simp only [List.mem_cons, List.not_mem_nil, or_false] at hq; rcases hq with rfl <;> rfl) (key _ (if_pos c4).symm)
    · refine am_goX 2 (show pz_S 5 (some .int) am_r88 1 Q 14 [(0, .ref 6), (1, .int (nI p)), (2, .ref 36), (3, .int w)] [.int (Int32.ofInt 0)] h from ?_)
      exact sv_S2 sv2_88 (by intro q hq; simp only [List.mem_cons, List.not_mem_nil, or_false] at hq; rcases hq with rfl <;> rfl) (key _ (if_neg c4).symm)
  intro v5 e6
  subst e6
  refine am_goX 3 (show 4 < 5 ∧ am_sh h 36 = some (6, 0) ∧ pz_S 5 (some .int) am_r88 1 Q 20 [(4, .int (if w = 0 then d_89 C s p else Int32.ofInt 0)), (2, .ref 36)] [.int (h.1 36 0)] h from ⟨by decide, ex_36 hP, ?_⟩)
  rw [show h.1 36 0 = s.1 from hS.1.1]
  refine am_goX 4 (show 0 ≤ 8 ∧ h.2.2.2.2 + am_al 90 ≤ 175 ∧ am_call am_cod 1 90 [.int (s.1 + (if w = 0 then d_89 C s p else Int32.ofInt 0)), .int ((Int8.ofInt 7).toInt32)] h (fun vv h' => pz_S 5 (some .int) am_r88 1 Q 28 [(4, .int (if w = 0 then d_89 C s p else Int32.ofInt 0)), (2, .ref 36)] (vv.toList ++ []) h') from ⟨by decide, ex_lim hP rfl, am_call.up (d_90_w hP ?_) (by decide)⟩)
  exact am_goX 1 (show (∃ ty, (some .int) = some ty ∧ narrow ty (.int (d_90 (s.1 + (if w = 0 then d_89 C s p else Int32.ofInt 0)))) = .int (d_90 (s.1 + (if w = 0 then d_89 C s p else Int32.ofInt 0)))) ∧ h.2.2.2.2 = 175 ∧ _ from ⟨⟨.int, rfl, rfl⟩, ex_175 hP, hQ⟩)
def d_104 (C : sp_C) (s : dS) (p : Nat) (w : Int32) : Int32 := (if (dlaw C (d_89 C s p) (s.1 / ((Int8.ofInt 7).toInt32)) (d_69 (s.2.2.2.1 p)) (if w = 0 then Int32.ofInt 0 else Int32.ofInt 1)) = 0 then Int32.ofInt 0 else Int32.ofInt 1)
theorem d_104_t6_36 (hP : ex_P h) (hI : cI C) (hT : c_v 6 C h) (hD : c_d 6 C h) (hS : sC 36 s h) (hX : fC 6 h0 h) (hp : p < dP C) (hQ : ∀ h1, (ex_P h1) → (cI C) → (c_v 6 C h1) → (c_d 6 C h1) → (sC 36 s h1) → (fC 6 h0 h1) → Q (some (.int (d_104 C s p w))) h1) : am_call am_cod 4 104 [.ref 6, .int (nI p), .ref 36, .int w] h Q := by
  have h6 := hT.1.2.1
  have h5 := hT.2.1.2.1
  refine pz_call (n := 104) (nL := 5) (rt := (some .boolean)) (rows := am_r104) (d := 3) (by decide +kernel) (by decide +kernel) rfl (by funext pc; rfl) (ex_175 hP) (by exact Nat.le_of_ble_eq_true rfl) ?_
  refine am_goX 2 (show am_sh h 36 = some (6, 0) ∧ pz_S 5 (some .boolean) am_r104 3 Q 4 [(0, .ref 6), (1, .int (nI p)), (2, .ref 36), (3, .int w)] [am_rf (h.2.2.1 36 3)] h from ⟨ex_36 hP, ?_⟩)
  rw [show am_rf (h.2.2.1 36 3) = .ref 38 from congrArg am_rf (ex_r36_3 hP)]
  refine am_goX 2 (show ∃ jj nn : Nat, am_sh h 38 = some (13, nn) ∧ jj < nn ∧ nI p = nI jj ∧ pz_S 5 (some .boolean) am_r104 3 Q 6 [(0, .ref 6), (1, .int (nI p)), (2, .ref 36), (3, .int w)] [.int (h.1 38 jj)] h from ⟨p, 6, ex_38 hP, (by omega), rfl, ?_⟩)
  rw [show h.1 38 p = s.2.2.2.1 p from (hS.2.1 p (by omega)).2]
  refine am_goX 1 (show 0 ≤ 8 ∧ h.2.2.2.2 + am_al 69 ≤ 175 ∧ am_call am_cod 3 69 [.int (s.2.2.2.1 p)] h (fun vv h' => pz_S 5 (some .boolean) am_r104 3 Q 9 [(0, .ref 6), (1, .int (nI p)), (2, .ref 36), (3, .int w)] (vv.toList ++ []) h') from ⟨by decide, ex_lim hP rfl, am_call.up (d_69_w hP ?_) (by decide)⟩)
  refine am_goX 3 (show 4 < 5 ∧ am_sh h 6 = some (0, 0) ∧ pz_S 5 (some .boolean) am_r104 3 Q 15 [(4, .int (d_69 (s.2.2.2.1 p))), (0, .ref 6), (1, .int (nI p)), (2, .ref 36), (3, .int w)] [am_rf (h.2.2.1 6 12)] h from ⟨by decide, ex_6 hP, ?_⟩)
  rw [show am_rf (h.2.2.1 6 12) = .ref 14 from congrArg am_rf (ex_r6_12 hP)]
  refine am_goX 4 (show am_rc h 6 0 ∧ 1 ≤ 8 ∧ h.2.2.2.2 + am_al 89 ≤ 175 ∧ am_call am_cod 3 89 [.ref 6, .int (nI p), .ref 36] h (fun vv h' => pz_S 5 (some .boolean) am_r104 3 Q 21 [(4, .int (d_69 (s.2.2.2.1 p))), (0, .ref 6), (1, .int (nI p)), (2, .ref 36), (3, .int w)] (vv.toList ++ [.ref 14]) h') from ⟨Or.inl ⟨by decide, ex_6 hP⟩, by decide, ex_lim hP rfl, am_call.up (d_89_t6_36 hP hI hT hD hS hX (by omega) ?_) (by decide)⟩)
  refine am_goX 2 (show am_sh h 36 = some (6, 0) ∧ pz_S 5 (some .boolean) am_r104 3 Q 25 [(4, .int (d_69 (s.2.2.2.1 p))), (0, .ref 6), (1, .int (nI p)), (2, .ref 36), (3, .int w)] [.int (h.1 36 0), .int (d_89 C s p), .ref 14] h from ⟨ex_36 hP, ?_⟩)
  rw [show h.1 36 0 = s.1 from hS.1.1]
  suffices key : ∀ (v8 : Int32), v8 = (if w = 0 then Int32.ofInt 0 else Int32.ofInt 1) → pz_S 5 (some .boolean) am_r104 3 Q 39 [] [.int v8, .int (d_69 (s.2.2.2.1 p)), .int (s.1 / ((Int8.ofInt 7).toInt32)), .int (d_89 C s p), .ref 14] h by
    refine am_goX 5 (show ¬ ((Int8.ofInt 7).toInt32) = 0 ∧ (w = 0 → pz_S 5 (some .boolean) am_r104 3 Q 38 [(4, .int (d_69 (s.2.2.2.1 p))), (0, .ref 6), (1, .int (nI p)), (2, .ref 36), (3, .int w)] [.int (d_69 (s.2.2.2.1 p)), .int (s.1 / ((Int8.ofInt 7).toInt32)), .int (d_89 C s p), .ref 14] h) ∧ (¬ (w = 0) → pz_S 5 (some .boolean) am_r104 3 Q 34 [(4, .int (d_69 (s.2.2.2.1 p))), (0, .ref 6), (1, .int (nI p)), (2, .ref 36), (3, .int w)] [.int (d_69 (s.2.2.2.1 p)), .int (s.1 / ((Int8.ofInt 7).toInt32)), .int (d_89 C s p), .ref 14] h) from ⟨by decide, fun c7 => ?_, fun c7 => ?_⟩)
    · refine am_goX 1 (show pz_S 5 (some .boolean) am_r104 3 Q 39 [(4, .int (d_69 (s.2.2.2.1 p))), (0, .ref 6), (1, .int (nI p)), (2, .ref 36), (3, .int w)] [.int (Int32.ofInt 0), .int (d_69 (s.2.2.2.1 p)), .int (s.1 / ((Int8.ofInt 7).toInt32)), .int (d_89 C s p), .ref 14] h from ?_)
      exact sv_S2 sv2_104 (fun q hq => absurd hq List.not_mem_nil) (key _ (if_pos c7).symm)
    · refine am_goX 2 (show pz_S 5 (some .boolean) am_r104 3 Q 39 [(4, .int (d_69 (s.2.2.2.1 p))), (0, .ref 6), (1, .int (nI p)), (2, .ref 36), (3, .int w)] [.int (Int32.ofInt 1), .int (d_69 (s.2.2.2.1 p)), .int (s.1 / ((Int8.ofInt 7).toInt32)), .int (d_89 C s p), .ref 14] h from ?_)
      exact sv_S2 sv2_104 (fun q hq => absurd hq List.not_mem_nil) (key _ (if_neg c7).symm)
  intro v8 e9
  subst e9
  refine am_goX 1 (show am_rc h 14 3 ∧ 0 ≤ 8 ∧ h.2.2.2.2 + am_al 105 ≤ 175 ∧ am_call am_cod 3 105 [.ref 14, .int (d_89 C s p), .int (s.1 / ((Int8.ofInt 7).toInt32)), .int (d_69 (s.2.2.2.1 p)), .int (if w = 0 then Int32.ofInt 0 else Int32.ofInt 1)] h (fun vv h' => pz_S 5 (some .boolean) am_r104 3 Q 42 [] (vv.toList ++ []) h') from ⟨Or.inl ⟨by decide, ex_14 hP⟩, by decide, ex_lim hP rfl, am_call.up (q_105_6 hP hT (fun h10 l11 => ?_)) (by decide)⟩)
  have f12 : ex_P h10 := lfr_P l11 hP
  have f13 : cI C := hI
  have f14 : c_v 6 C h10 := lfr_c l11 (by omega) hT
  have f15 : c_d 6 C h10 := lfr_d l11 (by omega) hD
  have f16 : sC 36 s h10 := lfr_s l11 (by omega) hS
  have f17 : fC 6 h0 h10 := fC_l l11 hX
  suffices key : ∀ (v19 : Int32), v19 = (if (dlaw C (d_89 C s p) (s.1 / ((Int8.ofInt 7).toInt32)) (d_69 (s.2.2.2.1 p)) (if w = 0 then Int32.ofInt 0 else Int32.ofInt 1)) = 0 then Int32.ofInt 0 else Int32.ofInt 1) → pz_S 5 (some .boolean) am_r104 3 Q 50 [] [.int v19] h10 by
    refine am_goX 1 (show ((dlaw C (d_89 C s p) (s.1 / ((Int8.ofInt 7).toInt32)) (d_69 (s.2.2.2.1 p)) (if w = 0 then Int32.ofInt 0 else Int32.ofInt 1)) = 0 → pz_S 5 (some .boolean) am_r104 3 Q 49 [] [] h10) ∧ (¬ ((dlaw C (d_89 C s p) (s.1 / ((Int8.ofInt 7).toInt32)) (d_69 (s.2.2.2.1 p)) (if w = 0 then Int32.ofInt 0 else Int32.ofInt 1)) = 0) → pz_S 5 (some .boolean) am_r104 3 Q 45 [] [] h10) from ⟨fun c18 => ?_, fun c18 => ?_⟩)
    · refine am_goX 1 (show pz_S 5 (some .boolean) am_r104 3 Q 50 [] [.int (Int32.ofInt 0)] h10 from ?_)
      exact sv_S2 sv2_104 (fun q hq => absurd hq List.not_mem_nil) (key _ (if_pos c18).symm)
    · refine am_goX 2 (show pz_S 5 (some .boolean) am_r104 3 Q 50 [] [.int (Int32.ofInt 1)] h10 from ?_)
      exact sv_S2 sv2_104 (fun q hq => absurd hq List.not_mem_nil) (key _ (if_neg c18).symm)
  intro v19 e20
  subst e20
  exact am_goX 1 (show (∃ ty, (some .boolean) = some ty ∧ narrow ty (.int (if (dlaw C (d_89 C s p) (s.1 / ((Int8.ofInt 7).toInt32)) (d_69 (s.2.2.2.1 p)) (if w = 0 then Int32.ofInt 0 else Int32.ofInt 1)) = 0 then Int32.ofInt 0 else Int32.ofInt 1)) = .int (if (dlaw C (d_89 C s p) (s.1 / ((Int8.ofInt 7).toInt32)) (d_69 (s.2.2.2.1 p)) (if w = 0 then Int32.ofInt 0 else Int32.ofInt 1)) = 0 then Int32.ofInt 0 else Int32.ofInt 1)) ∧ h10.2.2.2.2 = 175 ∧ _ from ⟨⟨.boolean, rfl, (by (repeat' split) <;> rfl)⟩, ex_175 f12, hQ _ f12 f13 f14 f15 f16 f17⟩)
def d_101_2 (C : sp_C) (w : Int32) : Nat → Nat → dS → dS
  | 0, _, s => s
  | m + 1, k, s => d_101_2 C w m (k + 1) (sSA s k (Int32.ofInt 0))
theorem d_101_2_t6_36 : ∀ (m k : Nat) (s : dS) (h : am_H), k + m = dE C → (ex_P h) → (cI C) → (c_v 6 C h) → (c_d 6 C h) → (sC 36 s h) → (fC 6 h0 h) → (∀ h1, (ex_P h1) → (cI C) → (c_v 6 C h1) → (c_d 6 C h1) → (sC 36 (d_101_2 C w m k s) h1) → (fC 6 h0 h1) → pz_S 6 none am_r101 4 Q 23 [(0, .ref 6), (1, .ref 36), (2, .int w)] [] h1) → pz_S 6 none am_r101 4 Q 2 [(0, .ref 6), (1, .ref 36), (2, .int w), (3, .int (nI k))] [] h := by
  intro m
  induction m with
  | zero =>
    intro k s h hk hP hI hT hD hS hX hZ
    have h6 := hT.1.2.1
    have h5 := hT.2.1.2.1
    refine am_goX 3 (show am_sh h 6 = some (0, 0) ∧ pz_S 6 none am_r101 4 Q 7 [(0, .ref 6), (1, .ref 36), (2, .int w), (3, .int (nI k))] [.int (h.1 6 4), .int (nI k)] h from ⟨ex_6 hP, ?_⟩)
    rw [show h.1 6 4 = nI (dE C) from hT.2.1.1]
    refine am_goX 1 (show ((nI (dE C)) ≤ (nI k) → pz_S 6 none am_r101 4 Q 23 [(0, .ref 6), (1, .ref 36), (2, .int w), (3, .int (nI k))] [] h) ∧ (¬ ((nI (dE C)) ≤ (nI k)) → pz_S 6 none am_r101 4 Q 10 [(0, .ref 6), (1, .ref 36), (2, .int w), (3, .int (nI k))] [] h) from ⟨fun _ => ?_, fun hz => absurd (show nI (dE C) ≤ nI k from nI_le (by omega) (by omega)) hz⟩)
    exact sv_S2 sv2_101 (by intro q hq; simp only [List.mem_cons, List.not_mem_nil, or_false] at hq; rcases hq with rfl | rfl | rfl <;> rfl) (hZ _ hP hI hT hD hS hX)
  | succ m ih =>
    intro k s h hk hP hI hT hD hS hX hZ
    have h6 := hT.1.2.1
    have h5 := hT.2.1.2.1
    refine am_goX 3 (show am_sh h 6 = some (0, 0) ∧ pz_S 6 none am_r101 4 Q 7 [(0, .ref 6), (1, .ref 36), (2, .int w), (3, .int (nI k))] [.int (h.1 6 4), .int (nI k)] h from ⟨ex_6 hP, ?_⟩)
    rw [show h.1 6 4 = nI (dE C) from hT.2.1.1]
    refine am_goX 1 (show ((nI (dE C)) ≤ (nI k) → pz_S 6 none am_r101 4 Q 23 [(0, .ref 6), (1, .ref 36), (2, .int w), (3, .int (nI k))] [] h) ∧ (¬ ((nI (dE C)) ≤ (nI k)) → pz_S 6 none am_r101 4 Q 10 [(0, .ref 6), (1, .ref 36), (2, .int w), (3, .int (nI k))] [] h) from ⟨fun hz => absurd hz (show ¬ (nI (dE C) ≤ nI k) by rw [nI_leI (by omega) (by omega)]; omega), fun _ => ?_⟩)
    refine am_goX 2 (show am_sh h 36 = some (6, 0) ∧ pz_S 6 none am_r101 4 Q 14 [(0, .ref 6), (1, .ref 36), (2, .int w), (3, .int (nI k))] [am_rf (h.2.2.1 36 5)] h from ⟨ex_36 hP, ?_⟩)
    rw [show am_rf (h.2.2.1 36 5) = .ref 40 from congrArg am_rf (ex_r36_5 hP)]
    refine am_goX 3 (show ∃ jj nn : Nat, am_so h 40 = some (13, nn) ∧ jj < nn ∧ nI k = nI jj ∧ pz_S 6 none am_r101 4 Q 17 [(0, .ref 6), (1, .ref 36), (2, .int w), (3, .int (nI k))] [] (am_wI h 40 jj (Int32.ofInt 0)) from ⟨k, 5, ex_w40 hP, (by omega), rfl, ?_⟩)
    have f22 : ex_P (am_wI h 40 k (Int32.ofInt 0)) := hP
    have f23 : cI C := hI
    have f24 : c_v 6 C (am_wI h 40 k (Int32.ofInt 0)) := c_v_w (by omega) hT
    have f25 : c_d 6 C (am_wI h 40 k (Int32.ofInt 0)) := c_d_w (by omega) hD
    have f26 : sC 36 (sSA s k (Int32.ofInt 0)) (am_wI h 40 k (Int32.ofInt 0)) := sC_wA (by omega) hS
    have f27 : fC 6 h0 (am_wI h 40 k (Int32.ofInt 0)) := fC_w (by omega) hX
    generalize am_wI h 40 k (Int32.ofInt 0) = h21 at f22 f23 f24 f25 f26 f27 ⊢
    refine am_goX 2 (show 3 < 6 ∧ pz_S 6 none am_r101 4 Q 2 [(3, .int ((nI k) + (Int32.ofInt 1))), (0, .ref 6), (1, .ref 36), (2, .int w)] [] h21 from ⟨by decide, ?_⟩)
    rw [show (nI k) + (Int32.ofInt 1) = nI (k + 1) from (dn_a rfl rfl)]
    exact sv_S2 sv2_101 (by intro q hq; simp only [List.mem_cons, List.not_mem_nil, or_false] at hq; rcases hq with rfl | rfl | rfl | rfl <;> rfl) (ih (k + 1) (sSA s k (Int32.ofInt 0)) _ (by omega) f22 f23 f24 f25 f26 f27 hZ)
def d_101_65 (C : sp_C) (w : Int32) (n3 : Nat) (x4 : Int32) : Nat → Nat → dS → dS
  | 0, _, s => s
  | m + 1, k, s => d_101_65 C w n3 x4 m (k + 1) (sSA s k ((s.2.2.2.2.2 k) ||| (((x4 >>> ((nI k) &&& 31)) &&& (Int32.ofInt 1)) <<< ((nI n3) &&& 31))))
theorem d_101_65_t6_36 (n3 : Nat) (x4 : Int32) : ∀ (m k : Nat) (s : dS) (h : am_H), k + m = dE C → (ex_P h) → (cI C) → (c_v 6 C h) → (c_d 6 C h) → (sC 36 s h) → (fC 6 h0 h) → (∀ h1, (ex_P h1) → (cI C) → (c_v 6 C h1) → (c_d 6 C h1) → (sC 36 (d_101_65 C w n3 x4 m k s) h1) → (fC 6 h0 h1) → pz_S 6 none am_r101 4 Q 99 [(0, .ref 6), (1, .ref 36), (2, .int w), (3, .int (nI n3))] [] h1) → pz_S 6 none am_r101 4 Q 65 [(0, .ref 6), (1, .ref 36), (2, .int w), (3, .int (nI n3)), (4, .int x4), (5, .int (nI k))] [] h := by
  intro m
  induction m with
  | zero =>
    intro k s h hk hP hI hT hD hS hX hZ
    have h6 := hT.1.2.1
    have h5 := hT.2.1.2.1
    refine am_goX 3 (show am_sh h 6 = some (0, 0) ∧ pz_S 6 none am_r101 4 Q 71 [(0, .ref 6), (1, .ref 36), (2, .int w), (3, .int (nI n3)), (4, .int x4), (5, .int (nI k))] [.int (h.1 6 4), .int (nI k)] h from ⟨ex_6 hP, ?_⟩)
    rw [show h.1 6 4 = nI (dE C) from hT.2.1.1]
    refine am_goX 1 (show ((nI (dE C)) ≤ (nI k) → pz_S 6 none am_r101 4 Q 99 [(0, .ref 6), (1, .ref 36), (2, .int w), (3, .int (nI n3)), (4, .int x4), (5, .int (nI k))] [] h) ∧ (¬ ((nI (dE C)) ≤ (nI k)) → pz_S 6 none am_r101 4 Q 74 [(0, .ref 6), (1, .ref 36), (2, .int w), (3, .int (nI n3)), (4, .int x4), (5, .int (nI k))] [] h) from ⟨fun _ => ?_, fun hz => absurd (show nI (dE C) ≤ nI k from nI_le (by omega) (by omega)) hz⟩)
    exact sv_S2 sv2_101 (by intro q hq; simp only [List.mem_cons, List.not_mem_nil, or_false] at hq; rcases hq with rfl | rfl | rfl | rfl <;> rfl) (hZ _ hP hI hT hD hS hX)
  | succ m ih =>
    intro k s h hk hP hI hT hD hS hX hZ
    have h6 := hT.1.2.1
    have h5 := hT.2.1.2.1
    refine am_goX 3 (show am_sh h 6 = some (0, 0) ∧ pz_S 6 none am_r101 4 Q 71 [(0, .ref 6), (1, .ref 36), (2, .int w), (3, .int (nI n3)), (4, .int x4), (5, .int (nI k))] [.int (h.1 6 4), .int (nI k)] h from ⟨ex_6 hP, ?_⟩)
    rw [show h.1 6 4 = nI (dE C) from hT.2.1.1]
    refine am_goX 1 (show ((nI (dE C)) ≤ (nI k) → pz_S 6 none am_r101 4 Q 99 [(0, .ref 6), (1, .ref 36), (2, .int w), (3, .int (nI n3)), (4, .int x4), (5, .int (nI k))] [] h) ∧ (¬ ((nI (dE C)) ≤ (nI k)) → pz_S 6 none am_r101 4 Q 74 [(0, .ref 6), (1, .ref 36), (2, .int w), (3, .int (nI n3)), (4, .int x4), (5, .int (nI k))] [] h) from ⟨fun hz => absurd hz (show ¬ (nI (dE C) ≤ nI k) by rw [nI_leI (by omega) (by omega)]; omega), fun _ => ?_⟩)
    refine am_goX 2 (show am_sh h 36 = some (6, 0) ∧ pz_S 6 none am_r101 4 Q 78 [(0, .ref 6), (1, .ref 36), (2, .int w), (3, .int (nI n3)), (4, .int x4), (5, .int (nI k))] [am_rf (h.2.2.1 36 5)] h from ⟨ex_36 hP, ?_⟩)
    rw [show am_rf (h.2.2.1 36 5) = .ref 40 from congrArg am_rf (ex_r36_5 hP)]
    refine am_goX 3 (show (Value.int (nI k)).category = 1 ∧ (Value.ref 40).category = 1 ∧ ∃ jj nn : Nat, am_sh h 40 = some (13, nn) ∧ jj < nn ∧ nI k = nI jj ∧ pz_S 6 none am_r101 4 Q 82 [(0, .ref 6), (1, .ref 36), (2, .int w), (3, .int (nI n3)), (4, .int x4), (5, .int (nI k))] [.int (h.1 40 jj), .int (nI k), .ref 40] h from ⟨rfl, rfl, ⟨k, 5, ex_40 hP, (by omega), rfl, ?_⟩⟩)
    rw [show h.1 40 k = s.2.2.2.2.2 k from (hS.2.2 k (by omega)).2]
    refine am_goX 9 (show ∃ jj nn : Nat, am_so h 40 = some (13, nn) ∧ jj < nn ∧ nI k = nI jj ∧ pz_S 6 none am_r101 4 Q 93 [(0, .ref 6), (1, .ref 36), (2, .int w), (3, .int (nI n3)), (4, .int x4), (5, .int (nI k))] [] (am_wI h 40 jj ((s.2.2.2.2.2 k) ||| (((x4 >>> ((nI k) &&& 31)) &&& (Int32.ofInt 1)) <<< ((nI n3) &&& 31)))) from ⟨k, 5, ex_w40 hP, (by omega), rfl, ?_⟩)
    have f45 : ex_P (am_wI h 40 k ((s.2.2.2.2.2 k) ||| (((x4 >>> ((nI k) &&& 31)) &&& (Int32.ofInt 1)) <<< ((nI n3) &&& 31)))) := hP
    have f46 : cI C := hI
    have f47 : c_v 6 C (am_wI h 40 k ((s.2.2.2.2.2 k) ||| (((x4 >>> ((nI k) &&& 31)) &&& (Int32.ofInt 1)) <<< ((nI n3) &&& 31)))) := c_v_w (by omega) hT
    have f48 : c_d 6 C (am_wI h 40 k ((s.2.2.2.2.2 k) ||| (((x4 >>> ((nI k) &&& 31)) &&& (Int32.ofInt 1)) <<< ((nI n3) &&& 31)))) := c_d_w (by omega) hD
    have f49 : sC 36 (sSA s k ((s.2.2.2.2.2 k) ||| (((x4 >>> ((nI k) &&& 31)) &&& (Int32.ofInt 1)) <<< ((nI n3) &&& 31)))) (am_wI h 40 k ((s.2.2.2.2.2 k) ||| (((x4 >>> ((nI k) &&& 31)) &&& (Int32.ofInt 1)) <<< ((nI n3) &&& 31)))) := sC_wA (by omega) hS
    have f50 : fC 6 h0 (am_wI h 40 k ((s.2.2.2.2.2 k) ||| (((x4 >>> ((nI k) &&& 31)) &&& (Int32.ofInt 1)) <<< ((nI n3) &&& 31)))) := fC_w (by omega) hX
    generalize am_wI h 40 k ((s.2.2.2.2.2 k) ||| (((x4 >>> ((nI k) &&& 31)) &&& (Int32.ofInt 1)) <<< ((nI n3) &&& 31))) = h44 at f45 f46 f47 f48 f49 f50 ⊢
    refine am_goX 2 (show 5 < 6 ∧ pz_S 6 none am_r101 4 Q 65 [(5, .int ((nI k) + (Int32.ofInt 1))), (0, .ref 6), (1, .ref 36), (2, .int w), (3, .int (nI n3)), (4, .int x4)] [] h44 from ⟨by decide, ?_⟩)
    rw [show (nI k) + (Int32.ofInt 1) = nI (k + 1) from (dn_a rfl rfl)]
    exact sv_S2 sv2_101 (by intro q hq; simp only [List.mem_cons, List.not_mem_nil, or_false] at hq; rcases hq with rfl | rfl | rfl | rfl | rfl | rfl <;> rfl) (ih (k + 1) (sSA s k ((s.2.2.2.2.2 k) ||| (((x4 >>> ((nI k) &&& 31)) &&& (Int32.ofInt 1)) <<< ((nI n3) &&& 31)))) _ (by omega) f45 f46 f47 f48 f49 f50 hZ)
def d_101_25 (C : sp_C) (w : Int32) : Nat → Nat → dS → dS
  | 0, _, s => s
  | m + 1, k, s => (if (d_102 C k (d_88 C s k w)) = 0 then (d_101_25 C w m (k + 1) s) else (if (d_104 C s k w) = 0 then (d_101_25 C w m (k + 1) s) else (d_101_25 C w m (k + 1) (d_101_65 C w k (d_102 C k (d_88 C s k w)) (dE C) 0 s))))
theorem d_101_25_t6_36 : ∀ (m k : Nat) (s : dS) (h : am_H), k + m = dP C → (ex_P h) → (cI C) → (c_v 6 C h) → (c_d 6 C h) → (sC 36 s h) → (fC 6 h0 h) → (∀ h1, (ex_P h1) → (cI C) → (c_v 6 C h1) → (c_d 6 C h1) → (sC 36 (d_101_25 C w m k s) h1) → (fC 6 h0 h1) → pz_S 6 none am_r101 4 Q 105 [] [] h1) → pz_S 6 none am_r101 4 Q 25 [(0, .ref 6), (1, .ref 36), (2, .int w), (3, .int (nI k))] [] h := by
  intro m
  induction m with
  | zero =>
    intro k s h hk hP hI hT hD hS hX hZ
    have h6 := hT.1.2.1
    have h5 := hT.2.1.2.1
    refine am_goX 3 (show am_sh h 6 = some (0, 0) ∧ pz_S 6 none am_r101 4 Q 30 [(0, .ref 6), (1, .ref 36), (2, .int w), (3, .int (nI k))] [.int (h.1 6 0), .int (nI k)] h from ⟨ex_6 hP, ?_⟩)
    rw [show h.1 6 0 = nI (dP C) from hT.1.1]
    refine am_goX 1 (show ((nI (dP C)) ≤ (nI k) → pz_S 6 none am_r101 4 Q 105 [(0, .ref 6), (1, .ref 36), (2, .int w), (3, .int (nI k))] [] h) ∧ (¬ ((nI (dP C)) ≤ (nI k)) → pz_S 6 none am_r101 4 Q 33 [(0, .ref 6), (1, .ref 36), (2, .int w), (3, .int (nI k))] [] h) from ⟨fun _ => ?_, fun hz => absurd (show nI (dP C) ≤ nI k from nI_le (by omega) (by omega)) hz⟩)
    exact sv_S2 sv2_101 (fun q hq => absurd hq List.not_mem_nil) (hZ _ hP hI hT hD hS hX)
  | succ m ih =>
    intro k s h hk hP hI hT hD hS hX hZ
    have h6 := hT.1.2.1
    have h5 := hT.2.1.2.1
    refine am_goX 3 (show am_sh h 6 = some (0, 0) ∧ pz_S 6 none am_r101 4 Q 30 [(0, .ref 6), (1, .ref 36), (2, .int w), (3, .int (nI k))] [.int (h.1 6 0), .int (nI k)] h from ⟨ex_6 hP, ?_⟩)
    rw [show h.1 6 0 = nI (dP C) from hT.1.1]
    refine am_goX 1 (show ((nI (dP C)) ≤ (nI k) → pz_S 6 none am_r101 4 Q 105 [(0, .ref 6), (1, .ref 36), (2, .int w), (3, .int (nI k))] [] h) ∧ (¬ ((nI (dP C)) ≤ (nI k)) → pz_S 6 none am_r101 4 Q 33 [(0, .ref 6), (1, .ref 36), (2, .int w), (3, .int (nI k))] [] h) from ⟨fun hz => absurd hz (show ¬ (nI (dP C) ≤ nI k) by rw [nI_leI (by omega) (by omega)]; omega), fun _ => ?_⟩)
    refine am_goX 7 (show am_rc h 6 0 ∧ 2 ≤ 8 ∧ h.2.2.2.2 + am_al 88 ≤ 175 ∧ am_call am_cod 4 88 [.ref 6, .int (nI k), .ref 36, .int w] h (fun vv h' => pz_S 6 none am_r101 4 Q 42 [(0, .ref 6), (1, .ref 36), (2, .int w), (3, .int (nI k))] (vv.toList ++ [.int (nI k), .ref 6]) h') from ⟨Or.inl ⟨by decide, ex_6 hP⟩, by decide, ex_lim hP rfl, am_call.up (d_88_t6_36 hP hI hT hD hS hX (by omega) ?_) (by decide)⟩)
    refine am_goX 1 (show am_rc h 6 0 ∧ 0 ≤ 8 ∧ h.2.2.2.2 + am_al 102 ≤ 175 ∧ am_call am_cod 4 102 [.ref 6, .int (nI k), .int (d_88 C s k w)] h (fun vv h' => pz_S 6 none am_r101 4 Q 45 [(0, .ref 6), (1, .ref 36), (2, .int w), (3, .int (nI k))] (vv.toList ++ []) h') from ⟨Or.inl ⟨by decide, ex_6 hP⟩, by decide, ex_lim hP rfl, am_call.up (d_102_w6 hP hT hD (by omega) ?_) (by decide)⟩)
    refine am_goX 3 (show 4 < 6 ∧ ((d_102 C k (d_88 C s k w)) = 0 → pz_S 6 none am_r101 4 Q 99 [(4, .int (d_102 C k (d_88 C s k w))), (0, .ref 6), (1, .ref 36), (2, .int w), (3, .int (nI k))] [] h) ∧ (¬ ((d_102 C k (d_88 C s k w)) = 0) → pz_S 6 none am_r101 4 Q 52 [(4, .int (d_102 C k (d_88 C s k w))), (0, .ref 6), (1, .ref 36), (2, .int w), (3, .int (nI k))] [] h) from ⟨by decide, fun c35 => ?_, fun c35 => ?_⟩)
    · refine am_goX 2 (show 3 < 6 ∧ pz_S 6 none am_r101 4 Q 25 [(3, .int ((nI k) + (Int32.ofInt 1))), (4, .int (d_102 C k (d_88 C s k w))), (0, .ref 6), (1, .ref 36), (2, .int w)] [] h from ⟨by decide, ?_⟩)
      rw [show d_101_25 C w (m + 1) k s = d_101_25 C w m (k + 1) s from if_pos c35] at hZ
      rw [show (nI k) + (Int32.ofInt 1) = nI (k + 1) from (dn_a rfl rfl)]
      exact sv_S2 sv2_101 (by intro q hq; simp only [List.mem_cons, List.not_mem_nil, or_false] at hq; rcases hq with rfl | rfl | rfl | rfl <;> rfl) (ih (k + 1) s _ (by omega) hP hI hT hD hS hX hZ)
    · refine am_goX 5 (show am_rc h 6 0 ∧ 0 ≤ 8 ∧ h.2.2.2.2 + am_al 104 ≤ 175 ∧ am_call am_cod 4 104 [.ref 6, .int (nI k), .ref 36, .int w] h (fun vv h' => pz_S 6 none am_r101 4 Q 59 [(4, .int (d_102 C k (d_88 C s k w))), (0, .ref 6), (1, .ref 36), (2, .int w), (3, .int (nI k))] (vv.toList ++ []) h') from ⟨Or.inl ⟨by decide, ex_6 hP⟩, by decide, ex_lim hP rfl, am_call.up (d_104_t6_36 hP hI hT hD hS hX (by omega) (fun h36 f37 f38 f39 f40 f41 f42 => ?_)) (by decide)⟩)
      refine am_goX 1 (show ((d_104 C s k w) = 0 → pz_S 6 none am_r101 4 Q 99 [(4, .int (d_102 C k (d_88 C s k w))), (0, .ref 6), (1, .ref 36), (2, .int w), (3, .int (nI k))] [] h36) ∧ (¬ ((d_104 C s k w) = 0) → pz_S 6 none am_r101 4 Q 62 [(4, .int (d_102 C k (d_88 C s k w))), (0, .ref 6), (1, .ref 36), (2, .int w), (3, .int (nI k))] [] h36) from ⟨fun c43 => ?_, fun c43 => ?_⟩)
      · refine am_goX 2 (show 3 < 6 ∧ pz_S 6 none am_r101 4 Q 25 [(3, .int ((nI k) + (Int32.ofInt 1))), (4, .int (d_102 C k (d_88 C s k w))), (0, .ref 6), (1, .ref 36), (2, .int w)] [] h36 from ⟨by decide, ?_⟩)
        rw [show d_101_25 C w (m + 1) k s = d_101_25 C w m (k + 1) s from (if_neg c35).trans (if_pos c43)] at hZ
        rw [show (nI k) + (Int32.ofInt 1) = nI (k + 1) from (dn_a rfl rfl)]
        exact sv_S2 sv2_101 (by intro q hq; simp only [List.mem_cons, List.not_mem_nil, or_false] at hq; rcases hq with rfl | rfl | rfl | rfl <;> rfl) (ih (k + 1) s _ (by omega) f37 f38 f39 f40 f41 f42 hZ)
      · refine am_goX 2 (show 5 < 6 ∧ pz_S 6 none am_r101 4 Q 65 [(5, .int (Int32.ofInt 0)), (4, .int (d_102 C k (d_88 C s k w))), (0, .ref 6), (1, .ref 36), (2, .int w), (3, .int (nI k))] [] h36 from ⟨by decide, ?_⟩)
        refine sv_S2 sv2_101 (by intro q hq; simp only [List.mem_cons, List.not_mem_nil, or_false] at hq; rcases hq with rfl | rfl | rfl | rfl | rfl | rfl <;> rfl) (d_101_65_t6_36 k (d_102 C k (d_88 C s k w)) (dE C) 0 s _ (by omega) f37 f38 f39 f40 f41 f42 (fun h44 f45 f46 f47 f48 f49 f50 => ?_))
        refine am_goX 2 (show 3 < 6 ∧ pz_S 6 none am_r101 4 Q 25 [(3, .int ((nI k) + (Int32.ofInt 1))), (0, .ref 6), (1, .ref 36), (2, .int w)] [] h44 from ⟨by decide, ?_⟩)
        rw [show d_101_25 C w (m + 1) k s = d_101_25 C w m (k + 1) (d_101_65 C w k (d_102 C k (d_88 C s k w)) (dE C) 0 s) from (if_neg c35).trans (if_neg c43)] at hZ
        rw [show (nI k) + (Int32.ofInt 1) = nI (k + 1) from (dn_a rfl rfl)]
        exact sv_S2 sv2_101 (by intro q hq; simp only [List.mem_cons, List.not_mem_nil, or_false] at hq; rcases hq with rfl | rfl | rfl | rfl <;> rfl) (ih (k + 1) (d_101_65 C w k (d_102 C k (d_88 C s k w)) (dE C) 0 s) _ (by omega) f45 f46 f47 f48 f49 f50 hZ)
def d_101_s (C : sp_C) (s : dS) (w : Int32) : dS := d_101_25 C w (dP C) 0 (d_101_2 C w (dE C) 0 s)
theorem d_101_t6_36 (hP : ex_P h) (hI : cI C) (hT : c_v 6 C h) (hD : c_d 6 C h) (hS : sC 36 s h) (hX : fC 6 h0 h)  (hQ : ∀ h1, (ex_P h1) → (cI C) → (c_v 6 C h1) → (c_d 6 C h1) → (sC 36 (d_101_s C s w) h1) → (fC 6 h0 h1) → Q none h1) : am_call am_cod 5 101 [.ref 6, .ref 36, .int w] h Q := by
  have h6 := hT.1.2.1
  have h5 := hT.2.1.2.1
  refine pz_call (n := 101) (nL := 6) (rt := none) (rows := am_r101) (d := 4) (by decide +kernel) (by decide +kernel) rfl (by funext pc; rfl) (ex_175 hP) (by exact Nat.le_of_ble_eq_true rfl) ?_
  refine am_goX 2 (show 3 < 6 ∧ pz_S 6 none am_r101 4 Q 2 [(3, .int (Int32.ofInt 0)), (0, .ref 6), (1, .ref 36), (2, .int w)] [] h from ⟨by decide, ?_⟩)
  refine sv_S2 sv2_101 (by intro q hq; simp only [List.mem_cons, List.not_mem_nil, or_false] at hq; rcases hq with rfl | rfl | rfl | rfl <;> rfl) (d_101_2_t6_36 (dE C) 0 s _ (by omega) hP hI hT hD hS hX (fun h28 f29 f30 f31 f32 f33 f34 => ?_))
  refine am_goX 2 (show 3 < 6 ∧ pz_S 6 none am_r101 4 Q 25 [(3, .int (Int32.ofInt 0)), (0, .ref 6), (1, .ref 36), (2, .int w)] [] h28 from ⟨by decide, ?_⟩)
  refine sv_S2 sv2_101 (by intro q hq; simp only [List.mem_cons, List.not_mem_nil, or_false] at hq; rcases hq with rfl | rfl | rfl | rfl <;> rfl) (d_101_25_t6_36 (dP C) 0 (d_101_2 C w (dE C) 0 s) _ (by omega) f29 f30 f31 f32 f33 f34 (fun h51 f52 f53 f54 f55 f56 f57 => ?_))
  exact am_goX 1 (show (none : Option FieldType) = none ∧ h51.2.2.2.2 = 175 ∧ _ from ⟨rfl, ex_175 f52, hQ _ f52 f53 f54 f55 f56 f57⟩)
def d_108_2 (x : Int32) : Nat → Nat → dS → dS
  | 0, _, s => s
  | m + 1, k, s => (if (d_65 x (nI k)) = 0 then (d_108_2 x m (k + 1) s) else (d_108_2 x m (k + 1) (sSM s k ((s.2.2.2.1 k) ||| (x &&& (((Int32.ofInt 1) <<< ((nI k) &&& 31)) ^^^ (Int32.ofInt (-1))))))))
theorem d_108_2_t6_36 : ∀ (m k : Nat) (s : dS) (h : am_H), k + m = 6 → (ex_P h) → (cI C) → (c_v 6 C h) → (c_d 6 C h) → (sC 36 s h) → (fC 6 h0 h) → (∀ h1, (ex_P h1) → (cI C) → (c_v 6 C h1) → (c_d 6 C h1) → (sC 36 (d_108_2 x m k s) h1) → (fC 6 h0 h1) → pz_S 3 none am_r108 1 Q 38 [] [] h1) → pz_S 3 none am_r108 1 Q 2 [(0, .ref 36), (1, .int x), (2, .int (nI k))] [] h := by
  intro m
  induction m with
  | zero =>
    intro k s h hk hP hI hT hD hS hX hZ
    have h6 := hT.1.2.1
    have h5 := hT.2.1.2.1
    refine am_goX 3 (show (((Int8.ofInt 6).toInt32) ≤ (nI k) → pz_S 3 none am_r108 1 Q 38 [(0, .ref 36), (1, .int x), (2, .int (nI k))] [] h) ∧ (¬ (((Int8.ofInt 6).toInt32) ≤ (nI k)) → pz_S 3 none am_r108 1 Q 8 [(0, .ref 36), (1, .int x), (2, .int (nI k))] [] h) from ⟨fun _ => ?_, fun hz => absurd (show nI 6 ≤ nI k from nI_le (by omega) (by omega)) hz⟩)
    exact sv_S2 sv2_108 (fun q hq => absurd hq List.not_mem_nil) (hZ _ hP hI hT hD hS hX)
  | succ m ih =>
    intro k s h hk hP hI hT hD hS hX hZ
    have h6 := hT.1.2.1
    have h5 := hT.2.1.2.1
    refine am_goX 3 (show (((Int8.ofInt 6).toInt32) ≤ (nI k) → pz_S 3 none am_r108 1 Q 38 [(0, .ref 36), (1, .int x), (2, .int (nI k))] [] h) ∧ (¬ (((Int8.ofInt 6).toInt32) ≤ (nI k)) → pz_S 3 none am_r108 1 Q 8 [(0, .ref 36), (1, .int x), (2, .int (nI k))] [] h) from ⟨fun hz => absurd hz (show ¬ (nI 6 ≤ nI k) by rw [nI_leI (by omega) (by omega)]; omega), fun _ => ?_⟩)
    refine am_goX 3 (show 0 ≤ 8 ∧ h.2.2.2.2 + am_al 65 ≤ 175 ∧ am_call am_cod 1 65 [.int x, .int (nI k)] h (fun vv h' => pz_S 3 none am_r108 1 Q 13 [(0, .ref 36), (1, .int x), (2, .int (nI k))] (vv.toList ++ []) h') from ⟨by decide, ex_lim hP rfl, am_call.up (d_65_w hP ?_) (by decide)⟩)
    refine am_goX 1 (show ((d_65 x (nI k)) = 0 → pz_S 3 none am_r108 1 Q 32 [(0, .ref 36), (1, .int x), (2, .int (nI k))] [] h) ∧ (¬ ((d_65 x (nI k)) = 0) → pz_S 3 none am_r108 1 Q 16 [(0, .ref 36), (1, .int x), (2, .int (nI k))] [] h) from ⟨fun c58 => ?_, fun c58 => ?_⟩)
    · refine am_goX 2 (show 2 < 3 ∧ pz_S 3 none am_r108 1 Q 2 [(2, .int ((nI k) + (Int32.ofInt 1))), (0, .ref 36), (1, .int x)] [] h from ⟨by decide, ?_⟩)
      rw [show d_108_2 x (m + 1) k s = d_108_2 x m (k + 1) s from if_pos c58] at hZ
      rw [show (nI k) + (Int32.ofInt 1) = nI (k + 1) from (dn_a rfl rfl)]
      exact sv_S2 sv2_108 (by intro q hq; simp only [List.mem_cons, List.not_mem_nil, or_false] at hq; rcases hq with rfl | rfl | rfl <;> rfl) (ih (k + 1) s _ (by omega) hP hI hT hD hS hX hZ)
    · refine am_goX 2 (show am_sh h 36 = some (6, 0) ∧ pz_S 3 none am_r108 1 Q 20 [(0, .ref 36), (1, .int x), (2, .int (nI k))] [am_rf (h.2.2.1 36 3)] h from ⟨ex_36 hP, ?_⟩)
      rw [show am_rf (h.2.2.1 36 3) = .ref 38 from congrArg am_rf (ex_r36_3 hP)]
      refine am_goX 3 (show (Value.int (nI k)).category = 1 ∧ (Value.ref 38).category = 1 ∧ ∃ jj nn : Nat, am_sh h 38 = some (13, nn) ∧ jj < nn ∧ nI k = nI jj ∧ pz_S 3 none am_r108 1 Q 23 [(0, .ref 36), (1, .int x), (2, .int (nI k))] [.int (h.1 38 jj), .int (nI k), .ref 38] h from ⟨rfl, rfl, ⟨k, 6, ex_38 hP, (by omega), rfl, ?_⟩⟩)
      rw [show h.1 38 k = s.2.2.2.1 k from (hS.2.1 k (by omega)).2]
      refine am_goX 9 (show ∃ jj nn : Nat, am_so h 38 = some (13, nn) ∧ jj < nn ∧ nI k = nI jj ∧ pz_S 3 none am_r108 1 Q 32 [(0, .ref 36), (1, .int x), (2, .int (nI k))] [] (am_wI h 38 jj ((s.2.2.2.1 k) ||| (x &&& (((Int32.ofInt 1) <<< ((nI k) &&& 31)) ^^^ (Int32.ofInt (-1)))))) from ⟨k, 6, ex_w38 hP, (by omega), rfl, ?_⟩)
      have f60 : ex_P (am_wI h 38 k ((s.2.2.2.1 k) ||| (x &&& (((Int32.ofInt 1) <<< ((nI k) &&& 31)) ^^^ (Int32.ofInt (-1)))))) := hP
      have f61 : cI C := hI
      have f62 : c_v 6 C (am_wI h 38 k ((s.2.2.2.1 k) ||| (x &&& (((Int32.ofInt 1) <<< ((nI k) &&& 31)) ^^^ (Int32.ofInt (-1)))))) := c_v_w (by omega) hT
      have f63 : c_d 6 C (am_wI h 38 k ((s.2.2.2.1 k) ||| (x &&& (((Int32.ofInt 1) <<< ((nI k) &&& 31)) ^^^ (Int32.ofInt (-1)))))) := c_d_w (by omega) hD
      have f64 : sC 36 (sSM s k ((s.2.2.2.1 k) ||| (x &&& (((Int32.ofInt 1) <<< ((nI k) &&& 31)) ^^^ (Int32.ofInt (-1)))))) (am_wI h 38 k ((s.2.2.2.1 k) ||| (x &&& (((Int32.ofInt 1) <<< ((nI k) &&& 31)) ^^^ (Int32.ofInt (-1)))))) := sC_wM (by omega) hS
      have f65 : fC 6 h0 (am_wI h 38 k ((s.2.2.2.1 k) ||| (x &&& (((Int32.ofInt 1) <<< ((nI k) &&& 31)) ^^^ (Int32.ofInt (-1)))))) := fC_w (by omega) hX
      generalize am_wI h 38 k ((s.2.2.2.1 k) ||| (x &&& (((Int32.ofInt 1) <<< ((nI k) &&& 31)) ^^^ (Int32.ofInt (-1))))) = h59 at f60 f61 f62 f63 f64 f65 ⊢
      refine am_goX 2 (show 2 < 3 ∧ pz_S 3 none am_r108 1 Q 2 [(2, .int ((nI k) + (Int32.ofInt 1))), (0, .ref 36), (1, .int x)] [] h59 from ⟨by decide, ?_⟩)
      rw [show d_108_2 x (m + 1) k s = d_108_2 x m (k + 1) (sSM s k ((s.2.2.2.1 k) ||| (x &&& (((Int32.ofInt 1) <<< ((nI k) &&& 31)) ^^^ (Int32.ofInt (-1)))))) from if_neg c58] at hZ
      rw [show (nI k) + (Int32.ofInt 1) = nI (k + 1) from (dn_a rfl rfl)]
      exact sv_S2 sv2_108 (by intro q hq; simp only [List.mem_cons, List.not_mem_nil, or_false] at hq; rcases hq with rfl | rfl | rfl <;> rfl) (ih (k + 1) (sSM s k ((s.2.2.2.1 k) ||| (x &&& (((Int32.ofInt 1) <<< ((nI k) &&& 31)) ^^^ (Int32.ofInt (-1)))))) _ (by omega) f60 f61 f62 f63 f64 f65 hZ)
def d_108_s (s : dS) (x : Int32) : dS := d_108_2 x 6 0 s
theorem d_108_t6_36 (hP : ex_P h) (hI : cI C) (hT : c_v 6 C h) (hD : c_d 6 C h) (hS : sC 36 s h) (hX : fC 6 h0 h)  (hQ : ∀ h1, (ex_P h1) → (cI C) → (c_v 6 C h1) → (c_d 6 C h1) → (sC 36 (d_108_s s x) h1) → (fC 6 h0 h1) → Q none h1) : am_call am_cod 2 108 [.ref 36, .int x] h Q := by
  have h6 := hT.1.2.1
  have h5 := hT.2.1.2.1
  refine pz_call (n := 108) (nL := 3) (rt := none) (rows := am_r108) (d := 1) (by decide +kernel) (by decide +kernel) rfl (by funext pc; rfl) (ex_175 hP) (by exact Nat.le_of_ble_eq_true rfl) ?_
  refine am_goX 2 (show 2 < 3 ∧ pz_S 3 none am_r108 1 Q 2 [(2, .int (Int32.ofInt 0)), (0, .ref 36), (1, .int x)] [] h from ⟨by decide, ?_⟩)
  refine sv_S2 sv2_108 (by intro q hq; simp only [List.mem_cons, List.not_mem_nil, or_false] at hq; rcases hq with rfl | rfl | rfl <;> rfl) (d_108_2_t6_36 6 0 s _ (by omega) hP hI hT hD hS hX (fun h66 f67 f68 f69 f70 f71 f72 => ?_))
  exact am_goX 1 (show (none : Option FieldType) = none ∧ h66.2.2.2.2 = 175 ∧ _ from ⟨rfl, ex_175 f67, hQ _ f67 f68 f69 f70 f71 f72⟩)
def d_100_21 (C : sp_C) : Nat → Nat → Int32 → dS → Int32 × dS
  | 0, _, a3, s => (a3, s)
  | m + 1, k, a3, s => (if (d_69 ((d_108_s s (s.2.2.2.2.2 k)).2.2.2.2.2 k)) < (dN C k) then (d_100_21 C m (k + 1) a3 (d_108_s s (s.2.2.2.2.2 k))) else (d_100_21 C m (k + 1) (a3 ||| ((Int32.ofInt 1) <<< ((nI k) &&& 31))) (sSH (d_108_s s (s.2.2.2.2.2 k)) k (((d_108_s s (s.2.2.2.2.2 k)).2.2.2.2.1 k) + (Int32.ofInt 1)))))
theorem d_100_21_t6_36 : ∀ (m k : Nat) (a3 : Int32) (s : dS) (h : am_H), k + m = dE C → (ex_P h) → (cI C) → (c_v 6 C h) → (c_d 6 C h) → (sC 36 s h) → (fC 6 h0 h) → (∀ h1, (ex_P h1) → (cI C) → (c_v 6 C h1) → (c_d 6 C h1) → (sC 36 ((d_100_21 C m k a3 s).2) h1) → (fC 6 h0 h1) → pz_S 5 (some .int) am_r100 5 Q 85 [(3, .int ((d_100_21 C m k a3 s).1))] [] h1) → pz_S 5 (some .int) am_r100 5 Q 21 [(0, .ref 6), (1, .ref 36), (3, .int a3), (4, .int (nI k))] [] h := by
  intro m
  induction m with
  | zero =>
    intro k a3 s h hk hP hI hT hD hS hX hZ
    have h6 := hT.1.2.1
    have h5 := hT.2.1.2.1
    refine am_goX 3 (show am_sh h 6 = some (0, 0) ∧ pz_S 5 (some .int) am_r100 5 Q 27 [(0, .ref 6), (1, .ref 36), (3, .int a3), (4, .int (nI k))] [.int (h.1 6 4), .int (nI k)] h from ⟨ex_6 hP, ?_⟩)
    rw [show h.1 6 4 = nI (dE C) from hT.2.1.1]
    refine am_goX 1 (show ((nI (dE C)) ≤ (nI k) → pz_S 5 (some .int) am_r100 5 Q 85 [(0, .ref 6), (1, .ref 36), (3, .int a3), (4, .int (nI k))] [] h) ∧ (¬ ((nI (dE C)) ≤ (nI k)) → pz_S 5 (some .int) am_r100 5 Q 30 [(0, .ref 6), (1, .ref 36), (3, .int a3), (4, .int (nI k))] [] h) from ⟨fun _ => ?_, fun hz => absurd (show nI (dE C) ≤ nI k from nI_le (by omega) (by omega)) hz⟩)
    exact sv_S2 sv2_100 (by intro q hq; simp only [List.mem_cons, List.not_mem_nil, or_false] at hq; rcases hq with rfl <;> rfl) (hZ _ hP hI hT hD hS hX)
  | succ m ih =>
    intro k a3 s h hk hP hI hT hD hS hX hZ
    have h6 := hT.1.2.1
    have h5 := hT.2.1.2.1
    refine am_goX 3 (show am_sh h 6 = some (0, 0) ∧ pz_S 5 (some .int) am_r100 5 Q 27 [(0, .ref 6), (1, .ref 36), (3, .int a3), (4, .int (nI k))] [.int (h.1 6 4), .int (nI k)] h from ⟨ex_6 hP, ?_⟩)
    rw [show h.1 6 4 = nI (dE C) from hT.2.1.1]
    refine am_goX 1 (show ((nI (dE C)) ≤ (nI k) → pz_S 5 (some .int) am_r100 5 Q 85 [(0, .ref 6), (1, .ref 36), (3, .int a3), (4, .int (nI k))] [] h) ∧ (¬ ((nI (dE C)) ≤ (nI k)) → pz_S 5 (some .int) am_r100 5 Q 30 [(0, .ref 6), (1, .ref 36), (3, .int a3), (4, .int (nI k))] [] h) from ⟨fun hz => absurd hz (show ¬ (nI (dE C) ≤ nI k) by rw [nI_leI (by omega) (by omega)]; omega), fun _ => ?_⟩)
    refine am_goX 3 (show am_sh h 36 = some (6, 0) ∧ pz_S 5 (some .int) am_r100 5 Q 35 [(0, .ref 6), (1, .ref 36), (3, .int a3), (4, .int (nI k))] [am_rf (h.2.2.1 36 5), .ref 36] h from ⟨ex_36 hP, ?_⟩)
    rw [show am_rf (h.2.2.1 36 5) = .ref 40 from congrArg am_rf (ex_r36_5 hP)]
    refine am_goX 2 (show ∃ jj nn : Nat, am_sh h 40 = some (13, nn) ∧ jj < nn ∧ nI k = nI jj ∧ pz_S 5 (some .int) am_r100 5 Q 38 [(0, .ref 6), (1, .ref 36), (3, .int a3), (4, .int (nI k))] [.int (h.1 40 jj), .ref 36] h from ⟨k, 5, ex_40 hP, (by omega), rfl, ?_⟩)
    rw [show h.1 40 k = s.2.2.2.2.2 k from (hS.2.2 k (by omega)).2]
    refine am_goX 1 (show am_rc h 36 6 ∧ 0 ≤ 8 ∧ h.2.2.2.2 + am_al 108 ≤ 175 ∧ am_call am_cod 5 108 [.ref 36, .int (s.2.2.2.2.2 k)] h (fun vv h' => pz_S 5 (some .int) am_r100 5 Q 41 [(0, .ref 6), (1, .ref 36), (3, .int a3), (4, .int (nI k))] (vv.toList ++ []) h') from ⟨Or.inl ⟨by decide, ex_36 hP⟩, by decide, ex_lim hP rfl, am_call.up (d_108_t6_36 hP hI hT hD hS hX (fun h87 f88 f89 f90 f91 f92 f93 => ?_)) (by decide)⟩)
    refine am_goX 2 (show am_sh h87 36 = some (6, 0) ∧ pz_S 5 (some .int) am_r100 5 Q 45 [(0, .ref 6), (1, .ref 36), (3, .int a3), (4, .int (nI k))] [am_rf (h87.2.2.1 36 5)] h87 from ⟨ex_36 f88, ?_⟩)
    rw [show am_rf (h87.2.2.1 36 5) = .ref 40 from congrArg am_rf (ex_r36_5 f88)]
    refine am_goX 2 (show ∃ jj nn : Nat, am_sh h87 40 = some (13, nn) ∧ jj < nn ∧ nI k = nI jj ∧ pz_S 5 (some .int) am_r100 5 Q 48 [(0, .ref 6), (1, .ref 36), (3, .int a3), (4, .int (nI k))] [.int (h87.1 40 jj)] h87 from ⟨k, 5, ex_40 f88, (by omega), rfl, ?_⟩)
    rw [show h87.1 40 k = (d_108_s s (s.2.2.2.2.2 k)).2.2.2.2.2 k from (f92.2.2 k (by omega)).2]
    refine am_goX 1 (show 0 ≤ 8 ∧ h87.2.2.2.2 + am_al 69 ≤ 175 ∧ am_call am_cod 5 69 [.int ((d_108_s s (s.2.2.2.2.2 k)).2.2.2.2.2 k)] h87 (fun vv h' => pz_S 5 (some .int) am_r100 5 Q 51 [(0, .ref 6), (1, .ref 36), (3, .int a3), (4, .int (nI k))] (vv.toList ++ []) h') from ⟨by decide, ex_lim f88 rfl, am_call.up (d_69_w f88 ?_) (by decide)⟩)
    refine am_goX 2 (show am_sh h87 6 = some (0, 0) ∧ pz_S 5 (some .int) am_r100 5 Q 55 [(0, .ref 6), (1, .ref 36), (3, .int a3), (4, .int (nI k))] [am_rf (h87.2.2.1 6 7), .int (d_69 ((d_108_s s (s.2.2.2.2.2 k)).2.2.2.2.2 k))] h87 from ⟨ex_6 f88, ?_⟩)
    rw [show am_rf (h87.2.2.1 6 7) = .ref 12 from congrArg am_rf (ex_r6_7 f88)]
    refine am_goX 2 (show ∃ jj nn : Nat, am_sh h87 12 = some (13, nn) ∧ jj < nn ∧ nI k = nI jj ∧ pz_S 5 (some .int) am_r100 5 Q 58 [(0, .ref 6), (1, .ref 36), (3, .int a3), (4, .int (nI k))] [.int (h87.1 12 jj), .int (d_69 ((d_108_s s (s.2.2.2.2.2 k)).2.2.2.2.2 k))] h87 from ⟨k, 5, ex_12 f88, (by omega), rfl, ?_⟩)
    rw [show h87.1 12 k = dN C k from (f90.2.1.2.2 k (by omega)).1]
    refine am_goX 1 (show ((d_69 ((d_108_s s (s.2.2.2.2.2 k)).2.2.2.2.2 k)) < (dN C k) → pz_S 5 (some .int) am_r100 5 Q 79 [(0, .ref 6), (1, .ref 36), (3, .int a3), (4, .int (nI k))] [] h87) ∧ (¬ ((d_69 ((d_108_s s (s.2.2.2.2.2 k)).2.2.2.2.2 k)) < (dN C k)) → pz_S 5 (some .int) am_r100 5 Q 61 [(0, .ref 6), (1, .ref 36), (3, .int a3), (4, .int (nI k))] [] h87) from ⟨fun c94 => ?_, fun c94 => ?_⟩)
    · refine am_goX 2 (show 4 < 5 ∧ pz_S 5 (some .int) am_r100 5 Q 21 [(4, .int ((nI k) + (Int32.ofInt 1))), (0, .ref 6), (1, .ref 36), (3, .int a3)] [] h87 from ⟨by decide, ?_⟩)
      rw [show d_100_21 C (m + 1) k a3 s = d_100_21 C m (k + 1) a3 (d_108_s s (s.2.2.2.2.2 k)) from if_pos c94] at hZ
      rw [show (nI k) + (Int32.ofInt 1) = nI (k + 1) from (dn_a rfl rfl)]
      exact sv_S2 sv2_100 (by intro q hq; simp only [List.mem_cons, List.not_mem_nil, or_false] at hq; rcases hq with rfl | rfl | rfl | rfl <;> rfl) (ih (k + 1) a3 (d_108_s s (s.2.2.2.2.2 k)) _ (by omega) f88 f89 f90 f91 f92 f93 hZ)
    · refine am_goX 2 (show am_sh h87 36 = some (6, 0) ∧ pz_S 5 (some .int) am_r100 5 Q 65 [(0, .ref 6), (1, .ref 36), (3, .int a3), (4, .int (nI k))] [am_rf (h87.2.2.1 36 4)] h87 from ⟨ex_36 f88, ?_⟩)
      rw [show am_rf (h87.2.2.1 36 4) = .ref 39 from congrArg am_rf (ex_r36_4 f88)]
      refine am_goX 3 (show (Value.int (nI k)).category = 1 ∧ (Value.ref 39).category = 1 ∧ ∃ jj nn : Nat, am_sh h87 39 = some (13, nn) ∧ jj < nn ∧ nI k = nI jj ∧ pz_S 5 (some .int) am_r100 5 Q 69 [(0, .ref 6), (1, .ref 36), (3, .int a3), (4, .int (nI k))] [.int (h87.1 39 jj), .int (nI k), .ref 39] h87 from ⟨rfl, rfl, ⟨k, 5, ex_39 f88, (by omega), rfl, ?_⟩⟩)
      rw [show h87.1 39 k = (d_108_s s (s.2.2.2.2.2 k)).2.2.2.2.1 k from (f92.2.2 k (by omega)).1]
      refine am_goX 3 (show ∃ jj nn : Nat, am_so h87 39 = some (13, nn) ∧ jj < nn ∧ nI k = nI jj ∧ pz_S 5 (some .int) am_r100 5 Q 72 [(0, .ref 6), (1, .ref 36), (3, .int a3), (4, .int (nI k))] [] (am_wI h87 39 jj (((d_108_s s (s.2.2.2.2.2 k)).2.2.2.2.1 k) + (Int32.ofInt 1))) from ⟨k, 5, ex_w39 f88, (by omega), rfl, ?_⟩)
      have f96 : ex_P (am_wI h87 39 k (((d_108_s s (s.2.2.2.2.2 k)).2.2.2.2.1 k) + (Int32.ofInt 1))) := f88
      have f97 : cI C := f89
      have f98 : c_v 6 C (am_wI h87 39 k (((d_108_s s (s.2.2.2.2.2 k)).2.2.2.2.1 k) + (Int32.ofInt 1))) := c_v_w (by omega) f90
      have f99 : c_d 6 C (am_wI h87 39 k (((d_108_s s (s.2.2.2.2.2 k)).2.2.2.2.1 k) + (Int32.ofInt 1))) := c_d_w (by omega) f91
      have f100 : sC 36 (sSH (d_108_s s (s.2.2.2.2.2 k)) k (((d_108_s s (s.2.2.2.2.2 k)).2.2.2.2.1 k) + (Int32.ofInt 1))) (am_wI h87 39 k (((d_108_s s (s.2.2.2.2.2 k)).2.2.2.2.1 k) + (Int32.ofInt 1))) := sC_wH (by omega) f92
      have f101 : fC 6 h0 (am_wI h87 39 k (((d_108_s s (s.2.2.2.2.2 k)).2.2.2.2.1 k) + (Int32.ofInt 1))) := fC_w (by omega) f93
      generalize am_wI h87 39 k (((d_108_s s (s.2.2.2.2.2 k)).2.2.2.2.1 k) + (Int32.ofInt 1)) = h95 at f96 f97 f98 f99 f100 f101 ⊢
      refine am_goX 8 (show 3 < 5 ∧ 4 < 5 ∧ pz_S 5 (some .int) am_r100 5 Q 21 [(4, .int ((nI k) + (Int32.ofInt 1))), (3, .int (a3 ||| ((Int32.ofInt 1) <<< ((nI k) &&& 31)))), (0, .ref 6), (1, .ref 36)] [] h95 from ⟨by decide, by decide, ?_⟩)
      rw [show d_100_21 C (m + 1) k a3 s = d_100_21 C m (k + 1) (a3 ||| ((Int32.ofInt 1) <<< ((nI k) &&& 31))) (sSH (d_108_s s (s.2.2.2.2.2 k)) k (((d_108_s s (s.2.2.2.2.2 k)).2.2.2.2.1 k) + (Int32.ofInt 1))) from if_neg c94] at hZ
      rw [show (nI k) + (Int32.ofInt 1) = nI (k + 1) from (dn_a rfl rfl)]
      exact sv_S2 sv2_100 (by intro q hq; simp only [List.mem_cons, List.not_mem_nil, or_false] at hq; rcases hq with rfl | rfl | rfl | rfl <;> rfl) (ih (k + 1) (a3 ||| ((Int32.ofInt 1) <<< ((nI k) &&& 31))) (sSH (d_108_s s (s.2.2.2.2.2 k)) k (((d_108_s s (s.2.2.2.2.2 k)).2.2.2.2.1 k) + (Int32.ofInt 1))) _ (by omega) f96 f97 f98 f99 f100 f101 hZ)
def d_100_s (C : sp_C) (s : dS) (w : Int32) : dS := (d_100_21 C (dE C) 0 (Int32.ofInt 0) (d_101_s C (sSD s (s.1 + (Int32.ofInt 1))) w)).2
def d_100 (C : sp_C) (s : dS) (w : Int32) : Int32 := (d_100_21 C (dE C) 0 (Int32.ofInt 0) (d_101_s C (sSD s (s.1 + (Int32.ofInt 1))) w)).1
theorem d_100_t6_36 (hP : ex_P h) (hI : cI C) (hT : c_v 6 C h) (hD : c_d 6 C h) (hS : sC 36 s h) (hX : fC 6 h0 h)  (hQ : ∀ h1, (ex_P h1) → (cI C) → (c_v 6 C h1) → (c_d 6 C h1) → (sC 36 (d_100_s C s w) h1) → (fC 6 h0 h1) → Q (some (.int (d_100 C s w))) h1) : am_call am_cod 6 100 [.ref 6, .ref 36, .int w] h Q := by
  have h6 := hT.1.2.1
  have h5 := hT.2.1.2.1
  refine pz_call (n := 100) (nL := 5) (rt := (some .int)) (rows := am_r100) (d := 5) (by decide +kernel) (by decide +kernel) rfl (by funext pc; rfl) (ex_175 hP) (by exact Nat.le_of_ble_eq_true rfl) ?_
  refine am_goX 3 (show (Value.ref 36).category = 1 ∧ am_sh h 36 = some (6, 0) ∧ pz_S 5 (some .int) am_r100 5 Q 5 [(0, .ref 6), (1, .ref 36), (2, .int w)] [.int (h.1 36 0), .ref 36] h from ⟨rfl, ex_36 hP, ?_⟩)
  rw [show h.1 36 0 = s.1 from hS.1.1]
  refine am_goX 3 (show am_sh h 36 = some (6, 0) ∧ narrow (am_fty 6 0) (.int (s.1 + (Int32.ofInt 1))) = .int (s.1 + (Int32.ofInt 1)) ∧ fits (am_fty 6 0) (.int (s.1 + (Int32.ofInt 1))) = true ∧ pz_S 5 (some .int) am_r100 5 Q 10 [(0, .ref 6), (1, .ref 36), (2, .int w)] [] (am_wI h 36 0 (s.1 + (Int32.ofInt 1))) from ⟨ex_36 hP, rfl, rfl, ?_⟩)
  have f74 : ex_P (am_wI h 36 0 (s.1 + (Int32.ofInt 1))) := hP
  have f75 : cI C := hI
  have f76 : c_v 6 C (am_wI h 36 0 (s.1 + (Int32.ofInt 1))) := c_v_w (by omega) hT
  have f77 : c_d 6 C (am_wI h 36 0 (s.1 + (Int32.ofInt 1))) := c_d_w (by omega) hD
  have f78 : sC 36 (sSD s (s.1 + (Int32.ofInt 1))) (am_wI h 36 0 (s.1 + (Int32.ofInt 1))) := sC_wD (by omega) hS
  have f79 : fC 6 h0 (am_wI h 36 0 (s.1 + (Int32.ofInt 1))) := fC_w (by omega) hX
  generalize am_wI h 36 0 (s.1 + (Int32.ofInt 1)) = h73 at f74 f75 f76 f77 f78 f79 ⊢
  refine am_goX 4 (show am_rc h73 6 0 ∧ 0 ≤ 8 ∧ h73.2.2.2.2 + am_al 101 ≤ 175 ∧ am_call am_cod 5 101 [.ref 6, .ref 36, .int w] h73 (fun vv h' => pz_S 5 (some .int) am_r100 5 Q 16 [(0, .ref 6), (1, .ref 36), (2, .int w)] (vv.toList ++ []) h') from ⟨Or.inl ⟨by decide, ex_6 f74⟩, by decide, ex_lim f74 rfl, am_call.up (d_101_t6_36 f74 f75 f76 f77 f78 f79 (fun h80 f81 f82 f83 f84 f85 f86 => ?_)) (by decide)⟩)
  refine am_goX 4 (show 3 < 5 ∧ 4 < 5 ∧ pz_S 5 (some .int) am_r100 5 Q 21 [(4, .int (Int32.ofInt 0)), (3, .int (Int32.ofInt 0)), (0, .ref 6), (1, .ref 36), (2, .int w)] [] h80 from ⟨by decide, by decide, ?_⟩)
  refine sv_S2 sv2_100 (by intro q hq; simp only [List.mem_cons, List.not_mem_nil, or_false] at hq; rcases hq with rfl | rfl | rfl | rfl <;> rfl) (d_100_21_t6_36 (dE C) 0 (Int32.ofInt 0) (d_101_s C (sSD s (s.1 + (Int32.ofInt 1))) w) _ (by omega) f81 f82 f83 f84 f85 f86 (fun h102 f103 f104 f105 f106 f107 f108 => ?_))
  exact am_goX 2 (show (∃ ty, (some .int) = some ty ∧ narrow ty (.int ((d_100_21 C (dE C) 0 (Int32.ofInt 0) (d_101_s C (sSD s (s.1 + (Int32.ofInt 1))) w)).1)) = .int ((d_100_21 C (dE C) 0 (Int32.ofInt 0) (d_101_s C (sSD s (s.1 + (Int32.ofInt 1))) w)).1)) ∧ h102.2.2.2.2 = 175 ∧ _ from ⟨⟨.int, rfl, rfl⟩, ex_175 f103, hQ _ f103 f104 f105 f106 f107 f108⟩)
theorem d_89_t6_41 (hP : ex_P h) (hI : cI C) (hT : c_v 6 C h) (hD : c_d 6 C h) (hR : h.2.2.1 0 3 = some 6) (hN : sC 36 u h) (hS : sC 41 s h) (hp : p < dP C) (hQ : Q (some (.int (d_89 C s p))) h) : am_call am_cod 1 89 [.ref 6, .int (nI p), .ref 41] h Q := by
  have h6 := hT.1.2.1
  have h5 := hT.2.1.2.1
  refine pz_call (n := 89) (nL := 3) (rt := (some .int)) (rows := am_r89) (d := 0) (by decide +kernel) (by decide +kernel) rfl (by funext pc; rfl) (ex_175 hP) (by exact Nat.le_of_ble_eq_true rfl) ?_
  refine am_goX 2 (show am_sh h 6 = some (0, 0) ∧ pz_S 3 (some .int) am_r89 0 Q 4 [(0, .ref 6), (1, .int (nI p)), (2, .ref 41)] [am_rf (h.2.2.1 6 2)] h from ⟨ex_6 hP, ?_⟩)
  rw [show am_rf (h.2.2.1 6 2) = .ref 8 from congrArg am_rf (ex_r6_2 hP)]
  refine am_goX 2 (show ∃ jj nn : Nat, am_sh h 8 = some (13, nn) ∧ jj < nn ∧ nI p = nI jj ∧ pz_S 3 (some .int) am_r89 0 Q 6 [(0, .ref 6), (1, .int (nI p)), (2, .ref 41)] [.int (h.1 8 jj)] h from ⟨p, 6, ex_8 hP, (by omega), rfl, ?_⟩)
  rw [show h.1 8 p = dK C p from (hT.1.2.2 p (by omega)).1]
  suffices key : ∀ (v110 : Int32), v110 = (if ¬ (dK C p) = (Int32.ofInt 3) then (s.2.2.1 p) - (Int32.ofInt 2) else Int32.ofInt 0) → pz_S 3 (some .int) am_r89 0 Q 22 [] [.int v110] h by
    refine am_goX 2 (show (¬ (dK C p) = (Int32.ofInt 3) → pz_S 3 (some .int) am_r89 0 Q 14 [(0, .ref 6), (1, .int (nI p)), (2, .ref 41)] [] h) ∧ (¬ ¬ (dK C p) = (Int32.ofInt 3) → pz_S 3 (some .int) am_r89 0 Q 10 [(0, .ref 6), (1, .int (nI p)), (2, .ref 41)] [] h) from ⟨fun c109 => ?_, fun c109 => ?_⟩)
    · refine am_goX 2 (show am_sh h 41 = some (6, 0) ∧ pz_S 3 (some .int) am_r89 0 Q 18 [(0, .ref 6), (1, .int (nI p)), (2, .ref 41)] [am_rf (h.2.2.1 41 2)] h from ⟨ex_41 hP, ?_⟩)
      rw [show am_rf (h.2.2.1 41 2) = .ref 42 from congrArg am_rf (ex_r41_2 hP)]
      refine am_goX 2 (show ∃ jj nn : Nat, am_sh h 42 = some (13, nn) ∧ jj < nn ∧ nI p = nI jj ∧ pz_S 3 (some .int) am_r89 0 Q 20 [(0, .ref 6), (1, .int (nI p)), (2, .ref 41)] [.int (h.1 42 jj)] h from ⟨p, 6, ex_42 hP, (by omega), rfl, ?_⟩)
      rw [show h.1 42 p = s.2.2.1 p from (hS.2.1 p (by omega)).1]
      refine am_goX 2 (show pz_S 3 (some .int) am_r89 0 Q 22 [(0, .ref 6), (1, .int (nI p)), (2, .ref 41)] [.int ((s.2.2.1 p) - (Int32.ofInt 2))] h from ?_)
      exact sv_S2 sv2_89 (fun q hq => absurd hq List.not_mem_nil) (key _ (if_pos c109).symm)
    · refine am_goX 2 (show pz_S 3 (some .int) am_r89 0 Q 22 [(0, .ref 6), (1, .int (nI p)), (2, .ref 41)] [.int (Int32.ofInt 0)] h from ?_)
      exact sv_S2 sv2_89 (fun q hq => absurd hq List.not_mem_nil) (key _ (if_neg c109).symm)
  intro v110 e111
  subst e111
  exact am_goX 1 (show (∃ ty, (some .int) = some ty ∧ narrow ty (.int (if ¬ (dK C p) = (Int32.ofInt 3) then (s.2.2.1 p) - (Int32.ofInt 2) else Int32.ofInt 0)) = .int (if ¬ (dK C p) = (Int32.ofInt 3) then (s.2.2.1 p) - (Int32.ofInt 2) else Int32.ofInt 0)) ∧ h.2.2.2.2 = 175 ∧ _ from ⟨⟨.int, rfl, rfl⟩, ex_175 hP, hQ⟩)
theorem d_88_t6_41 (hP : ex_P h) (hI : cI C) (hT : c_v 6 C h) (hD : c_d 6 C h) (hR : h.2.2.1 0 3 = some 6) (hN : sC 36 u h) (hS : sC 41 s h) (hp : p < dP C) (hQ : Q (some (.int (d_88 C s p w))) h) : am_call am_cod 2 88 [.ref 6, .int (nI p), .ref 41, .int w] h Q := by
  have h6 := hT.1.2.1
  have h5 := hT.2.1.2.1
  refine pz_call (n := 88) (nL := 5) (rt := (some .int)) (rows := am_r88) (d := 1) (by decide +kernel) (by decide +kernel) rfl (by funext pc; rfl) (ex_175 hP) (by exact Nat.le_of_ble_eq_true rfl) ?_
  suffices key : ∀ (v113 : Int32), v113 = (if w = 0 then d_89 C s p else Int32.ofInt 0) → pz_S 5 (some .int) am_r88 1 Q 14 [(2, .ref 41)] [.int v113] h by
    refine am_goX 2 (show (w = 0 → pz_S 5 (some .int) am_r88 1 Q 8 [(0, .ref 6), (1, .int (nI p)), (2, .ref 41), (3, .int w)] [] h) ∧ (¬ (w = 0) → pz_S 5 (some .int) am_r88 1 Q 4 [(0, .ref 6), (1, .int (nI p)), (2, .ref 41), (3, .int w)] [] h) from ⟨fun c112 => ?_, fun c112 => ?_⟩)
    · refine am_goX 4 (show am_rc h 6 0 ∧ 0 ≤ 8 ∧ h.2.2.2.2 + am_al 89 ≤ 175 ∧ am_call am_cod 1 89 [.ref 6, .int (nI p), .ref 41] h (fun vv h' => pz_S 5 (some .int) am_r88 1 Q 14 [(0, .ref 6), (1, .int (nI p)), (2, .ref 41), (3, .int w)] (vv.toList ++ []) h') from ⟨Or.inl ⟨by decide, ex_6 hP⟩, by decide, ex_lim hP rfl, am_call.up (d_89_t6_41 hP hI hT hD hR hN hS (by omega) ?_) (by decide)⟩)
      exact sv_S2 sv2_88 (by intro q hq; simp only [List.mem_cons, List.not_mem_nil, or_false] at hq; rcases hq with rfl <;> rfl) (key _ (if_pos c112).symm)
    · refine am_goX 2 (show pz_S 5 (some .int) am_r88 1 Q 14 [(0, .ref 6), (1, .int (nI p)), (2, .ref 41), (3, .int w)] [.int (Int32.ofInt 0)] h from ?_)
      exact sv_S2 sv2_88 (by intro q hq; simp only [List.mem_cons, List.not_mem_nil, or_false] at hq; rcases hq with rfl <;> rfl) (key _ (if_neg c112).symm)
  intro v113 e114
  subst e114
  refine am_goX 3 (show 4 < 5 ∧ am_sh h 41 = some (6, 0) ∧ pz_S 5 (some .int) am_r88 1 Q 20 [(4, .int (if w = 0 then d_89 C s p else Int32.ofInt 0)), (2, .ref 41)] [.int (h.1 41 0)] h from ⟨by decide, ex_41 hP, ?_⟩)
  rw [show h.1 41 0 = s.1 from hS.1.1]
  refine am_goX 4 (show 0 ≤ 8 ∧ h.2.2.2.2 + am_al 90 ≤ 175 ∧ am_call am_cod 1 90 [.int (s.1 + (if w = 0 then d_89 C s p else Int32.ofInt 0)), .int ((Int8.ofInt 7).toInt32)] h (fun vv h' => pz_S 5 (some .int) am_r88 1 Q 28 [(4, .int (if w = 0 then d_89 C s p else Int32.ofInt 0)), (2, .ref 41)] (vv.toList ++ []) h') from ⟨by decide, ex_lim hP rfl, am_call.up (d_90_w hP ?_) (by decide)⟩)
  exact am_goX 1 (show (∃ ty, (some .int) = some ty ∧ narrow ty (.int (d_90 (s.1 + (if w = 0 then d_89 C s p else Int32.ofInt 0)))) = .int (d_90 (s.1 + (if w = 0 then d_89 C s p else Int32.ofInt 0)))) ∧ h.2.2.2.2 = 175 ∧ _ from ⟨⟨.int, rfl, rfl⟩, ex_175 hP, hQ⟩)
theorem d_104_t6_41 (hP : ex_P h) (hI : cI C) (hT : c_v 6 C h) (hD : c_d 6 C h) (hR : h.2.2.1 0 3 = some 6) (hN : sC 36 u h) (hS : sC 41 s h) (hp : p < dP C) (hQ : ∀ h1, (ex_P h1) → (cI C) → (c_v 6 C h1) → (c_d 6 C h1) → (h1.2.2.1 0 3 = some 6) → (sC 36 u h1) → (sC 41 s h1) → Q (some (.int (d_104 C s p w))) h1) : am_call am_cod 4 104 [.ref 6, .int (nI p), .ref 41, .int w] h Q := by
  have h6 := hT.1.2.1
  have h5 := hT.2.1.2.1
  refine pz_call (n := 104) (nL := 5) (rt := (some .boolean)) (rows := am_r104) (d := 3) (by decide +kernel) (by decide +kernel) rfl (by funext pc; rfl) (ex_175 hP) (by exact Nat.le_of_ble_eq_true rfl) ?_
  refine am_goX 2 (show am_sh h 41 = some (6, 0) ∧ pz_S 5 (some .boolean) am_r104 3 Q 4 [(0, .ref 6), (1, .int (nI p)), (2, .ref 41), (3, .int w)] [am_rf (h.2.2.1 41 3)] h from ⟨ex_41 hP, ?_⟩)
  rw [show am_rf (h.2.2.1 41 3) = .ref 43 from congrArg am_rf (ex_r41_3 hP)]
  refine am_goX 2 (show ∃ jj nn : Nat, am_sh h 43 = some (13, nn) ∧ jj < nn ∧ nI p = nI jj ∧ pz_S 5 (some .boolean) am_r104 3 Q 6 [(0, .ref 6), (1, .int (nI p)), (2, .ref 41), (3, .int w)] [.int (h.1 43 jj)] h from ⟨p, 6, ex_43 hP, (by omega), rfl, ?_⟩)
  rw [show h.1 43 p = s.2.2.2.1 p from (hS.2.1 p (by omega)).2]
  refine am_goX 1 (show 0 ≤ 8 ∧ h.2.2.2.2 + am_al 69 ≤ 175 ∧ am_call am_cod 3 69 [.int (s.2.2.2.1 p)] h (fun vv h' => pz_S 5 (some .boolean) am_r104 3 Q 9 [(0, .ref 6), (1, .int (nI p)), (2, .ref 41), (3, .int w)] (vv.toList ++ []) h') from ⟨by decide, ex_lim hP rfl, am_call.up (d_69_w hP ?_) (by decide)⟩)
  refine am_goX 3 (show 4 < 5 ∧ am_sh h 6 = some (0, 0) ∧ pz_S 5 (some .boolean) am_r104 3 Q 15 [(4, .int (d_69 (s.2.2.2.1 p))), (0, .ref 6), (1, .int (nI p)), (2, .ref 41), (3, .int w)] [am_rf (h.2.2.1 6 12)] h from ⟨by decide, ex_6 hP, ?_⟩)
  rw [show am_rf (h.2.2.1 6 12) = .ref 14 from congrArg am_rf (ex_r6_12 hP)]
  refine am_goX 4 (show am_rc h 6 0 ∧ 1 ≤ 8 ∧ h.2.2.2.2 + am_al 89 ≤ 175 ∧ am_call am_cod 3 89 [.ref 6, .int (nI p), .ref 41] h (fun vv h' => pz_S 5 (some .boolean) am_r104 3 Q 21 [(4, .int (d_69 (s.2.2.2.1 p))), (0, .ref 6), (1, .int (nI p)), (2, .ref 41), (3, .int w)] (vv.toList ++ [.ref 14]) h') from ⟨Or.inl ⟨by decide, ex_6 hP⟩, by decide, ex_lim hP rfl, am_call.up (d_89_t6_41 hP hI hT hD hR hN hS (by omega) ?_) (by decide)⟩)
  refine am_goX 2 (show am_sh h 41 = some (6, 0) ∧ pz_S 5 (some .boolean) am_r104 3 Q 25 [(4, .int (d_69 (s.2.2.2.1 p))), (0, .ref 6), (1, .int (nI p)), (2, .ref 41), (3, .int w)] [.int (h.1 41 0), .int (d_89 C s p), .ref 14] h from ⟨ex_41 hP, ?_⟩)
  rw [show h.1 41 0 = s.1 from hS.1.1]
  suffices key : ∀ (v116 : Int32), v116 = (if w = 0 then Int32.ofInt 0 else Int32.ofInt 1) → pz_S 5 (some .boolean) am_r104 3 Q 39 [] [.int v116, .int (d_69 (s.2.2.2.1 p)), .int (s.1 / ((Int8.ofInt 7).toInt32)), .int (d_89 C s p), .ref 14] h by
    refine am_goX 5 (show ¬ ((Int8.ofInt 7).toInt32) = 0 ∧ (w = 0 → pz_S 5 (some .boolean) am_r104 3 Q 38 [(4, .int (d_69 (s.2.2.2.1 p))), (0, .ref 6), (1, .int (nI p)), (2, .ref 41), (3, .int w)] [.int (d_69 (s.2.2.2.1 p)), .int (s.1 / ((Int8.ofInt 7).toInt32)), .int (d_89 C s p), .ref 14] h) ∧ (¬ (w = 0) → pz_S 5 (some .boolean) am_r104 3 Q 34 [(4, .int (d_69 (s.2.2.2.1 p))), (0, .ref 6), (1, .int (nI p)), (2, .ref 41), (3, .int w)] [.int (d_69 (s.2.2.2.1 p)), .int (s.1 / ((Int8.ofInt 7).toInt32)), .int (d_89 C s p), .ref 14] h) from ⟨by decide, fun c115 => ?_, fun c115 => ?_⟩)
    · refine am_goX 1 (show pz_S 5 (some .boolean) am_r104 3 Q 39 [(4, .int (d_69 (s.2.2.2.1 p))), (0, .ref 6), (1, .int (nI p)), (2, .ref 41), (3, .int w)] [.int (Int32.ofInt 0), .int (d_69 (s.2.2.2.1 p)), .int (s.1 / ((Int8.ofInt 7).toInt32)), .int (d_89 C s p), .ref 14] h from ?_)
      exact sv_S2 sv2_104 (fun q hq => absurd hq List.not_mem_nil) (key _ (if_pos c115).symm)
    · refine am_goX 2 (show pz_S 5 (some .boolean) am_r104 3 Q 39 [(4, .int (d_69 (s.2.2.2.1 p))), (0, .ref 6), (1, .int (nI p)), (2, .ref 41), (3, .int w)] [.int (Int32.ofInt 1), .int (d_69 (s.2.2.2.1 p)), .int (s.1 / ((Int8.ofInt 7).toInt32)), .int (d_89 C s p), .ref 14] h from ?_)
      exact sv_S2 sv2_104 (fun q hq => absurd hq List.not_mem_nil) (key _ (if_neg c115).symm)
  intro v116 e117
  subst e117
  refine am_goX 1 (show am_rc h 14 3 ∧ 0 ≤ 8 ∧ h.2.2.2.2 + am_al 105 ≤ 175 ∧ am_call am_cod 3 105 [.ref 14, .int (d_89 C s p), .int (s.1 / ((Int8.ofInt 7).toInt32)), .int (d_69 (s.2.2.2.1 p)), .int (if w = 0 then Int32.ofInt 0 else Int32.ofInt 1)] h (fun vv h' => pz_S 5 (some .boolean) am_r104 3 Q 42 [] (vv.toList ++ []) h') from ⟨Or.inl ⟨by decide, ex_14 hP⟩, by decide, ex_lim hP rfl, am_call.up (q_105_6 hP hT (fun h118 l119 => ?_)) (by decide)⟩)
  have f120 : ex_P h118 := lfr_P l119 hP
  have f121 : cI C := hI
  have f122 : c_v 6 C h118 := lfr_c l119 (by omega) hT
  have f123 : c_d 6 C h118 := lfr_d l119 (by omega) hD
  have f124 : h118.2.2.1 0 3 = some 6 := (congrArg (fun q => q.2.1 0 3) l119.1).trans hR
  have f125 : sC 36 u h118 := lfr_s l119 (by omega) hN
  have f126 : sC 41 s h118 := lfr_s l119 (by omega) hS
  suffices key : ∀ (v128 : Int32), v128 = (if (dlaw C (d_89 C s p) (s.1 / ((Int8.ofInt 7).toInt32)) (d_69 (s.2.2.2.1 p)) (if w = 0 then Int32.ofInt 0 else Int32.ofInt 1)) = 0 then Int32.ofInt 0 else Int32.ofInt 1) → pz_S 5 (some .boolean) am_r104 3 Q 50 [] [.int v128] h118 by
    refine am_goX 1 (show ((dlaw C (d_89 C s p) (s.1 / ((Int8.ofInt 7).toInt32)) (d_69 (s.2.2.2.1 p)) (if w = 0 then Int32.ofInt 0 else Int32.ofInt 1)) = 0 → pz_S 5 (some .boolean) am_r104 3 Q 49 [] [] h118) ∧ (¬ ((dlaw C (d_89 C s p) (s.1 / ((Int8.ofInt 7).toInt32)) (d_69 (s.2.2.2.1 p)) (if w = 0 then Int32.ofInt 0 else Int32.ofInt 1)) = 0) → pz_S 5 (some .boolean) am_r104 3 Q 45 [] [] h118) from ⟨fun c127 => ?_, fun c127 => ?_⟩)
    · refine am_goX 1 (show pz_S 5 (some .boolean) am_r104 3 Q 50 [] [.int (Int32.ofInt 0)] h118 from ?_)
      exact sv_S2 sv2_104 (fun q hq => absurd hq List.not_mem_nil) (key _ (if_pos c127).symm)
    · refine am_goX 2 (show pz_S 5 (some .boolean) am_r104 3 Q 50 [] [.int (Int32.ofInt 1)] h118 from ?_)
      exact sv_S2 sv2_104 (fun q hq => absurd hq List.not_mem_nil) (key _ (if_neg c127).symm)
  intro v128 e129
  subst e129
  exact am_goX 1 (show (∃ ty, (some .boolean) = some ty ∧ narrow ty (.int (if (dlaw C (d_89 C s p) (s.1 / ((Int8.ofInt 7).toInt32)) (d_69 (s.2.2.2.1 p)) (if w = 0 then Int32.ofInt 0 else Int32.ofInt 1)) = 0 then Int32.ofInt 0 else Int32.ofInt 1)) = .int (if (dlaw C (d_89 C s p) (s.1 / ((Int8.ofInt 7).toInt32)) (d_69 (s.2.2.2.1 p)) (if w = 0 then Int32.ofInt 0 else Int32.ofInt 1)) = 0 then Int32.ofInt 0 else Int32.ofInt 1)) ∧ h118.2.2.2.2 = 175 ∧ _ from ⟨⟨.boolean, rfl, (by (repeat' split) <;> rfl)⟩, ex_175 f120, hQ _ f120 f121 f122 f123 f124 f125 f126⟩)
theorem d_101_2_t6_41 : ∀ (m k : Nat) (s : dS) (h : am_H), k + m = dE C → (ex_P h) → (cI C) → (c_v 6 C h) → (c_d 6 C h) → (h.2.2.1 0 3 = some 6) → (sC 36 u h) → (sC 41 s h) → (∀ h1, (ex_P h1) → (cI C) → (c_v 6 C h1) → (c_d 6 C h1) → (h1.2.2.1 0 3 = some 6) → (sC 36 u h1) → (sC 41 (d_101_2 C w m k s) h1) → pz_S 6 none am_r101 4 Q 23 [(0, .ref 6), (1, .ref 41), (2, .int w)] [] h1) → pz_S 6 none am_r101 4 Q 2 [(0, .ref 6), (1, .ref 41), (2, .int w), (3, .int (nI k))] [] h := by
  intro m
  induction m with
  | zero =>
    intro k s h hk hP hI hT hD hR hN hS hZ
    have h6 := hT.1.2.1
    have h5 := hT.2.1.2.1
    refine am_goX 3 (show am_sh h 6 = some (0, 0) ∧ pz_S 6 none am_r101 4 Q 7 [(0, .ref 6), (1, .ref 41), (2, .int w), (3, .int (nI k))] [.int (h.1 6 4), .int (nI k)] h from ⟨ex_6 hP, ?_⟩)
    rw [show h.1 6 4 = nI (dE C) from hT.2.1.1]
    refine am_goX 1 (show ((nI (dE C)) ≤ (nI k) → pz_S 6 none am_r101 4 Q 23 [(0, .ref 6), (1, .ref 41), (2, .int w), (3, .int (nI k))] [] h) ∧ (¬ ((nI (dE C)) ≤ (nI k)) → pz_S 6 none am_r101 4 Q 10 [(0, .ref 6), (1, .ref 41), (2, .int w), (3, .int (nI k))] [] h) from ⟨fun _ => ?_, fun hz => absurd (show nI (dE C) ≤ nI k from nI_le (by omega) (by omega)) hz⟩)
    exact sv_S2 sv2_101 (by intro q hq; simp only [List.mem_cons, List.not_mem_nil, or_false] at hq; rcases hq with rfl | rfl | rfl <;> rfl) (hZ _ hP hI hT hD hR hN hS)
  | succ m ih =>
    intro k s h hk hP hI hT hD hR hN hS hZ
    have h6 := hT.1.2.1
    have h5 := hT.2.1.2.1
    refine am_goX 3 (show am_sh h 6 = some (0, 0) ∧ pz_S 6 none am_r101 4 Q 7 [(0, .ref 6), (1, .ref 41), (2, .int w), (3, .int (nI k))] [.int (h.1 6 4), .int (nI k)] h from ⟨ex_6 hP, ?_⟩)
    rw [show h.1 6 4 = nI (dE C) from hT.2.1.1]
    refine am_goX 1 (show ((nI (dE C)) ≤ (nI k) → pz_S 6 none am_r101 4 Q 23 [(0, .ref 6), (1, .ref 41), (2, .int w), (3, .int (nI k))] [] h) ∧ (¬ ((nI (dE C)) ≤ (nI k)) → pz_S 6 none am_r101 4 Q 10 [(0, .ref 6), (1, .ref 41), (2, .int w), (3, .int (nI k))] [] h) from ⟨fun hz => absurd hz (show ¬ (nI (dE C) ≤ nI k) by rw [nI_leI (by omega) (by omega)]; omega), fun _ => ?_⟩)
    refine am_goX 2 (show am_sh h 41 = some (6, 0) ∧ pz_S 6 none am_r101 4 Q 14 [(0, .ref 6), (1, .ref 41), (2, .int w), (3, .int (nI k))] [am_rf (h.2.2.1 41 5)] h from ⟨ex_41 hP, ?_⟩)
    rw [show am_rf (h.2.2.1 41 5) = .ref 45 from congrArg am_rf (ex_r41_5 hP)]
    refine am_goX 3 (show ∃ jj nn : Nat, am_so h 45 = some (13, nn) ∧ jj < nn ∧ nI k = nI jj ∧ pz_S 6 none am_r101 4 Q 17 [(0, .ref 6), (1, .ref 41), (2, .int w), (3, .int (nI k))] [] (am_wI h 45 jj (Int32.ofInt 0)) from ⟨k, 5, ex_w45 hP, (by omega), rfl, ?_⟩)
    have f131 : ex_P (am_wI h 45 k (Int32.ofInt 0)) := hP
    have f132 : cI C := hI
    have f133 : c_v 6 C (am_wI h 45 k (Int32.ofInt 0)) := c_v_w (by omega) hT
    have f134 : c_d 6 C (am_wI h 45 k (Int32.ofInt 0)) := c_d_w (by omega) hD
    have f135 : (am_wI h 45 k (Int32.ofInt 0)).2.2.1 0 3 = some 6 := hR
    have f136 : sC 36 u (am_wI h 45 k (Int32.ofInt 0)) := sC_w (by omega) hN
    have f137 : sC 41 (sSA s k (Int32.ofInt 0)) (am_wI h 45 k (Int32.ofInt 0)) := sC_wA (by omega) hS
    generalize am_wI h 45 k (Int32.ofInt 0) = h130 at f131 f132 f133 f134 f135 f136 f137 ⊢
    refine am_goX 2 (show 3 < 6 ∧ pz_S 6 none am_r101 4 Q 2 [(3, .int ((nI k) + (Int32.ofInt 1))), (0, .ref 6), (1, .ref 41), (2, .int w)] [] h130 from ⟨by decide, ?_⟩)
    rw [show (nI k) + (Int32.ofInt 1) = nI (k + 1) from (dn_a rfl rfl)]
    exact sv_S2 sv2_101 (by intro q hq; simp only [List.mem_cons, List.not_mem_nil, or_false] at hq; rcases hq with rfl | rfl | rfl | rfl <;> rfl) (ih (k + 1) (sSA s k (Int32.ofInt 0)) _ (by omega) f131 f132 f133 f134 f135 f136 f137 hZ)
theorem d_101_65_t6_41 (n3 : Nat) (x4 : Int32) : ∀ (m k : Nat) (s : dS) (h : am_H), k + m = dE C → (ex_P h) → (cI C) → (c_v 6 C h) → (c_d 6 C h) → (h.2.2.1 0 3 = some 6) → (sC 36 u h) → (sC 41 s h) → (∀ h1, (ex_P h1) → (cI C) → (c_v 6 C h1) → (c_d 6 C h1) → (h1.2.2.1 0 3 = some 6) → (sC 36 u h1) → (sC 41 (d_101_65 C w n3 x4 m k s) h1) → pz_S 6 none am_r101 4 Q 99 [(0, .ref 6), (1, .ref 41), (2, .int w), (3, .int (nI n3))] [] h1) → pz_S 6 none am_r101 4 Q 65 [(0, .ref 6), (1, .ref 41), (2, .int w), (3, .int (nI n3)), (4, .int x4), (5, .int (nI k))] [] h := by
  intro m
  induction m with
  | zero =>
    intro k s h hk hP hI hT hD hR hN hS hZ
    have h6 := hT.1.2.1
    have h5 := hT.2.1.2.1
    refine am_goX 3 (show am_sh h 6 = some (0, 0) ∧ pz_S 6 none am_r101 4 Q 71 [(0, .ref 6), (1, .ref 41), (2, .int w), (3, .int (nI n3)), (4, .int x4), (5, .int (nI k))] [.int (h.1 6 4), .int (nI k)] h from ⟨ex_6 hP, ?_⟩)
    rw [show h.1 6 4 = nI (dE C) from hT.2.1.1]
    refine am_goX 1 (show ((nI (dE C)) ≤ (nI k) → pz_S 6 none am_r101 4 Q 99 [(0, .ref 6), (1, .ref 41), (2, .int w), (3, .int (nI n3)), (4, .int x4), (5, .int (nI k))] [] h) ∧ (¬ ((nI (dE C)) ≤ (nI k)) → pz_S 6 none am_r101 4 Q 74 [(0, .ref 6), (1, .ref 41), (2, .int w), (3, .int (nI n3)), (4, .int x4), (5, .int (nI k))] [] h) from ⟨fun _ => ?_, fun hz => absurd (show nI (dE C) ≤ nI k from nI_le (by omega) (by omega)) hz⟩)
    exact sv_S2 sv2_101 (by intro q hq; simp only [List.mem_cons, List.not_mem_nil, or_false] at hq; rcases hq with rfl | rfl | rfl | rfl <;> rfl) (hZ _ hP hI hT hD hR hN hS)
  | succ m ih =>
    intro k s h hk hP hI hT hD hR hN hS hZ
    have h6 := hT.1.2.1
    have h5 := hT.2.1.2.1
    refine am_goX 3 (show am_sh h 6 = some (0, 0) ∧ pz_S 6 none am_r101 4 Q 71 [(0, .ref 6), (1, .ref 41), (2, .int w), (3, .int (nI n3)), (4, .int x4), (5, .int (nI k))] [.int (h.1 6 4), .int (nI k)] h from ⟨ex_6 hP, ?_⟩)
    rw [show h.1 6 4 = nI (dE C) from hT.2.1.1]
    refine am_goX 1 (show ((nI (dE C)) ≤ (nI k) → pz_S 6 none am_r101 4 Q 99 [(0, .ref 6), (1, .ref 41), (2, .int w), (3, .int (nI n3)), (4, .int x4), (5, .int (nI k))] [] h) ∧ (¬ ((nI (dE C)) ≤ (nI k)) → pz_S 6 none am_r101 4 Q 74 [(0, .ref 6), (1, .ref 41), (2, .int w), (3, .int (nI n3)), (4, .int x4), (5, .int (nI k))] [] h) from ⟨fun hz => absurd hz (show ¬ (nI (dE C) ≤ nI k) by rw [nI_leI (by omega) (by omega)]; omega), fun _ => ?_⟩)
    refine am_goX 2 (show am_sh h 41 = some (6, 0) ∧ pz_S 6 none am_r101 4 Q 78 [(0, .ref 6), (1, .ref 41), (2, .int w), (3, .int (nI n3)), (4, .int x4), (5, .int (nI k))] [am_rf (h.2.2.1 41 5)] h from ⟨ex_41 hP, ?_⟩)
    rw [show am_rf (h.2.2.1 41 5) = .ref 45 from congrArg am_rf (ex_r41_5 hP)]
    refine am_goX 3 (show (Value.int (nI k)).category = 1 ∧ (Value.ref 45).category = 1 ∧ ∃ jj nn : Nat, am_sh h 45 = some (13, nn) ∧ jj < nn ∧ nI k = nI jj ∧ pz_S 6 none am_r101 4 Q 82 [(0, .ref 6), (1, .ref 41), (2, .int w), (3, .int (nI n3)), (4, .int x4), (5, .int (nI k))] [.int (h.1 45 jj), .int (nI k), .ref 45] h from ⟨rfl, rfl, ⟨k, 5, ex_45 hP, (by omega), rfl, ?_⟩⟩)
    rw [show h.1 45 k = s.2.2.2.2.2 k from (hS.2.2 k (by omega)).2]
    refine am_goX 9 (show ∃ jj nn : Nat, am_so h 45 = some (13, nn) ∧ jj < nn ∧ nI k = nI jj ∧ pz_S 6 none am_r101 4 Q 93 [(0, .ref 6), (1, .ref 41), (2, .int w), (3, .int (nI n3)), (4, .int x4), (5, .int (nI k))] [] (am_wI h 45 jj ((s.2.2.2.2.2 k) ||| (((x4 >>> ((nI k) &&& 31)) &&& (Int32.ofInt 1)) <<< ((nI n3) &&& 31)))) from ⟨k, 5, ex_w45 hP, (by omega), rfl, ?_⟩)
    have f157 : ex_P (am_wI h 45 k ((s.2.2.2.2.2 k) ||| (((x4 >>> ((nI k) &&& 31)) &&& (Int32.ofInt 1)) <<< ((nI n3) &&& 31)))) := hP
    have f158 : cI C := hI
    have f159 : c_v 6 C (am_wI h 45 k ((s.2.2.2.2.2 k) ||| (((x4 >>> ((nI k) &&& 31)) &&& (Int32.ofInt 1)) <<< ((nI n3) &&& 31)))) := c_v_w (by omega) hT
    have f160 : c_d 6 C (am_wI h 45 k ((s.2.2.2.2.2 k) ||| (((x4 >>> ((nI k) &&& 31)) &&& (Int32.ofInt 1)) <<< ((nI n3) &&& 31)))) := c_d_w (by omega) hD
    have f161 : (am_wI h 45 k ((s.2.2.2.2.2 k) ||| (((x4 >>> ((nI k) &&& 31)) &&& (Int32.ofInt 1)) <<< ((nI n3) &&& 31)))).2.2.1 0 3 = some 6 := hR
    have f162 : sC 36 u (am_wI h 45 k ((s.2.2.2.2.2 k) ||| (((x4 >>> ((nI k) &&& 31)) &&& (Int32.ofInt 1)) <<< ((nI n3) &&& 31)))) := sC_w (by omega) hN
    have f163 : sC 41 (sSA s k ((s.2.2.2.2.2 k) ||| (((x4 >>> ((nI k) &&& 31)) &&& (Int32.ofInt 1)) <<< ((nI n3) &&& 31)))) (am_wI h 45 k ((s.2.2.2.2.2 k) ||| (((x4 >>> ((nI k) &&& 31)) &&& (Int32.ofInt 1)) <<< ((nI n3) &&& 31)))) := sC_wA (by omega) hS
    generalize am_wI h 45 k ((s.2.2.2.2.2 k) ||| (((x4 >>> ((nI k) &&& 31)) &&& (Int32.ofInt 1)) <<< ((nI n3) &&& 31))) = h156 at f157 f158 f159 f160 f161 f162 f163 ⊢
    refine am_goX 2 (show 5 < 6 ∧ pz_S 6 none am_r101 4 Q 65 [(5, .int ((nI k) + (Int32.ofInt 1))), (0, .ref 6), (1, .ref 41), (2, .int w), (3, .int (nI n3)), (4, .int x4)] [] h156 from ⟨by decide, ?_⟩)
    rw [show (nI k) + (Int32.ofInt 1) = nI (k + 1) from (dn_a rfl rfl)]
    exact sv_S2 sv2_101 (by intro q hq; simp only [List.mem_cons, List.not_mem_nil, or_false] at hq; rcases hq with rfl | rfl | rfl | rfl | rfl | rfl <;> rfl) (ih (k + 1) (sSA s k ((s.2.2.2.2.2 k) ||| (((x4 >>> ((nI k) &&& 31)) &&& (Int32.ofInt 1)) <<< ((nI n3) &&& 31)))) _ (by omega) f157 f158 f159 f160 f161 f162 f163 hZ)
theorem d_101_25_t6_41 : ∀ (m k : Nat) (s : dS) (h : am_H), k + m = dP C → (ex_P h) → (cI C) → (c_v 6 C h) → (c_d 6 C h) → (h.2.2.1 0 3 = some 6) → (sC 36 u h) → (sC 41 s h) → (∀ h1, (ex_P h1) → (cI C) → (c_v 6 C h1) → (c_d 6 C h1) → (h1.2.2.1 0 3 = some 6) → (sC 36 u h1) → (sC 41 (d_101_25 C w m k s) h1) → pz_S 6 none am_r101 4 Q 105 [] [] h1) → pz_S 6 none am_r101 4 Q 25 [(0, .ref 6), (1, .ref 41), (2, .int w), (3, .int (nI k))] [] h := by
  intro m
  induction m with
  | zero =>
    intro k s h hk hP hI hT hD hR hN hS hZ
    have h6 := hT.1.2.1
    have h5 := hT.2.1.2.1
    refine am_goX 3 (show am_sh h 6 = some (0, 0) ∧ pz_S 6 none am_r101 4 Q 30 [(0, .ref 6), (1, .ref 41), (2, .int w), (3, .int (nI k))] [.int (h.1 6 0), .int (nI k)] h from ⟨ex_6 hP, ?_⟩)
    rw [show h.1 6 0 = nI (dP C) from hT.1.1]
    refine am_goX 1 (show ((nI (dP C)) ≤ (nI k) → pz_S 6 none am_r101 4 Q 105 [(0, .ref 6), (1, .ref 41), (2, .int w), (3, .int (nI k))] [] h) ∧ (¬ ((nI (dP C)) ≤ (nI k)) → pz_S 6 none am_r101 4 Q 33 [(0, .ref 6), (1, .ref 41), (2, .int w), (3, .int (nI k))] [] h) from ⟨fun _ => ?_, fun hz => absurd (show nI (dP C) ≤ nI k from nI_le (by omega) (by omega)) hz⟩)
    exact sv_S2 sv2_101 (fun q hq => absurd hq List.not_mem_nil) (hZ _ hP hI hT hD hR hN hS)
  | succ m ih =>
    intro k s h hk hP hI hT hD hR hN hS hZ
    have h6 := hT.1.2.1
    have h5 := hT.2.1.2.1
    refine am_goX 3 (show am_sh h 6 = some (0, 0) ∧ pz_S 6 none am_r101 4 Q 30 [(0, .ref 6), (1, .ref 41), (2, .int w), (3, .int (nI k))] [.int (h.1 6 0), .int (nI k)] h from ⟨ex_6 hP, ?_⟩)
    rw [show h.1 6 0 = nI (dP C) from hT.1.1]
    refine am_goX 1 (show ((nI (dP C)) ≤ (nI k) → pz_S 6 none am_r101 4 Q 105 [(0, .ref 6), (1, .ref 41), (2, .int w), (3, .int (nI k))] [] h) ∧ (¬ ((nI (dP C)) ≤ (nI k)) → pz_S 6 none am_r101 4 Q 33 [(0, .ref 6), (1, .ref 41), (2, .int w), (3, .int (nI k))] [] h) from ⟨fun hz => absurd hz (show ¬ (nI (dP C) ≤ nI k) by rw [nI_leI (by omega) (by omega)]; omega), fun _ => ?_⟩)
    refine am_goX 7 (show am_rc h 6 0 ∧ 2 ≤ 8 ∧ h.2.2.2.2 + am_al 88 ≤ 175 ∧ am_call am_cod 4 88 [.ref 6, .int (nI k), .ref 41, .int w] h (fun vv h' => pz_S 6 none am_r101 4 Q 42 [(0, .ref 6), (1, .ref 41), (2, .int w), (3, .int (nI k))] (vv.toList ++ [.int (nI k), .ref 6]) h') from ⟨Or.inl ⟨by decide, ex_6 hP⟩, by decide, ex_lim hP rfl, am_call.up (d_88_t6_41 hP hI hT hD hR hN hS (by omega) ?_) (by decide)⟩)
    refine am_goX 1 (show am_rc h 6 0 ∧ 0 ≤ 8 ∧ h.2.2.2.2 + am_al 102 ≤ 175 ∧ am_call am_cod 4 102 [.ref 6, .int (nI k), .int (d_88 C s k w)] h (fun vv h' => pz_S 6 none am_r101 4 Q 45 [(0, .ref 6), (1, .ref 41), (2, .int w), (3, .int (nI k))] (vv.toList ++ []) h') from ⟨Or.inl ⟨by decide, ex_6 hP⟩, by decide, ex_lim hP rfl, am_call.up (d_102_w6 hP hT hD (by omega) ?_) (by decide)⟩)
    refine am_goX 3 (show 4 < 6 ∧ ((d_102 C k (d_88 C s k w)) = 0 → pz_S 6 none am_r101 4 Q 99 [(4, .int (d_102 C k (d_88 C s k w))), (0, .ref 6), (1, .ref 41), (2, .int w), (3, .int (nI k))] [] h) ∧ (¬ ((d_102 C k (d_88 C s k w)) = 0) → pz_S 6 none am_r101 4 Q 52 [(4, .int (d_102 C k (d_88 C s k w))), (0, .ref 6), (1, .ref 41), (2, .int w), (3, .int (nI k))] [] h) from ⟨by decide, fun c146 => ?_, fun c146 => ?_⟩)
    · refine am_goX 2 (show 3 < 6 ∧ pz_S 6 none am_r101 4 Q 25 [(3, .int ((nI k) + (Int32.ofInt 1))), (4, .int (d_102 C k (d_88 C s k w))), (0, .ref 6), (1, .ref 41), (2, .int w)] [] h from ⟨by decide, ?_⟩)
      rw [show d_101_25 C w (m + 1) k s = d_101_25 C w m (k + 1) s from if_pos c146] at hZ
      rw [show (nI k) + (Int32.ofInt 1) = nI (k + 1) from (dn_a rfl rfl)]
      exact sv_S2 sv2_101 (by intro q hq; simp only [List.mem_cons, List.not_mem_nil, or_false] at hq; rcases hq with rfl | rfl | rfl | rfl <;> rfl) (ih (k + 1) s _ (by omega) hP hI hT hD hR hN hS hZ)
    · refine am_goX 5 (show am_rc h 6 0 ∧ 0 ≤ 8 ∧ h.2.2.2.2 + am_al 104 ≤ 175 ∧ am_call am_cod 4 104 [.ref 6, .int (nI k), .ref 41, .int w] h (fun vv h' => pz_S 6 none am_r101 4 Q 59 [(4, .int (d_102 C k (d_88 C s k w))), (0, .ref 6), (1, .ref 41), (2, .int w), (3, .int (nI k))] (vv.toList ++ []) h') from ⟨Or.inl ⟨by decide, ex_6 hP⟩, by decide, ex_lim hP rfl, am_call.up (d_104_t6_41 hP hI hT hD hR hN hS (by omega) (fun h147 f148 f149 f150 f151 f152 f153 f154 => ?_)) (by decide)⟩)
      refine am_goX 1 (show ((d_104 C s k w) = 0 → pz_S 6 none am_r101 4 Q 99 [(4, .int (d_102 C k (d_88 C s k w))), (0, .ref 6), (1, .ref 41), (2, .int w), (3, .int (nI k))] [] h147) ∧ (¬ ((d_104 C s k w) = 0) → pz_S 6 none am_r101 4 Q 62 [(4, .int (d_102 C k (d_88 C s k w))), (0, .ref 6), (1, .ref 41), (2, .int w), (3, .int (nI k))] [] h147) from ⟨fun c155 => ?_, fun c155 => ?_⟩)
      · refine am_goX 2 (show 3 < 6 ∧ pz_S 6 none am_r101 4 Q 25 [(3, .int ((nI k) + (Int32.ofInt 1))), (4, .int (d_102 C k (d_88 C s k w))), (0, .ref 6), (1, .ref 41), (2, .int w)] [] h147 from ⟨by decide, ?_⟩)
        rw [show d_101_25 C w (m + 1) k s = d_101_25 C w m (k + 1) s from (if_neg c146).trans (if_pos c155)] at hZ
        rw [show (nI k) + (Int32.ofInt 1) = nI (k + 1) from (dn_a rfl rfl)]
        exact sv_S2 sv2_101 (by intro q hq; simp only [List.mem_cons, List.not_mem_nil, or_false] at hq; rcases hq with rfl | rfl | rfl | rfl <;> rfl) (ih (k + 1) s _ (by omega) f148 f149 f150 f151 f152 f153 f154 hZ)
      · refine am_goX 2 (show 5 < 6 ∧ pz_S 6 none am_r101 4 Q 65 [(5, .int (Int32.ofInt 0)), (4, .int (d_102 C k (d_88 C s k w))), (0, .ref 6), (1, .ref 41), (2, .int w), (3, .int (nI k))] [] h147 from ⟨by decide, ?_⟩)
        refine sv_S2 sv2_101 (by intro q hq; simp only [List.mem_cons, List.not_mem_nil, or_false] at hq; rcases hq with rfl | rfl | rfl | rfl | rfl | rfl <;> rfl) (d_101_65_t6_41 k (d_102 C k (d_88 C s k w)) (dE C) 0 s _ (by omega) f148 f149 f150 f151 f152 f153 f154 (fun h156 f157 f158 f159 f160 f161 f162 f163 => ?_))
        refine am_goX 2 (show 3 < 6 ∧ pz_S 6 none am_r101 4 Q 25 [(3, .int ((nI k) + (Int32.ofInt 1))), (0, .ref 6), (1, .ref 41), (2, .int w)] [] h156 from ⟨by decide, ?_⟩)
        rw [show d_101_25 C w (m + 1) k s = d_101_25 C w m (k + 1) (d_101_65 C w k (d_102 C k (d_88 C s k w)) (dE C) 0 s) from (if_neg c146).trans (if_neg c155)] at hZ
        rw [show (nI k) + (Int32.ofInt 1) = nI (k + 1) from (dn_a rfl rfl)]
        exact sv_S2 sv2_101 (by intro q hq; simp only [List.mem_cons, List.not_mem_nil, or_false] at hq; rcases hq with rfl | rfl | rfl | rfl <;> rfl) (ih (k + 1) (d_101_65 C w k (d_102 C k (d_88 C s k w)) (dE C) 0 s) _ (by omega) f157 f158 f159 f160 f161 f162 f163 hZ)
theorem d_101_t6_41 (hP : ex_P h) (hI : cI C) (hT : c_v 6 C h) (hD : c_d 6 C h) (hR : h.2.2.1 0 3 = some 6) (hN : sC 36 u h) (hS : sC 41 s h)  (hQ : ∀ h1, (ex_P h1) → (cI C) → (c_v 6 C h1) → (c_d 6 C h1) → (h1.2.2.1 0 3 = some 6) → (sC 36 u h1) → (sC 41 (d_101_s C s w) h1) → Q none h1) : am_call am_cod 5 101 [.ref 6, .ref 41, .int w] h Q := by
  have h6 := hT.1.2.1
  have h5 := hT.2.1.2.1
  refine pz_call (n := 101) (nL := 6) (rt := none) (rows := am_r101) (d := 4) (by decide +kernel) (by decide +kernel) rfl (by funext pc; rfl) (ex_175 hP) (by exact Nat.le_of_ble_eq_true rfl) ?_
  refine am_goX 2 (show 3 < 6 ∧ pz_S 6 none am_r101 4 Q 2 [(3, .int (Int32.ofInt 0)), (0, .ref 6), (1, .ref 41), (2, .int w)] [] h from ⟨by decide, ?_⟩)
  refine sv_S2 sv2_101 (by intro q hq; simp only [List.mem_cons, List.not_mem_nil, or_false] at hq; rcases hq with rfl | rfl | rfl | rfl <;> rfl) (d_101_2_t6_41 (dE C) 0 s _ (by omega) hP hI hT hD hR hN hS (fun h138 f139 f140 f141 f142 f143 f144 f145 => ?_))
  refine am_goX 2 (show 3 < 6 ∧ pz_S 6 none am_r101 4 Q 25 [(3, .int (Int32.ofInt 0)), (0, .ref 6), (1, .ref 41), (2, .int w)] [] h138 from ⟨by decide, ?_⟩)
  refine sv_S2 sv2_101 (by intro q hq; simp only [List.mem_cons, List.not_mem_nil, or_false] at hq; rcases hq with rfl | rfl | rfl | rfl <;> rfl) (d_101_25_t6_41 (dP C) 0 (d_101_2 C w (dE C) 0 s) _ (by omega) f139 f140 f141 f142 f143 f144 f145 (fun h164 f165 f166 f167 f168 f169 f170 f171 => ?_))
  exact am_goX 1 (show (none : Option FieldType) = none ∧ h164.2.2.2.2 = 175 ∧ _ from ⟨rfl, ex_175 f165, hQ _ f165 f166 f167 f168 f169 f170 f171⟩)
theorem d_108_2_t6_41 : ∀ (m k : Nat) (s : dS) (h : am_H), k + m = 6 → (ex_P h) → (cI C) → (c_v 6 C h) → (c_d 6 C h) → (h.2.2.1 0 3 = some 6) → (sC 36 u h) → (sC 41 s h) → (∀ h1, (ex_P h1) → (cI C) → (c_v 6 C h1) → (c_d 6 C h1) → (h1.2.2.1 0 3 = some 6) → (sC 36 u h1) → (sC 41 (d_108_2 x m k s) h1) → pz_S 3 none am_r108 1 Q 38 [] [] h1) → pz_S 3 none am_r108 1 Q 2 [(0, .ref 41), (1, .int x), (2, .int (nI k))] [] h := by
  intro m
  induction m with
  | zero =>
    intro k s h hk hP hI hT hD hR hN hS hZ
    have h6 := hT.1.2.1
    have h5 := hT.2.1.2.1
    refine am_goX 3 (show (((Int8.ofInt 6).toInt32) ≤ (nI k) → pz_S 3 none am_r108 1 Q 38 [(0, .ref 41), (1, .int x), (2, .int (nI k))] [] h) ∧ (¬ (((Int8.ofInt 6).toInt32) ≤ (nI k)) → pz_S 3 none am_r108 1 Q 8 [(0, .ref 41), (1, .int x), (2, .int (nI k))] [] h) from ⟨fun _ => ?_, fun hz => absurd (show nI 6 ≤ nI k from nI_le (by omega) (by omega)) hz⟩)
    exact sv_S2 sv2_108 (fun q hq => absurd hq List.not_mem_nil) (hZ _ hP hI hT hD hR hN hS)
  | succ m ih =>
    intro k s h hk hP hI hT hD hR hN hS hZ
    have h6 := hT.1.2.1
    have h5 := hT.2.1.2.1
    refine am_goX 3 (show (((Int8.ofInt 6).toInt32) ≤ (nI k) → pz_S 3 none am_r108 1 Q 38 [(0, .ref 41), (1, .int x), (2, .int (nI k))] [] h) ∧ (¬ (((Int8.ofInt 6).toInt32) ≤ (nI k)) → pz_S 3 none am_r108 1 Q 8 [(0, .ref 41), (1, .int x), (2, .int (nI k))] [] h) from ⟨fun hz => absurd hz (show ¬ (nI 6 ≤ nI k) by rw [nI_leI (by omega) (by omega)]; omega), fun _ => ?_⟩)
    refine am_goX 3 (show 0 ≤ 8 ∧ h.2.2.2.2 + am_al 65 ≤ 175 ∧ am_call am_cod 1 65 [.int x, .int (nI k)] h (fun vv h' => pz_S 3 none am_r108 1 Q 13 [(0, .ref 41), (1, .int x), (2, .int (nI k))] (vv.toList ++ []) h') from ⟨by decide, ex_lim hP rfl, am_call.up (d_65_w hP ?_) (by decide)⟩)
    refine am_goX 1 (show ((d_65 x (nI k)) = 0 → pz_S 3 none am_r108 1 Q 32 [(0, .ref 41), (1, .int x), (2, .int (nI k))] [] h) ∧ (¬ ((d_65 x (nI k)) = 0) → pz_S 3 none am_r108 1 Q 16 [(0, .ref 41), (1, .int x), (2, .int (nI k))] [] h) from ⟨fun c172 => ?_, fun c172 => ?_⟩)
    · refine am_goX 2 (show 2 < 3 ∧ pz_S 3 none am_r108 1 Q 2 [(2, .int ((nI k) + (Int32.ofInt 1))), (0, .ref 41), (1, .int x)] [] h from ⟨by decide, ?_⟩)
      rw [show d_108_2 x (m + 1) k s = d_108_2 x m (k + 1) s from if_pos c172] at hZ
      rw [show (nI k) + (Int32.ofInt 1) = nI (k + 1) from (dn_a rfl rfl)]
      exact sv_S2 sv2_108 (by intro q hq; simp only [List.mem_cons, List.not_mem_nil, or_false] at hq; rcases hq with rfl | rfl | rfl <;> rfl) (ih (k + 1) s _ (by omega) hP hI hT hD hR hN hS hZ)
    · refine am_goX 2 (show am_sh h 41 = some (6, 0) ∧ pz_S 3 none am_r108 1 Q 20 [(0, .ref 41), (1, .int x), (2, .int (nI k))] [am_rf (h.2.2.1 41 3)] h from ⟨ex_41 hP, ?_⟩)
      rw [show am_rf (h.2.2.1 41 3) = .ref 43 from congrArg am_rf (ex_r41_3 hP)]
      refine am_goX 3 (show (Value.int (nI k)).category = 1 ∧ (Value.ref 43).category = 1 ∧ ∃ jj nn : Nat, am_sh h 43 = some (13, nn) ∧ jj < nn ∧ nI k = nI jj ∧ pz_S 3 none am_r108 1 Q 23 [(0, .ref 41), (1, .int x), (2, .int (nI k))] [.int (h.1 43 jj), .int (nI k), .ref 43] h from ⟨rfl, rfl, ⟨k, 6, ex_43 hP, (by omega), rfl, ?_⟩⟩)
      rw [show h.1 43 k = s.2.2.2.1 k from (hS.2.1 k (by omega)).2]
      refine am_goX 9 (show ∃ jj nn : Nat, am_so h 43 = some (13, nn) ∧ jj < nn ∧ nI k = nI jj ∧ pz_S 3 none am_r108 1 Q 32 [(0, .ref 41), (1, .int x), (2, .int (nI k))] [] (am_wI h 43 jj ((s.2.2.2.1 k) ||| (x &&& (((Int32.ofInt 1) <<< ((nI k) &&& 31)) ^^^ (Int32.ofInt (-1)))))) from ⟨k, 6, ex_w43 hP, (by omega), rfl, ?_⟩)
      have f174 : ex_P (am_wI h 43 k ((s.2.2.2.1 k) ||| (x &&& (((Int32.ofInt 1) <<< ((nI k) &&& 31)) ^^^ (Int32.ofInt (-1)))))) := hP
      have f175 : cI C := hI
      have f176 : c_v 6 C (am_wI h 43 k ((s.2.2.2.1 k) ||| (x &&& (((Int32.ofInt 1) <<< ((nI k) &&& 31)) ^^^ (Int32.ofInt (-1)))))) := c_v_w (by omega) hT
      have f177 : c_d 6 C (am_wI h 43 k ((s.2.2.2.1 k) ||| (x &&& (((Int32.ofInt 1) <<< ((nI k) &&& 31)) ^^^ (Int32.ofInt (-1)))))) := c_d_w (by omega) hD
      have f178 : (am_wI h 43 k ((s.2.2.2.1 k) ||| (x &&& (((Int32.ofInt 1) <<< ((nI k) &&& 31)) ^^^ (Int32.ofInt (-1)))))).2.2.1 0 3 = some 6 := hR
      have f179 : sC 36 u (am_wI h 43 k ((s.2.2.2.1 k) ||| (x &&& (((Int32.ofInt 1) <<< ((nI k) &&& 31)) ^^^ (Int32.ofInt (-1)))))) := sC_w (by omega) hN
      have f180 : sC 41 (sSM s k ((s.2.2.2.1 k) ||| (x &&& (((Int32.ofInt 1) <<< ((nI k) &&& 31)) ^^^ (Int32.ofInt (-1)))))) (am_wI h 43 k ((s.2.2.2.1 k) ||| (x &&& (((Int32.ofInt 1) <<< ((nI k) &&& 31)) ^^^ (Int32.ofInt (-1)))))) := sC_wM (by omega) hS
      generalize am_wI h 43 k ((s.2.2.2.1 k) ||| (x &&& (((Int32.ofInt 1) <<< ((nI k) &&& 31)) ^^^ (Int32.ofInt (-1))))) = h173 at f174 f175 f176 f177 f178 f179 f180 ⊢
      refine am_goX 2 (show 2 < 3 ∧ pz_S 3 none am_r108 1 Q 2 [(2, .int ((nI k) + (Int32.ofInt 1))), (0, .ref 41), (1, .int x)] [] h173 from ⟨by decide, ?_⟩)
      rw [show d_108_2 x (m + 1) k s = d_108_2 x m (k + 1) (sSM s k ((s.2.2.2.1 k) ||| (x &&& (((Int32.ofInt 1) <<< ((nI k) &&& 31)) ^^^ (Int32.ofInt (-1)))))) from if_neg c172] at hZ
      rw [show (nI k) + (Int32.ofInt 1) = nI (k + 1) from (dn_a rfl rfl)]
      exact sv_S2 sv2_108 (by intro q hq; simp only [List.mem_cons, List.not_mem_nil, or_false] at hq; rcases hq with rfl | rfl | rfl <;> rfl) (ih (k + 1) (sSM s k ((s.2.2.2.1 k) ||| (x &&& (((Int32.ofInt 1) <<< ((nI k) &&& 31)) ^^^ (Int32.ofInt (-1)))))) _ (by omega) f174 f175 f176 f177 f178 f179 f180 hZ)
theorem d_108_t6_41 (hP : ex_P h) (hI : cI C) (hT : c_v 6 C h) (hD : c_d 6 C h) (hR : h.2.2.1 0 3 = some 6) (hN : sC 36 u h) (hS : sC 41 s h)  (hQ : ∀ h1, (ex_P h1) → (cI C) → (c_v 6 C h1) → (c_d 6 C h1) → (h1.2.2.1 0 3 = some 6) → (sC 36 u h1) → (sC 41 (d_108_s s x) h1) → Q none h1) : am_call am_cod 2 108 [.ref 41, .int x] h Q := by
  have h6 := hT.1.2.1
  have h5 := hT.2.1.2.1
  refine pz_call (n := 108) (nL := 3) (rt := none) (rows := am_r108) (d := 1) (by decide +kernel) (by decide +kernel) rfl (by funext pc; rfl) (ex_175 hP) (by exact Nat.le_of_ble_eq_true rfl) ?_
  refine am_goX 2 (show 2 < 3 ∧ pz_S 3 none am_r108 1 Q 2 [(2, .int (Int32.ofInt 0)), (0, .ref 41), (1, .int x)] [] h from ⟨by decide, ?_⟩)
  refine sv_S2 sv2_108 (by intro q hq; simp only [List.mem_cons, List.not_mem_nil, or_false] at hq; rcases hq with rfl | rfl | rfl <;> rfl) (d_108_2_t6_41 6 0 s _ (by omega) hP hI hT hD hR hN hS (fun h181 f182 f183 f184 f185 f186 f187 f188 => ?_))
  exact am_goX 1 (show (none : Option FieldType) = none ∧ h181.2.2.2.2 = 175 ∧ _ from ⟨rfl, ex_175 f182, hQ _ f182 f183 f184 f185 f186 f187 f188⟩)
theorem d_100_21_t6_41 : ∀ (m k : Nat) (a3 : Int32) (s : dS) (h : am_H), k + m = dE C → (ex_P h) → (cI C) → (c_v 6 C h) → (c_d 6 C h) → (h.2.2.1 0 3 = some 6) → (sC 36 u h) → (sC 41 s h) → (∀ h1, (ex_P h1) → (cI C) → (c_v 6 C h1) → (c_d 6 C h1) → (h1.2.2.1 0 3 = some 6) → (sC 36 u h1) → (sC 41 ((d_100_21 C m k a3 s).2) h1) → pz_S 5 (some .int) am_r100 5 Q 85 [(3, .int ((d_100_21 C m k a3 s).1))] [] h1) → pz_S 5 (some .int) am_r100 5 Q 21 [(0, .ref 6), (1, .ref 41), (3, .int a3), (4, .int (nI k))] [] h := by
  intro m
  induction m with
  | zero =>
    intro k a3 s h hk hP hI hT hD hR hN hS hZ
    have h6 := hT.1.2.1
    have h5 := hT.2.1.2.1
    refine am_goX 3 (show am_sh h 6 = some (0, 0) ∧ pz_S 5 (some .int) am_r100 5 Q 27 [(0, .ref 6), (1, .ref 41), (3, .int a3), (4, .int (nI k))] [.int (h.1 6 4), .int (nI k)] h from ⟨ex_6 hP, ?_⟩)
    rw [show h.1 6 4 = nI (dE C) from hT.2.1.1]
    refine am_goX 1 (show ((nI (dE C)) ≤ (nI k) → pz_S 5 (some .int) am_r100 5 Q 85 [(0, .ref 6), (1, .ref 41), (3, .int a3), (4, .int (nI k))] [] h) ∧ (¬ ((nI (dE C)) ≤ (nI k)) → pz_S 5 (some .int) am_r100 5 Q 30 [(0, .ref 6), (1, .ref 41), (3, .int a3), (4, .int (nI k))] [] h) from ⟨fun _ => ?_, fun hz => absurd (show nI (dE C) ≤ nI k from nI_le (by omega) (by omega)) hz⟩)
    exact sv_S2 sv2_100 (by intro q hq; simp only [List.mem_cons, List.not_mem_nil, or_false] at hq; rcases hq with rfl <;> rfl) (hZ _ hP hI hT hD hR hN hS)
  | succ m ih =>
    intro k a3 s h hk hP hI hT hD hR hN hS hZ
    have h6 := hT.1.2.1
    have h5 := hT.2.1.2.1
    refine am_goX 3 (show am_sh h 6 = some (0, 0) ∧ pz_S 5 (some .int) am_r100 5 Q 27 [(0, .ref 6), (1, .ref 41), (3, .int a3), (4, .int (nI k))] [.int (h.1 6 4), .int (nI k)] h from ⟨ex_6 hP, ?_⟩)
    rw [show h.1 6 4 = nI (dE C) from hT.2.1.1]
    refine am_goX 1 (show ((nI (dE C)) ≤ (nI k) → pz_S 5 (some .int) am_r100 5 Q 85 [(0, .ref 6), (1, .ref 41), (3, .int a3), (4, .int (nI k))] [] h) ∧ (¬ ((nI (dE C)) ≤ (nI k)) → pz_S 5 (some .int) am_r100 5 Q 30 [(0, .ref 6), (1, .ref 41), (3, .int a3), (4, .int (nI k))] [] h) from ⟨fun hz => absurd hz (show ¬ (nI (dE C) ≤ nI k) by rw [nI_leI (by omega) (by omega)]; omega), fun _ => ?_⟩)
    refine am_goX 3 (show am_sh h 41 = some (6, 0) ∧ pz_S 5 (some .int) am_r100 5 Q 35 [(0, .ref 6), (1, .ref 41), (3, .int a3), (4, .int (nI k))] [am_rf (h.2.2.1 41 5), .ref 41] h from ⟨ex_41 hP, ?_⟩)
    rw [show am_rf (h.2.2.1 41 5) = .ref 45 from congrArg am_rf (ex_r41_5 hP)]
    refine am_goX 2 (show ∃ jj nn : Nat, am_sh h 45 = some (13, nn) ∧ jj < nn ∧ nI k = nI jj ∧ pz_S 5 (some .int) am_r100 5 Q 38 [(0, .ref 6), (1, .ref 41), (3, .int a3), (4, .int (nI k))] [.int (h.1 45 jj), .ref 41] h from ⟨k, 5, ex_45 hP, (by omega), rfl, ?_⟩)
    rw [show h.1 45 k = s.2.2.2.2.2 k from (hS.2.2 k (by omega)).2]
    refine am_goX 1 (show am_rc h 41 6 ∧ 0 ≤ 8 ∧ h.2.2.2.2 + am_al 108 ≤ 175 ∧ am_call am_cod 5 108 [.ref 41, .int (s.2.2.2.2.2 k)] h (fun vv h' => pz_S 5 (some .int) am_r100 5 Q 41 [(0, .ref 6), (1, .ref 41), (3, .int a3), (4, .int (nI k))] (vv.toList ++ []) h') from ⟨Or.inl ⟨by decide, ex_41 hP⟩, by decide, ex_lim hP rfl, am_call.up (d_108_t6_41 hP hI hT hD hR hN hS (fun h205 f206 f207 f208 f209 f210 f211 f212 => ?_)) (by decide)⟩)
    refine am_goX 2 (show am_sh h205 41 = some (6, 0) ∧ pz_S 5 (some .int) am_r100 5 Q 45 [(0, .ref 6), (1, .ref 41), (3, .int a3), (4, .int (nI k))] [am_rf (h205.2.2.1 41 5)] h205 from ⟨ex_41 f206, ?_⟩)
    rw [show am_rf (h205.2.2.1 41 5) = .ref 45 from congrArg am_rf (ex_r41_5 f206)]
    refine am_goX 2 (show ∃ jj nn : Nat, am_sh h205 45 = some (13, nn) ∧ jj < nn ∧ nI k = nI jj ∧ pz_S 5 (some .int) am_r100 5 Q 48 [(0, .ref 6), (1, .ref 41), (3, .int a3), (4, .int (nI k))] [.int (h205.1 45 jj)] h205 from ⟨k, 5, ex_45 f206, (by omega), rfl, ?_⟩)
    rw [show h205.1 45 k = (d_108_s s (s.2.2.2.2.2 k)).2.2.2.2.2 k from (f212.2.2 k (by omega)).2]
    refine am_goX 1 (show 0 ≤ 8 ∧ h205.2.2.2.2 + am_al 69 ≤ 175 ∧ am_call am_cod 5 69 [.int ((d_108_s s (s.2.2.2.2.2 k)).2.2.2.2.2 k)] h205 (fun vv h' => pz_S 5 (some .int) am_r100 5 Q 51 [(0, .ref 6), (1, .ref 41), (3, .int a3), (4, .int (nI k))] (vv.toList ++ []) h') from ⟨by decide, ex_lim f206 rfl, am_call.up (d_69_w f206 ?_) (by decide)⟩)
    refine am_goX 2 (show am_sh h205 6 = some (0, 0) ∧ pz_S 5 (some .int) am_r100 5 Q 55 [(0, .ref 6), (1, .ref 41), (3, .int a3), (4, .int (nI k))] [am_rf (h205.2.2.1 6 7), .int (d_69 ((d_108_s s (s.2.2.2.2.2 k)).2.2.2.2.2 k))] h205 from ⟨ex_6 f206, ?_⟩)
    rw [show am_rf (h205.2.2.1 6 7) = .ref 12 from congrArg am_rf (ex_r6_7 f206)]
    refine am_goX 2 (show ∃ jj nn : Nat, am_sh h205 12 = some (13, nn) ∧ jj < nn ∧ nI k = nI jj ∧ pz_S 5 (some .int) am_r100 5 Q 58 [(0, .ref 6), (1, .ref 41), (3, .int a3), (4, .int (nI k))] [.int (h205.1 12 jj), .int (d_69 ((d_108_s s (s.2.2.2.2.2 k)).2.2.2.2.2 k))] h205 from ⟨k, 5, ex_12 f206, (by omega), rfl, ?_⟩)
    rw [show h205.1 12 k = dN C k from (f208.2.1.2.2 k (by omega)).1]
    refine am_goX 1 (show ((d_69 ((d_108_s s (s.2.2.2.2.2 k)).2.2.2.2.2 k)) < (dN C k) → pz_S 5 (some .int) am_r100 5 Q 79 [(0, .ref 6), (1, .ref 41), (3, .int a3), (4, .int (nI k))] [] h205) ∧ (¬ ((d_69 ((d_108_s s (s.2.2.2.2.2 k)).2.2.2.2.2 k)) < (dN C k)) → pz_S 5 (some .int) am_r100 5 Q 61 [(0, .ref 6), (1, .ref 41), (3, .int a3), (4, .int (nI k))] [] h205) from ⟨fun c213 => ?_, fun c213 => ?_⟩)
    · refine am_goX 2 (show 4 < 5 ∧ pz_S 5 (some .int) am_r100 5 Q 21 [(4, .int ((nI k) + (Int32.ofInt 1))), (0, .ref 6), (1, .ref 41), (3, .int a3)] [] h205 from ⟨by decide, ?_⟩)
      rw [show d_100_21 C (m + 1) k a3 s = d_100_21 C m (k + 1) a3 (d_108_s s (s.2.2.2.2.2 k)) from if_pos c213] at hZ
      rw [show (nI k) + (Int32.ofInt 1) = nI (k + 1) from (dn_a rfl rfl)]
      exact sv_S2 sv2_100 (by intro q hq; simp only [List.mem_cons, List.not_mem_nil, or_false] at hq; rcases hq with rfl | rfl | rfl | rfl <;> rfl) (ih (k + 1) a3 (d_108_s s (s.2.2.2.2.2 k)) _ (by omega) f206 f207 f208 f209 f210 f211 f212 hZ)
    · refine am_goX 2 (show am_sh h205 41 = some (6, 0) ∧ pz_S 5 (some .int) am_r100 5 Q 65 [(0, .ref 6), (1, .ref 41), (3, .int a3), (4, .int (nI k))] [am_rf (h205.2.2.1 41 4)] h205 from ⟨ex_41 f206, ?_⟩)
      rw [show am_rf (h205.2.2.1 41 4) = .ref 44 from congrArg am_rf (ex_r41_4 f206)]
      refine am_goX 3 (show (Value.int (nI k)).category = 1 ∧ (Value.ref 44).category = 1 ∧ ∃ jj nn : Nat, am_sh h205 44 = some (13, nn) ∧ jj < nn ∧ nI k = nI jj ∧ pz_S 5 (some .int) am_r100 5 Q 69 [(0, .ref 6), (1, .ref 41), (3, .int a3), (4, .int (nI k))] [.int (h205.1 44 jj), .int (nI k), .ref 44] h205 from ⟨rfl, rfl, ⟨k, 5, ex_44 f206, (by omega), rfl, ?_⟩⟩)
      rw [show h205.1 44 k = (d_108_s s (s.2.2.2.2.2 k)).2.2.2.2.1 k from (f212.2.2 k (by omega)).1]
      refine am_goX 3 (show ∃ jj nn : Nat, am_so h205 44 = some (13, nn) ∧ jj < nn ∧ nI k = nI jj ∧ pz_S 5 (some .int) am_r100 5 Q 72 [(0, .ref 6), (1, .ref 41), (3, .int a3), (4, .int (nI k))] [] (am_wI h205 44 jj (((d_108_s s (s.2.2.2.2.2 k)).2.2.2.2.1 k) + (Int32.ofInt 1))) from ⟨k, 5, ex_w44 f206, (by omega), rfl, ?_⟩)
      have f215 : ex_P (am_wI h205 44 k (((d_108_s s (s.2.2.2.2.2 k)).2.2.2.2.1 k) + (Int32.ofInt 1))) := f206
      have f216 : cI C := f207
      have f217 : c_v 6 C (am_wI h205 44 k (((d_108_s s (s.2.2.2.2.2 k)).2.2.2.2.1 k) + (Int32.ofInt 1))) := c_v_w (by omega) f208
      have f218 : c_d 6 C (am_wI h205 44 k (((d_108_s s (s.2.2.2.2.2 k)).2.2.2.2.1 k) + (Int32.ofInt 1))) := c_d_w (by omega) f209
      have f219 : (am_wI h205 44 k (((d_108_s s (s.2.2.2.2.2 k)).2.2.2.2.1 k) + (Int32.ofInt 1))).2.2.1 0 3 = some 6 := f210
      have f220 : sC 36 u (am_wI h205 44 k (((d_108_s s (s.2.2.2.2.2 k)).2.2.2.2.1 k) + (Int32.ofInt 1))) := sC_w (by omega) f211
      have f221 : sC 41 (sSH (d_108_s s (s.2.2.2.2.2 k)) k (((d_108_s s (s.2.2.2.2.2 k)).2.2.2.2.1 k) + (Int32.ofInt 1))) (am_wI h205 44 k (((d_108_s s (s.2.2.2.2.2 k)).2.2.2.2.1 k) + (Int32.ofInt 1))) := sC_wH (by omega) f212
      generalize am_wI h205 44 k (((d_108_s s (s.2.2.2.2.2 k)).2.2.2.2.1 k) + (Int32.ofInt 1)) = h214 at f215 f216 f217 f218 f219 f220 f221 ⊢
      refine am_goX 8 (show 3 < 5 ∧ 4 < 5 ∧ pz_S 5 (some .int) am_r100 5 Q 21 [(4, .int ((nI k) + (Int32.ofInt 1))), (3, .int (a3 ||| ((Int32.ofInt 1) <<< ((nI k) &&& 31)))), (0, .ref 6), (1, .ref 41)] [] h214 from ⟨by decide, by decide, ?_⟩)
      rw [show d_100_21 C (m + 1) k a3 s = d_100_21 C m (k + 1) (a3 ||| ((Int32.ofInt 1) <<< ((nI k) &&& 31))) (sSH (d_108_s s (s.2.2.2.2.2 k)) k (((d_108_s s (s.2.2.2.2.2 k)).2.2.2.2.1 k) + (Int32.ofInt 1))) from if_neg c213] at hZ
      rw [show (nI k) + (Int32.ofInt 1) = nI (k + 1) from (dn_a rfl rfl)]
      exact sv_S2 sv2_100 (by intro q hq; simp only [List.mem_cons, List.not_mem_nil, or_false] at hq; rcases hq with rfl | rfl | rfl | rfl <;> rfl) (ih (k + 1) (a3 ||| ((Int32.ofInt 1) <<< ((nI k) &&& 31))) (sSH (d_108_s s (s.2.2.2.2.2 k)) k (((d_108_s s (s.2.2.2.2.2 k)).2.2.2.2.1 k) + (Int32.ofInt 1))) _ (by omega) f215 f216 f217 f218 f219 f220 f221 hZ)
theorem d_100_t6_41 (hP : ex_P h) (hI : cI C) (hT : c_v 6 C h) (hD : c_d 6 C h) (hR : h.2.2.1 0 3 = some 6) (hN : sC 36 u h) (hS : sC 41 s h)  (hQ : ∀ h1, (ex_P h1) → (cI C) → (c_v 6 C h1) → (c_d 6 C h1) → (h1.2.2.1 0 3 = some 6) → (sC 36 u h1) → (sC 41 (d_100_s C s w) h1) → Q (some (.int (d_100 C s w))) h1) : am_call am_cod 6 100 [.ref 6, .ref 41, .int w] h Q := by
  have h6 := hT.1.2.1
  have h5 := hT.2.1.2.1
  refine pz_call (n := 100) (nL := 5) (rt := (some .int)) (rows := am_r100) (d := 5) (by decide +kernel) (by decide +kernel) rfl (by funext pc; rfl) (ex_175 hP) (by exact Nat.le_of_ble_eq_true rfl) ?_
  refine am_goX 3 (show (Value.ref 41).category = 1 ∧ am_sh h 41 = some (6, 0) ∧ pz_S 5 (some .int) am_r100 5 Q 5 [(0, .ref 6), (1, .ref 41), (2, .int w)] [.int (h.1 41 0), .ref 41] h from ⟨rfl, ex_41 hP, ?_⟩)
  rw [show h.1 41 0 = s.1 from hS.1.1]
  refine am_goX 3 (show am_sh h 41 = some (6, 0) ∧ narrow (am_fty 6 0) (.int (s.1 + (Int32.ofInt 1))) = .int (s.1 + (Int32.ofInt 1)) ∧ fits (am_fty 6 0) (.int (s.1 + (Int32.ofInt 1))) = true ∧ pz_S 5 (some .int) am_r100 5 Q 10 [(0, .ref 6), (1, .ref 41), (2, .int w)] [] (am_wI h 41 0 (s.1 + (Int32.ofInt 1))) from ⟨ex_41 hP, rfl, rfl, ?_⟩)
  have f190 : ex_P (am_wI h 41 0 (s.1 + (Int32.ofInt 1))) := hP
  have f191 : cI C := hI
  have f192 : c_v 6 C (am_wI h 41 0 (s.1 + (Int32.ofInt 1))) := c_v_w (by omega) hT
  have f193 : c_d 6 C (am_wI h 41 0 (s.1 + (Int32.ofInt 1))) := c_d_w (by omega) hD
  have f194 : (am_wI h 41 0 (s.1 + (Int32.ofInt 1))).2.2.1 0 3 = some 6 := hR
  have f195 : sC 36 u (am_wI h 41 0 (s.1 + (Int32.ofInt 1))) := sC_w (by omega) hN
  have f196 : sC 41 (sSD s (s.1 + (Int32.ofInt 1))) (am_wI h 41 0 (s.1 + (Int32.ofInt 1))) := sC_wD (by omega) hS
  generalize am_wI h 41 0 (s.1 + (Int32.ofInt 1)) = h189 at f190 f191 f192 f193 f194 f195 f196 ⊢
  refine am_goX 4 (show am_rc h189 6 0 ∧ 0 ≤ 8 ∧ h189.2.2.2.2 + am_al 101 ≤ 175 ∧ am_call am_cod 5 101 [.ref 6, .ref 41, .int w] h189 (fun vv h' => pz_S 5 (some .int) am_r100 5 Q 16 [(0, .ref 6), (1, .ref 41), (2, .int w)] (vv.toList ++ []) h') from ⟨Or.inl ⟨by decide, ex_6 f190⟩, by decide, ex_lim f190 rfl, am_call.up (d_101_t6_41 f190 f191 f192 f193 f194 f195 f196 (fun h197 f198 f199 f200 f201 f202 f203 f204 => ?_)) (by decide)⟩)
  refine am_goX 4 (show 3 < 5 ∧ 4 < 5 ∧ pz_S 5 (some .int) am_r100 5 Q 21 [(4, .int (Int32.ofInt 0)), (3, .int (Int32.ofInt 0)), (0, .ref 6), (1, .ref 41), (2, .int w)] [] h197 from ⟨by decide, by decide, ?_⟩)
  refine sv_S2 sv2_100 (by intro q hq; simp only [List.mem_cons, List.not_mem_nil, or_false] at hq; rcases hq with rfl | rfl | rfl | rfl <;> rfl) (d_100_21_t6_41 (dE C) 0 (Int32.ofInt 0) (d_101_s C (sSD s (s.1 + (Int32.ofInt 1))) w) _ (by omega) f198 f199 f200 f201 f202 f203 f204 (fun h222 f223 f224 f225 f226 f227 f228 f229 => ?_))
  exact am_goX 2 (show (∃ ty, (some .int) = some ty ∧ narrow ty (.int ((d_100_21 C (dE C) 0 (Int32.ofInt 0) (d_101_s C (sSD s (s.1 + (Int32.ofInt 1))) w)).1)) = .int ((d_100_21 C (dE C) 0 (Int32.ofInt 0) (d_101_s C (sSD s (s.1 + (Int32.ofInt 1))) w)).1)) ∧ h222.2.2.2.2 = 175 ∧ _ from ⟨⟨.int, rfl, rfl⟩, ex_175 f223, hQ _ f223 f224 f225 f226 f227 f228 f229⟩)
theorem d_89_t17_36 (hP : ex_P h) (hI : cI C) (hT : c_v 17 C h) (hD : c_d 17 C h) (hS : sC 36 s h) (hX : fC 17 h0 h) (hp : p < dP C) (hQ : Q (some (.int (d_89 C s p))) h) : am_call am_cod 1 89 [.ref 17, .int (nI p), .ref 36] h Q := by
  have h6 := hT.1.2.1
  have h5 := hT.2.1.2.1
  refine pz_call (n := 89) (nL := 3) (rt := (some .int)) (rows := am_r89) (d := 0) (by decide +kernel) (by decide +kernel) rfl (by funext pc; rfl) (ex_175 hP) (by exact Nat.le_of_ble_eq_true rfl) ?_
  refine am_goX 2 (show am_sh h 17 = some (0, 0) ∧ pz_S 3 (some .int) am_r89 0 Q 4 [(0, .ref 17), (1, .int (nI p)), (2, .ref 36)] [am_rf (h.2.2.1 17 2)] h from ⟨ex_17 hP, ?_⟩)
  rw [show am_rf (h.2.2.1 17 2) = .ref 19 from congrArg am_rf (ex_r17_2 hP)]
  refine am_goX 2 (show ∃ jj nn : Nat, am_sh h 19 = some (13, nn) ∧ jj < nn ∧ nI p = nI jj ∧ pz_S 3 (some .int) am_r89 0 Q 6 [(0, .ref 17), (1, .int (nI p)), (2, .ref 36)] [.int (h.1 19 jj)] h from ⟨p, 6, ex_19 hP, (by omega), rfl, ?_⟩)
  rw [show h.1 19 p = dK C p from (hT.1.2.2 p (by omega)).1]
  suffices key : ∀ (v231 : Int32), v231 = (if ¬ (dK C p) = (Int32.ofInt 3) then (s.2.2.1 p) - (Int32.ofInt 2) else Int32.ofInt 0) → pz_S 3 (some .int) am_r89 0 Q 22 [] [.int v231] h by
    refine am_goX 2 (show (¬ (dK C p) = (Int32.ofInt 3) → pz_S 3 (some .int) am_r89 0 Q 14 [(0, .ref 17), (1, .int (nI p)), (2, .ref 36)] [] h) ∧ (¬ ¬ (dK C p) = (Int32.ofInt 3) → pz_S 3 (some .int) am_r89 0 Q 10 [(0, .ref 17), (1, .int (nI p)), (2, .ref 36)] [] h) from ⟨fun c230 => ?_, fun c230 => ?_⟩)
    · refine am_goX 2 (show am_sh h 36 = some (6, 0) ∧ pz_S 3 (some .int) am_r89 0 Q 18 [(0, .ref 17), (1, .int (nI p)), (2, .ref 36)] [am_rf (h.2.2.1 36 2)] h from ⟨ex_36 hP, ?_⟩)
      rw [show am_rf (h.2.2.1 36 2) = .ref 37 from congrArg am_rf (ex_r36_2 hP)]
      refine am_goX 2 (show ∃ jj nn : Nat, am_sh h 37 = some (13, nn) ∧ jj < nn ∧ nI p = nI jj ∧ pz_S 3 (some .int) am_r89 0 Q 20 [(0, .ref 17), (1, .int (nI p)), (2, .ref 36)] [.int (h.1 37 jj)] h from ⟨p, 6, ex_37 hP, (by omega), rfl, ?_⟩)
      rw [show h.1 37 p = s.2.2.1 p from (hS.2.1 p (by omega)).1]
      refine am_goX 2 (show pz_S 3 (some .int) am_r89 0 Q 22 [(0, .ref 17), (1, .int (nI p)), (2, .ref 36)] [.int ((s.2.2.1 p) - (Int32.ofInt 2))] h from ?_)
      exact sv_S2 sv2_89 (fun q hq => absurd hq List.not_mem_nil) (key _ (if_pos c230).symm)
    · refine am_goX 2 (show pz_S 3 (some .int) am_r89 0 Q 22 [(0, .ref 17), (1, .int (nI p)), (2, .ref 36)] [.int (Int32.ofInt 0)] h from ?_)
      exact sv_S2 sv2_89 (fun q hq => absurd hq List.not_mem_nil) (key _ (if_neg c230).symm)
  intro v231 e232
  subst e232
  exact am_goX 1 (show (∃ ty, (some .int) = some ty ∧ narrow ty (.int (if ¬ (dK C p) = (Int32.ofInt 3) then (s.2.2.1 p) - (Int32.ofInt 2) else Int32.ofInt 0)) = .int (if ¬ (dK C p) = (Int32.ofInt 3) then (s.2.2.1 p) - (Int32.ofInt 2) else Int32.ofInt 0)) ∧ h.2.2.2.2 = 175 ∧ _ from ⟨⟨.int, rfl, rfl⟩, ex_175 hP, hQ⟩)
theorem d_88_t17_36 (hP : ex_P h) (hI : cI C) (hT : c_v 17 C h) (hD : c_d 17 C h) (hS : sC 36 s h) (hX : fC 17 h0 h) (hp : p < dP C) (hQ : Q (some (.int (d_88 C s p w))) h) : am_call am_cod 2 88 [.ref 17, .int (nI p), .ref 36, .int w] h Q := by
  have h6 := hT.1.2.1
  have h5 := hT.2.1.2.1
  refine pz_call (n := 88) (nL := 5) (rt := (some .int)) (rows := am_r88) (d := 1) (by decide +kernel) (by decide +kernel) rfl (by funext pc; rfl) (ex_175 hP) (by exact Nat.le_of_ble_eq_true rfl) ?_
  suffices key : ∀ (v234 : Int32), v234 = (if w = 0 then d_89 C s p else Int32.ofInt 0) → pz_S 5 (some .int) am_r88 1 Q 14 [(2, .ref 36)] [.int v234] h by
    refine am_goX 2 (show (w = 0 → pz_S 5 (some .int) am_r88 1 Q 8 [(0, .ref 17), (1, .int (nI p)), (2, .ref 36), (3, .int w)] [] h) ∧ (¬ (w = 0) → pz_S 5 (some .int) am_r88 1 Q 4 [(0, .ref 17), (1, .int (nI p)), (2, .ref 36), (3, .int w)] [] h) from ⟨fun c233 => ?_, fun c233 => ?_⟩)
    · refine am_goX 4 (show am_rc h 17 0 ∧ 0 ≤ 8 ∧ h.2.2.2.2 + am_al 89 ≤ 175 ∧ am_call am_cod 1 89 [.ref 17, .int (nI p), .ref 36] h (fun vv h' => pz_S 5 (some .int) am_r88 1 Q 14 [(0, .ref 17), (1, .int (nI p)), (2, .ref 36), (3, .int w)] (vv.toList ++ []) h') from ⟨Or.inl ⟨by decide, ex_17 hP⟩, by decide, ex_lim hP rfl, am_call.up (d_89_t17_36 hP hI hT hD hS hX (by omega) ?_) (by decide)⟩)
      exact sv_S2 sv2_88 (by intro q hq; simp only [List.mem_cons, List.not_mem_nil, or_false] at hq; rcases hq with rfl <;> rfl) (key _ (if_pos c233).symm)
    · refine am_goX 2 (show pz_S 5 (some .int) am_r88 1 Q 14 [(0, .ref 17), (1, .int (nI p)), (2, .ref 36), (3, .int w)] [.int (Int32.ofInt 0)] h from ?_)
      exact sv_S2 sv2_88 (by intro q hq; simp only [List.mem_cons, List.not_mem_nil, or_false] at hq; rcases hq with rfl <;> rfl) (key _ (if_neg c233).symm)
  intro v234 e235
  subst e235
  refine am_goX 3 (show 4 < 5 ∧ am_sh h 36 = some (6, 0) ∧ pz_S 5 (some .int) am_r88 1 Q 20 [(4, .int (if w = 0 then d_89 C s p else Int32.ofInt 0)), (2, .ref 36)] [.int (h.1 36 0)] h from ⟨by decide, ex_36 hP, ?_⟩)
  rw [show h.1 36 0 = s.1 from hS.1.1]
  refine am_goX 4 (show 0 ≤ 8 ∧ h.2.2.2.2 + am_al 90 ≤ 175 ∧ am_call am_cod 1 90 [.int (s.1 + (if w = 0 then d_89 C s p else Int32.ofInt 0)), .int ((Int8.ofInt 7).toInt32)] h (fun vv h' => pz_S 5 (some .int) am_r88 1 Q 28 [(4, .int (if w = 0 then d_89 C s p else Int32.ofInt 0)), (2, .ref 36)] (vv.toList ++ []) h') from ⟨by decide, ex_lim hP rfl, am_call.up (d_90_w hP ?_) (by decide)⟩)
  exact am_goX 1 (show (∃ ty, (some .int) = some ty ∧ narrow ty (.int (d_90 (s.1 + (if w = 0 then d_89 C s p else Int32.ofInt 0)))) = .int (d_90 (s.1 + (if w = 0 then d_89 C s p else Int32.ofInt 0)))) ∧ h.2.2.2.2 = 175 ∧ _ from ⟨⟨.int, rfl, rfl⟩, ex_175 hP, hQ⟩)
theorem d_104_t17_36 (hP : ex_P h) (hI : cI C) (hT : c_v 17 C h) (hD : c_d 17 C h) (hS : sC 36 s h) (hX : fC 17 h0 h) (hp : p < dP C) (hQ : ∀ h1, (ex_P h1) → (cI C) → (c_v 17 C h1) → (c_d 17 C h1) → (sC 36 s h1) → (fC 17 h0 h1) → Q (some (.int (d_104 C s p w))) h1) : am_call am_cod 4 104 [.ref 17, .int (nI p), .ref 36, .int w] h Q := by
  have h6 := hT.1.2.1
  have h5 := hT.2.1.2.1
  refine pz_call (n := 104) (nL := 5) (rt := (some .boolean)) (rows := am_r104) (d := 3) (by decide +kernel) (by decide +kernel) rfl (by funext pc; rfl) (ex_175 hP) (by exact Nat.le_of_ble_eq_true rfl) ?_
  refine am_goX 2 (show am_sh h 36 = some (6, 0) ∧ pz_S 5 (some .boolean) am_r104 3 Q 4 [(0, .ref 17), (1, .int (nI p)), (2, .ref 36), (3, .int w)] [am_rf (h.2.2.1 36 3)] h from ⟨ex_36 hP, ?_⟩)
  rw [show am_rf (h.2.2.1 36 3) = .ref 38 from congrArg am_rf (ex_r36_3 hP)]
  refine am_goX 2 (show ∃ jj nn : Nat, am_sh h 38 = some (13, nn) ∧ jj < nn ∧ nI p = nI jj ∧ pz_S 5 (some .boolean) am_r104 3 Q 6 [(0, .ref 17), (1, .int (nI p)), (2, .ref 36), (3, .int w)] [.int (h.1 38 jj)] h from ⟨p, 6, ex_38 hP, (by omega), rfl, ?_⟩)
  rw [show h.1 38 p = s.2.2.2.1 p from (hS.2.1 p (by omega)).2]
  refine am_goX 1 (show 0 ≤ 8 ∧ h.2.2.2.2 + am_al 69 ≤ 175 ∧ am_call am_cod 3 69 [.int (s.2.2.2.1 p)] h (fun vv h' => pz_S 5 (some .boolean) am_r104 3 Q 9 [(0, .ref 17), (1, .int (nI p)), (2, .ref 36), (3, .int w)] (vv.toList ++ []) h') from ⟨by decide, ex_lim hP rfl, am_call.up (d_69_w hP ?_) (by decide)⟩)
  refine am_goX 3 (show 4 < 5 ∧ am_sh h 17 = some (0, 0) ∧ pz_S 5 (some .boolean) am_r104 3 Q 15 [(4, .int (d_69 (s.2.2.2.1 p))), (0, .ref 17), (1, .int (nI p)), (2, .ref 36), (3, .int w)] [am_rf (h.2.2.1 17 12)] h from ⟨by decide, ex_17 hP, ?_⟩)
  rw [show am_rf (h.2.2.1 17 12) = .ref 25 from congrArg am_rf (ex_r17_12 hP)]
  refine am_goX 4 (show am_rc h 17 0 ∧ 1 ≤ 8 ∧ h.2.2.2.2 + am_al 89 ≤ 175 ∧ am_call am_cod 3 89 [.ref 17, .int (nI p), .ref 36] h (fun vv h' => pz_S 5 (some .boolean) am_r104 3 Q 21 [(4, .int (d_69 (s.2.2.2.1 p))), (0, .ref 17), (1, .int (nI p)), (2, .ref 36), (3, .int w)] (vv.toList ++ [.ref 25]) h') from ⟨Or.inl ⟨by decide, ex_17 hP⟩, by decide, ex_lim hP rfl, am_call.up (d_89_t17_36 hP hI hT hD hS hX (by omega) ?_) (by decide)⟩)
  refine am_goX 2 (show am_sh h 36 = some (6, 0) ∧ pz_S 5 (some .boolean) am_r104 3 Q 25 [(4, .int (d_69 (s.2.2.2.1 p))), (0, .ref 17), (1, .int (nI p)), (2, .ref 36), (3, .int w)] [.int (h.1 36 0), .int (d_89 C s p), .ref 25] h from ⟨ex_36 hP, ?_⟩)
  rw [show h.1 36 0 = s.1 from hS.1.1]
  suffices key : ∀ (v237 : Int32), v237 = (if w = 0 then Int32.ofInt 0 else Int32.ofInt 1) → pz_S 5 (some .boolean) am_r104 3 Q 39 [] [.int v237, .int (d_69 (s.2.2.2.1 p)), .int (s.1 / ((Int8.ofInt 7).toInt32)), .int (d_89 C s p), .ref 25] h by
    refine am_goX 5 (show ¬ ((Int8.ofInt 7).toInt32) = 0 ∧ (w = 0 → pz_S 5 (some .boolean) am_r104 3 Q 38 [(4, .int (d_69 (s.2.2.2.1 p))), (0, .ref 17), (1, .int (nI p)), (2, .ref 36), (3, .int w)] [.int (d_69 (s.2.2.2.1 p)), .int (s.1 / ((Int8.ofInt 7).toInt32)), .int (d_89 C s p), .ref 25] h) ∧ (¬ (w = 0) → pz_S 5 (some .boolean) am_r104 3 Q 34 [(4, .int (d_69 (s.2.2.2.1 p))), (0, .ref 17), (1, .int (nI p)), (2, .ref 36), (3, .int w)] [.int (d_69 (s.2.2.2.1 p)), .int (s.1 / ((Int8.ofInt 7).toInt32)), .int (d_89 C s p), .ref 25] h) from ⟨by decide, fun c236 => ?_, fun c236 => ?_⟩)
    · refine am_goX 1 (show pz_S 5 (some .boolean) am_r104 3 Q 39 [(4, .int (d_69 (s.2.2.2.1 p))), (0, .ref 17), (1, .int (nI p)), (2, .ref 36), (3, .int w)] [.int (Int32.ofInt 0), .int (d_69 (s.2.2.2.1 p)), .int (s.1 / ((Int8.ofInt 7).toInt32)), .int (d_89 C s p), .ref 25] h from ?_)
      exact sv_S2 sv2_104 (fun q hq => absurd hq List.not_mem_nil) (key _ (if_pos c236).symm)
    · refine am_goX 2 (show pz_S 5 (some .boolean) am_r104 3 Q 39 [(4, .int (d_69 (s.2.2.2.1 p))), (0, .ref 17), (1, .int (nI p)), (2, .ref 36), (3, .int w)] [.int (Int32.ofInt 1), .int (d_69 (s.2.2.2.1 p)), .int (s.1 / ((Int8.ofInt 7).toInt32)), .int (d_89 C s p), .ref 25] h from ?_)
      exact sv_S2 sv2_104 (fun q hq => absurd hq List.not_mem_nil) (key _ (if_neg c236).symm)
  intro v237 e238
  subst e238
  refine am_goX 1 (show am_rc h 25 3 ∧ 0 ≤ 8 ∧ h.2.2.2.2 + am_al 105 ≤ 175 ∧ am_call am_cod 3 105 [.ref 25, .int (d_89 C s p), .int (s.1 / ((Int8.ofInt 7).toInt32)), .int (d_69 (s.2.2.2.1 p)), .int (if w = 0 then Int32.ofInt 0 else Int32.ofInt 1)] h (fun vv h' => pz_S 5 (some .boolean) am_r104 3 Q 42 [] (vv.toList ++ []) h') from ⟨Or.inl ⟨by decide, ex_25 hP⟩, by decide, ex_lim hP rfl, am_call.up (q_105_17 hP hT (fun h239 l240 => ?_)) (by decide)⟩)
  have f241 : ex_P h239 := lfr_P l240 hP
  have f242 : cI C := hI
  have f243 : c_v 17 C h239 := lfr_c l240 (by omega) hT
  have f244 : c_d 17 C h239 := lfr_d l240 (by omega) hD
  have f245 : sC 36 s h239 := lfr_s l240 (by omega) hS
  have f246 : fC 17 h0 h239 := fC_l l240 hX
  suffices key : ∀ (v248 : Int32), v248 = (if (dlaw C (d_89 C s p) (s.1 / ((Int8.ofInt 7).toInt32)) (d_69 (s.2.2.2.1 p)) (if w = 0 then Int32.ofInt 0 else Int32.ofInt 1)) = 0 then Int32.ofInt 0 else Int32.ofInt 1) → pz_S 5 (some .boolean) am_r104 3 Q 50 [] [.int v248] h239 by
    refine am_goX 1 (show ((dlaw C (d_89 C s p) (s.1 / ((Int8.ofInt 7).toInt32)) (d_69 (s.2.2.2.1 p)) (if w = 0 then Int32.ofInt 0 else Int32.ofInt 1)) = 0 → pz_S 5 (some .boolean) am_r104 3 Q 49 [] [] h239) ∧ (¬ ((dlaw C (d_89 C s p) (s.1 / ((Int8.ofInt 7).toInt32)) (d_69 (s.2.2.2.1 p)) (if w = 0 then Int32.ofInt 0 else Int32.ofInt 1)) = 0) → pz_S 5 (some .boolean) am_r104 3 Q 45 [] [] h239) from ⟨fun c247 => ?_, fun c247 => ?_⟩)
    · refine am_goX 1 (show pz_S 5 (some .boolean) am_r104 3 Q 50 [] [.int (Int32.ofInt 0)] h239 from ?_)
      exact sv_S2 sv2_104 (fun q hq => absurd hq List.not_mem_nil) (key _ (if_pos c247).symm)
    · refine am_goX 2 (show pz_S 5 (some .boolean) am_r104 3 Q 50 [] [.int (Int32.ofInt 1)] h239 from ?_)
      exact sv_S2 sv2_104 (fun q hq => absurd hq List.not_mem_nil) (key _ (if_neg c247).symm)
  intro v248 e249
  subst e249
  exact am_goX 1 (show (∃ ty, (some .boolean) = some ty ∧ narrow ty (.int (if (dlaw C (d_89 C s p) (s.1 / ((Int8.ofInt 7).toInt32)) (d_69 (s.2.2.2.1 p)) (if w = 0 then Int32.ofInt 0 else Int32.ofInt 1)) = 0 then Int32.ofInt 0 else Int32.ofInt 1)) = .int (if (dlaw C (d_89 C s p) (s.1 / ((Int8.ofInt 7).toInt32)) (d_69 (s.2.2.2.1 p)) (if w = 0 then Int32.ofInt 0 else Int32.ofInt 1)) = 0 then Int32.ofInt 0 else Int32.ofInt 1)) ∧ h239.2.2.2.2 = 175 ∧ _ from ⟨⟨.boolean, rfl, (by (repeat' split) <;> rfl)⟩, ex_175 f241, hQ _ f241 f242 f243 f244 f245 f246⟩)
theorem d_101_2_t17_36 : ∀ (m k : Nat) (s : dS) (h : am_H), k + m = dE C → (ex_P h) → (cI C) → (c_v 17 C h) → (c_d 17 C h) → (sC 36 s h) → (fC 17 h0 h) → (∀ h1, (ex_P h1) → (cI C) → (c_v 17 C h1) → (c_d 17 C h1) → (sC 36 (d_101_2 C w m k s) h1) → (fC 17 h0 h1) → pz_S 6 none am_r101 4 Q 23 [(0, .ref 17), (1, .ref 36), (2, .int w)] [] h1) → pz_S 6 none am_r101 4 Q 2 [(0, .ref 17), (1, .ref 36), (2, .int w), (3, .int (nI k))] [] h := by
  intro m
  induction m with
  | zero =>
    intro k s h hk hP hI hT hD hS hX hZ
    have h6 := hT.1.2.1
    have h5 := hT.2.1.2.1
    refine am_goX 3 (show am_sh h 17 = some (0, 0) ∧ pz_S 6 none am_r101 4 Q 7 [(0, .ref 17), (1, .ref 36), (2, .int w), (3, .int (nI k))] [.int (h.1 17 4), .int (nI k)] h from ⟨ex_17 hP, ?_⟩)
    rw [show h.1 17 4 = nI (dE C) from hT.2.1.1]
    refine am_goX 1 (show ((nI (dE C)) ≤ (nI k) → pz_S 6 none am_r101 4 Q 23 [(0, .ref 17), (1, .ref 36), (2, .int w), (3, .int (nI k))] [] h) ∧ (¬ ((nI (dE C)) ≤ (nI k)) → pz_S 6 none am_r101 4 Q 10 [(0, .ref 17), (1, .ref 36), (2, .int w), (3, .int (nI k))] [] h) from ⟨fun _ => ?_, fun hz => absurd (show nI (dE C) ≤ nI k from nI_le (by omega) (by omega)) hz⟩)
    exact sv_S2 sv2_101 (by intro q hq; simp only [List.mem_cons, List.not_mem_nil, or_false] at hq; rcases hq with rfl | rfl | rfl <;> rfl) (hZ _ hP hI hT hD hS hX)
  | succ m ih =>
    intro k s h hk hP hI hT hD hS hX hZ
    have h6 := hT.1.2.1
    have h5 := hT.2.1.2.1
    refine am_goX 3 (show am_sh h 17 = some (0, 0) ∧ pz_S 6 none am_r101 4 Q 7 [(0, .ref 17), (1, .ref 36), (2, .int w), (3, .int (nI k))] [.int (h.1 17 4), .int (nI k)] h from ⟨ex_17 hP, ?_⟩)
    rw [show h.1 17 4 = nI (dE C) from hT.2.1.1]
    refine am_goX 1 (show ((nI (dE C)) ≤ (nI k) → pz_S 6 none am_r101 4 Q 23 [(0, .ref 17), (1, .ref 36), (2, .int w), (3, .int (nI k))] [] h) ∧ (¬ ((nI (dE C)) ≤ (nI k)) → pz_S 6 none am_r101 4 Q 10 [(0, .ref 17), (1, .ref 36), (2, .int w), (3, .int (nI k))] [] h) from ⟨fun hz => absurd hz (show ¬ (nI (dE C) ≤ nI k) by rw [nI_leI (by omega) (by omega)]; omega), fun _ => ?_⟩)
    refine am_goX 2 (show am_sh h 36 = some (6, 0) ∧ pz_S 6 none am_r101 4 Q 14 [(0, .ref 17), (1, .ref 36), (2, .int w), (3, .int (nI k))] [am_rf (h.2.2.1 36 5)] h from ⟨ex_36 hP, ?_⟩)
    rw [show am_rf (h.2.2.1 36 5) = .ref 40 from congrArg am_rf (ex_r36_5 hP)]
    refine am_goX 3 (show ∃ jj nn : Nat, am_so h 40 = some (13, nn) ∧ jj < nn ∧ nI k = nI jj ∧ pz_S 6 none am_r101 4 Q 17 [(0, .ref 17), (1, .ref 36), (2, .int w), (3, .int (nI k))] [] (am_wI h 40 jj (Int32.ofInt 0)) from ⟨k, 5, ex_w40 hP, (by omega), rfl, ?_⟩)
    have f251 : ex_P (am_wI h 40 k (Int32.ofInt 0)) := hP
    have f252 : cI C := hI
    have f253 : c_v 17 C (am_wI h 40 k (Int32.ofInt 0)) := c_v_w (by omega) hT
    have f254 : c_d 17 C (am_wI h 40 k (Int32.ofInt 0)) := c_d_w (by omega) hD
    have f255 : sC 36 (sSA s k (Int32.ofInt 0)) (am_wI h 40 k (Int32.ofInt 0)) := sC_wA (by omega) hS
    have f256 : fC 17 h0 (am_wI h 40 k (Int32.ofInt 0)) := fC_w (by omega) hX
    generalize am_wI h 40 k (Int32.ofInt 0) = h250 at f251 f252 f253 f254 f255 f256 ⊢
    refine am_goX 2 (show 3 < 6 ∧ pz_S 6 none am_r101 4 Q 2 [(3, .int ((nI k) + (Int32.ofInt 1))), (0, .ref 17), (1, .ref 36), (2, .int w)] [] h250 from ⟨by decide, ?_⟩)
    rw [show (nI k) + (Int32.ofInt 1) = nI (k + 1) from (dn_a rfl rfl)]
    exact sv_S2 sv2_101 (by intro q hq; simp only [List.mem_cons, List.not_mem_nil, or_false] at hq; rcases hq with rfl | rfl | rfl | rfl <;> rfl) (ih (k + 1) (sSA s k (Int32.ofInt 0)) _ (by omega) f251 f252 f253 f254 f255 f256 hZ)
theorem d_101_65_t17_36 (n3 : Nat) (x4 : Int32) : ∀ (m k : Nat) (s : dS) (h : am_H), k + m = dE C → (ex_P h) → (cI C) → (c_v 17 C h) → (c_d 17 C h) → (sC 36 s h) → (fC 17 h0 h) → (∀ h1, (ex_P h1) → (cI C) → (c_v 17 C h1) → (c_d 17 C h1) → (sC 36 (d_101_65 C w n3 x4 m k s) h1) → (fC 17 h0 h1) → pz_S 6 none am_r101 4 Q 99 [(0, .ref 17), (1, .ref 36), (2, .int w), (3, .int (nI n3))] [] h1) → pz_S 6 none am_r101 4 Q 65 [(0, .ref 17), (1, .ref 36), (2, .int w), (3, .int (nI n3)), (4, .int x4), (5, .int (nI k))] [] h := by
  intro m
  induction m with
  | zero =>
    intro k s h hk hP hI hT hD hS hX hZ
    have h6 := hT.1.2.1
    have h5 := hT.2.1.2.1
    refine am_goX 3 (show am_sh h 17 = some (0, 0) ∧ pz_S 6 none am_r101 4 Q 71 [(0, .ref 17), (1, .ref 36), (2, .int w), (3, .int (nI n3)), (4, .int x4), (5, .int (nI k))] [.int (h.1 17 4), .int (nI k)] h from ⟨ex_17 hP, ?_⟩)
    rw [show h.1 17 4 = nI (dE C) from hT.2.1.1]
    refine am_goX 1 (show ((nI (dE C)) ≤ (nI k) → pz_S 6 none am_r101 4 Q 99 [(0, .ref 17), (1, .ref 36), (2, .int w), (3, .int (nI n3)), (4, .int x4), (5, .int (nI k))] [] h) ∧ (¬ ((nI (dE C)) ≤ (nI k)) → pz_S 6 none am_r101 4 Q 74 [(0, .ref 17), (1, .ref 36), (2, .int w), (3, .int (nI n3)), (4, .int x4), (5, .int (nI k))] [] h) from ⟨fun _ => ?_, fun hz => absurd (show nI (dE C) ≤ nI k from nI_le (by omega) (by omega)) hz⟩)
    exact sv_S2 sv2_101 (by intro q hq; simp only [List.mem_cons, List.not_mem_nil, or_false] at hq; rcases hq with rfl | rfl | rfl | rfl <;> rfl) (hZ _ hP hI hT hD hS hX)
  | succ m ih =>
    intro k s h hk hP hI hT hD hS hX hZ
    have h6 := hT.1.2.1
    have h5 := hT.2.1.2.1
    refine am_goX 3 (show am_sh h 17 = some (0, 0) ∧ pz_S 6 none am_r101 4 Q 71 [(0, .ref 17), (1, .ref 36), (2, .int w), (3, .int (nI n3)), (4, .int x4), (5, .int (nI k))] [.int (h.1 17 4), .int (nI k)] h from ⟨ex_17 hP, ?_⟩)
    rw [show h.1 17 4 = nI (dE C) from hT.2.1.1]
    refine am_goX 1 (show ((nI (dE C)) ≤ (nI k) → pz_S 6 none am_r101 4 Q 99 [(0, .ref 17), (1, .ref 36), (2, .int w), (3, .int (nI n3)), (4, .int x4), (5, .int (nI k))] [] h) ∧ (¬ ((nI (dE C)) ≤ (nI k)) → pz_S 6 none am_r101 4 Q 74 [(0, .ref 17), (1, .ref 36), (2, .int w), (3, .int (nI n3)), (4, .int x4), (5, .int (nI k))] [] h) from ⟨fun hz => absurd hz (show ¬ (nI (dE C) ≤ nI k) by rw [nI_leI (by omega) (by omega)]; omega), fun _ => ?_⟩)
    refine am_goX 2 (show am_sh h 36 = some (6, 0) ∧ pz_S 6 none am_r101 4 Q 78 [(0, .ref 17), (1, .ref 36), (2, .int w), (3, .int (nI n3)), (4, .int x4), (5, .int (nI k))] [am_rf (h.2.2.1 36 5)] h from ⟨ex_36 hP, ?_⟩)
    rw [show am_rf (h.2.2.1 36 5) = .ref 40 from congrArg am_rf (ex_r36_5 hP)]
    refine am_goX 3 (show (Value.int (nI k)).category = 1 ∧ (Value.ref 40).category = 1 ∧ ∃ jj nn : Nat, am_sh h 40 = some (13, nn) ∧ jj < nn ∧ nI k = nI jj ∧ pz_S 6 none am_r101 4 Q 82 [(0, .ref 17), (1, .ref 36), (2, .int w), (3, .int (nI n3)), (4, .int x4), (5, .int (nI k))] [.int (h.1 40 jj), .int (nI k), .ref 40] h from ⟨rfl, rfl, ⟨k, 5, ex_40 hP, (by omega), rfl, ?_⟩⟩)
    rw [show h.1 40 k = s.2.2.2.2.2 k from (hS.2.2 k (by omega)).2]
    refine am_goX 9 (show ∃ jj nn : Nat, am_so h 40 = some (13, nn) ∧ jj < nn ∧ nI k = nI jj ∧ pz_S 6 none am_r101 4 Q 93 [(0, .ref 17), (1, .ref 36), (2, .int w), (3, .int (nI n3)), (4, .int x4), (5, .int (nI k))] [] (am_wI h 40 jj ((s.2.2.2.2.2 k) ||| (((x4 >>> ((nI k) &&& 31)) &&& (Int32.ofInt 1)) <<< ((nI n3) &&& 31)))) from ⟨k, 5, ex_w40 hP, (by omega), rfl, ?_⟩)
    have f274 : ex_P (am_wI h 40 k ((s.2.2.2.2.2 k) ||| (((x4 >>> ((nI k) &&& 31)) &&& (Int32.ofInt 1)) <<< ((nI n3) &&& 31)))) := hP
    have f275 : cI C := hI
    have f276 : c_v 17 C (am_wI h 40 k ((s.2.2.2.2.2 k) ||| (((x4 >>> ((nI k) &&& 31)) &&& (Int32.ofInt 1)) <<< ((nI n3) &&& 31)))) := c_v_w (by omega) hT
    have f277 : c_d 17 C (am_wI h 40 k ((s.2.2.2.2.2 k) ||| (((x4 >>> ((nI k) &&& 31)) &&& (Int32.ofInt 1)) <<< ((nI n3) &&& 31)))) := c_d_w (by omega) hD
    have f278 : sC 36 (sSA s k ((s.2.2.2.2.2 k) ||| (((x4 >>> ((nI k) &&& 31)) &&& (Int32.ofInt 1)) <<< ((nI n3) &&& 31)))) (am_wI h 40 k ((s.2.2.2.2.2 k) ||| (((x4 >>> ((nI k) &&& 31)) &&& (Int32.ofInt 1)) <<< ((nI n3) &&& 31)))) := sC_wA (by omega) hS
    have f279 : fC 17 h0 (am_wI h 40 k ((s.2.2.2.2.2 k) ||| (((x4 >>> ((nI k) &&& 31)) &&& (Int32.ofInt 1)) <<< ((nI n3) &&& 31)))) := fC_w (by omega) hX
    generalize am_wI h 40 k ((s.2.2.2.2.2 k) ||| (((x4 >>> ((nI k) &&& 31)) &&& (Int32.ofInt 1)) <<< ((nI n3) &&& 31))) = h273 at f274 f275 f276 f277 f278 f279 ⊢
    refine am_goX 2 (show 5 < 6 ∧ pz_S 6 none am_r101 4 Q 65 [(5, .int ((nI k) + (Int32.ofInt 1))), (0, .ref 17), (1, .ref 36), (2, .int w), (3, .int (nI n3)), (4, .int x4)] [] h273 from ⟨by decide, ?_⟩)
    rw [show (nI k) + (Int32.ofInt 1) = nI (k + 1) from (dn_a rfl rfl)]
    exact sv_S2 sv2_101 (by intro q hq; simp only [List.mem_cons, List.not_mem_nil, or_false] at hq; rcases hq with rfl | rfl | rfl | rfl | rfl | rfl <;> rfl) (ih (k + 1) (sSA s k ((s.2.2.2.2.2 k) ||| (((x4 >>> ((nI k) &&& 31)) &&& (Int32.ofInt 1)) <<< ((nI n3) &&& 31)))) _ (by omega) f274 f275 f276 f277 f278 f279 hZ)
theorem d_101_25_t17_36 : ∀ (m k : Nat) (s : dS) (h : am_H), k + m = dP C → (ex_P h) → (cI C) → (c_v 17 C h) → (c_d 17 C h) → (sC 36 s h) → (fC 17 h0 h) → (∀ h1, (ex_P h1) → (cI C) → (c_v 17 C h1) → (c_d 17 C h1) → (sC 36 (d_101_25 C w m k s) h1) → (fC 17 h0 h1) → pz_S 6 none am_r101 4 Q 105 [] [] h1) → pz_S 6 none am_r101 4 Q 25 [(0, .ref 17), (1, .ref 36), (2, .int w), (3, .int (nI k))] [] h := by
  intro m
  induction m with
  | zero =>
    intro k s h hk hP hI hT hD hS hX hZ
    have h6 := hT.1.2.1
    have h5 := hT.2.1.2.1
    refine am_goX 3 (show am_sh h 17 = some (0, 0) ∧ pz_S 6 none am_r101 4 Q 30 [(0, .ref 17), (1, .ref 36), (2, .int w), (3, .int (nI k))] [.int (h.1 17 0), .int (nI k)] h from ⟨ex_17 hP, ?_⟩)
    rw [show h.1 17 0 = nI (dP C) from hT.1.1]
    refine am_goX 1 (show ((nI (dP C)) ≤ (nI k) → pz_S 6 none am_r101 4 Q 105 [(0, .ref 17), (1, .ref 36), (2, .int w), (3, .int (nI k))] [] h) ∧ (¬ ((nI (dP C)) ≤ (nI k)) → pz_S 6 none am_r101 4 Q 33 [(0, .ref 17), (1, .ref 36), (2, .int w), (3, .int (nI k))] [] h) from ⟨fun _ => ?_, fun hz => absurd (show nI (dP C) ≤ nI k from nI_le (by omega) (by omega)) hz⟩)
    exact sv_S2 sv2_101 (fun q hq => absurd hq List.not_mem_nil) (hZ _ hP hI hT hD hS hX)
  | succ m ih =>
    intro k s h hk hP hI hT hD hS hX hZ
    have h6 := hT.1.2.1
    have h5 := hT.2.1.2.1
    refine am_goX 3 (show am_sh h 17 = some (0, 0) ∧ pz_S 6 none am_r101 4 Q 30 [(0, .ref 17), (1, .ref 36), (2, .int w), (3, .int (nI k))] [.int (h.1 17 0), .int (nI k)] h from ⟨ex_17 hP, ?_⟩)
    rw [show h.1 17 0 = nI (dP C) from hT.1.1]
    refine am_goX 1 (show ((nI (dP C)) ≤ (nI k) → pz_S 6 none am_r101 4 Q 105 [(0, .ref 17), (1, .ref 36), (2, .int w), (3, .int (nI k))] [] h) ∧ (¬ ((nI (dP C)) ≤ (nI k)) → pz_S 6 none am_r101 4 Q 33 [(0, .ref 17), (1, .ref 36), (2, .int w), (3, .int (nI k))] [] h) from ⟨fun hz => absurd hz (show ¬ (nI (dP C) ≤ nI k) by rw [nI_leI (by omega) (by omega)]; omega), fun _ => ?_⟩)
    refine am_goX 7 (show am_rc h 17 0 ∧ 2 ≤ 8 ∧ h.2.2.2.2 + am_al 88 ≤ 175 ∧ am_call am_cod 4 88 [.ref 17, .int (nI k), .ref 36, .int w] h (fun vv h' => pz_S 6 none am_r101 4 Q 42 [(0, .ref 17), (1, .ref 36), (2, .int w), (3, .int (nI k))] (vv.toList ++ [.int (nI k), .ref 17]) h') from ⟨Or.inl ⟨by decide, ex_17 hP⟩, by decide, ex_lim hP rfl, am_call.up (d_88_t17_36 hP hI hT hD hS hX (by omega) ?_) (by decide)⟩)
    refine am_goX 1 (show am_rc h 17 0 ∧ 0 ≤ 8 ∧ h.2.2.2.2 + am_al 102 ≤ 175 ∧ am_call am_cod 4 102 [.ref 17, .int (nI k), .int (d_88 C s k w)] h (fun vv h' => pz_S 6 none am_r101 4 Q 45 [(0, .ref 17), (1, .ref 36), (2, .int w), (3, .int (nI k))] (vv.toList ++ []) h') from ⟨Or.inl ⟨by decide, ex_17 hP⟩, by decide, ex_lim hP rfl, am_call.up (d_102_w17 hP hT hD (by omega) ?_) (by decide)⟩)
    refine am_goX 3 (show 4 < 6 ∧ ((d_102 C k (d_88 C s k w)) = 0 → pz_S 6 none am_r101 4 Q 99 [(4, .int (d_102 C k (d_88 C s k w))), (0, .ref 17), (1, .ref 36), (2, .int w), (3, .int (nI k))] [] h) ∧ (¬ ((d_102 C k (d_88 C s k w)) = 0) → pz_S 6 none am_r101 4 Q 52 [(4, .int (d_102 C k (d_88 C s k w))), (0, .ref 17), (1, .ref 36), (2, .int w), (3, .int (nI k))] [] h) from ⟨by decide, fun c264 => ?_, fun c264 => ?_⟩)
    · refine am_goX 2 (show 3 < 6 ∧ pz_S 6 none am_r101 4 Q 25 [(3, .int ((nI k) + (Int32.ofInt 1))), (4, .int (d_102 C k (d_88 C s k w))), (0, .ref 17), (1, .ref 36), (2, .int w)] [] h from ⟨by decide, ?_⟩)
      rw [show d_101_25 C w (m + 1) k s = d_101_25 C w m (k + 1) s from if_pos c264] at hZ
      rw [show (nI k) + (Int32.ofInt 1) = nI (k + 1) from (dn_a rfl rfl)]
      exact sv_S2 sv2_101 (by intro q hq; simp only [List.mem_cons, List.not_mem_nil, or_false] at hq; rcases hq with rfl | rfl | rfl | rfl <;> rfl) (ih (k + 1) s _ (by omega) hP hI hT hD hS hX hZ)
    · refine am_goX 5 (show am_rc h 17 0 ∧ 0 ≤ 8 ∧ h.2.2.2.2 + am_al 104 ≤ 175 ∧ am_call am_cod 4 104 [.ref 17, .int (nI k), .ref 36, .int w] h (fun vv h' => pz_S 6 none am_r101 4 Q 59 [(4, .int (d_102 C k (d_88 C s k w))), (0, .ref 17), (1, .ref 36), (2, .int w), (3, .int (nI k))] (vv.toList ++ []) h') from ⟨Or.inl ⟨by decide, ex_17 hP⟩, by decide, ex_lim hP rfl, am_call.up (d_104_t17_36 hP hI hT hD hS hX (by omega) (fun h265 f266 f267 f268 f269 f270 f271 => ?_)) (by decide)⟩)
      refine am_goX 1 (show ((d_104 C s k w) = 0 → pz_S 6 none am_r101 4 Q 99 [(4, .int (d_102 C k (d_88 C s k w))), (0, .ref 17), (1, .ref 36), (2, .int w), (3, .int (nI k))] [] h265) ∧ (¬ ((d_104 C s k w) = 0) → pz_S 6 none am_r101 4 Q 62 [(4, .int (d_102 C k (d_88 C s k w))), (0, .ref 17), (1, .ref 36), (2, .int w), (3, .int (nI k))] [] h265) from ⟨fun c272 => ?_, fun c272 => ?_⟩)
      · refine am_goX 2 (show 3 < 6 ∧ pz_S 6 none am_r101 4 Q 25 [(3, .int ((nI k) + (Int32.ofInt 1))), (4, .int (d_102 C k (d_88 C s k w))), (0, .ref 17), (1, .ref 36), (2, .int w)] [] h265 from ⟨by decide, ?_⟩)
        rw [show d_101_25 C w (m + 1) k s = d_101_25 C w m (k + 1) s from (if_neg c264).trans (if_pos c272)] at hZ
        rw [show (nI k) + (Int32.ofInt 1) = nI (k + 1) from (dn_a rfl rfl)]
        exact sv_S2 sv2_101 (by intro q hq; simp only [List.mem_cons, List.not_mem_nil, or_false] at hq; rcases hq with rfl | rfl | rfl | rfl <;> rfl) (ih (k + 1) s _ (by omega) f266 f267 f268 f269 f270 f271 hZ)
      · refine am_goX 2 (show 5 < 6 ∧ pz_S 6 none am_r101 4 Q 65 [(5, .int (Int32.ofInt 0)), (4, .int (d_102 C k (d_88 C s k w))), (0, .ref 17), (1, .ref 36), (2, .int w), (3, .int (nI k))] [] h265 from ⟨by decide, ?_⟩)
        refine sv_S2 sv2_101 (by intro q hq; simp only [List.mem_cons, List.not_mem_nil, or_false] at hq; rcases hq with rfl | rfl | rfl | rfl | rfl | rfl <;> rfl) (d_101_65_t17_36 k (d_102 C k (d_88 C s k w)) (dE C) 0 s _ (by omega) f266 f267 f268 f269 f270 f271 (fun h273 f274 f275 f276 f277 f278 f279 => ?_))
        refine am_goX 2 (show 3 < 6 ∧ pz_S 6 none am_r101 4 Q 25 [(3, .int ((nI k) + (Int32.ofInt 1))), (0, .ref 17), (1, .ref 36), (2, .int w)] [] h273 from ⟨by decide, ?_⟩)
        rw [show d_101_25 C w (m + 1) k s = d_101_25 C w m (k + 1) (d_101_65 C w k (d_102 C k (d_88 C s k w)) (dE C) 0 s) from (if_neg c264).trans (if_neg c272)] at hZ
        rw [show (nI k) + (Int32.ofInt 1) = nI (k + 1) from (dn_a rfl rfl)]
        exact sv_S2 sv2_101 (by intro q hq; simp only [List.mem_cons, List.not_mem_nil, or_false] at hq; rcases hq with rfl | rfl | rfl | rfl <;> rfl) (ih (k + 1) (d_101_65 C w k (d_102 C k (d_88 C s k w)) (dE C) 0 s) _ (by omega) f274 f275 f276 f277 f278 f279 hZ)
theorem d_101_t17_36 (hP : ex_P h) (hI : cI C) (hT : c_v 17 C h) (hD : c_d 17 C h) (hS : sC 36 s h) (hX : fC 17 h0 h)  (hQ : ∀ h1, (ex_P h1) → (cI C) → (c_v 17 C h1) → (c_d 17 C h1) → (sC 36 (d_101_s C s w) h1) → (fC 17 h0 h1) → Q none h1) : am_call am_cod 5 101 [.ref 17, .ref 36, .int w] h Q := by
  have h6 := hT.1.2.1
  have h5 := hT.2.1.2.1
  refine pz_call (n := 101) (nL := 6) (rt := none) (rows := am_r101) (d := 4) (by decide +kernel) (by decide +kernel) rfl (by funext pc; rfl) (ex_175 hP) (by exact Nat.le_of_ble_eq_true rfl) ?_
  refine am_goX 2 (show 3 < 6 ∧ pz_S 6 none am_r101 4 Q 2 [(3, .int (Int32.ofInt 0)), (0, .ref 17), (1, .ref 36), (2, .int w)] [] h from ⟨by decide, ?_⟩)
  refine sv_S2 sv2_101 (by intro q hq; simp only [List.mem_cons, List.not_mem_nil, or_false] at hq; rcases hq with rfl | rfl | rfl | rfl <;> rfl) (d_101_2_t17_36 (dE C) 0 s _ (by omega) hP hI hT hD hS hX (fun h257 f258 f259 f260 f261 f262 f263 => ?_))
  refine am_goX 2 (show 3 < 6 ∧ pz_S 6 none am_r101 4 Q 25 [(3, .int (Int32.ofInt 0)), (0, .ref 17), (1, .ref 36), (2, .int w)] [] h257 from ⟨by decide, ?_⟩)
  refine sv_S2 sv2_101 (by intro q hq; simp only [List.mem_cons, List.not_mem_nil, or_false] at hq; rcases hq with rfl | rfl | rfl | rfl <;> rfl) (d_101_25_t17_36 (dP C) 0 (d_101_2 C w (dE C) 0 s) _ (by omega) f258 f259 f260 f261 f262 f263 (fun h280 f281 f282 f283 f284 f285 f286 => ?_))
  exact am_goX 1 (show (none : Option FieldType) = none ∧ h280.2.2.2.2 = 175 ∧ _ from ⟨rfl, ex_175 f281, hQ _ f281 f282 f283 f284 f285 f286⟩)
theorem d_108_2_t17_36 : ∀ (m k : Nat) (s : dS) (h : am_H), k + m = 6 → (ex_P h) → (cI C) → (c_v 17 C h) → (c_d 17 C h) → (sC 36 s h) → (fC 17 h0 h) → (∀ h1, (ex_P h1) → (cI C) → (c_v 17 C h1) → (c_d 17 C h1) → (sC 36 (d_108_2 x m k s) h1) → (fC 17 h0 h1) → pz_S 3 none am_r108 1 Q 38 [] [] h1) → pz_S 3 none am_r108 1 Q 2 [(0, .ref 36), (1, .int x), (2, .int (nI k))] [] h := by
  intro m
  induction m with
  | zero =>
    intro k s h hk hP hI hT hD hS hX hZ
    have h6 := hT.1.2.1
    have h5 := hT.2.1.2.1
    refine am_goX 3 (show (((Int8.ofInt 6).toInt32) ≤ (nI k) → pz_S 3 none am_r108 1 Q 38 [(0, .ref 36), (1, .int x), (2, .int (nI k))] [] h) ∧ (¬ (((Int8.ofInt 6).toInt32) ≤ (nI k)) → pz_S 3 none am_r108 1 Q 8 [(0, .ref 36), (1, .int x), (2, .int (nI k))] [] h) from ⟨fun _ => ?_, fun hz => absurd (show nI 6 ≤ nI k from nI_le (by omega) (by omega)) hz⟩)
    exact sv_S2 sv2_108 (fun q hq => absurd hq List.not_mem_nil) (hZ _ hP hI hT hD hS hX)
  | succ m ih =>
    intro k s h hk hP hI hT hD hS hX hZ
    have h6 := hT.1.2.1
    have h5 := hT.2.1.2.1
    refine am_goX 3 (show (((Int8.ofInt 6).toInt32) ≤ (nI k) → pz_S 3 none am_r108 1 Q 38 [(0, .ref 36), (1, .int x), (2, .int (nI k))] [] h) ∧ (¬ (((Int8.ofInt 6).toInt32) ≤ (nI k)) → pz_S 3 none am_r108 1 Q 8 [(0, .ref 36), (1, .int x), (2, .int (nI k))] [] h) from ⟨fun hz => absurd hz (show ¬ (nI 6 ≤ nI k) by rw [nI_leI (by omega) (by omega)]; omega), fun _ => ?_⟩)
    refine am_goX 3 (show 0 ≤ 8 ∧ h.2.2.2.2 + am_al 65 ≤ 175 ∧ am_call am_cod 1 65 [.int x, .int (nI k)] h (fun vv h' => pz_S 3 none am_r108 1 Q 13 [(0, .ref 36), (1, .int x), (2, .int (nI k))] (vv.toList ++ []) h') from ⟨by decide, ex_lim hP rfl, am_call.up (d_65_w hP ?_) (by decide)⟩)
    refine am_goX 1 (show ((d_65 x (nI k)) = 0 → pz_S 3 none am_r108 1 Q 32 [(0, .ref 36), (1, .int x), (2, .int (nI k))] [] h) ∧ (¬ ((d_65 x (nI k)) = 0) → pz_S 3 none am_r108 1 Q 16 [(0, .ref 36), (1, .int x), (2, .int (nI k))] [] h) from ⟨fun c287 => ?_, fun c287 => ?_⟩)
    · refine am_goX 2 (show 2 < 3 ∧ pz_S 3 none am_r108 1 Q 2 [(2, .int ((nI k) + (Int32.ofInt 1))), (0, .ref 36), (1, .int x)] [] h from ⟨by decide, ?_⟩)
      rw [show d_108_2 x (m + 1) k s = d_108_2 x m (k + 1) s from if_pos c287] at hZ
      rw [show (nI k) + (Int32.ofInt 1) = nI (k + 1) from (dn_a rfl rfl)]
      exact sv_S2 sv2_108 (by intro q hq; simp only [List.mem_cons, List.not_mem_nil, or_false] at hq; rcases hq with rfl | rfl | rfl <;> rfl) (ih (k + 1) s _ (by omega) hP hI hT hD hS hX hZ)
    · refine am_goX 2 (show am_sh h 36 = some (6, 0) ∧ pz_S 3 none am_r108 1 Q 20 [(0, .ref 36), (1, .int x), (2, .int (nI k))] [am_rf (h.2.2.1 36 3)] h from ⟨ex_36 hP, ?_⟩)
      rw [show am_rf (h.2.2.1 36 3) = .ref 38 from congrArg am_rf (ex_r36_3 hP)]
      refine am_goX 3 (show (Value.int (nI k)).category = 1 ∧ (Value.ref 38).category = 1 ∧ ∃ jj nn : Nat, am_sh h 38 = some (13, nn) ∧ jj < nn ∧ nI k = nI jj ∧ pz_S 3 none am_r108 1 Q 23 [(0, .ref 36), (1, .int x), (2, .int (nI k))] [.int (h.1 38 jj), .int (nI k), .ref 38] h from ⟨rfl, rfl, ⟨k, 6, ex_38 hP, (by omega), rfl, ?_⟩⟩)
      rw [show h.1 38 k = s.2.2.2.1 k from (hS.2.1 k (by omega)).2]
      refine am_goX 9 (show ∃ jj nn : Nat, am_so h 38 = some (13, nn) ∧ jj < nn ∧ nI k = nI jj ∧ pz_S 3 none am_r108 1 Q 32 [(0, .ref 36), (1, .int x), (2, .int (nI k))] [] (am_wI h 38 jj ((s.2.2.2.1 k) ||| (x &&& (((Int32.ofInt 1) <<< ((nI k) &&& 31)) ^^^ (Int32.ofInt (-1)))))) from ⟨k, 6, ex_w38 hP, (by omega), rfl, ?_⟩)
      have f289 : ex_P (am_wI h 38 k ((s.2.2.2.1 k) ||| (x &&& (((Int32.ofInt 1) <<< ((nI k) &&& 31)) ^^^ (Int32.ofInt (-1)))))) := hP
      have f290 : cI C := hI
      have f291 : c_v 17 C (am_wI h 38 k ((s.2.2.2.1 k) ||| (x &&& (((Int32.ofInt 1) <<< ((nI k) &&& 31)) ^^^ (Int32.ofInt (-1)))))) := c_v_w (by omega) hT
      have f292 : c_d 17 C (am_wI h 38 k ((s.2.2.2.1 k) ||| (x &&& (((Int32.ofInt 1) <<< ((nI k) &&& 31)) ^^^ (Int32.ofInt (-1)))))) := c_d_w (by omega) hD
      have f293 : sC 36 (sSM s k ((s.2.2.2.1 k) ||| (x &&& (((Int32.ofInt 1) <<< ((nI k) &&& 31)) ^^^ (Int32.ofInt (-1)))))) (am_wI h 38 k ((s.2.2.2.1 k) ||| (x &&& (((Int32.ofInt 1) <<< ((nI k) &&& 31)) ^^^ (Int32.ofInt (-1)))))) := sC_wM (by omega) hS
      have f294 : fC 17 h0 (am_wI h 38 k ((s.2.2.2.1 k) ||| (x &&& (((Int32.ofInt 1) <<< ((nI k) &&& 31)) ^^^ (Int32.ofInt (-1)))))) := fC_w (by omega) hX
      generalize am_wI h 38 k ((s.2.2.2.1 k) ||| (x &&& (((Int32.ofInt 1) <<< ((nI k) &&& 31)) ^^^ (Int32.ofInt (-1))))) = h288 at f289 f290 f291 f292 f293 f294 ⊢
      refine am_goX 2 (show 2 < 3 ∧ pz_S 3 none am_r108 1 Q 2 [(2, .int ((nI k) + (Int32.ofInt 1))), (0, .ref 36), (1, .int x)] [] h288 from ⟨by decide, ?_⟩)
      rw [show d_108_2 x (m + 1) k s = d_108_2 x m (k + 1) (sSM s k ((s.2.2.2.1 k) ||| (x &&& (((Int32.ofInt 1) <<< ((nI k) &&& 31)) ^^^ (Int32.ofInt (-1)))))) from if_neg c287] at hZ
      rw [show (nI k) + (Int32.ofInt 1) = nI (k + 1) from (dn_a rfl rfl)]
      exact sv_S2 sv2_108 (by intro q hq; simp only [List.mem_cons, List.not_mem_nil, or_false] at hq; rcases hq with rfl | rfl | rfl <;> rfl) (ih (k + 1) (sSM s k ((s.2.2.2.1 k) ||| (x &&& (((Int32.ofInt 1) <<< ((nI k) &&& 31)) ^^^ (Int32.ofInt (-1)))))) _ (by omega) f289 f290 f291 f292 f293 f294 hZ)
theorem d_108_t17_36 (hP : ex_P h) (hI : cI C) (hT : c_v 17 C h) (hD : c_d 17 C h) (hS : sC 36 s h) (hX : fC 17 h0 h)  (hQ : ∀ h1, (ex_P h1) → (cI C) → (c_v 17 C h1) → (c_d 17 C h1) → (sC 36 (d_108_s s x) h1) → (fC 17 h0 h1) → Q none h1) : am_call am_cod 2 108 [.ref 36, .int x] h Q := by
  have h6 := hT.1.2.1
  have h5 := hT.2.1.2.1
  refine pz_call (n := 108) (nL := 3) (rt := none) (rows := am_r108) (d := 1) (by decide +kernel) (by decide +kernel) rfl (by funext pc; rfl) (ex_175 hP) (by exact Nat.le_of_ble_eq_true rfl) ?_
  refine am_goX 2 (show 2 < 3 ∧ pz_S 3 none am_r108 1 Q 2 [(2, .int (Int32.ofInt 0)), (0, .ref 36), (1, .int x)] [] h from ⟨by decide, ?_⟩)
  refine sv_S2 sv2_108 (by intro q hq; simp only [List.mem_cons, List.not_mem_nil, or_false] at hq; rcases hq with rfl | rfl | rfl <;> rfl) (d_108_2_t17_36 6 0 s _ (by omega) hP hI hT hD hS hX (fun h295 f296 f297 f298 f299 f300 f301 => ?_))
  exact am_goX 1 (show (none : Option FieldType) = none ∧ h295.2.2.2.2 = 175 ∧ _ from ⟨rfl, ex_175 f296, hQ _ f296 f297 f298 f299 f300 f301⟩)
theorem d_100_21_t17_36 : ∀ (m k : Nat) (a3 : Int32) (s : dS) (h : am_H), k + m = dE C → (ex_P h) → (cI C) → (c_v 17 C h) → (c_d 17 C h) → (sC 36 s h) → (fC 17 h0 h) → (∀ h1, (ex_P h1) → (cI C) → (c_v 17 C h1) → (c_d 17 C h1) → (sC 36 ((d_100_21 C m k a3 s).2) h1) → (fC 17 h0 h1) → pz_S 5 (some .int) am_r100 5 Q 85 [(3, .int ((d_100_21 C m k a3 s).1))] [] h1) → pz_S 5 (some .int) am_r100 5 Q 21 [(0, .ref 17), (1, .ref 36), (3, .int a3), (4, .int (nI k))] [] h := by
  intro m
  induction m with
  | zero =>
    intro k a3 s h hk hP hI hT hD hS hX hZ
    have h6 := hT.1.2.1
    have h5 := hT.2.1.2.1
    refine am_goX 3 (show am_sh h 17 = some (0, 0) ∧ pz_S 5 (some .int) am_r100 5 Q 27 [(0, .ref 17), (1, .ref 36), (3, .int a3), (4, .int (nI k))] [.int (h.1 17 4), .int (nI k)] h from ⟨ex_17 hP, ?_⟩)
    rw [show h.1 17 4 = nI (dE C) from hT.2.1.1]
    refine am_goX 1 (show ((nI (dE C)) ≤ (nI k) → pz_S 5 (some .int) am_r100 5 Q 85 [(0, .ref 17), (1, .ref 36), (3, .int a3), (4, .int (nI k))] [] h) ∧ (¬ ((nI (dE C)) ≤ (nI k)) → pz_S 5 (some .int) am_r100 5 Q 30 [(0, .ref 17), (1, .ref 36), (3, .int a3), (4, .int (nI k))] [] h) from ⟨fun _ => ?_, fun hz => absurd (show nI (dE C) ≤ nI k from nI_le (by omega) (by omega)) hz⟩)
    exact sv_S2 sv2_100 (by intro q hq; simp only [List.mem_cons, List.not_mem_nil, or_false] at hq; rcases hq with rfl <;> rfl) (hZ _ hP hI hT hD hS hX)
  | succ m ih =>
    intro k a3 s h hk hP hI hT hD hS hX hZ
    have h6 := hT.1.2.1
    have h5 := hT.2.1.2.1
    refine am_goX 3 (show am_sh h 17 = some (0, 0) ∧ pz_S 5 (some .int) am_r100 5 Q 27 [(0, .ref 17), (1, .ref 36), (3, .int a3), (4, .int (nI k))] [.int (h.1 17 4), .int (nI k)] h from ⟨ex_17 hP, ?_⟩)
    rw [show h.1 17 4 = nI (dE C) from hT.2.1.1]
    refine am_goX 1 (show ((nI (dE C)) ≤ (nI k) → pz_S 5 (some .int) am_r100 5 Q 85 [(0, .ref 17), (1, .ref 36), (3, .int a3), (4, .int (nI k))] [] h) ∧ (¬ ((nI (dE C)) ≤ (nI k)) → pz_S 5 (some .int) am_r100 5 Q 30 [(0, .ref 17), (1, .ref 36), (3, .int a3), (4, .int (nI k))] [] h) from ⟨fun hz => absurd hz (show ¬ (nI (dE C) ≤ nI k) by rw [nI_leI (by omega) (by omega)]; omega), fun _ => ?_⟩)
    refine am_goX 3 (show am_sh h 36 = some (6, 0) ∧ pz_S 5 (some .int) am_r100 5 Q 35 [(0, .ref 17), (1, .ref 36), (3, .int a3), (4, .int (nI k))] [am_rf (h.2.2.1 36 5), .ref 36] h from ⟨ex_36 hP, ?_⟩)
    rw [show am_rf (h.2.2.1 36 5) = .ref 40 from congrArg am_rf (ex_r36_5 hP)]
    refine am_goX 2 (show ∃ jj nn : Nat, am_sh h 40 = some (13, nn) ∧ jj < nn ∧ nI k = nI jj ∧ pz_S 5 (some .int) am_r100 5 Q 38 [(0, .ref 17), (1, .ref 36), (3, .int a3), (4, .int (nI k))] [.int (h.1 40 jj), .ref 36] h from ⟨k, 5, ex_40 hP, (by omega), rfl, ?_⟩)
    rw [show h.1 40 k = s.2.2.2.2.2 k from (hS.2.2 k (by omega)).2]
    refine am_goX 1 (show am_rc h 36 6 ∧ 0 ≤ 8 ∧ h.2.2.2.2 + am_al 108 ≤ 175 ∧ am_call am_cod 5 108 [.ref 36, .int (s.2.2.2.2.2 k)] h (fun vv h' => pz_S 5 (some .int) am_r100 5 Q 41 [(0, .ref 17), (1, .ref 36), (3, .int a3), (4, .int (nI k))] (vv.toList ++ []) h') from ⟨Or.inl ⟨by decide, ex_36 hP⟩, by decide, ex_lim hP rfl, am_call.up (d_108_t17_36 hP hI hT hD hS hX (fun h316 f317 f318 f319 f320 f321 f322 => ?_)) (by decide)⟩)
    refine am_goX 2 (show am_sh h316 36 = some (6, 0) ∧ pz_S 5 (some .int) am_r100 5 Q 45 [(0, .ref 17), (1, .ref 36), (3, .int a3), (4, .int (nI k))] [am_rf (h316.2.2.1 36 5)] h316 from ⟨ex_36 f317, ?_⟩)
    rw [show am_rf (h316.2.2.1 36 5) = .ref 40 from congrArg am_rf (ex_r36_5 f317)]
    refine am_goX 2 (show ∃ jj nn : Nat, am_sh h316 40 = some (13, nn) ∧ jj < nn ∧ nI k = nI jj ∧ pz_S 5 (some .int) am_r100 5 Q 48 [(0, .ref 17), (1, .ref 36), (3, .int a3), (4, .int (nI k))] [.int (h316.1 40 jj)] h316 from ⟨k, 5, ex_40 f317, (by omega), rfl, ?_⟩)
    rw [show h316.1 40 k = (d_108_s s (s.2.2.2.2.2 k)).2.2.2.2.2 k from (f321.2.2 k (by omega)).2]
    refine am_goX 1 (show 0 ≤ 8 ∧ h316.2.2.2.2 + am_al 69 ≤ 175 ∧ am_call am_cod 5 69 [.int ((d_108_s s (s.2.2.2.2.2 k)).2.2.2.2.2 k)] h316 (fun vv h' => pz_S 5 (some .int) am_r100 5 Q 51 [(0, .ref 17), (1, .ref 36), (3, .int a3), (4, .int (nI k))] (vv.toList ++ []) h') from ⟨by decide, ex_lim f317 rfl, am_call.up (d_69_w f317 ?_) (by decide)⟩)
    refine am_goX 2 (show am_sh h316 17 = some (0, 0) ∧ pz_S 5 (some .int) am_r100 5 Q 55 [(0, .ref 17), (1, .ref 36), (3, .int a3), (4, .int (nI k))] [am_rf (h316.2.2.1 17 7), .int (d_69 ((d_108_s s (s.2.2.2.2.2 k)).2.2.2.2.2 k))] h316 from ⟨ex_17 f317, ?_⟩)
    rw [show am_rf (h316.2.2.1 17 7) = .ref 23 from congrArg am_rf (ex_r17_7 f317)]
    refine am_goX 2 (show ∃ jj nn : Nat, am_sh h316 23 = some (13, nn) ∧ jj < nn ∧ nI k = nI jj ∧ pz_S 5 (some .int) am_r100 5 Q 58 [(0, .ref 17), (1, .ref 36), (3, .int a3), (4, .int (nI k))] [.int (h316.1 23 jj), .int (d_69 ((d_108_s s (s.2.2.2.2.2 k)).2.2.2.2.2 k))] h316 from ⟨k, 5, ex_23 f317, (by omega), rfl, ?_⟩)
    rw [show h316.1 23 k = dN C k from (f319.2.1.2.2 k (by omega)).1]
    refine am_goX 1 (show ((d_69 ((d_108_s s (s.2.2.2.2.2 k)).2.2.2.2.2 k)) < (dN C k) → pz_S 5 (some .int) am_r100 5 Q 79 [(0, .ref 17), (1, .ref 36), (3, .int a3), (4, .int (nI k))] [] h316) ∧ (¬ ((d_69 ((d_108_s s (s.2.2.2.2.2 k)).2.2.2.2.2 k)) < (dN C k)) → pz_S 5 (some .int) am_r100 5 Q 61 [(0, .ref 17), (1, .ref 36), (3, .int a3), (4, .int (nI k))] [] h316) from ⟨fun c323 => ?_, fun c323 => ?_⟩)
    · refine am_goX 2 (show 4 < 5 ∧ pz_S 5 (some .int) am_r100 5 Q 21 [(4, .int ((nI k) + (Int32.ofInt 1))), (0, .ref 17), (1, .ref 36), (3, .int a3)] [] h316 from ⟨by decide, ?_⟩)
      rw [show d_100_21 C (m + 1) k a3 s = d_100_21 C m (k + 1) a3 (d_108_s s (s.2.2.2.2.2 k)) from if_pos c323] at hZ
      rw [show (nI k) + (Int32.ofInt 1) = nI (k + 1) from (dn_a rfl rfl)]
      exact sv_S2 sv2_100 (by intro q hq; simp only [List.mem_cons, List.not_mem_nil, or_false] at hq; rcases hq with rfl | rfl | rfl | rfl <;> rfl) (ih (k + 1) a3 (d_108_s s (s.2.2.2.2.2 k)) _ (by omega) f317 f318 f319 f320 f321 f322 hZ)
    · refine am_goX 2 (show am_sh h316 36 = some (6, 0) ∧ pz_S 5 (some .int) am_r100 5 Q 65 [(0, .ref 17), (1, .ref 36), (3, .int a3), (4, .int (nI k))] [am_rf (h316.2.2.1 36 4)] h316 from ⟨ex_36 f317, ?_⟩)
      rw [show am_rf (h316.2.2.1 36 4) = .ref 39 from congrArg am_rf (ex_r36_4 f317)]
      refine am_goX 3 (show (Value.int (nI k)).category = 1 ∧ (Value.ref 39).category = 1 ∧ ∃ jj nn : Nat, am_sh h316 39 = some (13, nn) ∧ jj < nn ∧ nI k = nI jj ∧ pz_S 5 (some .int) am_r100 5 Q 69 [(0, .ref 17), (1, .ref 36), (3, .int a3), (4, .int (nI k))] [.int (h316.1 39 jj), .int (nI k), .ref 39] h316 from ⟨rfl, rfl, ⟨k, 5, ex_39 f317, (by omega), rfl, ?_⟩⟩)
      rw [show h316.1 39 k = (d_108_s s (s.2.2.2.2.2 k)).2.2.2.2.1 k from (f321.2.2 k (by omega)).1]
      refine am_goX 3 (show ∃ jj nn : Nat, am_so h316 39 = some (13, nn) ∧ jj < nn ∧ nI k = nI jj ∧ pz_S 5 (some .int) am_r100 5 Q 72 [(0, .ref 17), (1, .ref 36), (3, .int a3), (4, .int (nI k))] [] (am_wI h316 39 jj (((d_108_s s (s.2.2.2.2.2 k)).2.2.2.2.1 k) + (Int32.ofInt 1))) from ⟨k, 5, ex_w39 f317, (by omega), rfl, ?_⟩)
      have f325 : ex_P (am_wI h316 39 k (((d_108_s s (s.2.2.2.2.2 k)).2.2.2.2.1 k) + (Int32.ofInt 1))) := f317
      have f326 : cI C := f318
      have f327 : c_v 17 C (am_wI h316 39 k (((d_108_s s (s.2.2.2.2.2 k)).2.2.2.2.1 k) + (Int32.ofInt 1))) := c_v_w (by omega) f319
      have f328 : c_d 17 C (am_wI h316 39 k (((d_108_s s (s.2.2.2.2.2 k)).2.2.2.2.1 k) + (Int32.ofInt 1))) := c_d_w (by omega) f320
      have f329 : sC 36 (sSH (d_108_s s (s.2.2.2.2.2 k)) k (((d_108_s s (s.2.2.2.2.2 k)).2.2.2.2.1 k) + (Int32.ofInt 1))) (am_wI h316 39 k (((d_108_s s (s.2.2.2.2.2 k)).2.2.2.2.1 k) + (Int32.ofInt 1))) := sC_wH (by omega) f321
      have f330 : fC 17 h0 (am_wI h316 39 k (((d_108_s s (s.2.2.2.2.2 k)).2.2.2.2.1 k) + (Int32.ofInt 1))) := fC_w (by omega) f322
      generalize am_wI h316 39 k (((d_108_s s (s.2.2.2.2.2 k)).2.2.2.2.1 k) + (Int32.ofInt 1)) = h324 at f325 f326 f327 f328 f329 f330 ⊢
      refine am_goX 8 (show 3 < 5 ∧ 4 < 5 ∧ pz_S 5 (some .int) am_r100 5 Q 21 [(4, .int ((nI k) + (Int32.ofInt 1))), (3, .int (a3 ||| ((Int32.ofInt 1) <<< ((nI k) &&& 31)))), (0, .ref 17), (1, .ref 36)] [] h324 from ⟨by decide, by decide, ?_⟩)
      rw [show d_100_21 C (m + 1) k a3 s = d_100_21 C m (k + 1) (a3 ||| ((Int32.ofInt 1) <<< ((nI k) &&& 31))) (sSH (d_108_s s (s.2.2.2.2.2 k)) k (((d_108_s s (s.2.2.2.2.2 k)).2.2.2.2.1 k) + (Int32.ofInt 1))) from if_neg c323] at hZ
      rw [show (nI k) + (Int32.ofInt 1) = nI (k + 1) from (dn_a rfl rfl)]
      exact sv_S2 sv2_100 (by intro q hq; simp only [List.mem_cons, List.not_mem_nil, or_false] at hq; rcases hq with rfl | rfl | rfl | rfl <;> rfl) (ih (k + 1) (a3 ||| ((Int32.ofInt 1) <<< ((nI k) &&& 31))) (sSH (d_108_s s (s.2.2.2.2.2 k)) k (((d_108_s s (s.2.2.2.2.2 k)).2.2.2.2.1 k) + (Int32.ofInt 1))) _ (by omega) f325 f326 f327 f328 f329 f330 hZ)
theorem d_100_t17_36 (hP : ex_P h) (hI : cI C) (hT : c_v 17 C h) (hD : c_d 17 C h) (hS : sC 36 s h) (hX : fC 17 h0 h)  (hQ : ∀ h1, (ex_P h1) → (cI C) → (c_v 17 C h1) → (c_d 17 C h1) → (sC 36 (d_100_s C s w) h1) → (fC 17 h0 h1) → Q (some (.int (d_100 C s w))) h1) : am_call am_cod 6 100 [.ref 17, .ref 36, .int w] h Q := by
  have h6 := hT.1.2.1
  have h5 := hT.2.1.2.1
  refine pz_call (n := 100) (nL := 5) (rt := (some .int)) (rows := am_r100) (d := 5) (by decide +kernel) (by decide +kernel) rfl (by funext pc; rfl) (ex_175 hP) (by exact Nat.le_of_ble_eq_true rfl) ?_
  refine am_goX 3 (show (Value.ref 36).category = 1 ∧ am_sh h 36 = some (6, 0) ∧ pz_S 5 (some .int) am_r100 5 Q 5 [(0, .ref 17), (1, .ref 36), (2, .int w)] [.int (h.1 36 0), .ref 36] h from ⟨rfl, ex_36 hP, ?_⟩)
  rw [show h.1 36 0 = s.1 from hS.1.1]
  refine am_goX 3 (show am_sh h 36 = some (6, 0) ∧ narrow (am_fty 6 0) (.int (s.1 + (Int32.ofInt 1))) = .int (s.1 + (Int32.ofInt 1)) ∧ fits (am_fty 6 0) (.int (s.1 + (Int32.ofInt 1))) = true ∧ pz_S 5 (some .int) am_r100 5 Q 10 [(0, .ref 17), (1, .ref 36), (2, .int w)] [] (am_wI h 36 0 (s.1 + (Int32.ofInt 1))) from ⟨ex_36 hP, rfl, rfl, ?_⟩)
  have f303 : ex_P (am_wI h 36 0 (s.1 + (Int32.ofInt 1))) := hP
  have f304 : cI C := hI
  have f305 : c_v 17 C (am_wI h 36 0 (s.1 + (Int32.ofInt 1))) := c_v_w (by omega) hT
  have f306 : c_d 17 C (am_wI h 36 0 (s.1 + (Int32.ofInt 1))) := c_d_w (by omega) hD
  have f307 : sC 36 (sSD s (s.1 + (Int32.ofInt 1))) (am_wI h 36 0 (s.1 + (Int32.ofInt 1))) := sC_wD (by omega) hS
  have f308 : fC 17 h0 (am_wI h 36 0 (s.1 + (Int32.ofInt 1))) := fC_w (by omega) hX
  generalize am_wI h 36 0 (s.1 + (Int32.ofInt 1)) = h302 at f303 f304 f305 f306 f307 f308 ⊢
  refine am_goX 4 (show am_rc h302 17 0 ∧ 0 ≤ 8 ∧ h302.2.2.2.2 + am_al 101 ≤ 175 ∧ am_call am_cod 5 101 [.ref 17, .ref 36, .int w] h302 (fun vv h' => pz_S 5 (some .int) am_r100 5 Q 16 [(0, .ref 17), (1, .ref 36), (2, .int w)] (vv.toList ++ []) h') from ⟨Or.inl ⟨by decide, ex_17 f303⟩, by decide, ex_lim f303 rfl, am_call.up (d_101_t17_36 f303 f304 f305 f306 f307 f308 (fun h309 f310 f311 f312 f313 f314 f315 => ?_)) (by decide)⟩)
  refine am_goX 4 (show 3 < 5 ∧ 4 < 5 ∧ pz_S 5 (some .int) am_r100 5 Q 21 [(4, .int (Int32.ofInt 0)), (3, .int (Int32.ofInt 0)), (0, .ref 17), (1, .ref 36), (2, .int w)] [] h309 from ⟨by decide, by decide, ?_⟩)
  refine sv_S2 sv2_100 (by intro q hq; simp only [List.mem_cons, List.not_mem_nil, or_false] at hq; rcases hq with rfl | rfl | rfl | rfl <;> rfl) (d_100_21_t17_36 (dE C) 0 (Int32.ofInt 0) (d_101_s C (sSD s (s.1 + (Int32.ofInt 1))) w) _ (by omega) f310 f311 f312 f313 f314 f315 (fun h331 f332 f333 f334 f335 f336 f337 => ?_))
  exact am_goX 2 (show (∃ ty, (some .int) = some ty ∧ narrow ty (.int ((d_100_21 C (dE C) 0 (Int32.ofInt 0) (d_101_s C (sSD s (s.1 + (Int32.ofInt 1))) w)).1)) = .int ((d_100_21 C (dE C) 0 (Int32.ofInt 0) (d_101_s C (sSD s (s.1 + (Int32.ofInt 1))) w)).1)) ∧ h331.2.2.2.2 = 175 ∧ _ from ⟨⟨.int, rfl, rfl⟩, ex_175 f332, hQ _ f332 f333 f334 f335 f336 f337⟩)
theorem d_89_t17_41 (hP : ex_P h) (hI : cI C) (hT : c_v 17 C h) (hD : c_d 17 C h) (hR : h.2.2.1 0 3 = some 17) (hN : sC 36 u h) (hS : sC 41 s h) (hp : p < dP C) (hQ : Q (some (.int (d_89 C s p))) h) : am_call am_cod 1 89 [.ref 17, .int (nI p), .ref 41] h Q := by
  have h6 := hT.1.2.1
  have h5 := hT.2.1.2.1
  refine pz_call (n := 89) (nL := 3) (rt := (some .int)) (rows := am_r89) (d := 0) (by decide +kernel) (by decide +kernel) rfl (by funext pc; rfl) (ex_175 hP) (by exact Nat.le_of_ble_eq_true rfl) ?_
  refine am_goX 2 (show am_sh h 17 = some (0, 0) ∧ pz_S 3 (some .int) am_r89 0 Q 4 [(0, .ref 17), (1, .int (nI p)), (2, .ref 41)] [am_rf (h.2.2.1 17 2)] h from ⟨ex_17 hP, ?_⟩)
  rw [show am_rf (h.2.2.1 17 2) = .ref 19 from congrArg am_rf (ex_r17_2 hP)]
  refine am_goX 2 (show ∃ jj nn : Nat, am_sh h 19 = some (13, nn) ∧ jj < nn ∧ nI p = nI jj ∧ pz_S 3 (some .int) am_r89 0 Q 6 [(0, .ref 17), (1, .int (nI p)), (2, .ref 41)] [.int (h.1 19 jj)] h from ⟨p, 6, ex_19 hP, (by omega), rfl, ?_⟩)
  rw [show h.1 19 p = dK C p from (hT.1.2.2 p (by omega)).1]
  suffices key : ∀ (v339 : Int32), v339 = (if ¬ (dK C p) = (Int32.ofInt 3) then (s.2.2.1 p) - (Int32.ofInt 2) else Int32.ofInt 0) → pz_S 3 (some .int) am_r89 0 Q 22 [] [.int v339] h by
    refine am_goX 2 (show (¬ (dK C p) = (Int32.ofInt 3) → pz_S 3 (some .int) am_r89 0 Q 14 [(0, .ref 17), (1, .int (nI p)), (2, .ref 41)] [] h) ∧ (¬ ¬ (dK C p) = (Int32.ofInt 3) → pz_S 3 (some .int) am_r89 0 Q 10 [(0, .ref 17), (1, .int (nI p)), (2, .ref 41)] [] h) from ⟨fun c338 => ?_, fun c338 => ?_⟩)
    · refine am_goX 2 (show am_sh h 41 = some (6, 0) ∧ pz_S 3 (some .int) am_r89 0 Q 18 [(0, .ref 17), (1, .int (nI p)), (2, .ref 41)] [am_rf (h.2.2.1 41 2)] h from ⟨ex_41 hP, ?_⟩)
      rw [show am_rf (h.2.2.1 41 2) = .ref 42 from congrArg am_rf (ex_r41_2 hP)]
      refine am_goX 2 (show ∃ jj nn : Nat, am_sh h 42 = some (13, nn) ∧ jj < nn ∧ nI p = nI jj ∧ pz_S 3 (some .int) am_r89 0 Q 20 [(0, .ref 17), (1, .int (nI p)), (2, .ref 41)] [.int (h.1 42 jj)] h from ⟨p, 6, ex_42 hP, (by omega), rfl, ?_⟩)
      rw [show h.1 42 p = s.2.2.1 p from (hS.2.1 p (by omega)).1]
      refine am_goX 2 (show pz_S 3 (some .int) am_r89 0 Q 22 [(0, .ref 17), (1, .int (nI p)), (2, .ref 41)] [.int ((s.2.2.1 p) - (Int32.ofInt 2))] h from ?_)
      exact sv_S2 sv2_89 (fun q hq => absurd hq List.not_mem_nil) (key _ (if_pos c338).symm)
    · refine am_goX 2 (show pz_S 3 (some .int) am_r89 0 Q 22 [(0, .ref 17), (1, .int (nI p)), (2, .ref 41)] [.int (Int32.ofInt 0)] h from ?_)
      exact sv_S2 sv2_89 (fun q hq => absurd hq List.not_mem_nil) (key _ (if_neg c338).symm)
  intro v339 e340
  subst e340
  exact am_goX 1 (show (∃ ty, (some .int) = some ty ∧ narrow ty (.int (if ¬ (dK C p) = (Int32.ofInt 3) then (s.2.2.1 p) - (Int32.ofInt 2) else Int32.ofInt 0)) = .int (if ¬ (dK C p) = (Int32.ofInt 3) then (s.2.2.1 p) - (Int32.ofInt 2) else Int32.ofInt 0)) ∧ h.2.2.2.2 = 175 ∧ _ from ⟨⟨.int, rfl, rfl⟩, ex_175 hP, hQ⟩)
theorem d_88_t17_41 (hP : ex_P h) (hI : cI C) (hT : c_v 17 C h) (hD : c_d 17 C h) (hR : h.2.2.1 0 3 = some 17) (hN : sC 36 u h) (hS : sC 41 s h) (hp : p < dP C) (hQ : Q (some (.int (d_88 C s p w))) h) : am_call am_cod 2 88 [.ref 17, .int (nI p), .ref 41, .int w] h Q := by
  have h6 := hT.1.2.1
  have h5 := hT.2.1.2.1
  refine pz_call (n := 88) (nL := 5) (rt := (some .int)) (rows := am_r88) (d := 1) (by decide +kernel) (by decide +kernel) rfl (by funext pc; rfl) (ex_175 hP) (by exact Nat.le_of_ble_eq_true rfl) ?_
  suffices key : ∀ (v342 : Int32), v342 = (if w = 0 then d_89 C s p else Int32.ofInt 0) → pz_S 5 (some .int) am_r88 1 Q 14 [(2, .ref 41)] [.int v342] h by
    refine am_goX 2 (show (w = 0 → pz_S 5 (some .int) am_r88 1 Q 8 [(0, .ref 17), (1, .int (nI p)), (2, .ref 41), (3, .int w)] [] h) ∧ (¬ (w = 0) → pz_S 5 (some .int) am_r88 1 Q 4 [(0, .ref 17), (1, .int (nI p)), (2, .ref 41), (3, .int w)] [] h) from ⟨fun c341 => ?_, fun c341 => ?_⟩)
    · refine am_goX 4 (show am_rc h 17 0 ∧ 0 ≤ 8 ∧ h.2.2.2.2 + am_al 89 ≤ 175 ∧ am_call am_cod 1 89 [.ref 17, .int (nI p), .ref 41] h (fun vv h' => pz_S 5 (some .int) am_r88 1 Q 14 [(0, .ref 17), (1, .int (nI p)), (2, .ref 41), (3, .int w)] (vv.toList ++ []) h') from ⟨Or.inl ⟨by decide, ex_17 hP⟩, by decide, ex_lim hP rfl, am_call.up (d_89_t17_41 hP hI hT hD hR hN hS (by omega) ?_) (by decide)⟩)
      exact sv_S2 sv2_88 (by intro q hq; simp only [List.mem_cons, List.not_mem_nil, or_false] at hq; rcases hq with rfl <;> rfl) (key _ (if_pos c341).symm)
    · refine am_goX 2 (show pz_S 5 (some .int) am_r88 1 Q 14 [(0, .ref 17), (1, .int (nI p)), (2, .ref 41), (3, .int w)] [.int (Int32.ofInt 0)] h from ?_)
      exact sv_S2 sv2_88 (by intro q hq; simp only [List.mem_cons, List.not_mem_nil, or_false] at hq; rcases hq with rfl <;> rfl) (key _ (if_neg c341).symm)
  intro v342 e343
  subst e343
  refine am_goX 3 (show 4 < 5 ∧ am_sh h 41 = some (6, 0) ∧ pz_S 5 (some .int) am_r88 1 Q 20 [(4, .int (if w = 0 then d_89 C s p else Int32.ofInt 0)), (2, .ref 41)] [.int (h.1 41 0)] h from ⟨by decide, ex_41 hP, ?_⟩)
  rw [show h.1 41 0 = s.1 from hS.1.1]
  refine am_goX 4 (show 0 ≤ 8 ∧ h.2.2.2.2 + am_al 90 ≤ 175 ∧ am_call am_cod 1 90 [.int (s.1 + (if w = 0 then d_89 C s p else Int32.ofInt 0)), .int ((Int8.ofInt 7).toInt32)] h (fun vv h' => pz_S 5 (some .int) am_r88 1 Q 28 [(4, .int (if w = 0 then d_89 C s p else Int32.ofInt 0)), (2, .ref 41)] (vv.toList ++ []) h') from ⟨by decide, ex_lim hP rfl, am_call.up (d_90_w hP ?_) (by decide)⟩)
  exact am_goX 1 (show (∃ ty, (some .int) = some ty ∧ narrow ty (.int (d_90 (s.1 + (if w = 0 then d_89 C s p else Int32.ofInt 0)))) = .int (d_90 (s.1 + (if w = 0 then d_89 C s p else Int32.ofInt 0)))) ∧ h.2.2.2.2 = 175 ∧ _ from ⟨⟨.int, rfl, rfl⟩, ex_175 hP, hQ⟩)
theorem d_104_t17_41 (hP : ex_P h) (hI : cI C) (hT : c_v 17 C h) (hD : c_d 17 C h) (hR : h.2.2.1 0 3 = some 17) (hN : sC 36 u h) (hS : sC 41 s h) (hp : p < dP C) (hQ : ∀ h1, (ex_P h1) → (cI C) → (c_v 17 C h1) → (c_d 17 C h1) → (h1.2.2.1 0 3 = some 17) → (sC 36 u h1) → (sC 41 s h1) → Q (some (.int (d_104 C s p w))) h1) : am_call am_cod 4 104 [.ref 17, .int (nI p), .ref 41, .int w] h Q := by
  have h6 := hT.1.2.1
  have h5 := hT.2.1.2.1
  refine pz_call (n := 104) (nL := 5) (rt := (some .boolean)) (rows := am_r104) (d := 3) (by decide +kernel) (by decide +kernel) rfl (by funext pc; rfl) (ex_175 hP) (by exact Nat.le_of_ble_eq_true rfl) ?_
  refine am_goX 2 (show am_sh h 41 = some (6, 0) ∧ pz_S 5 (some .boolean) am_r104 3 Q 4 [(0, .ref 17), (1, .int (nI p)), (2, .ref 41), (3, .int w)] [am_rf (h.2.2.1 41 3)] h from ⟨ex_41 hP, ?_⟩)
  rw [show am_rf (h.2.2.1 41 3) = .ref 43 from congrArg am_rf (ex_r41_3 hP)]
  refine am_goX 2 (show ∃ jj nn : Nat, am_sh h 43 = some (13, nn) ∧ jj < nn ∧ nI p = nI jj ∧ pz_S 5 (some .boolean) am_r104 3 Q 6 [(0, .ref 17), (1, .int (nI p)), (2, .ref 41), (3, .int w)] [.int (h.1 43 jj)] h from ⟨p, 6, ex_43 hP, (by omega), rfl, ?_⟩)
  rw [show h.1 43 p = s.2.2.2.1 p from (hS.2.1 p (by omega)).2]
  refine am_goX 1 (show 0 ≤ 8 ∧ h.2.2.2.2 + am_al 69 ≤ 175 ∧ am_call am_cod 3 69 [.int (s.2.2.2.1 p)] h (fun vv h' => pz_S 5 (some .boolean) am_r104 3 Q 9 [(0, .ref 17), (1, .int (nI p)), (2, .ref 41), (3, .int w)] (vv.toList ++ []) h') from ⟨by decide, ex_lim hP rfl, am_call.up (d_69_w hP ?_) (by decide)⟩)
  refine am_goX 3 (show 4 < 5 ∧ am_sh h 17 = some (0, 0) ∧ pz_S 5 (some .boolean) am_r104 3 Q 15 [(4, .int (d_69 (s.2.2.2.1 p))), (0, .ref 17), (1, .int (nI p)), (2, .ref 41), (3, .int w)] [am_rf (h.2.2.1 17 12)] h from ⟨by decide, ex_17 hP, ?_⟩)
  rw [show am_rf (h.2.2.1 17 12) = .ref 25 from congrArg am_rf (ex_r17_12 hP)]
  refine am_goX 4 (show am_rc h 17 0 ∧ 1 ≤ 8 ∧ h.2.2.2.2 + am_al 89 ≤ 175 ∧ am_call am_cod 3 89 [.ref 17, .int (nI p), .ref 41] h (fun vv h' => pz_S 5 (some .boolean) am_r104 3 Q 21 [(4, .int (d_69 (s.2.2.2.1 p))), (0, .ref 17), (1, .int (nI p)), (2, .ref 41), (3, .int w)] (vv.toList ++ [.ref 25]) h') from ⟨Or.inl ⟨by decide, ex_17 hP⟩, by decide, ex_lim hP rfl, am_call.up (d_89_t17_41 hP hI hT hD hR hN hS (by omega) ?_) (by decide)⟩)
  refine am_goX 2 (show am_sh h 41 = some (6, 0) ∧ pz_S 5 (some .boolean) am_r104 3 Q 25 [(4, .int (d_69 (s.2.2.2.1 p))), (0, .ref 17), (1, .int (nI p)), (2, .ref 41), (3, .int w)] [.int (h.1 41 0), .int (d_89 C s p), .ref 25] h from ⟨ex_41 hP, ?_⟩)
  rw [show h.1 41 0 = s.1 from hS.1.1]
  suffices key : ∀ (v345 : Int32), v345 = (if w = 0 then Int32.ofInt 0 else Int32.ofInt 1) → pz_S 5 (some .boolean) am_r104 3 Q 39 [] [.int v345, .int (d_69 (s.2.2.2.1 p)), .int (s.1 / ((Int8.ofInt 7).toInt32)), .int (d_89 C s p), .ref 25] h by
    refine am_goX 5 (show ¬ ((Int8.ofInt 7).toInt32) = 0 ∧ (w = 0 → pz_S 5 (some .boolean) am_r104 3 Q 38 [(4, .int (d_69 (s.2.2.2.1 p))), (0, .ref 17), (1, .int (nI p)), (2, .ref 41), (3, .int w)] [.int (d_69 (s.2.2.2.1 p)), .int (s.1 / ((Int8.ofInt 7).toInt32)), .int (d_89 C s p), .ref 25] h) ∧ (¬ (w = 0) → pz_S 5 (some .boolean) am_r104 3 Q 34 [(4, .int (d_69 (s.2.2.2.1 p))), (0, .ref 17), (1, .int (nI p)), (2, .ref 41), (3, .int w)] [.int (d_69 (s.2.2.2.1 p)), .int (s.1 / ((Int8.ofInt 7).toInt32)), .int (d_89 C s p), .ref 25] h) from ⟨by decide, fun c344 => ?_, fun c344 => ?_⟩)
    · refine am_goX 1 (show pz_S 5 (some .boolean) am_r104 3 Q 39 [(4, .int (d_69 (s.2.2.2.1 p))), (0, .ref 17), (1, .int (nI p)), (2, .ref 41), (3, .int w)] [.int (Int32.ofInt 0), .int (d_69 (s.2.2.2.1 p)), .int (s.1 / ((Int8.ofInt 7).toInt32)), .int (d_89 C s p), .ref 25] h from ?_)
      exact sv_S2 sv2_104 (fun q hq => absurd hq List.not_mem_nil) (key _ (if_pos c344).symm)
    · refine am_goX 2 (show pz_S 5 (some .boolean) am_r104 3 Q 39 [(4, .int (d_69 (s.2.2.2.1 p))), (0, .ref 17), (1, .int (nI p)), (2, .ref 41), (3, .int w)] [.int (Int32.ofInt 1), .int (d_69 (s.2.2.2.1 p)), .int (s.1 / ((Int8.ofInt 7).toInt32)), .int (d_89 C s p), .ref 25] h from ?_)
      exact sv_S2 sv2_104 (fun q hq => absurd hq List.not_mem_nil) (key _ (if_neg c344).symm)
  intro v345 e346
  subst e346
  refine am_goX 1 (show am_rc h 25 3 ∧ 0 ≤ 8 ∧ h.2.2.2.2 + am_al 105 ≤ 175 ∧ am_call am_cod 3 105 [.ref 25, .int (d_89 C s p), .int (s.1 / ((Int8.ofInt 7).toInt32)), .int (d_69 (s.2.2.2.1 p)), .int (if w = 0 then Int32.ofInt 0 else Int32.ofInt 1)] h (fun vv h' => pz_S 5 (some .boolean) am_r104 3 Q 42 [] (vv.toList ++ []) h') from ⟨Or.inl ⟨by decide, ex_25 hP⟩, by decide, ex_lim hP rfl, am_call.up (q_105_17 hP hT (fun h347 l348 => ?_)) (by decide)⟩)
  have f349 : ex_P h347 := lfr_P l348 hP
  have f350 : cI C := hI
  have f351 : c_v 17 C h347 := lfr_c l348 (by omega) hT
  have f352 : c_d 17 C h347 := lfr_d l348 (by omega) hD
  have f353 : h347.2.2.1 0 3 = some 17 := (congrArg (fun q => q.2.1 0 3) l348.1).trans hR
  have f354 : sC 36 u h347 := lfr_s l348 (by omega) hN
  have f355 : sC 41 s h347 := lfr_s l348 (by omega) hS
  suffices key : ∀ (v357 : Int32), v357 = (if (dlaw C (d_89 C s p) (s.1 / ((Int8.ofInt 7).toInt32)) (d_69 (s.2.2.2.1 p)) (if w = 0 then Int32.ofInt 0 else Int32.ofInt 1)) = 0 then Int32.ofInt 0 else Int32.ofInt 1) → pz_S 5 (some .boolean) am_r104 3 Q 50 [] [.int v357] h347 by
    refine am_goX 1 (show ((dlaw C (d_89 C s p) (s.1 / ((Int8.ofInt 7).toInt32)) (d_69 (s.2.2.2.1 p)) (if w = 0 then Int32.ofInt 0 else Int32.ofInt 1)) = 0 → pz_S 5 (some .boolean) am_r104 3 Q 49 [] [] h347) ∧ (¬ ((dlaw C (d_89 C s p) (s.1 / ((Int8.ofInt 7).toInt32)) (d_69 (s.2.2.2.1 p)) (if w = 0 then Int32.ofInt 0 else Int32.ofInt 1)) = 0) → pz_S 5 (some .boolean) am_r104 3 Q 45 [] [] h347) from ⟨fun c356 => ?_, fun c356 => ?_⟩)
    · refine am_goX 1 (show pz_S 5 (some .boolean) am_r104 3 Q 50 [] [.int (Int32.ofInt 0)] h347 from ?_)
      exact sv_S2 sv2_104 (fun q hq => absurd hq List.not_mem_nil) (key _ (if_pos c356).symm)
    · refine am_goX 2 (show pz_S 5 (some .boolean) am_r104 3 Q 50 [] [.int (Int32.ofInt 1)] h347 from ?_)
      exact sv_S2 sv2_104 (fun q hq => absurd hq List.not_mem_nil) (key _ (if_neg c356).symm)
  intro v357 e358
  subst e358
  exact am_goX 1 (show (∃ ty, (some .boolean) = some ty ∧ narrow ty (.int (if (dlaw C (d_89 C s p) (s.1 / ((Int8.ofInt 7).toInt32)) (d_69 (s.2.2.2.1 p)) (if w = 0 then Int32.ofInt 0 else Int32.ofInt 1)) = 0 then Int32.ofInt 0 else Int32.ofInt 1)) = .int (if (dlaw C (d_89 C s p) (s.1 / ((Int8.ofInt 7).toInt32)) (d_69 (s.2.2.2.1 p)) (if w = 0 then Int32.ofInt 0 else Int32.ofInt 1)) = 0 then Int32.ofInt 0 else Int32.ofInt 1)) ∧ h347.2.2.2.2 = 175 ∧ _ from ⟨⟨.boolean, rfl, (by (repeat' split) <;> rfl)⟩, ex_175 f349, hQ _ f349 f350 f351 f352 f353 f354 f355⟩)
theorem d_101_2_t17_41 : ∀ (m k : Nat) (s : dS) (h : am_H), k + m = dE C → (ex_P h) → (cI C) → (c_v 17 C h) → (c_d 17 C h) → (h.2.2.1 0 3 = some 17) → (sC 36 u h) → (sC 41 s h) → (∀ h1, (ex_P h1) → (cI C) → (c_v 17 C h1) → (c_d 17 C h1) → (h1.2.2.1 0 3 = some 17) → (sC 36 u h1) → (sC 41 (d_101_2 C w m k s) h1) → pz_S 6 none am_r101 4 Q 23 [(0, .ref 17), (1, .ref 41), (2, .int w)] [] h1) → pz_S 6 none am_r101 4 Q 2 [(0, .ref 17), (1, .ref 41), (2, .int w), (3, .int (nI k))] [] h := by
  intro m
  induction m with
  | zero =>
    intro k s h hk hP hI hT hD hR hN hS hZ
    have h6 := hT.1.2.1
    have h5 := hT.2.1.2.1
    refine am_goX 3 (show am_sh h 17 = some (0, 0) ∧ pz_S 6 none am_r101 4 Q 7 [(0, .ref 17), (1, .ref 41), (2, .int w), (3, .int (nI k))] [.int (h.1 17 4), .int (nI k)] h from ⟨ex_17 hP, ?_⟩)
    rw [show h.1 17 4 = nI (dE C) from hT.2.1.1]
    refine am_goX 1 (show ((nI (dE C)) ≤ (nI k) → pz_S 6 none am_r101 4 Q 23 [(0, .ref 17), (1, .ref 41), (2, .int w), (3, .int (nI k))] [] h) ∧ (¬ ((nI (dE C)) ≤ (nI k)) → pz_S 6 none am_r101 4 Q 10 [(0, .ref 17), (1, .ref 41), (2, .int w), (3, .int (nI k))] [] h) from ⟨fun _ => ?_, fun hz => absurd (show nI (dE C) ≤ nI k from nI_le (by omega) (by omega)) hz⟩)
    exact sv_S2 sv2_101 (by intro q hq; simp only [List.mem_cons, List.not_mem_nil, or_false] at hq; rcases hq with rfl | rfl | rfl <;> rfl) (hZ _ hP hI hT hD hR hN hS)
  | succ m ih =>
    intro k s h hk hP hI hT hD hR hN hS hZ
    have h6 := hT.1.2.1
    have h5 := hT.2.1.2.1
    refine am_goX 3 (show am_sh h 17 = some (0, 0) ∧ pz_S 6 none am_r101 4 Q 7 [(0, .ref 17), (1, .ref 41), (2, .int w), (3, .int (nI k))] [.int (h.1 17 4), .int (nI k)] h from ⟨ex_17 hP, ?_⟩)
    rw [show h.1 17 4 = nI (dE C) from hT.2.1.1]
    refine am_goX 1 (show ((nI (dE C)) ≤ (nI k) → pz_S 6 none am_r101 4 Q 23 [(0, .ref 17), (1, .ref 41), (2, .int w), (3, .int (nI k))] [] h) ∧ (¬ ((nI (dE C)) ≤ (nI k)) → pz_S 6 none am_r101 4 Q 10 [(0, .ref 17), (1, .ref 41), (2, .int w), (3, .int (nI k))] [] h) from ⟨fun hz => absurd hz (show ¬ (nI (dE C) ≤ nI k) by rw [nI_leI (by omega) (by omega)]; omega), fun _ => ?_⟩)
    refine am_goX 2 (show am_sh h 41 = some (6, 0) ∧ pz_S 6 none am_r101 4 Q 14 [(0, .ref 17), (1, .ref 41), (2, .int w), (3, .int (nI k))] [am_rf (h.2.2.1 41 5)] h from ⟨ex_41 hP, ?_⟩)
    rw [show am_rf (h.2.2.1 41 5) = .ref 45 from congrArg am_rf (ex_r41_5 hP)]
    refine am_goX 3 (show ∃ jj nn : Nat, am_so h 45 = some (13, nn) ∧ jj < nn ∧ nI k = nI jj ∧ pz_S 6 none am_r101 4 Q 17 [(0, .ref 17), (1, .ref 41), (2, .int w), (3, .int (nI k))] [] (am_wI h 45 jj (Int32.ofInt 0)) from ⟨k, 5, ex_w45 hP, (by omega), rfl, ?_⟩)
    have f360 : ex_P (am_wI h 45 k (Int32.ofInt 0)) := hP
    have f361 : cI C := hI
    have f362 : c_v 17 C (am_wI h 45 k (Int32.ofInt 0)) := c_v_w (by omega) hT
    have f363 : c_d 17 C (am_wI h 45 k (Int32.ofInt 0)) := c_d_w (by omega) hD
    have f364 : (am_wI h 45 k (Int32.ofInt 0)).2.2.1 0 3 = some 17 := hR
    have f365 : sC 36 u (am_wI h 45 k (Int32.ofInt 0)) := sC_w (by omega) hN
    have f366 : sC 41 (sSA s k (Int32.ofInt 0)) (am_wI h 45 k (Int32.ofInt 0)) := sC_wA (by omega) hS
    generalize am_wI h 45 k (Int32.ofInt 0) = h359 at f360 f361 f362 f363 f364 f365 f366 ⊢
    refine am_goX 2 (show 3 < 6 ∧ pz_S 6 none am_r101 4 Q 2 [(3, .int ((nI k) + (Int32.ofInt 1))), (0, .ref 17), (1, .ref 41), (2, .int w)] [] h359 from ⟨by decide, ?_⟩)
    rw [show (nI k) + (Int32.ofInt 1) = nI (k + 1) from (dn_a rfl rfl)]
    exact sv_S2 sv2_101 (by intro q hq; simp only [List.mem_cons, List.not_mem_nil, or_false] at hq; rcases hq with rfl | rfl | rfl | rfl <;> rfl) (ih (k + 1) (sSA s k (Int32.ofInt 0)) _ (by omega) f360 f361 f362 f363 f364 f365 f366 hZ)
theorem d_101_65_t17_41 (n3 : Nat) (x4 : Int32) : ∀ (m k : Nat) (s : dS) (h : am_H), k + m = dE C → (ex_P h) → (cI C) → (c_v 17 C h) → (c_d 17 C h) → (h.2.2.1 0 3 = some 17) → (sC 36 u h) → (sC 41 s h) → (∀ h1, (ex_P h1) → (cI C) → (c_v 17 C h1) → (c_d 17 C h1) → (h1.2.2.1 0 3 = some 17) → (sC 36 u h1) → (sC 41 (d_101_65 C w n3 x4 m k s) h1) → pz_S 6 none am_r101 4 Q 99 [(0, .ref 17), (1, .ref 41), (2, .int w), (3, .int (nI n3))] [] h1) → pz_S 6 none am_r101 4 Q 65 [(0, .ref 17), (1, .ref 41), (2, .int w), (3, .int (nI n3)), (4, .int x4), (5, .int (nI k))] [] h := by
  intro m
  induction m with
  | zero =>
    intro k s h hk hP hI hT hD hR hN hS hZ
    have h6 := hT.1.2.1
    have h5 := hT.2.1.2.1
    refine am_goX 3 (show am_sh h 17 = some (0, 0) ∧ pz_S 6 none am_r101 4 Q 71 [(0, .ref 17), (1, .ref 41), (2, .int w), (3, .int (nI n3)), (4, .int x4), (5, .int (nI k))] [.int (h.1 17 4), .int (nI k)] h from ⟨ex_17 hP, ?_⟩)
    rw [show h.1 17 4 = nI (dE C) from hT.2.1.1]
    refine am_goX 1 (show ((nI (dE C)) ≤ (nI k) → pz_S 6 none am_r101 4 Q 99 [(0, .ref 17), (1, .ref 41), (2, .int w), (3, .int (nI n3)), (4, .int x4), (5, .int (nI k))] [] h) ∧ (¬ ((nI (dE C)) ≤ (nI k)) → pz_S 6 none am_r101 4 Q 74 [(0, .ref 17), (1, .ref 41), (2, .int w), (3, .int (nI n3)), (4, .int x4), (5, .int (nI k))] [] h) from ⟨fun _ => ?_, fun hz => absurd (show nI (dE C) ≤ nI k from nI_le (by omega) (by omega)) hz⟩)
    exact sv_S2 sv2_101 (by intro q hq; simp only [List.mem_cons, List.not_mem_nil, or_false] at hq; rcases hq with rfl | rfl | rfl | rfl <;> rfl) (hZ _ hP hI hT hD hR hN hS)
  | succ m ih =>
    intro k s h hk hP hI hT hD hR hN hS hZ
    have h6 := hT.1.2.1
    have h5 := hT.2.1.2.1
    refine am_goX 3 (show am_sh h 17 = some (0, 0) ∧ pz_S 6 none am_r101 4 Q 71 [(0, .ref 17), (1, .ref 41), (2, .int w), (3, .int (nI n3)), (4, .int x4), (5, .int (nI k))] [.int (h.1 17 4), .int (nI k)] h from ⟨ex_17 hP, ?_⟩)
    rw [show h.1 17 4 = nI (dE C) from hT.2.1.1]
    refine am_goX 1 (show ((nI (dE C)) ≤ (nI k) → pz_S 6 none am_r101 4 Q 99 [(0, .ref 17), (1, .ref 41), (2, .int w), (3, .int (nI n3)), (4, .int x4), (5, .int (nI k))] [] h) ∧ (¬ ((nI (dE C)) ≤ (nI k)) → pz_S 6 none am_r101 4 Q 74 [(0, .ref 17), (1, .ref 41), (2, .int w), (3, .int (nI n3)), (4, .int x4), (5, .int (nI k))] [] h) from ⟨fun hz => absurd hz (show ¬ (nI (dE C) ≤ nI k) by rw [nI_leI (by omega) (by omega)]; omega), fun _ => ?_⟩)
    refine am_goX 2 (show am_sh h 41 = some (6, 0) ∧ pz_S 6 none am_r101 4 Q 78 [(0, .ref 17), (1, .ref 41), (2, .int w), (3, .int (nI n3)), (4, .int x4), (5, .int (nI k))] [am_rf (h.2.2.1 41 5)] h from ⟨ex_41 hP, ?_⟩)
    rw [show am_rf (h.2.2.1 41 5) = .ref 45 from congrArg am_rf (ex_r41_5 hP)]
    refine am_goX 3 (show (Value.int (nI k)).category = 1 ∧ (Value.ref 45).category = 1 ∧ ∃ jj nn : Nat, am_sh h 45 = some (13, nn) ∧ jj < nn ∧ nI k = nI jj ∧ pz_S 6 none am_r101 4 Q 82 [(0, .ref 17), (1, .ref 41), (2, .int w), (3, .int (nI n3)), (4, .int x4), (5, .int (nI k))] [.int (h.1 45 jj), .int (nI k), .ref 45] h from ⟨rfl, rfl, ⟨k, 5, ex_45 hP, (by omega), rfl, ?_⟩⟩)
    rw [show h.1 45 k = s.2.2.2.2.2 k from (hS.2.2 k (by omega)).2]
    refine am_goX 9 (show ∃ jj nn : Nat, am_so h 45 = some (13, nn) ∧ jj < nn ∧ nI k = nI jj ∧ pz_S 6 none am_r101 4 Q 93 [(0, .ref 17), (1, .ref 41), (2, .int w), (3, .int (nI n3)), (4, .int x4), (5, .int (nI k))] [] (am_wI h 45 jj ((s.2.2.2.2.2 k) ||| (((x4 >>> ((nI k) &&& 31)) &&& (Int32.ofInt 1)) <<< ((nI n3) &&& 31)))) from ⟨k, 5, ex_w45 hP, (by omega), rfl, ?_⟩)
    have f386 : ex_P (am_wI h 45 k ((s.2.2.2.2.2 k) ||| (((x4 >>> ((nI k) &&& 31)) &&& (Int32.ofInt 1)) <<< ((nI n3) &&& 31)))) := hP
    have f387 : cI C := hI
    have f388 : c_v 17 C (am_wI h 45 k ((s.2.2.2.2.2 k) ||| (((x4 >>> ((nI k) &&& 31)) &&& (Int32.ofInt 1)) <<< ((nI n3) &&& 31)))) := c_v_w (by omega) hT
    have f389 : c_d 17 C (am_wI h 45 k ((s.2.2.2.2.2 k) ||| (((x4 >>> ((nI k) &&& 31)) &&& (Int32.ofInt 1)) <<< ((nI n3) &&& 31)))) := c_d_w (by omega) hD
    have f390 : (am_wI h 45 k ((s.2.2.2.2.2 k) ||| (((x4 >>> ((nI k) &&& 31)) &&& (Int32.ofInt 1)) <<< ((nI n3) &&& 31)))).2.2.1 0 3 = some 17 := hR
    have f391 : sC 36 u (am_wI h 45 k ((s.2.2.2.2.2 k) ||| (((x4 >>> ((nI k) &&& 31)) &&& (Int32.ofInt 1)) <<< ((nI n3) &&& 31)))) := sC_w (by omega) hN
    have f392 : sC 41 (sSA s k ((s.2.2.2.2.2 k) ||| (((x4 >>> ((nI k) &&& 31)) &&& (Int32.ofInt 1)) <<< ((nI n3) &&& 31)))) (am_wI h 45 k ((s.2.2.2.2.2 k) ||| (((x4 >>> ((nI k) &&& 31)) &&& (Int32.ofInt 1)) <<< ((nI n3) &&& 31)))) := sC_wA (by omega) hS
    generalize am_wI h 45 k ((s.2.2.2.2.2 k) ||| (((x4 >>> ((nI k) &&& 31)) &&& (Int32.ofInt 1)) <<< ((nI n3) &&& 31))) = h385 at f386 f387 f388 f389 f390 f391 f392 ⊢
    refine am_goX 2 (show 5 < 6 ∧ pz_S 6 none am_r101 4 Q 65 [(5, .int ((nI k) + (Int32.ofInt 1))), (0, .ref 17), (1, .ref 41), (2, .int w), (3, .int (nI n3)), (4, .int x4)] [] h385 from ⟨by decide, ?_⟩)
    rw [show (nI k) + (Int32.ofInt 1) = nI (k + 1) from (dn_a rfl rfl)]
    exact sv_S2 sv2_101 (by intro q hq; simp only [List.mem_cons, List.not_mem_nil, or_false] at hq; rcases hq with rfl | rfl | rfl | rfl | rfl | rfl <;> rfl) (ih (k + 1) (sSA s k ((s.2.2.2.2.2 k) ||| (((x4 >>> ((nI k) &&& 31)) &&& (Int32.ofInt 1)) <<< ((nI n3) &&& 31)))) _ (by omega) f386 f387 f388 f389 f390 f391 f392 hZ)
theorem d_101_25_t17_41 : ∀ (m k : Nat) (s : dS) (h : am_H), k + m = dP C → (ex_P h) → (cI C) → (c_v 17 C h) → (c_d 17 C h) → (h.2.2.1 0 3 = some 17) → (sC 36 u h) → (sC 41 s h) → (∀ h1, (ex_P h1) → (cI C) → (c_v 17 C h1) → (c_d 17 C h1) → (h1.2.2.1 0 3 = some 17) → (sC 36 u h1) → (sC 41 (d_101_25 C w m k s) h1) → pz_S 6 none am_r101 4 Q 105 [] [] h1) → pz_S 6 none am_r101 4 Q 25 [(0, .ref 17), (1, .ref 41), (2, .int w), (3, .int (nI k))] [] h := by
  intro m
  induction m with
  | zero =>
    intro k s h hk hP hI hT hD hR hN hS hZ
    have h6 := hT.1.2.1
    have h5 := hT.2.1.2.1
    refine am_goX 3 (show am_sh h 17 = some (0, 0) ∧ pz_S 6 none am_r101 4 Q 30 [(0, .ref 17), (1, .ref 41), (2, .int w), (3, .int (nI k))] [.int (h.1 17 0), .int (nI k)] h from ⟨ex_17 hP, ?_⟩)
    rw [show h.1 17 0 = nI (dP C) from hT.1.1]
    refine am_goX 1 (show ((nI (dP C)) ≤ (nI k) → pz_S 6 none am_r101 4 Q 105 [(0, .ref 17), (1, .ref 41), (2, .int w), (3, .int (nI k))] [] h) ∧ (¬ ((nI (dP C)) ≤ (nI k)) → pz_S 6 none am_r101 4 Q 33 [(0, .ref 17), (1, .ref 41), (2, .int w), (3, .int (nI k))] [] h) from ⟨fun _ => ?_, fun hz => absurd (show nI (dP C) ≤ nI k from nI_le (by omega) (by omega)) hz⟩)
    exact sv_S2 sv2_101 (fun q hq => absurd hq List.not_mem_nil) (hZ _ hP hI hT hD hR hN hS)
  | succ m ih =>
    intro k s h hk hP hI hT hD hR hN hS hZ
    have h6 := hT.1.2.1
    have h5 := hT.2.1.2.1
    refine am_goX 3 (show am_sh h 17 = some (0, 0) ∧ pz_S 6 none am_r101 4 Q 30 [(0, .ref 17), (1, .ref 41), (2, .int w), (3, .int (nI k))] [.int (h.1 17 0), .int (nI k)] h from ⟨ex_17 hP, ?_⟩)
    rw [show h.1 17 0 = nI (dP C) from hT.1.1]
    refine am_goX 1 (show ((nI (dP C)) ≤ (nI k) → pz_S 6 none am_r101 4 Q 105 [(0, .ref 17), (1, .ref 41), (2, .int w), (3, .int (nI k))] [] h) ∧ (¬ ((nI (dP C)) ≤ (nI k)) → pz_S 6 none am_r101 4 Q 33 [(0, .ref 17), (1, .ref 41), (2, .int w), (3, .int (nI k))] [] h) from ⟨fun hz => absurd hz (show ¬ (nI (dP C) ≤ nI k) by rw [nI_leI (by omega) (by omega)]; omega), fun _ => ?_⟩)
    refine am_goX 7 (show am_rc h 17 0 ∧ 2 ≤ 8 ∧ h.2.2.2.2 + am_al 88 ≤ 175 ∧ am_call am_cod 4 88 [.ref 17, .int (nI k), .ref 41, .int w] h (fun vv h' => pz_S 6 none am_r101 4 Q 42 [(0, .ref 17), (1, .ref 41), (2, .int w), (3, .int (nI k))] (vv.toList ++ [.int (nI k), .ref 17]) h') from ⟨Or.inl ⟨by decide, ex_17 hP⟩, by decide, ex_lim hP rfl, am_call.up (d_88_t17_41 hP hI hT hD hR hN hS (by omega) ?_) (by decide)⟩)
    refine am_goX 1 (show am_rc h 17 0 ∧ 0 ≤ 8 ∧ h.2.2.2.2 + am_al 102 ≤ 175 ∧ am_call am_cod 4 102 [.ref 17, .int (nI k), .int (d_88 C s k w)] h (fun vv h' => pz_S 6 none am_r101 4 Q 45 [(0, .ref 17), (1, .ref 41), (2, .int w), (3, .int (nI k))] (vv.toList ++ []) h') from ⟨Or.inl ⟨by decide, ex_17 hP⟩, by decide, ex_lim hP rfl, am_call.up (d_102_w17 hP hT hD (by omega) ?_) (by decide)⟩)
    refine am_goX 3 (show 4 < 6 ∧ ((d_102 C k (d_88 C s k w)) = 0 → pz_S 6 none am_r101 4 Q 99 [(4, .int (d_102 C k (d_88 C s k w))), (0, .ref 17), (1, .ref 41), (2, .int w), (3, .int (nI k))] [] h) ∧ (¬ ((d_102 C k (d_88 C s k w)) = 0) → pz_S 6 none am_r101 4 Q 52 [(4, .int (d_102 C k (d_88 C s k w))), (0, .ref 17), (1, .ref 41), (2, .int w), (3, .int (nI k))] [] h) from ⟨by decide, fun c375 => ?_, fun c375 => ?_⟩)
    · refine am_goX 2 (show 3 < 6 ∧ pz_S 6 none am_r101 4 Q 25 [(3, .int ((nI k) + (Int32.ofInt 1))), (4, .int (d_102 C k (d_88 C s k w))), (0, .ref 17), (1, .ref 41), (2, .int w)] [] h from ⟨by decide, ?_⟩)
      rw [show d_101_25 C w (m + 1) k s = d_101_25 C w m (k + 1) s from if_pos c375] at hZ
      rw [show (nI k) + (Int32.ofInt 1) = nI (k + 1) from (dn_a rfl rfl)]
      exact sv_S2 sv2_101 (by intro q hq; simp only [List.mem_cons, List.not_mem_nil, or_false] at hq; rcases hq with rfl | rfl | rfl | rfl <;> rfl) (ih (k + 1) s _ (by omega) hP hI hT hD hR hN hS hZ)
    · refine am_goX 5 (show am_rc h 17 0 ∧ 0 ≤ 8 ∧ h.2.2.2.2 + am_al 104 ≤ 175 ∧ am_call am_cod 4 104 [.ref 17, .int (nI k), .ref 41, .int w] h (fun vv h' => pz_S 6 none am_r101 4 Q 59 [(4, .int (d_102 C k (d_88 C s k w))), (0, .ref 17), (1, .ref 41), (2, .int w), (3, .int (nI k))] (vv.toList ++ []) h') from ⟨Or.inl ⟨by decide, ex_17 hP⟩, by decide, ex_lim hP rfl, am_call.up (d_104_t17_41 hP hI hT hD hR hN hS (by omega) (fun h376 f377 f378 f379 f380 f381 f382 f383 => ?_)) (by decide)⟩)
      refine am_goX 1 (show ((d_104 C s k w) = 0 → pz_S 6 none am_r101 4 Q 99 [(4, .int (d_102 C k (d_88 C s k w))), (0, .ref 17), (1, .ref 41), (2, .int w), (3, .int (nI k))] [] h376) ∧ (¬ ((d_104 C s k w) = 0) → pz_S 6 none am_r101 4 Q 62 [(4, .int (d_102 C k (d_88 C s k w))), (0, .ref 17), (1, .ref 41), (2, .int w), (3, .int (nI k))] [] h376) from ⟨fun c384 => ?_, fun c384 => ?_⟩)
      · refine am_goX 2 (show 3 < 6 ∧ pz_S 6 none am_r101 4 Q 25 [(3, .int ((nI k) + (Int32.ofInt 1))), (4, .int (d_102 C k (d_88 C s k w))), (0, .ref 17), (1, .ref 41), (2, .int w)] [] h376 from ⟨by decide, ?_⟩)
        rw [show d_101_25 C w (m + 1) k s = d_101_25 C w m (k + 1) s from (if_neg c375).trans (if_pos c384)] at hZ
        rw [show (nI k) + (Int32.ofInt 1) = nI (k + 1) from (dn_a rfl rfl)]
        exact sv_S2 sv2_101 (by intro q hq; simp only [List.mem_cons, List.not_mem_nil, or_false] at hq; rcases hq with rfl | rfl | rfl | rfl <;> rfl) (ih (k + 1) s _ (by omega) f377 f378 f379 f380 f381 f382 f383 hZ)
      · refine am_goX 2 (show 5 < 6 ∧ pz_S 6 none am_r101 4 Q 65 [(5, .int (Int32.ofInt 0)), (4, .int (d_102 C k (d_88 C s k w))), (0, .ref 17), (1, .ref 41), (2, .int w), (3, .int (nI k))] [] h376 from ⟨by decide, ?_⟩)
        refine sv_S2 sv2_101 (by intro q hq; simp only [List.mem_cons, List.not_mem_nil, or_false] at hq; rcases hq with rfl | rfl | rfl | rfl | rfl | rfl <;> rfl) (d_101_65_t17_41 k (d_102 C k (d_88 C s k w)) (dE C) 0 s _ (by omega) f377 f378 f379 f380 f381 f382 f383 (fun h385 f386 f387 f388 f389 f390 f391 f392 => ?_))
        refine am_goX 2 (show 3 < 6 ∧ pz_S 6 none am_r101 4 Q 25 [(3, .int ((nI k) + (Int32.ofInt 1))), (0, .ref 17), (1, .ref 41), (2, .int w)] [] h385 from ⟨by decide, ?_⟩)
        rw [show d_101_25 C w (m + 1) k s = d_101_25 C w m (k + 1) (d_101_65 C w k (d_102 C k (d_88 C s k w)) (dE C) 0 s) from (if_neg c375).trans (if_neg c384)] at hZ
        rw [show (nI k) + (Int32.ofInt 1) = nI (k + 1) from (dn_a rfl rfl)]
        exact sv_S2 sv2_101 (by intro q hq; simp only [List.mem_cons, List.not_mem_nil, or_false] at hq; rcases hq with rfl | rfl | rfl | rfl <;> rfl) (ih (k + 1) (d_101_65 C w k (d_102 C k (d_88 C s k w)) (dE C) 0 s) _ (by omega) f386 f387 f388 f389 f390 f391 f392 hZ)
theorem d_101_t17_41 (hP : ex_P h) (hI : cI C) (hT : c_v 17 C h) (hD : c_d 17 C h) (hR : h.2.2.1 0 3 = some 17) (hN : sC 36 u h) (hS : sC 41 s h)  (hQ : ∀ h1, (ex_P h1) → (cI C) → (c_v 17 C h1) → (c_d 17 C h1) → (h1.2.2.1 0 3 = some 17) → (sC 36 u h1) → (sC 41 (d_101_s C s w) h1) → Q none h1) : am_call am_cod 5 101 [.ref 17, .ref 41, .int w] h Q := by
  have h6 := hT.1.2.1
  have h5 := hT.2.1.2.1
  refine pz_call (n := 101) (nL := 6) (rt := none) (rows := am_r101) (d := 4) (by decide +kernel) (by decide +kernel) rfl (by funext pc; rfl) (ex_175 hP) (by exact Nat.le_of_ble_eq_true rfl) ?_
  refine am_goX 2 (show 3 < 6 ∧ pz_S 6 none am_r101 4 Q 2 [(3, .int (Int32.ofInt 0)), (0, .ref 17), (1, .ref 41), (2, .int w)] [] h from ⟨by decide, ?_⟩)
  refine sv_S2 sv2_101 (by intro q hq; simp only [List.mem_cons, List.not_mem_nil, or_false] at hq; rcases hq with rfl | rfl | rfl | rfl <;> rfl) (d_101_2_t17_41 (dE C) 0 s _ (by omega) hP hI hT hD hR hN hS (fun h367 f368 f369 f370 f371 f372 f373 f374 => ?_))
  refine am_goX 2 (show 3 < 6 ∧ pz_S 6 none am_r101 4 Q 25 [(3, .int (Int32.ofInt 0)), (0, .ref 17), (1, .ref 41), (2, .int w)] [] h367 from ⟨by decide, ?_⟩)
  refine sv_S2 sv2_101 (by intro q hq; simp only [List.mem_cons, List.not_mem_nil, or_false] at hq; rcases hq with rfl | rfl | rfl | rfl <;> rfl) (d_101_25_t17_41 (dP C) 0 (d_101_2 C w (dE C) 0 s) _ (by omega) f368 f369 f370 f371 f372 f373 f374 (fun h393 f394 f395 f396 f397 f398 f399 f400 => ?_))
  exact am_goX 1 (show (none : Option FieldType) = none ∧ h393.2.2.2.2 = 175 ∧ _ from ⟨rfl, ex_175 f394, hQ _ f394 f395 f396 f397 f398 f399 f400⟩)
theorem d_108_2_t17_41 : ∀ (m k : Nat) (s : dS) (h : am_H), k + m = 6 → (ex_P h) → (cI C) → (c_v 17 C h) → (c_d 17 C h) → (h.2.2.1 0 3 = some 17) → (sC 36 u h) → (sC 41 s h) → (∀ h1, (ex_P h1) → (cI C) → (c_v 17 C h1) → (c_d 17 C h1) → (h1.2.2.1 0 3 = some 17) → (sC 36 u h1) → (sC 41 (d_108_2 x m k s) h1) → pz_S 3 none am_r108 1 Q 38 [] [] h1) → pz_S 3 none am_r108 1 Q 2 [(0, .ref 41), (1, .int x), (2, .int (nI k))] [] h := by
  intro m
  induction m with
  | zero =>
    intro k s h hk hP hI hT hD hR hN hS hZ
    have h6 := hT.1.2.1
    have h5 := hT.2.1.2.1
    refine am_goX 3 (show (((Int8.ofInt 6).toInt32) ≤ (nI k) → pz_S 3 none am_r108 1 Q 38 [(0, .ref 41), (1, .int x), (2, .int (nI k))] [] h) ∧ (¬ (((Int8.ofInt 6).toInt32) ≤ (nI k)) → pz_S 3 none am_r108 1 Q 8 [(0, .ref 41), (1, .int x), (2, .int (nI k))] [] h) from ⟨fun _ => ?_, fun hz => absurd (show nI 6 ≤ nI k from nI_le (by omega) (by omega)) hz⟩)
    exact sv_S2 sv2_108 (fun q hq => absurd hq List.not_mem_nil) (hZ _ hP hI hT hD hR hN hS)
  | succ m ih =>
    intro k s h hk hP hI hT hD hR hN hS hZ
    have h6 := hT.1.2.1
    have h5 := hT.2.1.2.1
    refine am_goX 3 (show (((Int8.ofInt 6).toInt32) ≤ (nI k) → pz_S 3 none am_r108 1 Q 38 [(0, .ref 41), (1, .int x), (2, .int (nI k))] [] h) ∧ (¬ (((Int8.ofInt 6).toInt32) ≤ (nI k)) → pz_S 3 none am_r108 1 Q 8 [(0, .ref 41), (1, .int x), (2, .int (nI k))] [] h) from ⟨fun hz => absurd hz (show ¬ (nI 6 ≤ nI k) by rw [nI_leI (by omega) (by omega)]; omega), fun _ => ?_⟩)
    refine am_goX 3 (show 0 ≤ 8 ∧ h.2.2.2.2 + am_al 65 ≤ 175 ∧ am_call am_cod 1 65 [.int x, .int (nI k)] h (fun vv h' => pz_S 3 none am_r108 1 Q 13 [(0, .ref 41), (1, .int x), (2, .int (nI k))] (vv.toList ++ []) h') from ⟨by decide, ex_lim hP rfl, am_call.up (d_65_w hP ?_) (by decide)⟩)
    refine am_goX 1 (show ((d_65 x (nI k)) = 0 → pz_S 3 none am_r108 1 Q 32 [(0, .ref 41), (1, .int x), (2, .int (nI k))] [] h) ∧ (¬ ((d_65 x (nI k)) = 0) → pz_S 3 none am_r108 1 Q 16 [(0, .ref 41), (1, .int x), (2, .int (nI k))] [] h) from ⟨fun c401 => ?_, fun c401 => ?_⟩)
    · refine am_goX 2 (show 2 < 3 ∧ pz_S 3 none am_r108 1 Q 2 [(2, .int ((nI k) + (Int32.ofInt 1))), (0, .ref 41), (1, .int x)] [] h from ⟨by decide, ?_⟩)
      rw [show d_108_2 x (m + 1) k s = d_108_2 x m (k + 1) s from if_pos c401] at hZ
      rw [show (nI k) + (Int32.ofInt 1) = nI (k + 1) from (dn_a rfl rfl)]
      exact sv_S2 sv2_108 (by intro q hq; simp only [List.mem_cons, List.not_mem_nil, or_false] at hq; rcases hq with rfl | rfl | rfl <;> rfl) (ih (k + 1) s _ (by omega) hP hI hT hD hR hN hS hZ)
    · refine am_goX 2 (show am_sh h 41 = some (6, 0) ∧ pz_S 3 none am_r108 1 Q 20 [(0, .ref 41), (1, .int x), (2, .int (nI k))] [am_rf (h.2.2.1 41 3)] h from ⟨ex_41 hP, ?_⟩)
      rw [show am_rf (h.2.2.1 41 3) = .ref 43 from congrArg am_rf (ex_r41_3 hP)]
      refine am_goX 3 (show (Value.int (nI k)).category = 1 ∧ (Value.ref 43).category = 1 ∧ ∃ jj nn : Nat, am_sh h 43 = some (13, nn) ∧ jj < nn ∧ nI k = nI jj ∧ pz_S 3 none am_r108 1 Q 23 [(0, .ref 41), (1, .int x), (2, .int (nI k))] [.int (h.1 43 jj), .int (nI k), .ref 43] h from ⟨rfl, rfl, ⟨k, 6, ex_43 hP, (by omega), rfl, ?_⟩⟩)
      rw [show h.1 43 k = s.2.2.2.1 k from (hS.2.1 k (by omega)).2]
      refine am_goX 9 (show ∃ jj nn : Nat, am_so h 43 = some (13, nn) ∧ jj < nn ∧ nI k = nI jj ∧ pz_S 3 none am_r108 1 Q 32 [(0, .ref 41), (1, .int x), (2, .int (nI k))] [] (am_wI h 43 jj ((s.2.2.2.1 k) ||| (x &&& (((Int32.ofInt 1) <<< ((nI k) &&& 31)) ^^^ (Int32.ofInt (-1)))))) from ⟨k, 6, ex_w43 hP, (by omega), rfl, ?_⟩)
      have f403 : ex_P (am_wI h 43 k ((s.2.2.2.1 k) ||| (x &&& (((Int32.ofInt 1) <<< ((nI k) &&& 31)) ^^^ (Int32.ofInt (-1)))))) := hP
      have f404 : cI C := hI
      have f405 : c_v 17 C (am_wI h 43 k ((s.2.2.2.1 k) ||| (x &&& (((Int32.ofInt 1) <<< ((nI k) &&& 31)) ^^^ (Int32.ofInt (-1)))))) := c_v_w (by omega) hT
      have f406 : c_d 17 C (am_wI h 43 k ((s.2.2.2.1 k) ||| (x &&& (((Int32.ofInt 1) <<< ((nI k) &&& 31)) ^^^ (Int32.ofInt (-1)))))) := c_d_w (by omega) hD
      have f407 : (am_wI h 43 k ((s.2.2.2.1 k) ||| (x &&& (((Int32.ofInt 1) <<< ((nI k) &&& 31)) ^^^ (Int32.ofInt (-1)))))).2.2.1 0 3 = some 17 := hR
      have f408 : sC 36 u (am_wI h 43 k ((s.2.2.2.1 k) ||| (x &&& (((Int32.ofInt 1) <<< ((nI k) &&& 31)) ^^^ (Int32.ofInt (-1)))))) := sC_w (by omega) hN
      have f409 : sC 41 (sSM s k ((s.2.2.2.1 k) ||| (x &&& (((Int32.ofInt 1) <<< ((nI k) &&& 31)) ^^^ (Int32.ofInt (-1)))))) (am_wI h 43 k ((s.2.2.2.1 k) ||| (x &&& (((Int32.ofInt 1) <<< ((nI k) &&& 31)) ^^^ (Int32.ofInt (-1)))))) := sC_wM (by omega) hS
      generalize am_wI h 43 k ((s.2.2.2.1 k) ||| (x &&& (((Int32.ofInt 1) <<< ((nI k) &&& 31)) ^^^ (Int32.ofInt (-1))))) = h402 at f403 f404 f405 f406 f407 f408 f409 ⊢
      refine am_goX 2 (show 2 < 3 ∧ pz_S 3 none am_r108 1 Q 2 [(2, .int ((nI k) + (Int32.ofInt 1))), (0, .ref 41), (1, .int x)] [] h402 from ⟨by decide, ?_⟩)
      rw [show d_108_2 x (m + 1) k s = d_108_2 x m (k + 1) (sSM s k ((s.2.2.2.1 k) ||| (x &&& (((Int32.ofInt 1) <<< ((nI k) &&& 31)) ^^^ (Int32.ofInt (-1)))))) from if_neg c401] at hZ
      rw [show (nI k) + (Int32.ofInt 1) = nI (k + 1) from (dn_a rfl rfl)]
      exact sv_S2 sv2_108 (by intro q hq; simp only [List.mem_cons, List.not_mem_nil, or_false] at hq; rcases hq with rfl | rfl | rfl <;> rfl) (ih (k + 1) (sSM s k ((s.2.2.2.1 k) ||| (x &&& (((Int32.ofInt 1) <<< ((nI k) &&& 31)) ^^^ (Int32.ofInt (-1)))))) _ (by omega) f403 f404 f405 f406 f407 f408 f409 hZ)
theorem d_108_t17_41 (hP : ex_P h) (hI : cI C) (hT : c_v 17 C h) (hD : c_d 17 C h) (hR : h.2.2.1 0 3 = some 17) (hN : sC 36 u h) (hS : sC 41 s h)  (hQ : ∀ h1, (ex_P h1) → (cI C) → (c_v 17 C h1) → (c_d 17 C h1) → (h1.2.2.1 0 3 = some 17) → (sC 36 u h1) → (sC 41 (d_108_s s x) h1) → Q none h1) : am_call am_cod 2 108 [.ref 41, .int x] h Q := by
  have h6 := hT.1.2.1
  have h5 := hT.2.1.2.1
  refine pz_call (n := 108) (nL := 3) (rt := none) (rows := am_r108) (d := 1) (by decide +kernel) (by decide +kernel) rfl (by funext pc; rfl) (ex_175 hP) (by exact Nat.le_of_ble_eq_true rfl) ?_
  refine am_goX 2 (show 2 < 3 ∧ pz_S 3 none am_r108 1 Q 2 [(2, .int (Int32.ofInt 0)), (0, .ref 41), (1, .int x)] [] h from ⟨by decide, ?_⟩)
  refine sv_S2 sv2_108 (by intro q hq; simp only [List.mem_cons, List.not_mem_nil, or_false] at hq; rcases hq with rfl | rfl | rfl <;> rfl) (d_108_2_t17_41 6 0 s _ (by omega) hP hI hT hD hR hN hS (fun h410 f411 f412 f413 f414 f415 f416 f417 => ?_))
  exact am_goX 1 (show (none : Option FieldType) = none ∧ h410.2.2.2.2 = 175 ∧ _ from ⟨rfl, ex_175 f411, hQ _ f411 f412 f413 f414 f415 f416 f417⟩)
theorem d_100_21_t17_41 : ∀ (m k : Nat) (a3 : Int32) (s : dS) (h : am_H), k + m = dE C → (ex_P h) → (cI C) → (c_v 17 C h) → (c_d 17 C h) → (h.2.2.1 0 3 = some 17) → (sC 36 u h) → (sC 41 s h) → (∀ h1, (ex_P h1) → (cI C) → (c_v 17 C h1) → (c_d 17 C h1) → (h1.2.2.1 0 3 = some 17) → (sC 36 u h1) → (sC 41 ((d_100_21 C m k a3 s).2) h1) → pz_S 5 (some .int) am_r100 5 Q 85 [(3, .int ((d_100_21 C m k a3 s).1))] [] h1) → pz_S 5 (some .int) am_r100 5 Q 21 [(0, .ref 17), (1, .ref 41), (3, .int a3), (4, .int (nI k))] [] h := by
  intro m
  induction m with
  | zero =>
    intro k a3 s h hk hP hI hT hD hR hN hS hZ
    have h6 := hT.1.2.1
    have h5 := hT.2.1.2.1
    refine am_goX 3 (show am_sh h 17 = some (0, 0) ∧ pz_S 5 (some .int) am_r100 5 Q 27 [(0, .ref 17), (1, .ref 41), (3, .int a3), (4, .int (nI k))] [.int (h.1 17 4), .int (nI k)] h from ⟨ex_17 hP, ?_⟩)
    rw [show h.1 17 4 = nI (dE C) from hT.2.1.1]
    refine am_goX 1 (show ((nI (dE C)) ≤ (nI k) → pz_S 5 (some .int) am_r100 5 Q 85 [(0, .ref 17), (1, .ref 41), (3, .int a3), (4, .int (nI k))] [] h) ∧ (¬ ((nI (dE C)) ≤ (nI k)) → pz_S 5 (some .int) am_r100 5 Q 30 [(0, .ref 17), (1, .ref 41), (3, .int a3), (4, .int (nI k))] [] h) from ⟨fun _ => ?_, fun hz => absurd (show nI (dE C) ≤ nI k from nI_le (by omega) (by omega)) hz⟩)
    exact sv_S2 sv2_100 (by intro q hq; simp only [List.mem_cons, List.not_mem_nil, or_false] at hq; rcases hq with rfl <;> rfl) (hZ _ hP hI hT hD hR hN hS)
  | succ m ih =>
    intro k a3 s h hk hP hI hT hD hR hN hS hZ
    have h6 := hT.1.2.1
    have h5 := hT.2.1.2.1
    refine am_goX 3 (show am_sh h 17 = some (0, 0) ∧ pz_S 5 (some .int) am_r100 5 Q 27 [(0, .ref 17), (1, .ref 41), (3, .int a3), (4, .int (nI k))] [.int (h.1 17 4), .int (nI k)] h from ⟨ex_17 hP, ?_⟩)
    rw [show h.1 17 4 = nI (dE C) from hT.2.1.1]
    refine am_goX 1 (show ((nI (dE C)) ≤ (nI k) → pz_S 5 (some .int) am_r100 5 Q 85 [(0, .ref 17), (1, .ref 41), (3, .int a3), (4, .int (nI k))] [] h) ∧ (¬ ((nI (dE C)) ≤ (nI k)) → pz_S 5 (some .int) am_r100 5 Q 30 [(0, .ref 17), (1, .ref 41), (3, .int a3), (4, .int (nI k))] [] h) from ⟨fun hz => absurd hz (show ¬ (nI (dE C) ≤ nI k) by rw [nI_leI (by omega) (by omega)]; omega), fun _ => ?_⟩)
    refine am_goX 3 (show am_sh h 41 = some (6, 0) ∧ pz_S 5 (some .int) am_r100 5 Q 35 [(0, .ref 17), (1, .ref 41), (3, .int a3), (4, .int (nI k))] [am_rf (h.2.2.1 41 5), .ref 41] h from ⟨ex_41 hP, ?_⟩)
    rw [show am_rf (h.2.2.1 41 5) = .ref 45 from congrArg am_rf (ex_r41_5 hP)]
    refine am_goX 2 (show ∃ jj nn : Nat, am_sh h 45 = some (13, nn) ∧ jj < nn ∧ nI k = nI jj ∧ pz_S 5 (some .int) am_r100 5 Q 38 [(0, .ref 17), (1, .ref 41), (3, .int a3), (4, .int (nI k))] [.int (h.1 45 jj), .ref 41] h from ⟨k, 5, ex_45 hP, (by omega), rfl, ?_⟩)
    rw [show h.1 45 k = s.2.2.2.2.2 k from (hS.2.2 k (by omega)).2]
    refine am_goX 1 (show am_rc h 41 6 ∧ 0 ≤ 8 ∧ h.2.2.2.2 + am_al 108 ≤ 175 ∧ am_call am_cod 5 108 [.ref 41, .int (s.2.2.2.2.2 k)] h (fun vv h' => pz_S 5 (some .int) am_r100 5 Q 41 [(0, .ref 17), (1, .ref 41), (3, .int a3), (4, .int (nI k))] (vv.toList ++ []) h') from ⟨Or.inl ⟨by decide, ex_41 hP⟩, by decide, ex_lim hP rfl, am_call.up (d_108_t17_41 hP hI hT hD hR hN hS (fun h434 f435 f436 f437 f438 f439 f440 f441 => ?_)) (by decide)⟩)
    refine am_goX 2 (show am_sh h434 41 = some (6, 0) ∧ pz_S 5 (some .int) am_r100 5 Q 45 [(0, .ref 17), (1, .ref 41), (3, .int a3), (4, .int (nI k))] [am_rf (h434.2.2.1 41 5)] h434 from ⟨ex_41 f435, ?_⟩)
    rw [show am_rf (h434.2.2.1 41 5) = .ref 45 from congrArg am_rf (ex_r41_5 f435)]
    refine am_goX 2 (show ∃ jj nn : Nat, am_sh h434 45 = some (13, nn) ∧ jj < nn ∧ nI k = nI jj ∧ pz_S 5 (some .int) am_r100 5 Q 48 [(0, .ref 17), (1, .ref 41), (3, .int a3), (4, .int (nI k))] [.int (h434.1 45 jj)] h434 from ⟨k, 5, ex_45 f435, (by omega), rfl, ?_⟩)
    rw [show h434.1 45 k = (d_108_s s (s.2.2.2.2.2 k)).2.2.2.2.2 k from (f441.2.2 k (by omega)).2]
    refine am_goX 1 (show 0 ≤ 8 ∧ h434.2.2.2.2 + am_al 69 ≤ 175 ∧ am_call am_cod 5 69 [.int ((d_108_s s (s.2.2.2.2.2 k)).2.2.2.2.2 k)] h434 (fun vv h' => pz_S 5 (some .int) am_r100 5 Q 51 [(0, .ref 17), (1, .ref 41), (3, .int a3), (4, .int (nI k))] (vv.toList ++ []) h') from ⟨by decide, ex_lim f435 rfl, am_call.up (d_69_w f435 ?_) (by decide)⟩)
    refine am_goX 2 (show am_sh h434 17 = some (0, 0) ∧ pz_S 5 (some .int) am_r100 5 Q 55 [(0, .ref 17), (1, .ref 41), (3, .int a3), (4, .int (nI k))] [am_rf (h434.2.2.1 17 7), .int (d_69 ((d_108_s s (s.2.2.2.2.2 k)).2.2.2.2.2 k))] h434 from ⟨ex_17 f435, ?_⟩)
    rw [show am_rf (h434.2.2.1 17 7) = .ref 23 from congrArg am_rf (ex_r17_7 f435)]
    refine am_goX 2 (show ∃ jj nn : Nat, am_sh h434 23 = some (13, nn) ∧ jj < nn ∧ nI k = nI jj ∧ pz_S 5 (some .int) am_r100 5 Q 58 [(0, .ref 17), (1, .ref 41), (3, .int a3), (4, .int (nI k))] [.int (h434.1 23 jj), .int (d_69 ((d_108_s s (s.2.2.2.2.2 k)).2.2.2.2.2 k))] h434 from ⟨k, 5, ex_23 f435, (by omega), rfl, ?_⟩)
    rw [show h434.1 23 k = dN C k from (f437.2.1.2.2 k (by omega)).1]
    refine am_goX 1 (show ((d_69 ((d_108_s s (s.2.2.2.2.2 k)).2.2.2.2.2 k)) < (dN C k) → pz_S 5 (some .int) am_r100 5 Q 79 [(0, .ref 17), (1, .ref 41), (3, .int a3), (4, .int (nI k))] [] h434) ∧ (¬ ((d_69 ((d_108_s s (s.2.2.2.2.2 k)).2.2.2.2.2 k)) < (dN C k)) → pz_S 5 (some .int) am_r100 5 Q 61 [(0, .ref 17), (1, .ref 41), (3, .int a3), (4, .int (nI k))] [] h434) from ⟨fun c442 => ?_, fun c442 => ?_⟩)
    · refine am_goX 2 (show 4 < 5 ∧ pz_S 5 (some .int) am_r100 5 Q 21 [(4, .int ((nI k) + (Int32.ofInt 1))), (0, .ref 17), (1, .ref 41), (3, .int a3)] [] h434 from ⟨by decide, ?_⟩)
      rw [show d_100_21 C (m + 1) k a3 s = d_100_21 C m (k + 1) a3 (d_108_s s (s.2.2.2.2.2 k)) from if_pos c442] at hZ
      rw [show (nI k) + (Int32.ofInt 1) = nI (k + 1) from (dn_a rfl rfl)]
      exact sv_S2 sv2_100 (by intro q hq; simp only [List.mem_cons, List.not_mem_nil, or_false] at hq; rcases hq with rfl | rfl | rfl | rfl <;> rfl) (ih (k + 1) a3 (d_108_s s (s.2.2.2.2.2 k)) _ (by omega) f435 f436 f437 f438 f439 f440 f441 hZ)
    · refine am_goX 2 (show am_sh h434 41 = some (6, 0) ∧ pz_S 5 (some .int) am_r100 5 Q 65 [(0, .ref 17), (1, .ref 41), (3, .int a3), (4, .int (nI k))] [am_rf (h434.2.2.1 41 4)] h434 from ⟨ex_41 f435, ?_⟩)
      rw [show am_rf (h434.2.2.1 41 4) = .ref 44 from congrArg am_rf (ex_r41_4 f435)]
      refine am_goX 3 (show (Value.int (nI k)).category = 1 ∧ (Value.ref 44).category = 1 ∧ ∃ jj nn : Nat, am_sh h434 44 = some (13, nn) ∧ jj < nn ∧ nI k = nI jj ∧ pz_S 5 (some .int) am_r100 5 Q 69 [(0, .ref 17), (1, .ref 41), (3, .int a3), (4, .int (nI k))] [.int (h434.1 44 jj), .int (nI k), .ref 44] h434 from ⟨rfl, rfl, ⟨k, 5, ex_44 f435, (by omega), rfl, ?_⟩⟩)
      rw [show h434.1 44 k = (d_108_s s (s.2.2.2.2.2 k)).2.2.2.2.1 k from (f441.2.2 k (by omega)).1]
      refine am_goX 3 (show ∃ jj nn : Nat, am_so h434 44 = some (13, nn) ∧ jj < nn ∧ nI k = nI jj ∧ pz_S 5 (some .int) am_r100 5 Q 72 [(0, .ref 17), (1, .ref 41), (3, .int a3), (4, .int (nI k))] [] (am_wI h434 44 jj (((d_108_s s (s.2.2.2.2.2 k)).2.2.2.2.1 k) + (Int32.ofInt 1))) from ⟨k, 5, ex_w44 f435, (by omega), rfl, ?_⟩)
      have f444 : ex_P (am_wI h434 44 k (((d_108_s s (s.2.2.2.2.2 k)).2.2.2.2.1 k) + (Int32.ofInt 1))) := f435
      have f445 : cI C := f436
      have f446 : c_v 17 C (am_wI h434 44 k (((d_108_s s (s.2.2.2.2.2 k)).2.2.2.2.1 k) + (Int32.ofInt 1))) := c_v_w (by omega) f437
      have f447 : c_d 17 C (am_wI h434 44 k (((d_108_s s (s.2.2.2.2.2 k)).2.2.2.2.1 k) + (Int32.ofInt 1))) := c_d_w (by omega) f438
      have f448 : (am_wI h434 44 k (((d_108_s s (s.2.2.2.2.2 k)).2.2.2.2.1 k) + (Int32.ofInt 1))).2.2.1 0 3 = some 17 := f439
      have f449 : sC 36 u (am_wI h434 44 k (((d_108_s s (s.2.2.2.2.2 k)).2.2.2.2.1 k) + (Int32.ofInt 1))) := sC_w (by omega) f440
      have f450 : sC 41 (sSH (d_108_s s (s.2.2.2.2.2 k)) k (((d_108_s s (s.2.2.2.2.2 k)).2.2.2.2.1 k) + (Int32.ofInt 1))) (am_wI h434 44 k (((d_108_s s (s.2.2.2.2.2 k)).2.2.2.2.1 k) + (Int32.ofInt 1))) := sC_wH (by omega) f441
      generalize am_wI h434 44 k (((d_108_s s (s.2.2.2.2.2 k)).2.2.2.2.1 k) + (Int32.ofInt 1)) = h443 at f444 f445 f446 f447 f448 f449 f450 ⊢
      refine am_goX 8 (show 3 < 5 ∧ 4 < 5 ∧ pz_S 5 (some .int) am_r100 5 Q 21 [(4, .int ((nI k) + (Int32.ofInt 1))), (3, .int (a3 ||| ((Int32.ofInt 1) <<< ((nI k) &&& 31)))), (0, .ref 17), (1, .ref 41)] [] h443 from ⟨by decide, by decide, ?_⟩)
      rw [show d_100_21 C (m + 1) k a3 s = d_100_21 C m (k + 1) (a3 ||| ((Int32.ofInt 1) <<< ((nI k) &&& 31))) (sSH (d_108_s s (s.2.2.2.2.2 k)) k (((d_108_s s (s.2.2.2.2.2 k)).2.2.2.2.1 k) + (Int32.ofInt 1))) from if_neg c442] at hZ
      rw [show (nI k) + (Int32.ofInt 1) = nI (k + 1) from (dn_a rfl rfl)]
      exact sv_S2 sv2_100 (by intro q hq; simp only [List.mem_cons, List.not_mem_nil, or_false] at hq; rcases hq with rfl | rfl | rfl | rfl <;> rfl) (ih (k + 1) (a3 ||| ((Int32.ofInt 1) <<< ((nI k) &&& 31))) (sSH (d_108_s s (s.2.2.2.2.2 k)) k (((d_108_s s (s.2.2.2.2.2 k)).2.2.2.2.1 k) + (Int32.ofInt 1))) _ (by omega) f444 f445 f446 f447 f448 f449 f450 hZ)
theorem d_100_t17_41 (hP : ex_P h) (hI : cI C) (hT : c_v 17 C h) (hD : c_d 17 C h) (hR : h.2.2.1 0 3 = some 17) (hN : sC 36 u h) (hS : sC 41 s h)  (hQ : ∀ h1, (ex_P h1) → (cI C) → (c_v 17 C h1) → (c_d 17 C h1) → (h1.2.2.1 0 3 = some 17) → (sC 36 u h1) → (sC 41 (d_100_s C s w) h1) → Q (some (.int (d_100 C s w))) h1) : am_call am_cod 6 100 [.ref 17, .ref 41, .int w] h Q := by
  have h6 := hT.1.2.1
  have h5 := hT.2.1.2.1
  refine pz_call (n := 100) (nL := 5) (rt := (some .int)) (rows := am_r100) (d := 5) (by decide +kernel) (by decide +kernel) rfl (by funext pc; rfl) (ex_175 hP) (by exact Nat.le_of_ble_eq_true rfl) ?_
  refine am_goX 3 (show (Value.ref 41).category = 1 ∧ am_sh h 41 = some (6, 0) ∧ pz_S 5 (some .int) am_r100 5 Q 5 [(0, .ref 17), (1, .ref 41), (2, .int w)] [.int (h.1 41 0), .ref 41] h from ⟨rfl, ex_41 hP, ?_⟩)
  rw [show h.1 41 0 = s.1 from hS.1.1]
  refine am_goX 3 (show am_sh h 41 = some (6, 0) ∧ narrow (am_fty 6 0) (.int (s.1 + (Int32.ofInt 1))) = .int (s.1 + (Int32.ofInt 1)) ∧ fits (am_fty 6 0) (.int (s.1 + (Int32.ofInt 1))) = true ∧ pz_S 5 (some .int) am_r100 5 Q 10 [(0, .ref 17), (1, .ref 41), (2, .int w)] [] (am_wI h 41 0 (s.1 + (Int32.ofInt 1))) from ⟨ex_41 hP, rfl, rfl, ?_⟩)
  have f419 : ex_P (am_wI h 41 0 (s.1 + (Int32.ofInt 1))) := hP
  have f420 : cI C := hI
  have f421 : c_v 17 C (am_wI h 41 0 (s.1 + (Int32.ofInt 1))) := c_v_w (by omega) hT
  have f422 : c_d 17 C (am_wI h 41 0 (s.1 + (Int32.ofInt 1))) := c_d_w (by omega) hD
  have f423 : (am_wI h 41 0 (s.1 + (Int32.ofInt 1))).2.2.1 0 3 = some 17 := hR
  have f424 : sC 36 u (am_wI h 41 0 (s.1 + (Int32.ofInt 1))) := sC_w (by omega) hN
  have f425 : sC 41 (sSD s (s.1 + (Int32.ofInt 1))) (am_wI h 41 0 (s.1 + (Int32.ofInt 1))) := sC_wD (by omega) hS
  generalize am_wI h 41 0 (s.1 + (Int32.ofInt 1)) = h418 at f419 f420 f421 f422 f423 f424 f425 ⊢
  refine am_goX 4 (show am_rc h418 17 0 ∧ 0 ≤ 8 ∧ h418.2.2.2.2 + am_al 101 ≤ 175 ∧ am_call am_cod 5 101 [.ref 17, .ref 41, .int w] h418 (fun vv h' => pz_S 5 (some .int) am_r100 5 Q 16 [(0, .ref 17), (1, .ref 41), (2, .int w)] (vv.toList ++ []) h') from ⟨Or.inl ⟨by decide, ex_17 f419⟩, by decide, ex_lim f419 rfl, am_call.up (d_101_t17_41 f419 f420 f421 f422 f423 f424 f425 (fun h426 f427 f428 f429 f430 f431 f432 f433 => ?_)) (by decide)⟩)
  refine am_goX 4 (show 3 < 5 ∧ 4 < 5 ∧ pz_S 5 (some .int) am_r100 5 Q 21 [(4, .int (Int32.ofInt 0)), (3, .int (Int32.ofInt 0)), (0, .ref 17), (1, .ref 41), (2, .int w)] [] h426 from ⟨by decide, by decide, ?_⟩)
  refine sv_S2 sv2_100 (by intro q hq; simp only [List.mem_cons, List.not_mem_nil, or_false] at hq; rcases hq with rfl | rfl | rfl | rfl <;> rfl) (d_100_21_t17_41 (dE C) 0 (Int32.ofInt 0) (d_101_s C (sSD s (s.1 + (Int32.ofInt 1))) w) _ (by omega) f427 f428 f429 f430 f431 f432 f433 (fun h451 f452 f453 f454 f455 f456 f457 f458 => ?_))
  exact am_goX 2 (show (∃ ty, (some .int) = some ty ∧ narrow ty (.int ((d_100_21 C (dE C) 0 (Int32.ofInt 0) (d_101_s C (sSD s (s.1 + (Int32.ofInt 1))) w)).1)) = .int ((d_100_21 C (dE C) 0 (Int32.ofInt 0) (d_101_s C (sSD s (s.1 + (Int32.ofInt 1))) w)).1)) ∧ h451.2.2.2.2 = 175 ∧ _ from ⟨⟨.int, rfl, rfl⟩, ex_175 f452, hQ _ f452 f453 f454 f455 f456 f457 f458⟩)
end
section
/-! WALKS: the reference's law, and that both laws are worth the same -/
theorem drop_T {C : sp_C} {k : Nat} (hk : k < dM C) : (dTL C).drop k = dT C k :: (dTL C).drop (k + 1) := by
  unfold dTL
  have hl : k < ((List.range (dM C)).map (dT C)).length := by
    rw [List.length_map, List.length_range]
    exact hk
  rw [List.drop_eq_getElem_cons hl, List.getElem_map, List.getElem_range]
theorem wf_s {C : sp_C} {k n : Nat} (hk : k < dM C) (hw : lst ((dTL C).drop k) n = some 1) : ((-4 : Int32) ≤ dT C k ∧ n < 32 ∧ lst ((dTL C).drop (k + 1)) (n + 1) = some 1) ∨ (dT C k = -5 ∧ 0 < n ∧ lst ((dTL C).drop (k + 1)) n = some 1) ∨ (¬ (-4 : Int32) ≤ dT C k ∧ ¬ dT C k = -5 ∧ 1 < n ∧ lst ((dTL C).drop (k + 1)) (n - 1) = some 1) := by
  rw [drop_T hk] at hw
  have hw : (ls1 (dT C k) n).bind (lst ((dTL C).drop (k + 1))) = some 1 := hw
  unfold ls1 at hw
  by_cases h1 : (-4 : Int32) ≤ dT C k
  · rw [if_pos h1] at hw
    by_cases h2 : n < 32
    · rw [if_pos h2] at hw
      exact Or.inl ⟨h1, h2, hw⟩
    · rw [if_neg h2] at hw
      cases hw
  · rw [if_neg h1] at hw
    by_cases h3 : dT C k = -5
    · rw [if_pos h3] at hw
      by_cases h2 : 0 < n
      · rw [if_pos h2] at hw
        exact Or.inr (Or.inl ⟨h3, h2, hw⟩)
      · rw [if_neg h2] at hw
        cases hw
    · rw [if_neg h3] at hw
      by_cases h2 : 1 < n
      · rw [if_pos h2] at hw
        exact Or.inr (Or.inr ⟨h1, h3, h2, hw⟩)
      · rw [if_neg h2] at hw
        cases hw
theorem rbo_v {x : Int32} : (rb_o x = Int32.ofInt 1 ∨ rb_o x = Int32.ofInt 2) ↔ (-4 : Int32) ≤ x := by
  unfold rb_o
  by_cases h0 : 0 ≤ x
  · rw [decide_eq_true h0]
    exact ⟨fun _ => le_m4 h0, fun _ => Or.inl rfl⟩
  · rw [decide_eq_false h0]
    by_cases h1 : (-4 : Int32) ≤ x
    · rw [decide_eq_true h1]
      exact ⟨fun _ => h1, fun _ => Or.inr rfl⟩
    · rw [decide_eq_false h1]
      refine ⟨fun w => ?_, fun w => absurd w h1⟩
      dsimp only [cond] at w
      exfalso
      revert w
      cases decide (x = -5) <;> cases decide (x = -6) <;> cases decide (x = -7) <;> cases decide (x = -8) <;> cases decide (x = -9) <;> cases decide (x = -10) <;> cases decide (x = -11) <;> decide
theorem rbo_1 {x : Int32} : rb_o x = Int32.ofInt 1 ↔ 0 ≤ x := by
  unfold rb_o
  by_cases h0 : 0 ≤ x
  · rw [decide_eq_true h0]
    exact ⟨fun _ => h0, fun _ => rfl⟩
  · rw [decide_eq_false h0]
    refine ⟨fun w => ?_, fun w => absurd w h0⟩
    dsimp only [cond] at w
    exfalso
    revert w
    cases decide ((-4 : Int32) ≤ x) <;> cases decide (x = -5) <;> cases decide (x = -6) <;> cases decide (x = -7) <;> cases decide (x = -8) <;> cases decide (x = -9) <;> cases decide (x = -10) <;> cases decide (x = -11) <;> decide
theorem rbo_0 (x : Int32) : ¬ rb_o x = 0 := by
  unfold rb_o
  cases decide (0 ≤ x) <;> cases decide ((-4 : Int32) ≤ x) <;> cases decide (x = -5) <;> cases decide (x = -6) <;> cases decide (x = -7) <;> cases decide (x = -8) <;> cases decide (x = -9) <;> cases decide (x = -10) <;> cases decide (x = -11) <;> decide
theorem rbo_5 {x : Int32} (h1 : ¬ (-4 : Int32) ≤ x) : rb_o x = Int32.ofInt 3 ↔ x = -5 := by
  have h0 : ¬ (0 : Int32) ≤ x := fun w => h1 (le_m4 w)
  unfold rb_o
  rw [decide_eq_false h0, decide_eq_false h1]
  by_cases h5 : x = -5
  · rw [decide_eq_true h5]
    exact ⟨fun _ => h5, fun _ => rfl⟩
  · rw [decide_eq_false h5]
    refine ⟨fun w => ?_, fun w => absurd w h5⟩
    dsimp only [cond] at w
    exfalso
    revert w
    cases decide (x = -6) <;> cases decide (x = -7) <;> cases decide (x = -8) <;> cases decide (x = -9) <;> cases decide (x = -10) <;> cases decide (x = -11) <;> decide
/-- which fact -/
def fsel (x a b c d : Int32) : Int32 := if x = -1 then a else if x = -2 then b else if x = -3 then c else d
theorem neg4 {x : Int32} (h1 : (-4 : Int32) ≤ x) (h0 : ¬ 0 ≤ x) : x = -1 ∨ x = -2 ∨ x = -3 ∨ x = -4 := by
  have a := Int32.le_iff_toInt_le.mp h1
  have b := mt Int32.le_iff_toInt_le.mpr h0
  have e0 : (0 : Int32).toInt = 0 := rfl
  have e4 : (-4 : Int32).toInt = -4 := by decide
  have c : x.toInt = -1 ∨ x.toInt = -2 ∨ x.toInt = -3 ∨ x.toInt = -4 := by omega
  rcases c with c | c | c | c
  · exact Or.inl (Int32.toInt_inj.mp (c.trans (by decide)))
  · exact Or.inr (Or.inl (Int32.toInt_inj.mp (c.trans (by decide))))
  · exact Or.inr (Or.inr (Or.inl (Int32.toInt_inj.mp (c.trans (by decide)))))
  · exact Or.inr (Or.inr (Or.inr (Int32.toInt_inj.mp (c.trans (by decide)))))
theorem rba_n {x : Int32} (h : rb_o x = Int32.ofInt 2) : rb_a x = nI (rb_a x).toInt.toNat ∧ (rb_a x).toInt.toNat < 4 ∧ ∀ (g : Nat → Int32), g (rb_a x).toInt.toNat = fsel x (g 0) (g 1) (g 2) (g 3) := by
  have h1 : (-4 : Int32) ≤ x := rbo_v.mp (Or.inr h)
  have h0 : ¬ 0 ≤ x := fun w => by
    rw [rbo_1.mpr w] at h
    exact absurd h (by decide)
  rcases neg4 h1 h0 with rfl | rfl | rfl | rfl
  · exact ⟨by decide, by decide, fun g => rfl⟩
  · exact ⟨by decide, by decide, fun g => rfl⟩
  · exact ⟨by decide, by decide, fun g => rfl⟩
  · exact ⟨by decide, by decide, fun g => rfl⟩
theorem fc_w {k : Nat} {v a b c d : Int32} {h : am_H} (l : h.1 168 0 = a ∧ h.1 168 1 = b ∧ h.1 168 2 = c ∧ h.1 168 3 = d) : (am_wI h 169 k v).1 168 0 = a ∧ (am_wI h 169 k v).1 168 1 = b ∧ (am_wI h 169 k v).1 168 2 = c ∧ (am_wI h 169 k v).1 168 3 = d := by
  rw [em_wn _ _ (by omega), em_wn _ _ (by omega), em_wn _ _ (by omega), em_wn _ _ (by omega)]
  exact l
theorem wf_p {C : sp_C} {k n : Nat} (hk : k < dM C) (hw : lst ((dTL C).drop k) n = some 1) (h : rb_o (dT C k) = Int32.ofInt 1 ∨ rb_o (dT C k) = Int32.ofInt 2) : n < 32 ∧ lst ((dTL C).drop (k + 1)) (n + 1) = some 1 := by
  have h4 := rbo_v.mp h
  rcases wf_s hk hw with w | w | w
  · exact w.2
  · rw [w.1] at h4
    exact absurd h4 (by decide)
  · exact absurd h4 w.1
theorem wf_n {C : sp_C} {k n : Nat} (hk : k < dM C) (hw : lst ((dTL C).drop k) n = some 1) (h : rb_o (dT C k) = Int32.ofInt 3) : 0 < n ∧ lst ((dTL C).drop (k + 1)) n = some 1 := by
  have h4 : ¬ (-4 : Int32) ≤ dT C k := fun w => by
    rcases rbo_v.mpr w with z | z <;> (rw [h] at z; exact absurd z (by decide))
  rcases wf_s hk hw with w | w | w
  · exact absurd w.1 h4
  · exact w.2
  · exact absurd ((rbo_5 h4).mp h) w.2.1
theorem wf_b {C : sp_C} {k n : Nat} (hk : k < dM C) (hw : lst ((dTL C).drop k) n = some 1) (h1 : ¬ rb_o (dT C k) = Int32.ofInt 1) (h2 : ¬ rb_o (dT C k) = Int32.ofInt 2) (h3 : ¬ rb_o (dT C k) = Int32.ofInt 3) : 1 < n ∧ lst ((dTL C).drop (k + 1)) (n - 1) = some 1 := by
  have h4 : ¬ (-4 : Int32) ≤ dT C k := fun w => (rbo_v.mpr w).elim h1 h2
  rcases wf_s hk hw with w | w | w
  · exact absurd w.1 h4
  · exact absurd ((rbo_5 h4).mpr w.1) h3
  · exact w.2.2
theorem tR_l0 {C : sp_C} {h : am_H} (l : tR C h) (ht : C.2.2.2.1 = true) {k : Nat} (hk : k = dM C) : h.1 161 k = Int32.ofInt 0 := by
  rw [hk]
  exact l.2.2.2.2.2.2.1 ht
variable {h : am_H} {Q : am_Q} {C V : sp_C} {x y w a b c d : Int32} {p q e : Nat} {s u : dS} {h0 : am_H} {f : Nat → Int32}
theorem ex_168 {h : am_H} (hP : ex_P h) : am_sh h 168 = some (13, 4) := (ex_so hP (by decide +kernel)).2
theorem ex_w168 {h : am_H} (hP : ex_P h) : am_so h 168 = some (13, 4) := (ex_so hP (by decide +kernel)).1
theorem ex_169 {h : am_H} (hP : ex_P h) : am_sh h 169 = some (13, 1100) := (ex_so hP (by decide +kernel)).2
theorem ex_w169 {h : am_H} (hP : ex_P h) : am_so h 169 = some (13, 1100) := (ex_so hP (by decide +kernel)).1
theorem ex_r154_22 {h : am_H} (hP : ex_P h) : h.2.2.1 154 22 = some 168 := hP.2 154 22 168 (by decide +kernel)
theorem ex_r154_23 {h : am_H} (hP : ex_P h) : h.2.2.1 154 23 = some 169 := hP.2 154 23 169 (by decide +kernel)
theorem sv2_236 : am_r236.all (fun q => sv2_ok q.2) = true := by decide +kernel
theorem sv2_237 : am_r237.all (fun q => sv2_ok q.2) = true := by decide +kernel
def d_237 (x a b : Int32) : Int32 := (if x = Int32.ofInt 4 then a + b else (if x = Int32.ofInt 5 then a - b else (if x = Int32.ofInt 6 then a * b else (if x = Int32.ofInt 7 then (if b ≤ a then Int32.ofInt 0 else Int32.ofInt 1) else (if x = Int32.ofInt 8 then (if ¬ a = b then Int32.ofInt 0 else Int32.ofInt 1) else (if x = Int32.ofInt 9 then (if a = 0 then Int32.ofInt 0 else (if b = 0 then Int32.ofInt 0 else Int32.ofInt 1)) else (if ¬ a = 0 then Int32.ofInt 1 else (if b = 0 then Int32.ofInt 0 else Int32.ofInt 1))))))))
theorem d_237_w (hP : ex_P h)  (hQ : Q (some (.int (d_237 x a b))) h) : am_call am_cod 1 237 [.int x, .int a, .int b] h Q := by
  refine pz_call (n := 237) (nL := 3) (rt := (some .int)) (rows := am_r237) (d := 0) (by decide +kernel) (by decide +kernel) rfl (by funext pc; rfl) (ex_175 hP) (by exact Nat.le_of_ble_eq_true rfl) ?_
  refine am_goX 2 (show ((x.toInt < 4 ∨ 9 < x.toInt) → pz_S 3 (some .int) am_r237 0 Q 88 [(0, .int x), (1, .int a), (2, .int b)] [] h) ∧ (∀ j : Nat, x.toInt = 4 + (j : Int) → 4 + (j : Int) ≤ 9 → pz_S 3 (some .int) am_r237 0 Q ((1 : Int) + ((#[39, 43, 47, 51, 62, 73] : Array Int)[j]?).getD 0).toNat [(0, .int x), (1, .int a), (2, .int b)] [] h) from ⟨fun hd => ?_, fun j hj1 hj2 => ?_⟩)
  · have c1 : ¬ x = Int32.ofInt 4 := fun w => by rw [w] at hd; revert hd; decide
    have c2 : ¬ x = Int32.ofInt 5 := fun w => by rw [w] at hd; revert hd; decide
    have c3 : ¬ x = Int32.ofInt 6 := fun w => by rw [w] at hd; revert hd; decide
    have c4 : ¬ x = Int32.ofInt 7 := fun w => by rw [w] at hd; revert hd; decide
    have c5 : ¬ x = Int32.ofInt 8 := fun w => by rw [w] at hd; revert hd; decide
    have c6 : ¬ x = Int32.ofInt 9 := fun w => by rw [w] at hd; revert hd; decide
    suffices key : ∀ (v8 : Int32), v8 = (if ¬ a = 0 then Int32.ofInt 1 else (if b = 0 then Int32.ofInt 0 else Int32.ofInt 1)) → pz_S 3 (some .int) am_r237 0 Q 101 [] [.int v8] h by
      refine am_goX 2 (show (¬ a = 0 → pz_S 3 (some .int) am_r237 0 Q 96 [(0, .int x), (1, .int a), (2, .int b)] [] h) ∧ (¬ ¬ a = 0 → pz_S 3 (some .int) am_r237 0 Q 92 [(0, .int x), (1, .int a), (2, .int b)] [] h) from ⟨fun c7 => ?_, fun c7 => ?_⟩)
      · refine am_goX 2 (show pz_S 3 (some .int) am_r237 0 Q 101 [(0, .int x), (1, .int a), (2, .int b)] [.int (Int32.ofInt 1)] h from ?_)
        exact sv_S2 sv2_237 (fun q hq => absurd hq List.not_mem_nil) (key _ (if_pos c7).symm)
      · suffices key : ∀ (v10 : Int32), v10 = (if b = 0 then Int32.ofInt 0 else Int32.ofInt 1) → pz_S 3 (some .int) am_r237 0 Q 101 [] [.int v10] h by
          refine am_goX 2 (show (b = 0 → pz_S 3 (some .int) am_r237 0 Q 100 [(0, .int x), (1, .int a), (2, .int b)] [] h) ∧ (¬ (b = 0) → pz_S 3 (some .int) am_r237 0 Q 96 [(0, .int x), (1, .int a), (2, .int b)] [] h) from ⟨fun c9 => ?_, fun c9 => ?_⟩)
          · refine am_goX 1 (show pz_S 3 (some .int) am_r237 0 Q 101 [(0, .int x), (1, .int a), (2, .int b)] [.int (Int32.ofInt 0)] h from ?_)
            exact sv_S2 sv2_237 (fun q hq => absurd hq List.not_mem_nil) (key _ (if_pos c9).symm)
          · refine am_goX 2 (show pz_S 3 (some .int) am_r237 0 Q 101 [(0, .int x), (1, .int a), (2, .int b)] [.int (Int32.ofInt 1)] h from ?_)
            exact sv_S2 sv2_237 (fun q hq => absurd hq List.not_mem_nil) (key _ (if_neg c9).symm)
        intro v10 e11
        subst e11
        exact sv_S2 sv2_237 (fun q hq => absurd hq List.not_mem_nil) (key _ (if_neg c7).symm)
    intro v8 e12
    subst e12
    exact am_goX 1 (show (∃ ty, (some .int) = some ty ∧ narrow ty (.int (if ¬ a = 0 then Int32.ofInt 1 else (if b = 0 then Int32.ofInt 0 else Int32.ofInt 1))) = .int (if ¬ a = 0 then Int32.ofInt 1 else (if b = 0 then Int32.ofInt 0 else Int32.ofInt 1))) ∧ h.2.2.2.2 = 175 ∧ _ from ⟨⟨.int, rfl, rfl⟩, ex_175 hP, dn_q ((if_neg c1).trans ((if_neg c2).trans ((if_neg c3).trans ((if_neg c4).trans ((if_neg c5).trans (if_neg c6)))))) hQ⟩)
  · have hj : j = 0 ∨ j = 1 ∨ j = 2 ∨ j = 3 ∨ j = 4 ∨ j = 5 := by omega
    rcases hj with rfl | rfl | rfl | rfl | rfl | rfl
    · have c1 : x = Int32.ofInt 4 := Int32.toInt_inj.mp (hj1.trans (by decide))
      show pz_S 3 (some .int) am_r237 0 Q 40 [(0, .int x), (1, .int a), (2, .int b)] [] h
      exact am_goX 4 (show (∃ ty, (some .int) = some ty ∧ narrow ty (.int (a + b)) = .int (a + b)) ∧ h.2.2.2.2 = 175 ∧ _ from ⟨⟨.int, rfl, rfl⟩, ex_175 hP, dn_q (if_pos c1) hQ⟩)
    · have c2 : x = Int32.ofInt 5 := Int32.toInt_inj.mp (hj1.trans (by decide))
      have c1 : ¬ x = Int32.ofInt 4 := by rw [c2]; decide
      show pz_S 3 (some .int) am_r237 0 Q 44 [(0, .int x), (1, .int a), (2, .int b)] [] h
      exact am_goX 4 (show (∃ ty, (some .int) = some ty ∧ narrow ty (.int (a - b)) = .int (a - b)) ∧ h.2.2.2.2 = 175 ∧ _ from ⟨⟨.int, rfl, rfl⟩, ex_175 hP, dn_q ((if_neg c1).trans (if_pos c2)) hQ⟩)
    · have c3 : x = Int32.ofInt 6 := Int32.toInt_inj.mp (hj1.trans (by decide))
      have c1 : ¬ x = Int32.ofInt 4 := by rw [c3]; decide
      have c2 : ¬ x = Int32.ofInt 5 := by rw [c3]; decide
      show pz_S 3 (some .int) am_r237 0 Q 48 [(0, .int x), (1, .int a), (2, .int b)] [] h
      exact am_goX 4 (show (∃ ty, (some .int) = some ty ∧ narrow ty (.int (a * b)) = .int (a * b)) ∧ h.2.2.2.2 = 175 ∧ _ from ⟨⟨.int, rfl, rfl⟩, ex_175 hP, dn_q ((if_neg c1).trans ((if_neg c2).trans (if_pos c3))) hQ⟩)
    · have c4 : x = Int32.ofInt 7 := Int32.toInt_inj.mp (hj1.trans (by decide))
      have c1 : ¬ x = Int32.ofInt 4 := by rw [c4]; decide
      have c2 : ¬ x = Int32.ofInt 5 := by rw [c4]; decide
      have c3 : ¬ x = Int32.ofInt 6 := by rw [c4]; decide
      show pz_S 3 (some .int) am_r237 0 Q 52 [(0, .int x), (1, .int a), (2, .int b)] [] h
      suffices key : ∀ (v14 : Int32), v14 = (if b ≤ a then Int32.ofInt 0 else Int32.ofInt 1) → pz_S 3 (some .int) am_r237 0 Q 62 [] [.int v14] h by
        refine am_goX 3 (show (b ≤ a → pz_S 3 (some .int) am_r237 0 Q 61 [(0, .int x), (1, .int a), (2, .int b)] [] h) ∧ (¬ (b ≤ a) → pz_S 3 (some .int) am_r237 0 Q 57 [(0, .int x), (1, .int a), (2, .int b)] [] h) from ⟨fun c13 => ?_, fun c13 => ?_⟩)
        · refine am_goX 1 (show pz_S 3 (some .int) am_r237 0 Q 62 [(0, .int x), (1, .int a), (2, .int b)] [.int (Int32.ofInt 0)] h from ?_)
          exact sv_S2 sv2_237 (fun q hq => absurd hq List.not_mem_nil) (key _ (if_pos c13).symm)
        · refine am_goX 2 (show pz_S 3 (some .int) am_r237 0 Q 62 [(0, .int x), (1, .int a), (2, .int b)] [.int (Int32.ofInt 1)] h from ?_)
          exact sv_S2 sv2_237 (fun q hq => absurd hq List.not_mem_nil) (key _ (if_neg c13).symm)
      intro v14 e15
      subst e15
      exact am_goX 1 (show (∃ ty, (some .int) = some ty ∧ narrow ty (.int (if b ≤ a then Int32.ofInt 0 else Int32.ofInt 1)) = .int (if b ≤ a then Int32.ofInt 0 else Int32.ofInt 1)) ∧ h.2.2.2.2 = 175 ∧ _ from ⟨⟨.int, rfl, rfl⟩, ex_175 hP, dn_q ((if_neg c1).trans ((if_neg c2).trans ((if_neg c3).trans (if_pos c4)))) hQ⟩)
    · have c5 : x = Int32.ofInt 8 := Int32.toInt_inj.mp (hj1.trans (by decide))
      have c1 : ¬ x = Int32.ofInt 4 := by rw [c5]; decide
      have c2 : ¬ x = Int32.ofInt 5 := by rw [c5]; decide
      have c3 : ¬ x = Int32.ofInt 6 := by rw [c5]; decide
      have c4 : ¬ x = Int32.ofInt 7 := by rw [c5]; decide
      show pz_S 3 (some .int) am_r237 0 Q 63 [(0, .int x), (1, .int a), (2, .int b)] [] h
      suffices key : ∀ (v17 : Int32), v17 = (if ¬ a = b then Int32.ofInt 0 else Int32.ofInt 1) → pz_S 3 (some .int) am_r237 0 Q 73 [] [.int v17] h by
        refine am_goX 3 (show (¬ a = b → pz_S 3 (some .int) am_r237 0 Q 72 [(0, .int x), (1, .int a), (2, .int b)] [] h) ∧ (¬ ¬ a = b → pz_S 3 (some .int) am_r237 0 Q 68 [(0, .int x), (1, .int a), (2, .int b)] [] h) from ⟨fun c16 => ?_, fun c16 => ?_⟩)
        · refine am_goX 1 (show pz_S 3 (some .int) am_r237 0 Q 73 [(0, .int x), (1, .int a), (2, .int b)] [.int (Int32.ofInt 0)] h from ?_)
          exact sv_S2 sv2_237 (fun q hq => absurd hq List.not_mem_nil) (key _ (if_pos c16).symm)
        · refine am_goX 2 (show pz_S 3 (some .int) am_r237 0 Q 73 [(0, .int x), (1, .int a), (2, .int b)] [.int (Int32.ofInt 1)] h from ?_)
          exact sv_S2 sv2_237 (fun q hq => absurd hq List.not_mem_nil) (key _ (if_neg c16).symm)
      intro v17 e18
      subst e18
      exact am_goX 1 (show (∃ ty, (some .int) = some ty ∧ narrow ty (.int (if ¬ a = b then Int32.ofInt 0 else Int32.ofInt 1)) = .int (if ¬ a = b then Int32.ofInt 0 else Int32.ofInt 1)) ∧ h.2.2.2.2 = 175 ∧ _ from ⟨⟨.int, rfl, rfl⟩, ex_175 hP, dn_q ((if_neg c1).trans ((if_neg c2).trans ((if_neg c3).trans ((if_neg c4).trans (if_pos c5))))) hQ⟩)
    · have c6 : x = Int32.ofInt 9 := Int32.toInt_inj.mp (hj1.trans (by decide))
      have c1 : ¬ x = Int32.ofInt 4 := by rw [c6]; decide
      have c2 : ¬ x = Int32.ofInt 5 := by rw [c6]; decide
      have c3 : ¬ x = Int32.ofInt 6 := by rw [c6]; decide
      have c4 : ¬ x = Int32.ofInt 7 := by rw [c6]; decide
      have c5 : ¬ x = Int32.ofInt 8 := by rw [c6]; decide
      show pz_S 3 (some .int) am_r237 0 Q 74 [(0, .int x), (1, .int a), (2, .int b)] [] h
      suffices key : ∀ (v20 : Int32), v20 = (if a = 0 then Int32.ofInt 0 else (if b = 0 then Int32.ofInt 0 else Int32.ofInt 1)) → pz_S 3 (some .int) am_r237 0 Q 87 [] [.int v20] h by
        refine am_goX 2 (show (a = 0 → pz_S 3 (some .int) am_r237 0 Q 86 [(0, .int x), (1, .int a), (2, .int b)] [] h) ∧ (¬ (a = 0) → pz_S 3 (some .int) am_r237 0 Q 78 [(0, .int x), (1, .int a), (2, .int b)] [] h) from ⟨fun c19 => ?_, fun c19 => ?_⟩)
        · refine am_goX 1 (show pz_S 3 (some .int) am_r237 0 Q 87 [(0, .int x), (1, .int a), (2, .int b)] [.int (Int32.ofInt 0)] h from ?_)
          exact sv_S2 sv2_237 (fun q hq => absurd hq List.not_mem_nil) (key _ (if_pos c19).symm)
        · suffices key : ∀ (v22 : Int32), v22 = (if b = 0 then Int32.ofInt 0 else Int32.ofInt 1) → pz_S 3 (some .int) am_r237 0 Q 87 [] [.int v22] h by
            refine am_goX 2 (show (b = 0 → pz_S 3 (some .int) am_r237 0 Q 86 [(0, .int x), (1, .int a), (2, .int b)] [] h) ∧ (¬ (b = 0) → pz_S 3 (some .int) am_r237 0 Q 82 [(0, .int x), (1, .int a), (2, .int b)] [] h) from ⟨fun c21 => ?_, fun c21 => ?_⟩)
            · refine am_goX 1 (show pz_S 3 (some .int) am_r237 0 Q 87 [(0, .int x), (1, .int a), (2, .int b)] [.int (Int32.ofInt 0)] h from ?_)
              exact sv_S2 sv2_237 (fun q hq => absurd hq List.not_mem_nil) (key _ (if_pos c21).symm)
            · refine am_goX 2 (show pz_S 3 (some .int) am_r237 0 Q 87 [(0, .int x), (1, .int a), (2, .int b)] [.int (Int32.ofInt 1)] h from ?_)
              exact sv_S2 sv2_237 (fun q hq => absurd hq List.not_mem_nil) (key _ (if_neg c21).symm)
          intro v22 e23
          subst e23
          exact sv_S2 sv2_237 (fun q hq => absurd hq List.not_mem_nil) (key _ (if_neg c19).symm)
      intro v20 e24
      subst e24
      exact am_goX 1 (show (∃ ty, (some .int) = some ty ∧ narrow ty (.int (if a = 0 then Int32.ofInt 0 else (if b = 0 then Int32.ofInt 0 else Int32.ofInt 1))) = .int (if a = 0 then Int32.ofInt 0 else (if b = 0 then Int32.ofInt 0 else Int32.ofInt 1))) ∧ h.2.2.2.2 = 175 ∧ _ from ⟨⟨.int, rfl, rfl⟩, ex_175 hP, dn_q ((if_neg c1).trans ((if_neg c2).trans ((if_neg c3).trans ((if_neg c4).trans ((if_neg c5).trans (if_pos c6)))))) hQ⟩)
def d_236_4 (C : sp_C) (a b c d : Int32) : Nat → Nat → Nat → (Nat → Int32) → Nat × (Nat → Int32)
  | 0, _, a2, f => (a2, f)
  | m + 1, k, a2, f => (if (rb_o (dT C k)) = (Int32.ofInt 1) then (d_236_4 C a b c d m (k + 1) (a2 + 1) (sp_uI f a2 (rb_a (dT C k)))) else (if ¬ (rb_o (dT C k)) = (Int32.ofInt 2) then (if ¬ (rb_o (dT C k)) = (Int32.ofInt 3) then (d_236_4 C a b c d m (k + 1) (a2 - 1) (sp_uI f ((a2 - 1) - 1) (d_237 (rb_o (dT C k)) (f ((a2 - 1) - 1)) (f (a2 - 1))))) else (d_236_4 C a b c d m (k + 1) a2 (sp_uI f (a2 - 1) (if ¬ (f (a2 - 1)) = 0 then Int32.ofInt 0 else Int32.ofInt 1)))) else (d_236_4 C a b c d m (k + 1) (a2 + 1) (sp_uI f a2 (fsel (dT C k) a b c d)))))
theorem d_236_4_r (ht : C.2.2.2.1 = true) : ∀ (m k : Nat) (a2 : Nat) (f : (Nat → Int32)) (h : am_H), k + m = dM C → (ex_P h) → (tR C h) → (h.1 168 0 = a ∧ h.1 168 1 = b ∧ h.1 168 2 = c ∧ h.1 168 3 = d) → (lfr 169 h0 h) → (∀ j, j < 1100 → h.1 169 j = f j) → (a2 ≤ 32) → (lst ((dTL C).drop k) a2 = some 1) → (∀ h1, (ex_P h1) → (tR C h1) → (h1.1 168 0 = a ∧ h1.1 168 1 = b ∧ h1.1 168 2 = c ∧ h1.1 168 3 = d) → (lfr 169 h0 h1) → (∀ j, j < 1100 → h1.1 169 j = ((d_236_4 C a b c d m k a2 f).2) j) → pz_S 5 (some .int) am_r236 1 Q 140 [(0, .ref 154)] [] h1) → pz_S 5 (some .int) am_r236 1 Q 4 [(0, .ref 154), (2, .int (nI a2)), (3, .int (nI k))] [] h := by
  intro m
  induction m with
  | zero =>
    intro k a2 f h hk hP hT hA hF hK hn hw hZ
    have hM := hT.2.2.2.2.1
    refine am_goX 2 (show am_sh h 154 = some (11, 0) ∧ pz_S 5 (some .int) am_r236 1 Q 8 [(0, .ref 154), (2, .int (nI a2)), (3, .int (nI k))] [am_rf (h.2.2.1 154 11)] h from ⟨ex_154 hP, ?_⟩)
    rw [show am_rf (h.2.2.1 154 11) = .ref 161 from congrArg am_rf (ex_r154_11 hP)]
    refine am_goX 2 (show ∃ jj nn : Nat, am_sh h 161 = some (13, nn) ∧ jj < nn ∧ nI k = nI jj ∧ pz_S 5 (some .int) am_r236 1 Q 10 [(0, .ref 154), (2, .int (nI a2)), (3, .int (nI k))] [.int (h.1 161 jj)] h from ⟨k, 2200, ex_161 hP, (by omega), rfl, ?_⟩)
    rw [show h.1 161 k = Int32.ofInt 0 from tR_l0 hT ht (by omega)]
    refine am_goX 1 (show ((Int32.ofInt 0) = 0 → pz_S 5 (some .int) am_r236 1 Q 140 [(0, .ref 154), (2, .int (nI a2)), (3, .int (nI k))] [] h) ∧ (¬ ((Int32.ofInt 0) = 0) → pz_S 5 (some .int) am_r236 1 Q 13 [(0, .ref 154), (2, .int (nI a2)), (3, .int (nI k))] [] h) from ⟨fun _ => ?_, fun hz => absurd (by decide) hz⟩)
    exact sv_S2 sv2_236 (by intro q hq; simp only [List.mem_cons, List.not_mem_nil, or_false] at hq; rcases hq with rfl <;> rfl) (hZ _ hP hT hA hF hK)
  | succ m ih =>
    intro k a2 f h hk hP hT hA hF hK hn hw hZ
    have hM := hT.2.2.2.2.1
    refine am_goX 2 (show am_sh h 154 = some (11, 0) ∧ pz_S 5 (some .int) am_r236 1 Q 8 [(0, .ref 154), (2, .int (nI a2)), (3, .int (nI k))] [am_rf (h.2.2.1 154 11)] h from ⟨ex_154 hP, ?_⟩)
    rw [show am_rf (h.2.2.1 154 11) = .ref 161 from congrArg am_rf (ex_r154_11 hP)]
    refine am_goX 2 (show ∃ jj nn : Nat, am_sh h 161 = some (13, nn) ∧ jj < nn ∧ nI k = nI jj ∧ pz_S 5 (some .int) am_r236 1 Q 10 [(0, .ref 154), (2, .int (nI a2)), (3, .int (nI k))] [.int (h.1 161 jj)] h from ⟨k, 2200, ex_161 hP, (by omega), rfl, ?_⟩)
    rw [show h.1 161 k = rb_o (dT C k) from (hT.2.2.2.2.2.1 k (by omega)).1]
    refine am_goX 1 (show ((rb_o (dT C k)) = 0 → pz_S 5 (some .int) am_r236 1 Q 140 [(0, .ref 154), (2, .int (nI a2)), (3, .int (nI k))] [] h) ∧ (¬ ((rb_o (dT C k)) = 0) → pz_S 5 (some .int) am_r236 1 Q 13 [(0, .ref 154), (2, .int (nI a2)), (3, .int (nI k))] [] h) from ⟨fun hz => absurd hz (rbo_0 _), fun _ => ?_⟩)
    refine am_goX 2 (show am_sh h 154 = some (11, 0) ∧ pz_S 5 (some .int) am_r236 1 Q 17 [(0, .ref 154), (2, .int (nI a2)), (3, .int (nI k))] [am_rf (h.2.2.1 154 11)] h from ⟨ex_154 hP, ?_⟩)
    rw [show am_rf (h.2.2.1 154 11) = .ref 161 from congrArg am_rf (ex_r154_11 hP)]
    refine am_goX 2 (show ∃ jj nn : Nat, am_sh h 161 = some (13, nn) ∧ jj < nn ∧ nI k = nI jj ∧ pz_S 5 (some .int) am_r236 1 Q 19 [(0, .ref 154), (2, .int (nI a2)), (3, .int (nI k))] [.int (h.1 161 jj)] h from ⟨k, 2200, ex_161 hP, (by omega), rfl, ?_⟩)
    rw [show h.1 161 k = rb_o (dT C k) from (hT.2.2.2.2.2.1 k (by omega)).1]
    refine am_goX 4 (show 4 < 5 ∧ ((rb_o (dT C k)) = (Int32.ofInt 1) → pz_S 5 (some .int) am_r236 1 Q 33 [(4, .int (rb_o (dT C k))), (0, .ref 154), (2, .int (nI a2)), (3, .int (nI k))] [] h) ∧ (¬ ((rb_o (dT C k)) = (Int32.ofInt 1)) → pz_S 5 (some .int) am_r236 1 Q 27 [(4, .int (rb_o (dT C k))), (0, .ref 154), (2, .int (nI a2)), (3, .int (nI k))] [] h) from ⟨by decide, fun c25 => ?_, fun c25 => ?_⟩)
    · obtain ⟨w26l, w26⟩ := wf_p (by omega) hw (Or.inl c25)
      refine am_goX 2 (show am_sh h 154 = some (11, 0) ∧ pz_S 5 (some .int) am_r236 1 Q 37 [(4, .int (rb_o (dT C k))), (0, .ref 154), (2, .int (nI a2)), (3, .int (nI k))] [am_rf (h.2.2.1 154 23)] h from ⟨ex_154 hP, ?_⟩)
      rw [show am_rf (h.2.2.1 154 23) = .ref 169 from congrArg am_rf (ex_r154_23 hP)]
      refine am_goX 4 (show (¬ (rb_o (dT C k)) = (Int32.ofInt 1) → pz_S 5 (some .int) am_r236 1 Q 53 [(4, .int (rb_o (dT C k))), (0, .ref 154), (2, .int (nI a2)), (3, .int (nI k))] [.int (nI a2), .ref 169] h) ∧ (¬ ¬ (rb_o (dT C k)) = (Int32.ofInt 1) → pz_S 5 (some .int) am_r236 1 Q 44 [(4, .int (rb_o (dT C k))), (0, .ref 154), (2, .int (nI a2)), (3, .int (nI k))] [.int (nI a2), .ref 169] h) from ⟨fun hz => absurd hz (fun w => w c25), fun _ => ?_⟩)
      refine am_goX 2 (show am_sh h 154 = some (11, 0) ∧ pz_S 5 (some .int) am_r236 1 Q 48 [(4, .int (rb_o (dT C k))), (0, .ref 154), (2, .int (nI a2)), (3, .int (nI k))] [am_rf (h.2.2.1 154 12), .int (nI a2), .ref 169] h from ⟨ex_154 hP, ?_⟩)
      rw [show am_rf (h.2.2.1 154 12) = .ref 162 from congrArg am_rf (ex_r154_12 hP)]
      refine am_goX 2 (show ∃ jj nn : Nat, am_sh h 162 = some (13, nn) ∧ jj < nn ∧ nI k = nI jj ∧ pz_S 5 (some .int) am_r236 1 Q 50 [(4, .int (rb_o (dT C k))), (0, .ref 154), (2, .int (nI a2)), (3, .int (nI k))] [.int (h.1 162 jj), .int (nI a2), .ref 169] h from ⟨k, 2200, ex_162 hP, (by omega), rfl, ?_⟩)
      rw [show h.1 162 k = rb_a (dT C k) from (hT.2.2.2.2.2.1 k (by omega)).2]
      refine am_goX 2 (show ∃ jj nn : Nat, am_so h 169 = some (13, nn) ∧ jj < nn ∧ nI a2 = nI jj ∧ pz_S 5 (some .int) am_r236 1 Q 65 [(4, .int (rb_o (dT C k))), (0, .ref 154), (2, .int (nI a2)), (3, .int (nI k))] [] (am_wI h 169 jj (rb_a (dT C k))) from ⟨a2, 1100, ex_w169 hP, (by omega), rfl, ?_⟩)
      have f28 : ex_P (am_wI h 169 a2 (rb_a (dT C k))) := hP
      have f29 : tR C (am_wI h 169 a2 (rb_a (dT C k))) := tR_w (by omega) hT
      have f30 : (am_wI h 169 a2 (rb_a (dT C k))).1 168 0 = a ∧ (am_wI h 169 a2 (rb_a (dT C k))).1 168 1 = b ∧ (am_wI h 169 a2 (rb_a (dT C k))).1 168 2 = c ∧ (am_wI h 169 a2 (rb_a (dT C k))).1 168 3 = d := fc_w hA
      have f31 : lfr 169 h0 (am_wI h 169 a2 (rb_a (dT C k))) := lfr_w hF
      have f32 : ∀ j, j < 1100 → (am_wI h 169 a2 (rb_a (dT C k))).1 169 j = (sp_uI f a2 (rb_a (dT C k))) j := stk_w hK
      generalize am_wI h 169 a2 (rb_a (dT C k)) = h27 at f28 f29 f30 f31 f32 ⊢
      refine am_goX 4 (show 2 < 5 ∧ 3 < 5 ∧ pz_S 5 (some .int) am_r236 1 Q 4 [(3, .int ((nI k) + (Int32.ofInt 1))), (2, .int ((nI a2) + (Int32.ofInt 1))), (4, .int (rb_o (dT C k))), (0, .ref 154)] [] h27 from ⟨by decide, by decide, ?_⟩)
      rw [show d_236_4 C a b c d (m + 1) k a2 f = d_236_4 C a b c d m (k + 1) (a2 + 1) (sp_uI f a2 (rb_a (dT C k))) from if_pos c25] at hZ
      rw [show (nI k) + (Int32.ofInt 1) = nI (k + 1) from (dn_a rfl rfl)]
      rw [show (nI a2) + (Int32.ofInt 1) = nI (a2 + 1) from (dn_a rfl rfl)]
      exact sv_S2 sv2_236 (by intro q hq; simp only [List.mem_cons, List.not_mem_nil, or_false] at hq; rcases hq with rfl | rfl | rfl <;> rfl) (ih (k + 1) (a2 + 1) (sp_uI f a2 (rb_a (dT C k))) _ (by omega) f28 f29 f30 f31 f32 (by omega) w26 hZ)
    · refine am_goX 3 (show (¬ (rb_o (dT C k)) = (Int32.ofInt 2) → pz_S 5 (some .int) am_r236 1 Q 71 [(4, .int (rb_o (dT C k))), (0, .ref 154), (2, .int (nI a2)), (3, .int (nI k))] [] h) ∧ (¬ ¬ (rb_o (dT C k)) = (Int32.ofInt 2) → pz_S 5 (some .int) am_r236 1 Q 33 [(4, .int (rb_o (dT C k))), (0, .ref 154), (2, .int (nI a2)), (3, .int (nI k))] [] h) from ⟨fun c33 => ?_, fun c33 => ?_⟩)
      · refine am_goX 3 (show (¬ (rb_o (dT C k)) = (Int32.ofInt 3) → pz_S 5 (some .int) am_r236 1 Q 104 [(4, .int (rb_o (dT C k))), (0, .ref 154), (2, .int (nI a2)), (3, .int (nI k))] [] h) ∧ (¬ ¬ (rb_o (dT C k)) = (Int32.ofInt 3) → pz_S 5 (some .int) am_r236 1 Q 77 [(4, .int (rb_o (dT C k))), (0, .ref 154), (2, .int (nI a2)), (3, .int (nI k))] [] h) from ⟨fun c34 => ?_, fun c34 => ?_⟩)
        · obtain ⟨w35l, w35⟩ := wf_b (by omega) hw c25 c33 c34
          refine am_goX 3 (show 2 < 5 ∧ am_sh h 154 = some (11, 0) ∧ pz_S 5 (some .int) am_r236 1 Q 111 [(2, .int ((nI a2) + (Int32.ofInt (-1)))), (4, .int (rb_o (dT C k))), (0, .ref 154), (3, .int (nI k))] [am_rf (h.2.2.1 154 23)] h from ⟨by decide, ex_154 hP, ?_⟩)
          rw [show am_rf (h.2.2.1 154 23) = .ref 169 from congrArg am_rf (ex_r154_23 hP)]
          refine am_goX 6 (show am_sh h 154 = some (11, 0) ∧ pz_S 5 (some .int) am_r236 1 Q 120 [(2, .int ((nI a2) + (Int32.ofInt (-1)))), (4, .int (rb_o (dT C k))), (0, .ref 154), (3, .int (nI k))] [am_rf (h.2.2.1 154 23), .int (rb_o (dT C k)), .int (((nI a2) + (Int32.ofInt (-1))) - (Int32.ofInt 1)), .ref 169] h from ⟨ex_154 hP, ?_⟩)
          rw [show am_rf (h.2.2.1 154 23) = .ref 169 from congrArg am_rf (ex_r154_23 hP)]
          refine am_goX 4 (show ∃ jj nn : Nat, am_sh h 169 = some (13, nn) ∧ jj < nn ∧ ((nI a2) + (Int32.ofInt (-1))) - (Int32.ofInt 1) = nI jj ∧ pz_S 5 (some .int) am_r236 1 Q 124 [(2, .int ((nI a2) + (Int32.ofInt (-1)))), (4, .int (rb_o (dT C k))), (0, .ref 154), (3, .int (nI k))] [.int (h.1 169 jj), .int (rb_o (dT C k)), .int (((nI a2) + (Int32.ofInt (-1))) - (Int32.ofInt 1)), .ref 169] h from ⟨((a2 - 1) - 1), 1100, ex_169 hP, (by omega), (dn_s (by omega) (dn_d (by omega) rfl (by decide)) rfl), ?_⟩)
          rw [show h.1 169 ((a2 - 1) - 1) = f ((a2 - 1) - 1) from hK ((a2 - 1) - 1) (by omega)]
          refine am_goX 2 (show am_sh h 154 = some (11, 0) ∧ pz_S 5 (some .int) am_r236 1 Q 128 [(2, .int ((nI a2) + (Int32.ofInt (-1)))), (4, .int (rb_o (dT C k))), (0, .ref 154), (3, .int (nI k))] [am_rf (h.2.2.1 154 23), .int (f ((a2 - 1) - 1)), .int (rb_o (dT C k)), .int (((nI a2) + (Int32.ofInt (-1))) - (Int32.ofInt 1)), .ref 169] h from ⟨ex_154 hP, ?_⟩)
          rw [show am_rf (h.2.2.1 154 23) = .ref 169 from congrArg am_rf (ex_r154_23 hP)]
          refine am_goX 2 (show ∃ jj nn : Nat, am_sh h 169 = some (13, nn) ∧ jj < nn ∧ (nI a2) + (Int32.ofInt (-1)) = nI jj ∧ pz_S 5 (some .int) am_r236 1 Q 130 [(2, .int ((nI a2) + (Int32.ofInt (-1)))), (4, .int (rb_o (dT C k))), (0, .ref 154), (3, .int (nI k))] [.int (h.1 169 jj), .int (f ((a2 - 1) - 1)), .int (rb_o (dT C k)), .int (((nI a2) + (Int32.ofInt (-1))) - (Int32.ofInt 1)), .ref 169] h from ⟨(a2 - 1), 1100, ex_169 hP, (by omega), (dn_d (by omega) rfl (by decide)), ?_⟩)
          rw [show h.1 169 (a2 - 1) = f (a2 - 1) from hK (a2 - 1) (by omega)]
          refine am_goX 1 (show 2 ≤ 8 ∧ h.2.2.2.2 + am_al 237 ≤ 175 ∧ am_call am_cod 1 237 [.int (rb_o (dT C k)), .int (f ((a2 - 1) - 1)), .int (f (a2 - 1))] h (fun vv h' => pz_S 5 (some .int) am_r236 1 Q 133 [(2, .int ((nI a2) + (Int32.ofInt (-1)))), (4, .int (rb_o (dT C k))), (0, .ref 154), (3, .int (nI k))] (vv.toList ++ [.int (((nI a2) + (Int32.ofInt (-1))) - (Int32.ofInt 1)), .ref 169]) h') from ⟨by decide, ex_lim hP rfl, am_call.up (d_237_w hP ?_) (by decide)⟩)
          refine am_goX 1 (show ∃ jj nn : Nat, am_so h 169 = some (13, nn) ∧ jj < nn ∧ ((nI a2) + (Int32.ofInt (-1))) - (Int32.ofInt 1) = nI jj ∧ pz_S 5 (some .int) am_r236 1 Q 134 [(2, .int ((nI a2) + (Int32.ofInt (-1)))), (4, .int (rb_o (dT C k))), (0, .ref 154), (3, .int (nI k))] [] (am_wI h 169 jj (d_237 (rb_o (dT C k)) (f ((a2 - 1) - 1)) (f (a2 - 1)))) from ⟨((a2 - 1) - 1), 1100, ex_w169 hP, (by omega), (dn_s (by omega) (dn_d (by omega) rfl (by decide)) rfl), ?_⟩)
          have f37 : ex_P (am_wI h 169 ((a2 - 1) - 1) (d_237 (rb_o (dT C k)) (f ((a2 - 1) - 1)) (f (a2 - 1)))) := hP
          have f38 : tR C (am_wI h 169 ((a2 - 1) - 1) (d_237 (rb_o (dT C k)) (f ((a2 - 1) - 1)) (f (a2 - 1)))) := tR_w (by omega) hT
          have f39 : (am_wI h 169 ((a2 - 1) - 1) (d_237 (rb_o (dT C k)) (f ((a2 - 1) - 1)) (f (a2 - 1)))).1 168 0 = a ∧ (am_wI h 169 ((a2 - 1) - 1) (d_237 (rb_o (dT C k)) (f ((a2 - 1) - 1)) (f (a2 - 1)))).1 168 1 = b ∧ (am_wI h 169 ((a2 - 1) - 1) (d_237 (rb_o (dT C k)) (f ((a2 - 1) - 1)) (f (a2 - 1)))).1 168 2 = c ∧ (am_wI h 169 ((a2 - 1) - 1) (d_237 (rb_o (dT C k)) (f ((a2 - 1) - 1)) (f (a2 - 1)))).1 168 3 = d := fc_w hA
          have f40 : lfr 169 h0 (am_wI h 169 ((a2 - 1) - 1) (d_237 (rb_o (dT C k)) (f ((a2 - 1) - 1)) (f (a2 - 1)))) := lfr_w hF
          have f41 : ∀ j, j < 1100 → (am_wI h 169 ((a2 - 1) - 1) (d_237 (rb_o (dT C k)) (f ((a2 - 1) - 1)) (f (a2 - 1)))).1 169 j = (sp_uI f ((a2 - 1) - 1) (d_237 (rb_o (dT C k)) (f ((a2 - 1) - 1)) (f (a2 - 1)))) j := stk_w hK
          generalize am_wI h 169 ((a2 - 1) - 1) (d_237 (rb_o (dT C k)) (f ((a2 - 1) - 1)) (f (a2 - 1))) = h36 at f37 f38 f39 f40 f41 ⊢
          refine am_goX 2 (show 3 < 5 ∧ pz_S 5 (some .int) am_r236 1 Q 4 [(3, .int ((nI k) + (Int32.ofInt 1))), (2, .int ((nI a2) + (Int32.ofInt (-1)))), (4, .int (rb_o (dT C k))), (0, .ref 154)] [] h36 from ⟨by decide, ?_⟩)
          rw [show d_236_4 C a b c d (m + 1) k a2 f = d_236_4 C a b c d m (k + 1) (a2 - 1) (sp_uI f ((a2 - 1) - 1) (d_237 (rb_o (dT C k)) (f ((a2 - 1) - 1)) (f (a2 - 1)))) from (if_neg c25).trans ((if_pos c33).trans (if_pos c34))] at hZ
          rw [show (nI k) + (Int32.ofInt 1) = nI (k + 1) from (dn_a rfl rfl)]
          rw [show (nI a2) + (Int32.ofInt (-1)) = nI (a2 - 1) from (dn_d (by omega) rfl (by decide))]
          exact sv_S2 sv2_236 (by intro q hq; simp only [List.mem_cons, List.not_mem_nil, or_false] at hq; rcases hq with rfl | rfl | rfl <;> rfl) (ih (k + 1) (a2 - 1) (sp_uI f ((a2 - 1) - 1) (d_237 (rb_o (dT C k)) (f ((a2 - 1) - 1)) (f (a2 - 1)))) _ (by omega) f37 f38 f39 f40 f41 (by omega) w35 hZ)
        · obtain ⟨w42l, w42⟩ := wf_n (by omega) hw (Decidable.not_not.mp c34)
          refine am_goX 2 (show am_sh h 154 = some (11, 0) ∧ pz_S 5 (some .int) am_r236 1 Q 81 [(4, .int (rb_o (dT C k))), (0, .ref 154), (2, .int (nI a2)), (3, .int (nI k))] [am_rf (h.2.2.1 154 23)] h from ⟨ex_154 hP, ?_⟩)
          rw [show am_rf (h.2.2.1 154 23) = .ref 169 from congrArg am_rf (ex_r154_23 hP)]
          refine am_goX 5 (show am_sh h 154 = some (11, 0) ∧ pz_S 5 (some .int) am_r236 1 Q 88 [(4, .int (rb_o (dT C k))), (0, .ref 154), (2, .int (nI a2)), (3, .int (nI k))] [am_rf (h.2.2.1 154 23), .int ((nI a2) - (Int32.ofInt 1)), .ref 169] h from ⟨ex_154 hP, ?_⟩)
          rw [show am_rf (h.2.2.1 154 23) = .ref 169 from congrArg am_rf (ex_r154_23 hP)]
          refine am_goX 4 (show ∃ jj nn : Nat, am_sh h 169 = some (13, nn) ∧ jj < nn ∧ (nI a2) - (Int32.ofInt 1) = nI jj ∧ pz_S 5 (some .int) am_r236 1 Q 92 [(4, .int (rb_o (dT C k))), (0, .ref 154), (2, .int (nI a2)), (3, .int (nI k))] [.int (h.1 169 jj), .int ((nI a2) - (Int32.ofInt 1)), .ref 169] h from ⟨(a2 - 1), 1100, ex_169 hP, (by omega), (dn_s (by omega) rfl rfl), ?_⟩)
          rw [show h.1 169 (a2 - 1) = f (a2 - 1) from hK (a2 - 1) (by omega)]
          suffices key : ∀ (v44 : Int32), v44 = (if ¬ (f (a2 - 1)) = 0 then Int32.ofInt 0 else Int32.ofInt 1) → pz_S 5 (some .int) am_r236 1 Q 100 [(0, .ref 154), (2, .int (nI a2)), (3, .int (nI k))] [.int v44, .int ((nI a2) - (Int32.ofInt 1)), .ref 169] h by
            refine am_goX 1 (show (¬ (f (a2 - 1)) = 0 → pz_S 5 (some .int) am_r236 1 Q 99 [(4, .int (rb_o (dT C k))), (0, .ref 154), (2, .int (nI a2)), (3, .int (nI k))] [.int ((nI a2) - (Int32.ofInt 1)), .ref 169] h) ∧ (¬ ¬ (f (a2 - 1)) = 0 → pz_S 5 (some .int) am_r236 1 Q 95 [(4, .int (rb_o (dT C k))), (0, .ref 154), (2, .int (nI a2)), (3, .int (nI k))] [.int ((nI a2) - (Int32.ofInt 1)), .ref 169] h) from ⟨fun c43 => ?_, fun c43 => ?_⟩)
            · refine am_goX 1 (show pz_S 5 (some .int) am_r236 1 Q 100 [(4, .int (rb_o (dT C k))), (0, .ref 154), (2, .int (nI a2)), (3, .int (nI k))] [.int (Int32.ofInt 0), .int ((nI a2) - (Int32.ofInt 1)), .ref 169] h from ?_)
              exact sv_S2 sv2_236 (by intro q hq; simp only [List.mem_cons, List.not_mem_nil, or_false] at hq; rcases hq with rfl | rfl | rfl <;> rfl) (key _ (if_pos c43).symm)
            · refine am_goX 2 (show pz_S 5 (some .int) am_r236 1 Q 100 [(4, .int (rb_o (dT C k))), (0, .ref 154), (2, .int (nI a2)), (3, .int (nI k))] [.int (Int32.ofInt 1), .int ((nI a2) - (Int32.ofInt 1)), .ref 169] h from ?_)
              exact sv_S2 sv2_236 (by intro q hq; simp only [List.mem_cons, List.not_mem_nil, or_false] at hq; rcases hq with rfl | rfl | rfl <;> rfl) (key _ (if_neg c43).symm)
          intro v44 e45
          subst e45
          refine am_goX 1 (show ∃ jj nn : Nat, am_so h 169 = some (13, nn) ∧ jj < nn ∧ (nI a2) - (Int32.ofInt 1) = nI jj ∧ pz_S 5 (some .int) am_r236 1 Q 101 [(0, .ref 154), (2, .int (nI a2)), (3, .int (nI k))] [] (am_wI h 169 jj (if ¬ (f (a2 - 1)) = 0 then Int32.ofInt 0 else Int32.ofInt 1)) from ⟨(a2 - 1), 1100, ex_w169 hP, (by omega), (dn_s (by omega) rfl rfl), ?_⟩)
          have f47 : ex_P (am_wI h 169 (a2 - 1) (if ¬ (f (a2 - 1)) = 0 then Int32.ofInt 0 else Int32.ofInt 1)) := hP
          have f48 : tR C (am_wI h 169 (a2 - 1) (if ¬ (f (a2 - 1)) = 0 then Int32.ofInt 0 else Int32.ofInt 1)) := tR_w (by omega) hT
          have f49 : (am_wI h 169 (a2 - 1) (if ¬ (f (a2 - 1)) = 0 then Int32.ofInt 0 else Int32.ofInt 1)).1 168 0 = a ∧ (am_wI h 169 (a2 - 1) (if ¬ (f (a2 - 1)) = 0 then Int32.ofInt 0 else Int32.ofInt 1)).1 168 1 = b ∧ (am_wI h 169 (a2 - 1) (if ¬ (f (a2 - 1)) = 0 then Int32.ofInt 0 else Int32.ofInt 1)).1 168 2 = c ∧ (am_wI h 169 (a2 - 1) (if ¬ (f (a2 - 1)) = 0 then Int32.ofInt 0 else Int32.ofInt 1)).1 168 3 = d := fc_w hA
          have f50 : lfr 169 h0 (am_wI h 169 (a2 - 1) (if ¬ (f (a2 - 1)) = 0 then Int32.ofInt 0 else Int32.ofInt 1)) := lfr_w hF
          have f51 : ∀ j, j < 1100 → (am_wI h 169 (a2 - 1) (if ¬ (f (a2 - 1)) = 0 then Int32.ofInt 0 else Int32.ofInt 1)).1 169 j = (sp_uI f (a2 - 1) (if ¬ (f (a2 - 1)) = 0 then Int32.ofInt 0 else Int32.ofInt 1)) j := stk_w hK
          generalize am_wI h 169 (a2 - 1) (if ¬ (f (a2 - 1)) = 0 then Int32.ofInt 0 else Int32.ofInt 1) = h46 at f47 f48 f49 f50 f51 ⊢
          refine am_goX 3 (show 3 < 5 ∧ pz_S 5 (some .int) am_r236 1 Q 4 [(3, .int ((nI k) + (Int32.ofInt 1))), (0, .ref 154), (2, .int (nI a2))] [] h46 from ⟨by decide, ?_⟩)
          rw [show d_236_4 C a b c d (m + 1) k a2 f = d_236_4 C a b c d m (k + 1) a2 (sp_uI f (a2 - 1) (if ¬ (f (a2 - 1)) = 0 then Int32.ofInt 0 else Int32.ofInt 1)) from (if_neg c25).trans ((if_pos c33).trans (if_neg c34))] at hZ
          rw [show (nI k) + (Int32.ofInt 1) = nI (k + 1) from (dn_a rfl rfl)]
          exact sv_S2 sv2_236 (by intro q hq; simp only [List.mem_cons, List.not_mem_nil, or_false] at hq; rcases hq with rfl | rfl | rfl <;> rfl) (ih (k + 1) a2 (sp_uI f (a2 - 1) (if ¬ (f (a2 - 1)) = 0 then Int32.ofInt 0 else Int32.ofInt 1)) _ (by omega) f47 f48 f49 f50 f51 (by omega) w42 hZ)
      · obtain ⟨w52l, w52⟩ := wf_p (by omega) hw (Or.inr (Decidable.not_not.mp c33))
        refine am_goX 2 (show am_sh h 154 = some (11, 0) ∧ pz_S 5 (some .int) am_r236 1 Q 37 [(4, .int (rb_o (dT C k))), (0, .ref 154), (2, .int (nI a2)), (3, .int (nI k))] [am_rf (h.2.2.1 154 23)] h from ⟨ex_154 hP, ?_⟩)
        rw [show am_rf (h.2.2.1 154 23) = .ref 169 from congrArg am_rf (ex_r154_23 hP)]
        refine am_goX 4 (show (¬ (rb_o (dT C k)) = (Int32.ofInt 1) → pz_S 5 (some .int) am_r236 1 Q 53 [(4, .int (rb_o (dT C k))), (0, .ref 154), (2, .int (nI a2)), (3, .int (nI k))] [.int (nI a2), .ref 169] h) ∧ (¬ ¬ (rb_o (dT C k)) = (Int32.ofInt 1) → pz_S 5 (some .int) am_r236 1 Q 44 [(4, .int (rb_o (dT C k))), (0, .ref 154), (2, .int (nI a2)), (3, .int (nI k))] [.int (nI a2), .ref 169] h) from ⟨fun _ => ?_, fun hz => absurd c25 hz⟩)
        refine am_goX 2 (show am_sh h 154 = some (11, 0) ∧ pz_S 5 (some .int) am_r236 1 Q 57 [(4, .int (rb_o (dT C k))), (0, .ref 154), (2, .int (nI a2)), (3, .int (nI k))] [am_rf (h.2.2.1 154 22), .int (nI a2), .ref 169] h from ⟨ex_154 hP, ?_⟩)
        rw [show am_rf (h.2.2.1 154 22) = .ref 168 from congrArg am_rf (ex_r154_22 hP)]
        refine am_goX 2 (show am_sh h 154 = some (11, 0) ∧ pz_S 5 (some .int) am_r236 1 Q 61 [(4, .int (rb_o (dT C k))), (0, .ref 154), (2, .int (nI a2)), (3, .int (nI k))] [am_rf (h.2.2.1 154 12), .ref 168, .int (nI a2), .ref 169] h from ⟨ex_154 hP, ?_⟩)
        rw [show am_rf (h.2.2.1 154 12) = .ref 162 from congrArg am_rf (ex_r154_12 hP)]
        refine am_goX 2 (show ∃ jj nn : Nat, am_sh h 162 = some (13, nn) ∧ jj < nn ∧ nI k = nI jj ∧ pz_S 5 (some .int) am_r236 1 Q 63 [(4, .int (rb_o (dT C k))), (0, .ref 154), (2, .int (nI a2)), (3, .int (nI k))] [.int (h.1 162 jj), .ref 168, .int (nI a2), .ref 169] h from ⟨k, 2200, ex_162 hP, (by omega), rfl, ?_⟩)
        rw [show h.1 162 k = rb_a (dT C k) from (hT.2.2.2.2.2.1 k (by omega)).2]
        refine am_goX 1 (show ∃ jj nn : Nat, am_sh h 168 = some (13, nn) ∧ jj < nn ∧ rb_a (dT C k) = nI jj ∧ pz_S 5 (some .int) am_r236 1 Q 64 [(4, .int (rb_o (dT C k))), (0, .ref 154), (2, .int (nI a2)), (3, .int (nI k))] [.int (h.1 168 jj), .int (nI a2), .ref 169] h from ⟨(rb_a (dT C k)).toInt.toNat, 4, ex_168 hP, (rba_n (Decidable.not_not.mp c33)).2.1, (rba_n (Decidable.not_not.mp c33)).1, ?_⟩)
        rw [show h.1 168 ((rb_a (dT C k)).toInt.toNat) = fsel (dT C k) a b c d from (by rw [(rba_n (Decidable.not_not.mp c33)).2.2 (h.1 168), hA.1, hA.2.1, hA.2.2.1, hA.2.2.2])]
        refine am_goX 1 (show ∃ jj nn : Nat, am_so h 169 = some (13, nn) ∧ jj < nn ∧ nI a2 = nI jj ∧ pz_S 5 (some .int) am_r236 1 Q 65 [(4, .int (rb_o (dT C k))), (0, .ref 154), (2, .int (nI a2)), (3, .int (nI k))] [] (am_wI h 169 jj (fsel (dT C k) a b c d)) from ⟨a2, 1100, ex_w169 hP, (by omega), rfl, ?_⟩)
        have f54 : ex_P (am_wI h 169 a2 (fsel (dT C k) a b c d)) := hP
        have f55 : tR C (am_wI h 169 a2 (fsel (dT C k) a b c d)) := tR_w (by omega) hT
        have f56 : (am_wI h 169 a2 (fsel (dT C k) a b c d)).1 168 0 = a ∧ (am_wI h 169 a2 (fsel (dT C k) a b c d)).1 168 1 = b ∧ (am_wI h 169 a2 (fsel (dT C k) a b c d)).1 168 2 = c ∧ (am_wI h 169 a2 (fsel (dT C k) a b c d)).1 168 3 = d := fc_w hA
        have f57 : lfr 169 h0 (am_wI h 169 a2 (fsel (dT C k) a b c d)) := lfr_w hF
        have f58 : ∀ j, j < 1100 → (am_wI h 169 a2 (fsel (dT C k) a b c d)).1 169 j = (sp_uI f a2 (fsel (dT C k) a b c d)) j := stk_w hK
        generalize am_wI h 169 a2 (fsel (dT C k) a b c d) = h53 at f54 f55 f56 f57 f58 ⊢
        refine am_goX 4 (show 2 < 5 ∧ 3 < 5 ∧ pz_S 5 (some .int) am_r236 1 Q 4 [(3, .int ((nI k) + (Int32.ofInt 1))), (2, .int ((nI a2) + (Int32.ofInt 1))), (4, .int (rb_o (dT C k))), (0, .ref 154)] [] h53 from ⟨by decide, by decide, ?_⟩)
        rw [show d_236_4 C a b c d (m + 1) k a2 f = d_236_4 C a b c d m (k + 1) (a2 + 1) (sp_uI f a2 (fsel (dT C k) a b c d)) from (if_neg c25).trans (if_neg c33)] at hZ
        rw [show (nI k) + (Int32.ofInt 1) = nI (k + 1) from (dn_a rfl rfl)]
        rw [show (nI a2) + (Int32.ofInt 1) = nI (a2 + 1) from (dn_a rfl rfl)]
        exact sv_S2 sv2_236 (by intro q hq; simp only [List.mem_cons, List.not_mem_nil, or_false] at hq; rcases hq with rfl | rfl | rfl <;> rfl) (ih (k + 1) (a2 + 1) (sp_uI f a2 (fsel (dT C k) a b c d)) _ (by omega) f54 f55 f56 f57 f58 (by omega) w52 hZ)
def d_236_f (C : sp_C) (a b c d : Int32) (f : Nat → Int32) : Nat → Int32 := (d_236_4 C a b c d (dM C) 0 0 f).2
def d_236 (C : sp_C) (a b c d : Int32) (f : Nat → Int32) : Int32 := ((d_236_4 C a b c d (dM C) 0 0 f).2) 0
theorem d_236_r (hP : ex_P h) (hT : tR C h) (hA : h.1 168 0 = a ∧ h.1 168 1 = b ∧ h.1 168 2 = c ∧ h.1 168 3 = d) (hF : lfr 169 h0 h) (hK : ∀ j, j < 1100 → h.1 169 j = f j) (ht : C.2.2.2.1 = true) (hw0 : lst ((dTL C).drop 0) 0 = some 1) (hQ : ∀ h1, (ex_P h1) → (tR C h1) → (h1.1 168 0 = a ∧ h1.1 168 1 = b ∧ h1.1 168 2 = c ∧ h1.1 168 3 = d) → (lfr 169 h0 h1) → (∀ j, j < 1100 → h1.1 169 j = (d_236_f C a b c d f) j) → Q (some (.int (d_236 C a b c d f))) h1) : am_call am_cod 2 236 [.ref 154, .int (nI 0)] h Q := by
  refine pz_call (n := 236) (nL := 5) (rt := (some .int)) (rows := am_r236) (d := 1) (by decide +kernel) (by decide +kernel) rfl (by funext pc; rfl) (ex_175 hP) (by exact Nat.le_of_ble_eq_true rfl) ?_
  refine am_goX 4 (show 2 < 5 ∧ 3 < 5 ∧ pz_S 5 (some .int) am_r236 1 Q 4 [(3, .int (nI 0)), (2, .int (Int32.ofInt 0)), (0, .ref 154), (1, .int (nI 0))] [] h from ⟨by decide, by decide, ?_⟩)
  refine sv_S2 sv2_236 (by intro q hq; simp only [List.mem_cons, List.not_mem_nil, or_false] at hq; rcases hq with rfl | rfl | rfl <;> rfl) (d_236_4_r ht (dM C) 0 0 f _ (by omega) hP hT hA hF hK (by omega) hw0 (fun h59 f60 f61 f62 f63 f64 => ?_))
  refine am_goX 2 (show am_sh h59 154 = some (11, 0) ∧ pz_S 5 (some .int) am_r236 1 Q 144 [(0, .ref 154)] [am_rf (h59.2.2.1 154 23)] h59 from ⟨ex_154 f60, ?_⟩)
  rw [show am_rf (h59.2.2.1 154 23) = .ref 169 from congrArg am_rf (ex_r154_23 f60)]
  refine am_goX 2 (show ∃ jj nn : Nat, am_sh h59 169 = some (13, nn) ∧ jj < nn ∧ Int32.ofInt 0 = nI jj ∧ pz_S 5 (some .int) am_r236 1 Q 146 [(0, .ref 154)] [.int (h59.1 169 jj)] h59 from ⟨0, 1100, ex_169 f60, (by omega), rfl, ?_⟩)
  rw [show h59.1 169 0 = ((d_236_4 C a b c d (dM C) 0 0 f).2) 0 from f64 0 (by omega)]
  exact am_goX 1 (show (∃ ty, (some .int) = some ty ∧ narrow ty (.int (((d_236_4 C a b c d (dM C) 0 0 f).2) 0)) = .int (((d_236_4 C a b c d (dM C) 0 0 f).2) 0)) ∧ h59.2.2.2.2 = 175 ∧ _ from ⟨⟨.int, rfl, rfl⟩, ex_175 f60, hQ _ f60 f61 f62 f63 f64⟩)
theorem d_237_e {x : Int32} (h1 : ¬ (-4 : Int32) ≤ x) (h5 : ¬ x = -5) (a b : Int32) : d_237 (rb_o x) a b = d_107 x a b := by
  have h0 : ¬ (0 : Int32) ≤ x := fun w => h1 (le_m4 w)
  have e : rb_o x = (bif decide (x = -6) then 9 else bif decide (x = -7) then 10 else bif decide (x = -8) then 7 else bif decide (x = -9) then 8 else bif decide (x = -10) then 4 else bif decide (x = -11) then 5 else 6) := by
    unfold rb_o
    rw [decide_eq_false h0, decide_eq_false h1, decide_eq_false h5]
    rfl
  rw [e]
  unfold d_107
  by_cases h6 : x = -6
  · subst h6
    show d_237 9 a b = _
    rfl
  · by_cases h7 : x = -7
    · subst h7
      rfl
    · by_cases h8 : x = -8
      · subst h8
        rfl
      · by_cases h9 : x = -9
        · subst h9
          rfl
        · by_cases h10 : x = -10
          · subst h10
            rfl
          · by_cases h11 : x = -11
            · subst h11
              rfl
            · rw [decide_eq_false h6, decide_eq_false h7, decide_eq_false h8, decide_eq_false h9, decide_eq_false h10, decide_eq_false h11, if_neg (show ¬ x = Int32.ofInt (-11) from h11), if_neg (show ¬ x = Int32.ofInt (-10) from h10), if_neg (show ¬ x = Int32.ofInt (-9) from h9), if_neg (show ¬ x = Int32.ofInt (-8) from h8), if_neg (show ¬ x = Int32.ofInt (-7) from h7), if_neg (show ¬ x = Int32.ofInt (-6) from h6)]
              rfl
theorem fsel_e {x : Int32} (a b c d : Int32) : d_106 x a b c d = fsel x a b c d := by
  unfold d_106 fsel
  by_cases h1 : x = -1
  · subst h1; rfl
  · by_cases h2 : x = -2
    · subst h2; rfl
    · by_cases h3 : x = -3
      · subst h3; rfl
      · rw [if_neg (show ¬ x = Int32.ofInt (-3) from h3), if_neg (show ¬ x = Int32.ofInt (-2) from h2), if_neg (show ¬ x = Int32.ofInt (-1) from h1), if_neg h1, if_neg h2, if_neg h3]
end
section
/-! WALKS: the reference's day -/
theorem on_w {ob k : Nat} {v : Int32} {E : Nat} {f : Nat → Int32} {h : am_H} (hn : ¬ ob = 172) (l : ∀ e, e < E → h.1 172 e = f e) : ∀ e, e < E → (am_wI h ob k v).1 172 e = f e := fun e he => by
  rw [em_wn _ _ (by omega)]
  exact l e he
theorem sR_x {b P : Nat} {s : dS} {h g : am_H} (e : ∀ j, b ≤ j → j < b + 24 → g.1 170 j = h.1 170 j) (hP : P ≤ 6) (l : sR b P s h) : sR b P s g := by
  obtain ⟨⟨a1, a2⟩, a3, a4, a5⟩ := l
  refine ⟨⟨?_, ?_⟩, fun i hi => ?_, fun i hi => ?_, fun i hi => ⟨?_, ?_⟩⟩
  · rw [e _ (by omega) (by omega)]; exact a1
  · rw [e _ (by omega) (by omega)]; exact a2
  · rw [e _ (by omega) (by omega)]; exact a3 i hi
  · rw [e _ (by omega) (by omega)]; exact a4 i hi
  · rw [e _ (by omega) (by omega)]; exact (a5 i hi).1
  · rw [e _ (by omega) (by omega)]; exact (a5 i hi).2
theorem sR_o {b P ob k : Nat} {v : Int32} {s : dS} {h : am_H} (hn : ¬ ob = 170) (l : sR b P s h) : sR b P s (am_wI h ob k v) := by
  have e : ∀ j, (am_wI h ob k v).1 170 j = h.1 170 j := fun j => em_wn _ _ (by omega)
  obtain ⟨⟨a1, a2⟩, a3, a4, a5⟩ := l
  refine ⟨⟨?_, ?_⟩, fun i hi => ?_, fun i hi => ?_, fun i hi => ⟨?_, ?_⟩⟩ <;> rw [e]
  · exact a1
  · exact a2
  · exact a3 i hi
  · exact a4 i hi
  · exact (a5 i hi).1
  · exact (a5 i hi).2
theorem sR_q {b P j : Nat} {v : Int32} {s : dS} {h : am_H} (hn : (¬ (b ≤ j ∧ j < b + 24)) ∧ P ≤ 6) (l : sR b P s h) : sR b P s (am_wI h 170 j v) :=
  sR_x (fun i h1 h2 => em_wn _ _ (by omega)) hn.2 l
theorem sR_wD {b P j : Nat} {v : Int32} {s : dS} {h : am_H} (hj : j = b ∧ P ≤ 6) (l : sR b P s h) : sR b P (sSD s v) (am_wI h 170 j v) := by
  obtain ⟨⟨a1, a2⟩, a3, a4, a5⟩ := l
  obtain ⟨rfl, hP⟩ := hj
  refine ⟨⟨em_we _ _ _ _, ?_⟩, fun i hi => ?_, fun i hi => ?_, fun i hi => ⟨?_, ?_⟩⟩ <;> rw [em_wn _ _ (by omega)]
  · exact a2
  · exact a3 i hi
  · exact a4 i hi
  · exact (a5 i hi).1
  · exact (a5 i hi).2
theorem sR_wX {b P j : Nat} {v : Int32} {s : dS} {h : am_H} (hj : j = b + 1 ∧ P ≤ 6) (l : sR b P s h) : sR b P (sSX s v) (am_wI h 170 j v) := by
  obtain ⟨⟨a1, a2⟩, a3, a4, a5⟩ := l
  obtain ⟨rfl, hP⟩ := hj
  refine ⟨⟨?_, em_we _ _ _ _⟩, fun i hi => ?_, fun i hi => ?_, fun i hi => ⟨?_, ?_⟩⟩ <;> rw [em_wn _ _ (by omega)]
  · exact a1
  · exact a3 i hi
  · exact a4 i hi
  · exact (a5 i hi).1
  · exact (a5 i hi).2

theorem sR_wL {b P j i : Nat} {v : Int32} {s : dS} {h : am_H} (hj : j = b + 2 + i) (hi0 : i < P ∧ P ≤ 6) (l : sR b P s h) : sR b P (sSL s i v) (am_wI h 170 j v) := by
  obtain ⟨⟨a1, a2⟩, a3, a4, a5⟩ := l
  refine ⟨⟨?_, ?_⟩, fun i_ hi => ?_, fun i_ hi => ?_, fun i_ hi => ⟨?_, ?_⟩⟩
  · rw [em_wn _ _ (by omega)]; exact a1
  · rw [em_wn _ _ (by omega)]; exact a2
  · rw [em_u]; show (if _ = _ then v else _) = (if i_ = i then v else _); by_cases e : i_ = i
    · rw [if_pos (by omega), if_pos e]
    · rw [if_neg (by omega), if_neg e]; exact a3 i_ hi
  · rw [em_wn _ _ (by omega)]; exact a4 i_ hi
  · rw [em_wn _ _ (by omega)]; exact (a5 i_ hi).1
  · rw [em_wn _ _ (by omega)]; exact (a5 i_ hi).2
theorem sR_wM {b P j i : Nat} {v : Int32} {s : dS} {h : am_H} (hj : j = b + 8 + i) (hi0 : i < 6 ∧ P ≤ 6) (l : sR b P s h) : sR b P (sSM s i v) (am_wI h 170 j v) := by
  obtain ⟨⟨a1, a2⟩, a3, a4, a5⟩ := l
  refine ⟨⟨?_, ?_⟩, fun i_ hi => ?_, fun i_ hi => ?_, fun i_ hi => ⟨?_, ?_⟩⟩
  · rw [em_wn _ _ (by omega)]; exact a1
  · rw [em_wn _ _ (by omega)]; exact a2
  · rw [em_wn _ _ (by omega)]; exact a3 i_ hi
  · rw [em_u]; show (if _ = _ then v else _) = (if i_ = i then v else _); by_cases e : i_ = i
    · rw [if_pos (by omega), if_pos e]
    · rw [if_neg (by omega), if_neg e]; exact a4 i_ hi
  · rw [em_wn _ _ (by omega)]; exact (a5 i_ hi).1
  · rw [em_wn _ _ (by omega)]; exact (a5 i_ hi).2
theorem sR_wH {b P j i : Nat} {v : Int32} {s : dS} {h : am_H} (hj : j = b + 14 + i) (hi0 : i < 5 ∧ P ≤ 6) (l : sR b P s h) : sR b P (sSH s i v) (am_wI h 170 j v) := by
  obtain ⟨⟨a1, a2⟩, a3, a4, a5⟩ := l
  refine ⟨⟨?_, ?_⟩, fun i_ hi => ?_, fun i_ hi => ?_, fun i_ hi => ⟨?_, ?_⟩⟩
  · rw [em_wn _ _ (by omega)]; exact a1
  · rw [em_wn _ _ (by omega)]; exact a2
  · rw [em_wn _ _ (by omega)]; exact a3 i_ hi
  · rw [em_wn _ _ (by omega)]; exact a4 i_ hi
  · rw [em_u]; show (if _ = _ then v else _) = (if i_ = i then v else _); by_cases e : i_ = i
    · rw [if_pos (by omega), if_pos e]
    · rw [if_neg (by omega), if_neg e]; exact (a5 i_ hi).1
  · rw [em_wn _ _ (by omega)]; exact (a5 i_ hi).2
theorem sR_wA {b P j i : Nat} {v : Int32} {s : dS} {h : am_H} (hj : j = b + 19 + i) (hi0 : i < 5 ∧ P ≤ 6) (l : sR b P s h) : sR b P (sSA s i v) (am_wI h 170 j v) := by
  obtain ⟨⟨a1, a2⟩, a3, a4, a5⟩ := l
  refine ⟨⟨?_, ?_⟩, fun i_ hi => ?_, fun i_ hi => ?_, fun i_ hi => ⟨?_, ?_⟩⟩
  · rw [em_wn _ _ (by omega)]; exact a1
  · rw [em_wn _ _ (by omega)]; exact a2
  · rw [em_wn _ _ (by omega)]; exact a3 i_ hi
  · rw [em_wn _ _ (by omega)]; exact a4 i_ hi
  · rw [em_wn _ _ (by omega)]; exact (a5 i_ hi).1
  · rw [em_u]; show (if _ = _ then v else _) = (if i_ = i then v else _); by_cases e : i_ = i
    · rw [if_pos (by omega), if_pos e]
    · rw [if_neg (by omega), if_neg e]; exact (a5 i_ hi).2
theorem lfr_r {C : sp_C} {h0 h : am_H} (l : lfr 169 h0 h) (t : tR C h0) : tR C h := by
  obtain ⟨⟨a1, a2, a3⟩, ⟨b1, b2, b3⟩, c3, ⟨d1, d2⟩, e1, e2, e3, e4, e5⟩ := t
  have w : ∀ a q, ¬ a = 169 → h.1 a q = h0.1 a q := l.2
  refine ⟨⟨?_, a2, fun i hi => ?_⟩, ⟨?_, b2, fun i hi => ?_⟩, fun p q hp hq => ?_, ⟨?_, d2⟩, e1, fun j hj => ?_, fun w => ?_, e4, ?_⟩
  · rw [w _ _ (by omega)]; exact a1
  · rw [w _ _ (by omega), w _ _ (by omega)]; exact a3 i hi
  · rw [w _ _ (by omega)]; exact b1
  · rw [w _ _ (by omega), w _ _ (by omega)]; exact b3 i hi
  · rw [w _ _ (by omega)]; exact c3 p q hp hq
  · rw [w _ _ (by omega)]; exact d1
  · rw [w _ _ (by omega), w _ _ (by omega)]; exact e2 j hj
  · rw [l.2 _ _ (by omega)]; exact e3 w
  · rw [w _ _ (by omega)]; exact e5
theorem lfr_sR {b P : Nat} {s : dS} {h0 h : am_H} (l : lfr 169 h0 h) (hP : P ≤ 6) (t : sR b P s h0) : sR b P s h := sR_x (fun j _ _ => l.2 _ _ (by omega)) hP t
theorem lfr_on {E : Nat} {f : Nat → Int32} {h0 h : am_H} (l : lfr 169 h0 h) (t : ∀ e, e < E → h0.1 172 e = f e) : ∀ e, e < E → h.1 172 e = f e := fun e he => (l.2 _ _ (by omega)).trans (t e he)
/-- what the reference's day leaves: all but the state at 0, facts, pile and goers -/
def fR (h0 h : am_H) : Prop := h.2 = h0.2 ∧ ∀ o k, ¬ (o = 170 ∧ k < 24) → ¬ o = 168 → ¬ o = 169 → ¬ (o = 154 ∧ k = 28) → h.1 o k = h0.1 o k
theorem fR_0 {h : am_H} : fR h h := ⟨rfl, fun _ _ _ _ _ _ => rfl⟩
theorem fR_w {o k : Nat} {v : Int32} {h0 h : am_H} (ho : (o = 170 ∧ k < 24) ∨ o = 168 ∨ o = 169 ∨ (o = 154 ∧ k = 28)) (l : fR h0 h) : fR h0 (am_wI h o k v) := ⟨l.1, fun a j h1 h2 h3 h4 => (em_wn _ _ (by omega)).trans (l.2 a j h1 h2 h3 h4)⟩
theorem fR_l {h0 h h1 : am_H} (l : lfr 169 h h1) (x : fR h0 h) : fR h0 h1 := ⟨l.1.trans x.1, fun a j n1 n2 n3 n4 => (l.2 a j n3).trans (x.2 a j n1 n2 n3 n4)⟩
/-- both laws are worth the same -/
theorem law_e {C : sp_C} {a b c d : Int32} : ∀ (m k n : Nat) (f g : Nat → Int32), k + m = dM C → n ≤ 32 → lst ((dTL C).drop k) n = some 1 → (∀ j, j < n → f j = g j) → (d_105_6 C a b c d m k n f).1 = 1 ∧ (d_236_4 C a b c d m k n g).2 0 = (d_105_6 C a b c d m k n f).2 0 := by
  intro m
  induction m with
  | zero =>
    intro k n f g hk hn hw hf
    have e : (dTL C).drop k = [] := List.drop_eq_nil_of_le (by
      unfold dTL
      rw [List.length_map, List.length_range]
      omega)
    rw [e] at hw
    have hn1 : n = 1 := Option.some.inj hw
    exact ⟨hn1, (hf 0 (by omega)).symm⟩
  | succ m ih =>
    intro k n f g hk hn hw hf
    have l4 : ∀ x : Int32, (-4 : Int32) ≤ x ↔ ¬ x < (Int8.ofInt (-4)).toInt32 := fun x => by
      rw [Int32.le_iff_toInt_le, Int32.lt_iff_toInt_lt]
      have e4 : (-4 : Int32).toInt = -4 := by decide
      have e5 : ((Int8.ofInt (-4)).toInt32).toInt = -4 := by decide
      omega
    have l5 : ∀ x : Int32, ¬ (-4 : Int32) ≤ x → ¬ x = -5 → ¬ (Int8.ofInt (-5)).toInt32 ≤ x := fun x h1 h2 w => by
      rw [Int32.le_iff_toInt_le] at h1 w
      have e4 : (-4 : Int32).toInt = -4 := by decide
      have e5 : ((Int8.ofInt (-5)).toInt32).toInt = -5 := by decide
      exact h2 (Int32.toInt_inj.mp (by rw [show (-5 : Int32).toInt = -5 by decide]; omega))
    rcases wf_s (by omega) hw with ⟨w1, w2, w3⟩ | ⟨w1, w2, w3⟩ | ⟨w1, w2, w3, w4⟩
    · have hA : ¬ dT C k < (Int8.ofInt (-4)).toInt32 := (l4 _).mp w1
      have hF : ¬ (Int8.ofInt 32).toInt32 ≤ nI n := by
        show ¬ nI 32 ≤ nI n
        rw [nI_leI (by omega) (by omega)]
        omega
      have up : ∀ v w, v = w → ∀ j, j < n + 1 → sp_uI f n v j = sp_uI g n w j := fun v w e j hj => by
        show (if j = n then v else f j) = (if j = n then w else g j)
        by_cases ej : j = n
        · rw [if_pos ej, if_pos ej, e]
        · rw [if_neg ej, if_neg ej, hf j (by omega)]
      by_cases h0 : 0 ≤ dT C k
      · have r1 := rbo_1.mpr h0
        have ra : rb_a (dT C k) = dT C k := by
          unfold rb_a
          rw [decide_eq_true h0]
          rfl
        have hl : ¬ dT C k < 0 := Int32.not_lt.mpr h0
        simp only [d_105_6, d_236_4, hA, hF, r1, if_true, if_false, hl]
        exact ih _ _ _ _ (by omega) (by omega) w3 (up _ _ ra.symm)
      · have r1 : ¬ rb_o (dT C k) = Int32.ofInt 1 := fun w => h0 (rbo_1.mp w)
        have r2 : rb_o (dT C k) = Int32.ofInt 2 := (rbo_v.mpr w1).resolve_left r1
        have hl : dT C k < 0 := Int32.not_le.mp h0
        simp only [d_105_6, d_236_4, hA, hF, r1, r2, if_true, if_false, hl, not_true_eq_false, not_false_eq_true, show ¬ Int32.ofInt 2 = Int32.ofInt 1 by decide]
        exact ih _ _ _ _ (by omega) (by omega) w3 (up _ _ (fsel_e _ _ _ _))
    · have hA : dT C k < (Int8.ofInt (-4)).toInt32 := by rw [w1]; decide
      have h4 : ¬ (-4 : Int32) ≤ dT C k := by rw [w1]; decide
      have r3 : rb_o (dT C k) = Int32.ofInt 3 := (rbo_5 h4).mpr w1
      have hE : ¬ nI n ≤ 0 := nI_nle w2 (by omega)
      have ut : ∀ i v w, v = w → ∀ j, j < n → sp_uI f i v j = sp_uI g i w j := fun i v w e j hj => by
        show (if j = i then v else f j) = (if j = i then w else g j)
        by_cases ej : j = i
        · rw [if_pos ej, if_pos ej, e]
        · rw [if_neg ej, if_neg ej, hf j hj]
      have w5 : dT C k = (Int8.ofInt (-5)).toInt32 := w1
      have q1 : ¬ rb_o (dT C k) = Int32.ofInt 1 := by rw [r3]; decide
      have q2 : ¬ rb_o (dT C k) = Int32.ofInt 2 := by rw [r3]; decide
      rw [show d_105_6 C a b c d (m + 1) k n f = d_105_6 C a b c d m (k + 1) n (sp_uI f (n - 1) (if ¬ (f (n - 1)) = 0 then Int32.ofInt 0 else Int32.ofInt 1)) from by
        rw [d_105_6, if_pos hA, if_neg (fun z => z w5), if_neg hE]]
      rw [show d_236_4 C a b c d (m + 1) k n g = d_236_4 C a b c d m (k + 1) n (sp_uI g (n - 1) (if ¬ (g (n - 1)) = 0 then Int32.ofInt 0 else Int32.ofInt 1)) from by
        rw [d_236_4, if_neg q1, if_pos q2, if_neg (fun z => z r3)]]
      refine ih _ _ _ _ (by omega) hn w3 (ut _ _ _ ?_)
      rw [hf (n - 1) (by omega)]
    · have hA : dT C k < (Int8.ofInt (-4)).toInt32 := by
        by_cases z : dT C k < (Int8.ofInt (-4)).toInt32
        · exact z
        · exact absurd ((l4 _).mpr z) w1
      have q1 : ¬ rb_o (dT C k) = Int32.ofInt 1 := fun z => w1 (rbo_v.mp (Or.inl z))
      have q2 : ¬ rb_o (dT C k) = Int32.ofInt 2 := fun z => w1 (rbo_v.mp (Or.inr z))
      have q3 : ¬ rb_o (dT C k) = Int32.ofInt 3 := fun z => w2 ((rbo_5 w1).mp z)
      have hD : ¬ nI n ≤ Int32.ofInt 1 := by
        show ¬ nI n ≤ nI 1
        rw [nI_leI (by omega) (by omega)]
        omega
      have ut : ∀ i v w, v = w → ∀ j, j < n → sp_uI f i v j = sp_uI g i w j := fun i v w e j hj => by
        show (if j = i then v else f j) = (if j = i then w else g j)
        by_cases ej : j = i
        · rw [if_pos ej, if_pos ej, e]
        · rw [if_neg ej, if_neg ej, hf j hj]
      rw [show d_105_6 C a b c d (m + 1) k n f = d_105_6 C a b c d m (k + 1) (n - 1) (sp_uI f ((n - 1) - 1) (d_107 (dT C k) (f ((n - 1) - 1)) (f (n - 1)))) from by
        rw [d_105_6, if_pos hA, if_pos (show ¬ dT C k = (Int8.ofInt (-5)).toInt32 from w2), if_neg (l5 _ w1 w2), if_neg hD]]
      rw [show d_236_4 C a b c d (m + 1) k n g = d_236_4 C a b c d m (k + 1) (n - 1) (sp_uI g ((n - 1) - 1) (d_237 (rb_o (dT C k)) (g ((n - 1) - 1)) (g (n - 1)))) from by
        rw [d_236_4, if_neg q1, if_pos q2, if_pos q3]]
      refine ih _ _ _ _ (by omega) (by omega) w4 (fun j hj => ut _ _ _ ?_ j (by omega))
      rw [d_237_e w1 w2, hf (n - 1 - 1) (by omega), hf (n - 1) (by omega)]
theorem dlaw_e {C : sp_C} {a b c d : Int32} (hc : cIL C) (ht : C.2.2.2.1 = true) (f : Nat → Int32) : lst ((dTL C).drop 0) 0 = some 1 ∧ d_236 C a b c d f = dlaw C a b c d := by
  have hw : lst ((dTL C).drop 0) 0 = some 1 := by
    rcases hc with w | w
    · rw [ht] at w
      cases w.1
    · exact w.2
  refine ⟨hw, ?_⟩
  obtain ⟨e1, e2⟩ := law_e (C := C) (a := a) (b := b) (c := c) (d := d) (dM C) 0 0 (fun _ => 0) f (by omega) (by decide) hw (fun j hj => absurd hj (Nat.not_lt_zero j))
  unfold d_236 dlaw d_105
  rw [e1, if_neg (by decide)]
  exact e2
theorem dlaw_0 {C : sp_C} {a b c d : Int32} (hM : dM C = 0) : dlaw C a b c d = Int32.ofInt 1 := by
  unfold dlaw d_105
  rw [hM]
  rfl
theorem dQ_t {C : sp_C} (h : ¬ dQ C < 0) : C.2.2.2.1 = true ∧ dQ C = nI 0 := by
  cases e : C.2.2.2.1 with
  | true => exact ⟨rfl, by show (bif C.2.2.2.1 then nI 0 else Int32.ofInt (-1)) = _; rw [e]; rfl⟩
  | false =>
    refine absurd ?_ h
    show (bif C.2.2.2.1 then nI 0 else Int32.ofInt (-1)) < 0
    rw [e]
    decide
theorem dQ_f {C : sp_C} (h : dQ C < 0) : C.2.2.2.1 = false := by
  cases e : C.2.2.2.1 with
  | false => rfl
  | true =>
    refine absurd h ?_
    show ¬ (bif C.2.2.2.1 then nI 0 else Int32.ofInt (-1)) < 0
    rw [e]
    decide
variable {h : am_H} {Q : am_Q} {C V : sp_C} {x y w a b c d : Int32} {p q e : Nat} {s u : dS} {h0 : am_H} {f fc : Nat → Int32} {gg : Int32}
theorem q_236 (hP : ex_P h) (hI : cI C) (hT : tR C h) (hA : h.1 168 0 = a ∧ h.1 168 1 = b ∧ h.1 168 2 = c ∧ h.1 168 3 = d) (hd : ¬ dQ C < 0) (hQ : ∀ h1, lfr 169 h h1 → Q (some (.int (dlaw C a b c d))) h1) : am_call am_cod 2 236 [.ref 154, .int (dQ C)] h Q := by
  obtain ⟨ht, e⟩ := dQ_t hd
  rw [e]
  obtain ⟨hw, e2⟩ := dlaw_e (a := a) (b := b) (c := c) (d := d) hI.2.2.2 ht (fun j => h.1 169 j)
  exact d_236_r (h0 := h) (f := fun j => h.1 169 j) hP hT hA lfr_0 (fun _ _ => rfl) ht hw (fun h1 _ _ _ l _ => by
    rw [e2]
    exact hQ h1 l)
theorem sv2_223 : am_r223.all (fun q => sv2_ok q.2) = true := by decide +kernel
theorem sv2_225 : am_r225.all (fun q => sv2_ok q.2) = true := by decide +kernel
theorem sv2_228 : am_r228.all (fun q => sv2_ok q.2) = true := by decide +kernel
theorem sv2_229 : am_r229.all (fun q => sv2_ok q.2) = true := by decide +kernel
theorem sv2_234 : am_r234.all (fun q => sv2_ok q.2) = true := by decide +kernel
theorem sv2_238 : am_r238.all (fun q => sv2_ok q.2) = true := by decide +kernel
def d_225 (x y w : Int32) : Int32 := (if ¬ w = (Int32.ofInt 1) then ((x + y) + ((Int8.ofInt 7).toInt32)) - ((x + y) + ((Int8.ofInt 7).toInt32)) / ((Int8.ofInt 7).toInt32) * ((Int8.ofInt 7).toInt32) else x - x / ((Int8.ofInt 7).toInt32) * ((Int8.ofInt 7).toInt32))
theorem d_225_w (hP : ex_P h)  (hQ : Q (some (.int (d_225 x y w))) h) : am_call am_cod 1 225 [.int x, .int y, .int w] h Q := by
  refine pz_call (n := 225) (nL := 3) (rt := (some .int)) (rows := am_r225) (d := 0) (by decide +kernel) (by decide +kernel) rfl (by funext pc; rfl) (ex_175 hP) (by exact Nat.le_of_ble_eq_true rfl) ?_
  suffices key : ∀ (v2 : Int32), v2 = (if ¬ w = (Int32.ofInt 1) then ((x + y) + ((Int8.ofInt 7).toInt32)) - ((x + y) + ((Int8.ofInt 7).toInt32)) / ((Int8.ofInt 7).toInt32) * ((Int8.ofInt 7).toInt32) else x - x / ((Int8.ofInt 7).toInt32) * ((Int8.ofInt 7).toInt32)) → pz_S 3 (some .int) am_r225 0 Q 21 [] [.int v2] h by
    refine am_goX 3 (show (¬ w = (Int32.ofInt 1) → pz_S 3 (some .int) am_r225 0 Q 12 [(0, .int x), (1, .int y), (2, .int w)] [] h) ∧ (¬ ¬ w = (Int32.ofInt 1) → pz_S 3 (some .int) am_r225 0 Q 5 [(0, .int x), (1, .int y), (2, .int w)] [] h) from ⟨fun c1 => ?_, fun c1 => ?_⟩)
    · refine am_goX 7 (show ¬ ((Int8.ofInt 7).toInt32) = 0 ∧ pz_S 3 (some .int) am_r225 0 Q 21 [(0, .int x), (1, .int y), (2, .int w)] [.int (((x + y) + ((Int8.ofInt 7).toInt32)) - ((x + y) + ((Int8.ofInt 7).toInt32)) / ((Int8.ofInt 7).toInt32) * ((Int8.ofInt 7).toInt32))] h from ⟨by decide, ?_⟩)
      exact sv_S2 sv2_225 (fun q hq => absurd hq List.not_mem_nil) (key _ (if_pos c1).symm)
    · refine am_goX 4 (show ¬ ((Int8.ofInt 7).toInt32) = 0 ∧ pz_S 3 (some .int) am_r225 0 Q 21 [(0, .int x), (1, .int y), (2, .int w)] [.int (x - x / ((Int8.ofInt 7).toInt32) * ((Int8.ofInt 7).toInt32))] h from ⟨by decide, ?_⟩)
      exact sv_S2 sv2_225 (fun q hq => absurd hq List.not_mem_nil) (key _ (if_neg c1).symm)
  intro v2 e3
  subst e3
  exact am_goX 1 (show (∃ ty, (some .int) = some ty ∧ narrow ty (.int (if ¬ w = (Int32.ofInt 1) then ((x + y) + ((Int8.ofInt 7).toInt32)) - ((x + y) + ((Int8.ofInt 7).toInt32)) / ((Int8.ofInt 7).toInt32) * ((Int8.ofInt 7).toInt32) else x - x / ((Int8.ofInt 7).toInt32) * ((Int8.ofInt 7).toInt32))) = .int (if ¬ w = (Int32.ofInt 1) then ((x + y) + ((Int8.ofInt 7).toInt32)) - ((x + y) + ((Int8.ofInt 7).toInt32)) / ((Int8.ofInt 7).toInt32) * ((Int8.ofInt 7).toInt32) else x - x / ((Int8.ofInt 7).toInt32) * ((Int8.ofInt 7).toInt32))) ∧ h.2.2.2.2 = 175 ∧ _ from ⟨⟨.int, rfl, rfl⟩, ex_175 hP, hQ⟩)
def d_224 (C : sp_C) (x : Int32) : Int32 := ((dO C) >>> ((x - x / ((Int8.ofInt 28).toInt32) * ((Int8.ofInt 28).toInt32)) &&& 31)) &&& (Int32.ofInt 1)
theorem d_224_r (hP : ex_P h) (hT : tR C h)  (hQ : Q (some (.int (d_224 C x))) h) : am_call am_cod 1 224 [.ref 154, .int x] h Q := by
  have h6 := hT.1.2.1
  have h5 := hT.2.1.2.1
  refine pz_call (n := 224) (nL := 2) (rt := (some .int)) (rows := am_r224) (d := 0) (by decide +kernel) (by decide +kernel) rfl (by funext pc; rfl) (ex_175 hP) (by exact Nat.le_of_ble_eq_true rfl) ?_
  refine am_goX 2 (show am_sh h 154 = some (11, 0) ∧ pz_S 2 (some .int) am_r224 0 Q 4 [(0, .ref 154), (1, .int x)] [am_rf (h.2.2.1 154 10)] h from ⟨ex_154 hP, ?_⟩)
  rw [show am_rf (h.2.2.1 154 10) = .ref 160 from congrArg am_rf (ex_r154_10 hP)]
  refine am_goX 2 (show ∃ jj nn : Nat, am_sh h 160 = some (13, nn) ∧ jj < nn ∧ Int32.ofInt 2 = nI jj ∧ pz_S 2 (some .int) am_r224 0 Q 6 [(0, .ref 154), (1, .int x)] [.int (h.1 160 jj)] h from ⟨2, 80, ex_160 hP, (by omega), rfl, ?_⟩)
  rw [show h.1 160 2 = dO C from hT.2.2.2.1.1]
  exact am_goX 7 (show ¬ ((Int8.ofInt 28).toInt32) = 0 ∧ (∃ ty, (some .int) = some ty ∧ narrow ty (.int (((dO C) >>> ((x - x / ((Int8.ofInt 28).toInt32) * ((Int8.ofInt 28).toInt32)) &&& 31)) &&& (Int32.ofInt 1))) = .int (((dO C) >>> ((x - x / ((Int8.ofInt 28).toInt32) * ((Int8.ofInt 28).toInt32)) &&& 31)) &&& (Int32.ofInt 1))) ∧ h.2.2.2.2 = 175 ∧ _ from ⟨by decide, ⟨.int, rfl, rfl⟩, ex_175 hP, hQ⟩)
def d_229 (C : sp_C) (p : Nat) (x : Int32) : Int32 := (if ¬ (((dB C p) >>> (x &&& 31)) &&& (Int32.ofInt 1)) = (Int32.ofInt 1) then Int32.ofInt 0 else Int32.ofInt 1)
theorem d_229_r (hP : ex_P h) (hT : tR C h) (hp : p < dP C) (hQ : Q (some (.int (d_229 C p x))) h) : am_call am_cod 2 229 [.ref 154, .int (nI p), .int x] h Q := by
  have h6 := hT.1.2.1
  have h5 := hT.2.1.2.1
  refine pz_call (n := 229) (nL := 3) (rt := (some .boolean)) (rows := am_r229) (d := 1) (by decide +kernel) (by decide +kernel) rfl (by funext pc; rfl) (ex_175 hP) (by exact Nat.le_of_ble_eq_true rfl) ?_
  refine am_goX 4 (show am_rc h 154 11 ∧ 0 ≤ 8 ∧ h.2.2.2.2 + am_al 187 ≤ 175 ∧ am_call am_cod 1 187 [.ref 154, .int (nI p), .int (Int32.ofInt 2)] h (fun vv h' => pz_S 3 (some .boolean) am_r229 1 Q 6 [(0, .ref 154), (1, .int (nI p)), (2, .int x)] (vv.toList ++ []) h') from ⟨Or.inl ⟨by decide, ex_154 hP⟩, by decide, ex_lim hP rfl, am_call.up (d_187_r2 hP hT (by omega) ?_) (by decide)⟩)
  suffices key : ∀ (v5 : Int32), v5 = (if ¬ (((dB C p) >>> (x &&& 31)) &&& (Int32.ofInt 1)) = (Int32.ofInt 1) then Int32.ofInt 0 else Int32.ofInt 1) → pz_S 3 (some .boolean) am_r229 1 Q 19 [] [.int v5] h by
    refine am_goX 6 (show (¬ (((dB C p) >>> (x &&& 31)) &&& (Int32.ofInt 1)) = (Int32.ofInt 1) → pz_S 3 (some .boolean) am_r229 1 Q 18 [(0, .ref 154), (1, .int (nI p)), (2, .int x)] [] h) ∧ (¬ ¬ (((dB C p) >>> (x &&& 31)) &&& (Int32.ofInt 1)) = (Int32.ofInt 1) → pz_S 3 (some .boolean) am_r229 1 Q 14 [(0, .ref 154), (1, .int (nI p)), (2, .int x)] [] h) from ⟨fun c4 => ?_, fun c4 => ?_⟩)
    · refine am_goX 1 (show pz_S 3 (some .boolean) am_r229 1 Q 19 [(0, .ref 154), (1, .int (nI p)), (2, .int x)] [.int (Int32.ofInt 0)] h from ?_)
      exact sv_S2 sv2_229 (fun q hq => absurd hq List.not_mem_nil) (key _ (if_pos c4).symm)
    · refine am_goX 2 (show pz_S 3 (some .boolean) am_r229 1 Q 19 [(0, .ref 154), (1, .int (nI p)), (2, .int x)] [.int (Int32.ofInt 1)] h from ?_)
      exact sv_S2 sv2_229 (fun q hq => absurd hq List.not_mem_nil) (key _ (if_neg c4).symm)
  intro v5 e6
  subst e6
  exact am_goX 1 (show (∃ ty, (some .boolean) = some ty ∧ narrow ty (.int (if ¬ (((dB C p) >>> (x &&& 31)) &&& (Int32.ofInt 1)) = (Int32.ofInt 1) then Int32.ofInt 0 else Int32.ofInt 1)) = .int (if ¬ (((dB C p) >>> (x &&& 31)) &&& (Int32.ofInt 1)) = (Int32.ofInt 1) then Int32.ofInt 0 else Int32.ofInt 1)) ∧ h.2.2.2.2 = 175 ∧ _ from ⟨⟨.boolean, rfl, (by (repeat' split) <;> rfl)⟩, ex_175 hP, hQ⟩)
def d_228_4 (C : sp_C) (x : Int32) : Nat → Nat → Int32 → Int32
  | 0, _, a2 => a2
  | m + 1, k, a2 => d_228_4 C x m (k + 1) (a2 ||| (if (d_229 C k x) = 0 then Int32.ofInt 0 else (Int32.ofInt 1) <<< ((nI k) &&& 31)))
theorem d_228_4_r (hP : ex_P h) (hT : tR C h) : ∀ (m k : Nat) (a2 : Int32), k + m = dP C → (pz_S 4 (some .int) am_r228 2 Q 37 [(2, .int (d_228_4 C x m k a2))] [] h) → pz_S 4 (some .int) am_r228 2 Q 4 [(0, .ref 154), (1, .int x), (2, .int a2), (3, .int (nI k))] [] h := by
  intro m
  induction m with
  | zero =>
    intro k a2 hk hZ
    have h6 := hT.1.2.1
    have h5 := hT.2.1.2.1
    refine am_goX 3 (show am_rc h 154 11 ∧ 1 ≤ 8 ∧ h.2.2.2.2 + am_al 186 ≤ 175 ∧ am_call am_cod 2 186 [.ref 154] h (fun vv h' => pz_S 4 (some .int) am_r228 2 Q 9 [(0, .ref 154), (1, .int x), (2, .int a2), (3, .int (nI k))] (vv.toList ++ [.int (nI k)]) h') from ⟨Or.inl ⟨by decide, ex_154 hP⟩, by decide, ex_lim hP rfl, am_call.up (d_186_r hP hT ?_) (by decide)⟩)
    refine am_goX 1 (show ((nI (dP C)) ≤ (nI k) → pz_S 4 (some .int) am_r228 2 Q 37 [(0, .ref 154), (1, .int x), (2, .int a2), (3, .int (nI k))] [] h) ∧ (¬ ((nI (dP C)) ≤ (nI k)) → pz_S 4 (some .int) am_r228 2 Q 12 [(0, .ref 154), (1, .int x), (2, .int a2), (3, .int (nI k))] [] h) from ⟨fun _ => ?_, fun hz => absurd (show nI (dP C) ≤ nI k from nI_le (by omega) (by omega)) hz⟩)
    exact sv_S2 sv2_228 (by intro q hq; simp only [List.mem_cons, List.not_mem_nil, or_false] at hq; rcases hq with rfl <;> rfl) (hZ)
  | succ m ih =>
    intro k a2 hk hZ
    have h6 := hT.1.2.1
    have h5 := hT.2.1.2.1
    refine am_goX 3 (show am_rc h 154 11 ∧ 1 ≤ 8 ∧ h.2.2.2.2 + am_al 186 ≤ 175 ∧ am_call am_cod 2 186 [.ref 154] h (fun vv h' => pz_S 4 (some .int) am_r228 2 Q 9 [(0, .ref 154), (1, .int x), (2, .int a2), (3, .int (nI k))] (vv.toList ++ [.int (nI k)]) h') from ⟨Or.inl ⟨by decide, ex_154 hP⟩, by decide, ex_lim hP rfl, am_call.up (d_186_r hP hT ?_) (by decide)⟩)
    refine am_goX 1 (show ((nI (dP C)) ≤ (nI k) → pz_S 4 (some .int) am_r228 2 Q 37 [(0, .ref 154), (1, .int x), (2, .int a2), (3, .int (nI k))] [] h) ∧ (¬ ((nI (dP C)) ≤ (nI k)) → pz_S 4 (some .int) am_r228 2 Q 12 [(0, .ref 154), (1, .int x), (2, .int a2), (3, .int (nI k))] [] h) from ⟨fun hz => absurd hz (show ¬ (nI (dP C) ≤ nI k) by rw [nI_leI (by omega) (by omega)]; omega), fun _ => ?_⟩)
    refine am_goX 5 (show am_rc h 154 11 ∧ 1 ≤ 8 ∧ h.2.2.2.2 + am_al 229 ≤ 175 ∧ am_call am_cod 2 229 [.ref 154, .int (nI k), .int x] h (fun vv h' => pz_S 4 (some .int) am_r228 2 Q 19 [(0, .ref 154), (1, .int x), (2, .int a2), (3, .int (nI k))] (vv.toList ++ [.int a2]) h') from ⟨Or.inl ⟨by decide, ex_154 hP⟩, by decide, ex_lim hP rfl, am_call.up (d_229_r hP hT (by omega) ?_) (by decide)⟩)
    suffices key : ∀ (v8 : Int32), v8 = (if (d_229 C k x) = 0 then Int32.ofInt 0 else (Int32.ofInt 1) <<< ((nI k) &&& 31)) → pz_S 4 (some .int) am_r228 2 Q 29 [(0, .ref 154), (1, .int x), (3, .int (nI k))] [.int v8, .int a2] h by
      refine am_goX 1 (show ((d_229 C k x) = 0 → pz_S 4 (some .int) am_r228 2 Q 28 [(0, .ref 154), (1, .int x), (2, .int a2), (3, .int (nI k))] [.int a2] h) ∧ (¬ ((d_229 C k x) = 0) → pz_S 4 (some .int) am_r228 2 Q 22 [(0, .ref 154), (1, .int x), (2, .int a2), (3, .int (nI k))] [.int a2] h) from ⟨fun c7 => ?_, fun c7 => ?_⟩)
      · refine am_goX 1 (show pz_S 4 (some .int) am_r228 2 Q 29 [(0, .ref 154), (1, .int x), (2, .int a2), (3, .int (nI k))] [.int (Int32.ofInt 0), .int a2] h from ?_)
        exact sv_S2 sv2_228 (by intro q hq; simp only [List.mem_cons, List.not_mem_nil, or_false] at hq; rcases hq with rfl | rfl | rfl <;> rfl) (key _ (if_pos c7).symm)
      · refine am_goX 4 (show pz_S 4 (some .int) am_r228 2 Q 29 [(0, .ref 154), (1, .int x), (2, .int a2), (3, .int (nI k))] [.int ((Int32.ofInt 1) <<< ((nI k) &&& 31)), .int a2] h from ?_)
        exact sv_S2 sv2_228 (by intro q hq; simp only [List.mem_cons, List.not_mem_nil, or_false] at hq; rcases hq with rfl | rfl | rfl <;> rfl) (key _ (if_neg c7).symm)
    intro v8 e9
    subst e9
    refine am_goX 4 (show 2 < 4 ∧ 3 < 4 ∧ pz_S 4 (some .int) am_r228 2 Q 4 [(3, .int ((nI k) + (Int32.ofInt 1))), (2, .int (a2 ||| (if (d_229 C k x) = 0 then Int32.ofInt 0 else (Int32.ofInt 1) <<< ((nI k) &&& 31)))), (0, .ref 154), (1, .int x)] [] h from ⟨by decide, by decide, ?_⟩)
    rw [show (nI k) + (Int32.ofInt 1) = nI (k + 1) from (dn_a rfl rfl)]
    exact sv_S2 sv2_228 (by intro q hq; simp only [List.mem_cons, List.not_mem_nil, or_false] at hq; rcases hq with rfl | rfl | rfl | rfl <;> rfl) (ih (k + 1) (a2 ||| (if (d_229 C k x) = 0 then Int32.ofInt 0 else (Int32.ofInt 1) <<< ((nI k) &&& 31))) (by omega) hZ)
def d_228 (C : sp_C) (x : Int32) : Int32 := d_228_4 C x (dP C) 0 (Int32.ofInt 0)
theorem d_228_r (hP : ex_P h) (hT : tR C h)  (hQ : Q (some (.int (d_228 C x))) h) : am_call am_cod 3 228 [.ref 154, .int x] h Q := by
  have h6 := hT.1.2.1
  have h5 := hT.2.1.2.1
  refine pz_call (n := 228) (nL := 4) (rt := (some .int)) (rows := am_r228) (d := 2) (by decide +kernel) (by decide +kernel) rfl (by funext pc; rfl) (ex_175 hP) (by exact Nat.le_of_ble_eq_true rfl) ?_
  refine am_goX 4 (show 2 < 4 ∧ 3 < 4 ∧ pz_S 4 (some .int) am_r228 2 Q 4 [(3, .int (Int32.ofInt 0)), (2, .int (Int32.ofInt 0)), (0, .ref 154), (1, .int x)] [] h from ⟨by decide, by decide, ?_⟩)
  refine sv_S2 sv2_228 (by intro q hq; simp only [List.mem_cons, List.not_mem_nil, or_false] at hq; rcases hq with rfl | rfl | rfl | rfl <;> rfl) (d_228_4_r hP hT (dP C) 0 (Int32.ofInt 0) (by omega) ?_)
  exact am_goX 2 (show (∃ ty, (some .int) = some ty ∧ narrow ty (.int (d_228_4 C x (dP C) 0 (Int32.ofInt 0))) = .int (d_228_4 C x (dP C) 0 (Int32.ofInt 0))) ∧ h.2.2.2.2 = 175 ∧ _ from ⟨⟨.int, rfl, rfl⟩, ex_175 hP, hQ⟩)
theorem fo_w {ob k : Nat} {v a b c d : Int32} {h : am_H} (hn : ¬ ob = 168) (l : h.1 168 0 = a ∧ h.1 168 1 = b ∧ h.1 168 2 = c ∧ h.1 168 3 = d) : (am_wI h ob k v).1 168 0 = a ∧ (am_wI h ob k v).1 168 1 = b ∧ (am_wI h ob k v).1 168 2 = c ∧ (am_wI h ob k v).1 168 3 = d := by
  rw [em_wn _ _ (by omega), em_wn _ _ (by omega), em_wn _ _ (by omega), em_wn _ _ (by omega)]
  exact l
theorem fa_w0 {v a b c d : Int32} {h : am_H} (l : h.1 168 0 = a ∧ h.1 168 1 = b ∧ h.1 168 2 = c ∧ h.1 168 3 = d) : (am_wI h 168 0 v).1 168 0 = v ∧ (am_wI h 168 0 v).1 168 1 = b ∧ (am_wI h 168 0 v).1 168 2 = c ∧ (am_wI h 168 0 v).1 168 3 = d := by
  refine ⟨?_, ?_, ?_, ?_⟩
  · exact em_we _ _ _ _
  · rw [em_wn _ _ (by omega)]; exact l.2.1
  · rw [em_wn _ _ (by omega)]; exact l.2.2.1
  · rw [em_wn _ _ (by omega)]; exact l.2.2.2
theorem fa_w1 {v a b c d : Int32} {h : am_H} (l : h.1 168 0 = a ∧ h.1 168 1 = b ∧ h.1 168 2 = c ∧ h.1 168 3 = d) : (am_wI h 168 1 v).1 168 0 = a ∧ (am_wI h 168 1 v).1 168 1 = v ∧ (am_wI h 168 1 v).1 168 2 = c ∧ (am_wI h 168 1 v).1 168 3 = d := by
  refine ⟨?_, ?_, ?_, ?_⟩
  · rw [em_wn _ _ (by omega)]; exact l.1
  · exact em_we _ _ _ _
  · rw [em_wn _ _ (by omega)]; exact l.2.2.1
  · rw [em_wn _ _ (by omega)]; exact l.2.2.2
theorem fa_w2 {v a b c d : Int32} {h : am_H} (l : h.1 168 0 = a ∧ h.1 168 1 = b ∧ h.1 168 2 = c ∧ h.1 168 3 = d) : (am_wI h 168 2 v).1 168 0 = a ∧ (am_wI h 168 2 v).1 168 1 = b ∧ (am_wI h 168 2 v).1 168 2 = v ∧ (am_wI h 168 2 v).1 168 3 = d := by
  refine ⟨?_, ?_, ?_, ?_⟩
  · rw [em_wn _ _ (by omega)]; exact l.1
  · rw [em_wn _ _ (by omega)]; exact l.2.1
  · exact em_we _ _ _ _
  · rw [em_wn _ _ (by omega)]; exact l.2.2.2
theorem fa_w3 {v a b c d : Int32} {h : am_H} (l : h.1 168 0 = a ∧ h.1 168 1 = b ∧ h.1 168 2 = c ∧ h.1 168 3 = d) : (am_wI h 168 3 v).1 168 0 = a ∧ (am_wI h 168 3 v).1 168 1 = b ∧ (am_wI h 168 3 v).1 168 2 = c ∧ (am_wI h 168 3 v).1 168 3 = v := by
  refine ⟨?_, ?_, ?_, ?_⟩
  · rw [em_wn _ _ (by omega)]; exact l.1
  · rw [em_wn _ _ (by omega)]; exact l.2.1
  · rw [em_wn _ _ (by omega)]; exact l.2.2.1
  · exact em_we _ _ _ _
def d_223 (C : sp_C) (s : dS) (p : Nat) : Int32 := (if ¬ (dK C p) = (Int32.ofInt 3) then (s.2.2.1 p) - (Int32.ofInt 2) else Int32.ofInt 0)
theorem d_223_r0 (hP : ex_P h) (hI : cI C) (hT : tR C h) (hO : ∀ e, e < dE C → h.1 172 e = dW V e) (hS : sR 0 (dP C) s h) (hX : fR h0 h) (hp : p < dP C) (hQ : Q (some (.int (d_223 C s p))) h) : am_call am_cod 2 223 [.ref 154, .int (Int32.ofInt 0), .int (nI p)] h Q := by
  have h6 := hT.1.2.1
  have h5 := hT.2.1.2.1
  refine pz_call (n := 223) (nL := 3) (rt := (some .int)) (rows := am_r223) (d := 1) (by decide +kernel) (by decide +kernel) rfl (by funext pc; rfl) (ex_175 hP) (by exact Nat.le_of_ble_eq_true rfl) ?_
  refine am_goX 4 (show am_rc h 154 11 ∧ 0 ≤ 8 ∧ h.2.2.2.2 + am_al 187 ≤ 175 ∧ am_call am_cod 1 187 [.ref 154, .int (nI p), .int (Int32.ofInt 0)] h (fun vv h' => pz_S 3 (some .int) am_r223 1 Q 6 [(0, .ref 154), (1, .int (Int32.ofInt 0)), (2, .int (nI p))] (vv.toList ++ []) h') from ⟨Or.inl ⟨by decide, ex_154 hP⟩, by decide, ex_lim hP rfl, am_call.up (d_187_r0 hP hT (by omega) ?_) (by decide)⟩)
  suffices key : ∀ (v11 : Int32), v11 = (if ¬ (dK C p) = (Int32.ofInt 3) then (s.2.2.1 p) - (Int32.ofInt 2) else Int32.ofInt 0) → pz_S 3 (some .int) am_r223 1 Q 26 [] [.int v11] h by
    refine am_goX 2 (show (¬ (dK C p) = (Int32.ofInt 3) → pz_S 3 (some .int) am_r223 1 Q 14 [(0, .ref 154), (1, .int (Int32.ofInt 0)), (2, .int (nI p))] [] h) ∧ (¬ ¬ (dK C p) = (Int32.ofInt 3) → pz_S 3 (some .int) am_r223 1 Q 10 [(0, .ref 154), (1, .int (Int32.ofInt 0)), (2, .int (nI p))] [] h) from ⟨fun c10 => ?_, fun c10 => ?_⟩)
    · refine am_goX 2 (show am_sh h 154 = some (11, 0) ∧ pz_S 3 (some .int) am_r223 1 Q 18 [(0, .ref 154), (1, .int (Int32.ofInt 0)), (2, .int (nI p))] [am_rf (h.2.2.1 154 24)] h from ⟨ex_154 hP, ?_⟩)
      rw [show am_rf (h.2.2.1 154 24) = .ref 170 from congrArg am_rf (ex_r154_24 hP)]
      refine am_goX 6 (show ∃ jj nn : Nat, am_sh h 170 = some (13, nn) ∧ jj < nn ∧ ((Int32.ofInt 0) + (Int32.ofInt 2)) + (nI p) = nI jj ∧ pz_S 3 (some .int) am_r223 1 Q 24 [(0, .ref 154), (1, .int (Int32.ofInt 0)), (2, .int (nI p))] [.int (h.1 170 jj)] h from ⟨(2 + p), 1127, ex_170 hP, (by omega), (dn_a (dn_a rfl rfl) rfl), ?_⟩)
      rw [show h.1 170 (2 + p) = s.2.2.1 p from (by rw [show (2 + p) = 0 + 2 + p by omega]; exact hS.2.1 p (by omega))]
      refine am_goX 2 (show pz_S 3 (some .int) am_r223 1 Q 26 [(0, .ref 154), (1, .int (Int32.ofInt 0)), (2, .int (nI p))] [.int ((s.2.2.1 p) - (Int32.ofInt 2))] h from ?_)
      exact sv_S2 sv2_223 (fun q hq => absurd hq List.not_mem_nil) (key _ (if_pos c10).symm)
    · refine am_goX 2 (show pz_S 3 (some .int) am_r223 1 Q 26 [(0, .ref 154), (1, .int (Int32.ofInt 0)), (2, .int (nI p))] [.int (Int32.ofInt 0)] h from ?_)
      exact sv_S2 sv2_223 (fun q hq => absurd hq List.not_mem_nil) (key _ (if_neg c10).symm)
  intro v11 e12
  subst e12
  exact am_goX 1 (show (∃ ty, (some .int) = some ty ∧ narrow ty (.int (if ¬ (dK C p) = (Int32.ofInt 3) then (s.2.2.1 p) - (Int32.ofInt 2) else Int32.ofInt 0)) = .int (if ¬ (dK C p) = (Int32.ofInt 3) then (s.2.2.1 p) - (Int32.ofInt 2) else Int32.ofInt 0)) ∧ h.2.2.2.2 = 175 ∧ _ from ⟨⟨.int, rfl, rfl⟩, ex_175 hP, hQ⟩)
def d_222 (C : sp_C) (s : dS) (p : Nat) : Int32 := d_225 s.1 (d_223 C s p) (d_224 C s.1)
theorem d_222_r0 (hP : ex_P h) (hI : cI C) (hT : tR C h) (hO : ∀ e, e < dE C → h.1 172 e = dW V e) (hS : sR 0 (dP C) s h) (hX : fR h0 h) (hp : p < dP C) (hQ : Q (some (.int (d_222 C s p))) h) : am_call am_cod 3 222 [.ref 154, .int (nI p)] h Q := by
  have h6 := hT.1.2.1
  have h5 := hT.2.1.2.1
  refine pz_call (n := 222) (nL := 2) (rt := (some .int)) (rows := am_r222) (d := 2) (by decide +kernel) (by decide +kernel) rfl (by funext pc; rfl) (ex_175 hP) (by exact Nat.le_of_ble_eq_true rfl) ?_
  refine am_goX 2 (show am_sh h 154 = some (11, 0) ∧ pz_S 2 (some .int) am_r222 2 Q 4 [(0, .ref 154), (1, .int (nI p))] [am_rf (h.2.2.1 154 24)] h from ⟨ex_154 hP, ?_⟩)
  rw [show am_rf (h.2.2.1 154 24) = .ref 170 from congrArg am_rf (ex_r154_24 hP)]
  refine am_goX 2 (show ∃ jj nn : Nat, am_sh h 170 = some (13, nn) ∧ jj < nn ∧ Int32.ofInt 0 = nI jj ∧ pz_S 2 (some .int) am_r222 2 Q 6 [(0, .ref 154), (1, .int (nI p))] [.int (h.1 170 jj)] h from ⟨0, 1127, ex_170 hP, (by omega), rfl, ?_⟩)
  rw [show h.1 170 0 = s.1 from hS.1.1]
  refine am_goX 4 (show am_rc h 154 11 ∧ 1 ≤ 8 ∧ h.2.2.2.2 + am_al 223 ≤ 175 ∧ am_call am_cod 2 223 [.ref 154, .int (Int32.ofInt 0), .int (nI p)] h (fun vv h' => pz_S 2 (some .int) am_r222 2 Q 12 [(0, .ref 154), (1, .int (nI p))] (vv.toList ++ [.int s.1]) h') from ⟨Or.inl ⟨by decide, ex_154 hP⟩, by decide, ex_lim hP rfl, am_call.up (d_223_r0 hP hI hT hO hS hX (by omega) ?_) (by decide)⟩)
  refine am_goX 3 (show am_sh h 154 = some (11, 0) ∧ pz_S 2 (some .int) am_r222 2 Q 17 [(0, .ref 154), (1, .int (nI p))] [am_rf (h.2.2.1 154 24), .ref 154, .int (d_223 C s p), .int s.1] h from ⟨ex_154 hP, ?_⟩)
  rw [show am_rf (h.2.2.1 154 24) = .ref 170 from congrArg am_rf (ex_r154_24 hP)]
  refine am_goX 2 (show ∃ jj nn : Nat, am_sh h 170 = some (13, nn) ∧ jj < nn ∧ Int32.ofInt 0 = nI jj ∧ pz_S 2 (some .int) am_r222 2 Q 19 [(0, .ref 154), (1, .int (nI p))] [.int (h.1 170 jj), .ref 154, .int (d_223 C s p), .int s.1] h from ⟨0, 1127, ex_170 hP, (by omega), rfl, ?_⟩)
  rw [show h.1 170 0 = s.1 from hS.1.1]
  refine am_goX 1 (show am_rc h 154 11 ∧ 2 ≤ 8 ∧ h.2.2.2.2 + am_al 224 ≤ 175 ∧ am_call am_cod 2 224 [.ref 154, .int s.1] h (fun vv h' => pz_S 2 (some .int) am_r222 2 Q 22 [(0, .ref 154), (1, .int (nI p))] (vv.toList ++ [.int (d_223 C s p), .int s.1]) h') from ⟨Or.inl ⟨by decide, ex_154 hP⟩, by decide, ex_lim hP rfl, am_call.up (d_224_r hP hT ?_) (by decide)⟩)
  refine am_goX 1 (show 0 ≤ 8 ∧ h.2.2.2.2 + am_al 225 ≤ 175 ∧ am_call am_cod 2 225 [.int s.1, .int (d_223 C s p), .int (d_224 C s.1)] h (fun vv h' => pz_S 2 (some .int) am_r222 2 Q 25 [(0, .ref 154), (1, .int (nI p))] (vv.toList ++ []) h') from ⟨by decide, ex_lim hP rfl, am_call.up (d_225_w hP ?_) (by decide)⟩)
  exact am_goX 1 (show (∃ ty, (some .int) = some ty ∧ narrow ty (.int (d_225 s.1 (d_223 C s p) (d_224 C s.1))) = .int (d_225 s.1 (d_223 C s p) (d_224 C s.1))) ∧ h.2.2.2.2 = 175 ∧ _ from ⟨⟨.int, rfl, rfl⟩, ex_175 hP, hQ⟩)
def d_238 (C V : sp_C) (s : dS) (p e : Nat) (w : Int32) : Int32 := (if (d_229 C p (nI e)) = 0 then Int32.ofInt 0 else (if (d_225 s.1 (d_223 C s p) w) = (dW V e) then (if ¬ (dK C p) = (Int32.ofInt 2) then Int32.ofInt 1 else (if ¬ (dW V e) = (Int32.ofInt 1) then Int32.ofInt 0 else Int32.ofInt 1)) else (if ¬ (dK C p) = (Int32.ofInt 1) then Int32.ofInt 0 else (if ¬ (d_225 s.1 (d_223 C s p) w) = (((dW V e) + (Int32.ofInt 1)) - ((dW V e) + (Int32.ofInt 1)) / ((Int8.ofInt 7).toInt32) * ((Int8.ofInt 7).toInt32)) then Int32.ofInt 0 else (if ¬ (dK C p) = (Int32.ofInt 2) then Int32.ofInt 1 else (if ¬ (dW V e) = (Int32.ofInt 1) then Int32.ofInt 0 else Int32.ofInt 1))))))
theorem d_238_r0 (hP : ex_P h) (hI : cI C) (hT : tR C h) (hO : ∀ e, e < dE C → h.1 172 e = dW V e) (hS : sR 0 (dP C) s h) (hX : fR h0 h) (hp : p < dP C) (he : e < dE C) (hQ : Q (some (.int (d_238 C V s p e w))) h) : am_call am_cod 3 238 [.ref 154, .int (Int32.ofInt 0), .int (nI p), .int (nI e), .int w] h Q := by
  have h6 := hT.1.2.1
  have h5 := hT.2.1.2.1
  refine pz_call (n := 238) (nL := 8) (rt := (some .boolean)) (rows := am_r238) (d := 2) (by decide +kernel) (by decide +kernel) rfl (by funext pc; rfl) (ex_175 hP) (by exact Nat.le_of_ble_eq_true rfl) ?_
  refine am_goX 4 (show am_rc h 154 11 ∧ 0 ≤ 8 ∧ h.2.2.2.2 + am_al 187 ≤ 175 ∧ am_call am_cod 2 187 [.ref 154, .int (nI p), .int (Int32.ofInt 0)] h (fun vv h' => pz_S 8 (some .boolean) am_r238 2 Q 6 [(0, .ref 154), (1, .int (Int32.ofInt 0)), (2, .int (nI p)), (3, .int (nI e)), (4, .int w)] (vv.toList ++ []) h') from ⟨Or.inl ⟨by decide, ex_154 hP⟩, by decide, ex_lim hP rfl, am_call.up (d_187_r0 hP hT (by omega) ?_) (by decide)⟩)
  refine am_goX 3 (show 5 < 8 ∧ am_sh h 154 = some (11, 0) ∧ pz_S 8 (some .boolean) am_r238 2 Q 12 [(5, .int (dK C p)), (0, .ref 154), (1, .int (Int32.ofInt 0)), (2, .int (nI p)), (3, .int (nI e)), (4, .int w)] [am_rf (h.2.2.1 154 27)] h from ⟨by decide, ex_154 hP, ?_⟩)
  rw [show am_rf (h.2.2.1 154 27) = .ref 172 from congrArg am_rf (ex_r154_27 hP)]
  refine am_goX 2 (show ∃ jj nn : Nat, am_sh h 172 = some (13, nn) ∧ jj < nn ∧ nI e = nI jj ∧ pz_S 8 (some .boolean) am_r238 2 Q 14 [(5, .int (dK C p)), (0, .ref 154), (1, .int (Int32.ofInt 0)), (2, .int (nI p)), (3, .int (nI e)), (4, .int w)] [.int (h.1 172 jj)] h from ⟨e, 5, ex_172 hP, (by omega), rfl, ?_⟩)
  rw [show h.1 172 e = dW V e from hO e (by omega)]
  refine am_goX 3 (show 6 < 8 ∧ am_sh h 154 = some (11, 0) ∧ pz_S 8 (some .boolean) am_r238 2 Q 20 [(6, .int (dW V e)), (5, .int (dK C p)), (0, .ref 154), (1, .int (Int32.ofInt 0)), (2, .int (nI p)), (3, .int (nI e)), (4, .int w)] [am_rf (h.2.2.1 154 24)] h from ⟨by decide, ex_154 hP, ?_⟩)
  rw [show am_rf (h.2.2.1 154 24) = .ref 170 from congrArg am_rf (ex_r154_24 hP)]
  refine am_goX 4 (show ∃ jj nn : Nat, am_sh h 170 = some (13, nn) ∧ jj < nn ∧ (Int32.ofInt 0) + (Int32.ofInt 0) = nI jj ∧ pz_S 8 (some .boolean) am_r238 2 Q 24 [(6, .int (dW V e)), (5, .int (dK C p)), (0, .ref 154), (1, .int (Int32.ofInt 0)), (2, .int (nI p)), (3, .int (nI e)), (4, .int w)] [.int (h.1 170 jj)] h from ⟨0, 1127, ex_170 hP, (by omega), (dn_a rfl rfl), ?_⟩)
  rw [show h.1 170 0 = s.1 from hS.1.1]
  refine am_goX 4 (show am_rc h 154 11 ∧ 1 ≤ 8 ∧ h.2.2.2.2 + am_al 223 ≤ 175 ∧ am_call am_cod 2 223 [.ref 154, .int (Int32.ofInt 0), .int (nI p)] h (fun vv h' => pz_S 8 (some .boolean) am_r238 2 Q 30 [(6, .int (dW V e)), (5, .int (dK C p)), (0, .ref 154), (1, .int (Int32.ofInt 0)), (2, .int (nI p)), (3, .int (nI e)), (4, .int w)] (vv.toList ++ [.int s.1]) h') from ⟨Or.inl ⟨by decide, ex_154 hP⟩, by decide, ex_lim hP rfl, am_call.up (d_223_r0 hP hI hT hO hS hX (by omega) ?_) (by decide)⟩)
  refine am_goX 2 (show 0 ≤ 8 ∧ h.2.2.2.2 + am_al 225 ≤ 175 ∧ am_call am_cod 2 225 [.int s.1, .int (d_223 C s p), .int w] h (fun vv h' => pz_S 8 (some .boolean) am_r238 2 Q 35 [(6, .int (dW V e)), (5, .int (dK C p)), (0, .ref 154), (1, .int (Int32.ofInt 0)), (2, .int (nI p)), (3, .int (nI e)), (4, .int w)] (vv.toList ++ []) h') from ⟨by decide, ex_lim hP rfl, am_call.up (d_225_w hP ?_) (by decide)⟩)
  refine am_goX 5 (show 7 < 8 ∧ am_rc h 154 11 ∧ 0 ≤ 8 ∧ h.2.2.2.2 + am_al 229 ≤ 175 ∧ am_call am_cod 2 229 [.ref 154, .int (nI p), .int (nI e)] h (fun vv h' => pz_S 8 (some .boolean) am_r238 2 Q 43 [(7, .int (d_225 s.1 (d_223 C s p) w)), (6, .int (dW V e)), (5, .int (dK C p)), (0, .ref 154), (1, .int (Int32.ofInt 0)), (2, .int (nI p)), (3, .int (nI e)), (4, .int w)] (vv.toList ++ []) h') from ⟨by decide, Or.inl ⟨by decide, ex_154 hP⟩, by decide, ex_lim hP rfl, am_call.up (d_229_r hP hT (by omega) ?_) (by decide)⟩)
  suffices key : ∀ (v14 : Int32), v14 = (if (d_229 C p (nI e)) = 0 then Int32.ofInt 0 else (if (d_225 s.1 (d_223 C s p) w) = (dW V e) then (if ¬ (dK C p) = (Int32.ofInt 2) then Int32.ofInt 1 else (if ¬ (dW V e) = (Int32.ofInt 1) then Int32.ofInt 0 else Int32.ofInt 1)) else (if ¬ (dK C p) = (Int32.ofInt 1) then Int32.ofInt 0 else (if ¬ (d_225 s.1 (d_223 C s p) w) = (((dW V e) + (Int32.ofInt 1)) - ((dW V e) + (Int32.ofInt 1)) / ((Int8.ofInt 7).toInt32) * ((Int8.ofInt 7).toInt32)) then Int32.ofInt 0 else (if ¬ (dK C p) = (Int32.ofInt 2) then Int32.ofInt 1 else (if ¬ (dW V e) = (Int32.ofInt 1) then Int32.ofInt 0 else Int32.ofInt 1)))))) → pz_S 8 (some .boolean) am_r238 2 Q 88 [] [.int v14] h by
    refine am_goX 1 (show ((d_229 C p (nI e)) = 0 → pz_S 8 (some .boolean) am_r238 2 Q 87 [(7, .int (d_225 s.1 (d_223 C s p) w)), (6, .int (dW V e)), (5, .int (dK C p)), (0, .ref 154), (1, .int (Int32.ofInt 0)), (2, .int (nI p)), (3, .int (nI e)), (4, .int w)] [] h) ∧ (¬ ((d_229 C p (nI e)) = 0) → pz_S 8 (some .boolean) am_r238 2 Q 46 [(7, .int (d_225 s.1 (d_223 C s p) w)), (6, .int (dW V e)), (5, .int (dK C p)), (0, .ref 154), (1, .int (Int32.ofInt 0)), (2, .int (nI p)), (3, .int (nI e)), (4, .int w)] [] h) from ⟨fun c13 => ?_, fun c13 => ?_⟩)
    · refine am_goX 1 (show pz_S 8 (some .boolean) am_r238 2 Q 88 [(7, .int (d_225 s.1 (d_223 C s p) w)), (6, .int (dW V e)), (5, .int (dK C p)), (0, .ref 154), (1, .int (Int32.ofInt 0)), (2, .int (nI p)), (3, .int (nI e)), (4, .int w)] [.int (Int32.ofInt 0)] h from ?_)
      exact sv_S2 sv2_238 (fun q hq => absurd hq List.not_mem_nil) (key _ (if_pos c13).symm)
    · suffices key : ∀ (v16 : Int32), v16 = (if (d_225 s.1 (d_223 C s p) w) = (dW V e) then (if ¬ (dK C p) = (Int32.ofInt 2) then Int32.ofInt 1 else (if ¬ (dW V e) = (Int32.ofInt 1) then Int32.ofInt 0 else Int32.ofInt 1)) else (if ¬ (dK C p) = (Int32.ofInt 1) then Int32.ofInt 0 else (if ¬ (d_225 s.1 (d_223 C s p) w) = (((dW V e) + (Int32.ofInt 1)) - ((dW V e) + (Int32.ofInt 1)) / ((Int8.ofInt 7).toInt32) * ((Int8.ofInt 7).toInt32)) then Int32.ofInt 0 else (if ¬ (dK C p) = (Int32.ofInt 2) then Int32.ofInt 1 else (if ¬ (dW V e) = (Int32.ofInt 1) then Int32.ofInt 0 else Int32.ofInt 1))))) → pz_S 8 (some .boolean) am_r238 2 Q 88 [] [.int v16] h by
        refine am_goX 3 (show ((d_225 s.1 (d_223 C s p) w) = (dW V e) → pz_S 8 (some .boolean) am_r238 2 Q 71 [(7, .int (d_225 s.1 (d_223 C s p) w)), (6, .int (dW V e)), (5, .int (dK C p)), (0, .ref 154), (1, .int (Int32.ofInt 0)), (2, .int (nI p)), (3, .int (nI e)), (4, .int w)] [] h) ∧ (¬ ((d_225 s.1 (d_223 C s p) w) = (dW V e)) → pz_S 8 (some .boolean) am_r238 2 Q 53 [(7, .int (d_225 s.1 (d_223 C s p) w)), (6, .int (dW V e)), (5, .int (dK C p)), (0, .ref 154), (1, .int (Int32.ofInt 0)), (2, .int (nI p)), (3, .int (nI e)), (4, .int w)] [] h) from ⟨fun c15 => ?_, fun c15 => ?_⟩)
        · suffices key : ∀ (v18 : Int32), v18 = (if ¬ (dK C p) = (Int32.ofInt 2) then Int32.ofInt 1 else (if ¬ (dW V e) = (Int32.ofInt 1) then Int32.ofInt 0 else Int32.ofInt 1)) → pz_S 8 (some .boolean) am_r238 2 Q 88 [] [.int v18] h by
            refine am_goX 3 (show (¬ (dK C p) = (Int32.ofInt 2) → pz_S 8 (some .boolean) am_r238 2 Q 83 [(7, .int (d_225 s.1 (d_223 C s p) w)), (6, .int (dW V e)), (5, .int (dK C p)), (0, .ref 154), (1, .int (Int32.ofInt 0)), (2, .int (nI p)), (3, .int (nI e)), (4, .int w)] [] h) ∧ (¬ ¬ (dK C p) = (Int32.ofInt 2) → pz_S 8 (some .boolean) am_r238 2 Q 77 [(7, .int (d_225 s.1 (d_223 C s p) w)), (6, .int (dW V e)), (5, .int (dK C p)), (0, .ref 154), (1, .int (Int32.ofInt 0)), (2, .int (nI p)), (3, .int (nI e)), (4, .int w)] [] h) from ⟨fun c17 => ?_, fun c17 => ?_⟩)
            · refine am_goX 2 (show pz_S 8 (some .boolean) am_r238 2 Q 88 [(7, .int (d_225 s.1 (d_223 C s p) w)), (6, .int (dW V e)), (5, .int (dK C p)), (0, .ref 154), (1, .int (Int32.ofInt 0)), (2, .int (nI p)), (3, .int (nI e)), (4, .int w)] [.int (Int32.ofInt 1)] h from ?_)
              exact sv_S2 sv2_238 (fun q hq => absurd hq List.not_mem_nil) (key _ (if_pos c17).symm)
            · suffices key : ∀ (v20 : Int32), v20 = (if ¬ (dW V e) = (Int32.ofInt 1) then Int32.ofInt 0 else Int32.ofInt 1) → pz_S 8 (some .boolean) am_r238 2 Q 88 [] [.int v20] h by
                refine am_goX 3 (show (¬ (dW V e) = (Int32.ofInt 1) → pz_S 8 (some .boolean) am_r238 2 Q 87 [(7, .int (d_225 s.1 (d_223 C s p) w)), (6, .int (dW V e)), (5, .int (dK C p)), (0, .ref 154), (1, .int (Int32.ofInt 0)), (2, .int (nI p)), (3, .int (nI e)), (4, .int w)] [] h) ∧ (¬ ¬ (dW V e) = (Int32.ofInt 1) → pz_S 8 (some .boolean) am_r238 2 Q 83 [(7, .int (d_225 s.1 (d_223 C s p) w)), (6, .int (dW V e)), (5, .int (dK C p)), (0, .ref 154), (1, .int (Int32.ofInt 0)), (2, .int (nI p)), (3, .int (nI e)), (4, .int w)] [] h) from ⟨fun c19 => ?_, fun c19 => ?_⟩)
                · refine am_goX 1 (show pz_S 8 (some .boolean) am_r238 2 Q 88 [(7, .int (d_225 s.1 (d_223 C s p) w)), (6, .int (dW V e)), (5, .int (dK C p)), (0, .ref 154), (1, .int (Int32.ofInt 0)), (2, .int (nI p)), (3, .int (nI e)), (4, .int w)] [.int (Int32.ofInt 0)] h from ?_)
                  exact sv_S2 sv2_238 (fun q hq => absurd hq List.not_mem_nil) (key _ (if_pos c19).symm)
                · refine am_goX 2 (show pz_S 8 (some .boolean) am_r238 2 Q 88 [(7, .int (d_225 s.1 (d_223 C s p) w)), (6, .int (dW V e)), (5, .int (dK C p)), (0, .ref 154), (1, .int (Int32.ofInt 0)), (2, .int (nI p)), (3, .int (nI e)), (4, .int w)] [.int (Int32.ofInt 1)] h from ?_)
                  exact sv_S2 sv2_238 (fun q hq => absurd hq List.not_mem_nil) (key _ (if_neg c19).symm)
              intro v20 e21
              subst e21
              exact sv_S2 sv2_238 (fun q hq => absurd hq List.not_mem_nil) (key _ (if_neg c17).symm)
          intro v18 e22
          subst e22
          exact sv_S2 sv2_238 (fun q hq => absurd hq List.not_mem_nil) (key _ (if_pos c15).symm)
        · suffices key : ∀ (v24 : Int32), v24 = (if ¬ (dK C p) = (Int32.ofInt 1) then Int32.ofInt 0 else (if ¬ (d_225 s.1 (d_223 C s p) w) = (((dW V e) + (Int32.ofInt 1)) - ((dW V e) + (Int32.ofInt 1)) / ((Int8.ofInt 7).toInt32) * ((Int8.ofInt 7).toInt32)) then Int32.ofInt 0 else (if ¬ (dK C p) = (Int32.ofInt 2) then Int32.ofInt 1 else (if ¬ (dW V e) = (Int32.ofInt 1) then Int32.ofInt 0 else Int32.ofInt 1)))) → pz_S 8 (some .boolean) am_r238 2 Q 88 [] [.int v24] h by
            refine am_goX 3 (show (¬ (dK C p) = (Int32.ofInt 1) → pz_S 8 (some .boolean) am_r238 2 Q 87 [(7, .int (d_225 s.1 (d_223 C s p) w)), (6, .int (dW V e)), (5, .int (dK C p)), (0, .ref 154), (1, .int (Int32.ofInt 0)), (2, .int (nI p)), (3, .int (nI e)), (4, .int w)] [] h) ∧ (¬ ¬ (dK C p) = (Int32.ofInt 1) → pz_S 8 (some .boolean) am_r238 2 Q 59 [(7, .int (d_225 s.1 (d_223 C s p) w)), (6, .int (dW V e)), (5, .int (dK C p)), (0, .ref 154), (1, .int (Int32.ofInt 0)), (2, .int (nI p)), (3, .int (nI e)), (4, .int w)] [] h) from ⟨fun c23 => ?_, fun c23 => ?_⟩)
            · refine am_goX 1 (show pz_S 8 (some .boolean) am_r238 2 Q 88 [(7, .int (d_225 s.1 (d_223 C s p) w)), (6, .int (dW V e)), (5, .int (dK C p)), (0, .ref 154), (1, .int (Int32.ofInt 0)), (2, .int (nI p)), (3, .int (nI e)), (4, .int w)] [.int (Int32.ofInt 0)] h from ?_)
              exact sv_S2 sv2_238 (fun q hq => absurd hq List.not_mem_nil) (key _ (if_pos c23).symm)
            · suffices key : ∀ (v26 : Int32), v26 = (if ¬ (d_225 s.1 (d_223 C s p) w) = (((dW V e) + (Int32.ofInt 1)) - ((dW V e) + (Int32.ofInt 1)) / ((Int8.ofInt 7).toInt32) * ((Int8.ofInt 7).toInt32)) then Int32.ofInt 0 else (if ¬ (dK C p) = (Int32.ofInt 2) then Int32.ofInt 1 else (if ¬ (dW V e) = (Int32.ofInt 1) then Int32.ofInt 0 else Int32.ofInt 1))) → pz_S 8 (some .boolean) am_r238 2 Q 88 [] [.int v26] h by
                refine am_goX 7 (show ¬ ((Int8.ofInt 7).toInt32) = 0 ∧ (¬ (d_225 s.1 (d_223 C s p) w) = (((dW V e) + (Int32.ofInt 1)) - ((dW V e) + (Int32.ofInt 1)) / ((Int8.ofInt 7).toInt32) * ((Int8.ofInt 7).toInt32)) → pz_S 8 (some .boolean) am_r238 2 Q 87 [(7, .int (d_225 s.1 (d_223 C s p) w)), (6, .int (dW V e)), (5, .int (dK C p)), (0, .ref 154), (1, .int (Int32.ofInt 0)), (2, .int (nI p)), (3, .int (nI e)), (4, .int w)] [] h) ∧ (¬ ¬ (d_225 s.1 (d_223 C s p) w) = (((dW V e) + (Int32.ofInt 1)) - ((dW V e) + (Int32.ofInt 1)) / ((Int8.ofInt 7).toInt32) * ((Int8.ofInt 7).toInt32)) → pz_S 8 (some .boolean) am_r238 2 Q 71 [(7, .int (d_225 s.1 (d_223 C s p) w)), (6, .int (dW V e)), (5, .int (dK C p)), (0, .ref 154), (1, .int (Int32.ofInt 0)), (2, .int (nI p)), (3, .int (nI e)), (4, .int w)] [] h) from ⟨by decide, fun c25 => ?_, fun c25 => ?_⟩)
                · refine am_goX 1 (show pz_S 8 (some .boolean) am_r238 2 Q 88 [(7, .int (d_225 s.1 (d_223 C s p) w)), (6, .int (dW V e)), (5, .int (dK C p)), (0, .ref 154), (1, .int (Int32.ofInt 0)), (2, .int (nI p)), (3, .int (nI e)), (4, .int w)] [.int (Int32.ofInt 0)] h from ?_)
                  exact sv_S2 sv2_238 (fun q hq => absurd hq List.not_mem_nil) (key _ (if_pos c25).symm)
                · suffices key : ∀ (v28 : Int32), v28 = (if ¬ (dK C p) = (Int32.ofInt 2) then Int32.ofInt 1 else (if ¬ (dW V e) = (Int32.ofInt 1) then Int32.ofInt 0 else Int32.ofInt 1)) → pz_S 8 (some .boolean) am_r238 2 Q 88 [] [.int v28] h by
                    refine am_goX 3 (show (¬ (dK C p) = (Int32.ofInt 2) → pz_S 8 (some .boolean) am_r238 2 Q 83 [(7, .int (d_225 s.1 (d_223 C s p) w)), (6, .int (dW V e)), (5, .int (dK C p)), (0, .ref 154), (1, .int (Int32.ofInt 0)), (2, .int (nI p)), (3, .int (nI e)), (4, .int w)] [] h) ∧ (¬ ¬ (dK C p) = (Int32.ofInt 2) → pz_S 8 (some .boolean) am_r238 2 Q 77 [(7, .int (d_225 s.1 (d_223 C s p) w)), (6, .int (dW V e)), (5, .int (dK C p)), (0, .ref 154), (1, .int (Int32.ofInt 0)), (2, .int (nI p)), (3, .int (nI e)), (4, .int w)] [] h) from ⟨fun c27 => ?_, fun c27 => ?_⟩)
                    · refine am_goX 2 (show pz_S 8 (some .boolean) am_r238 2 Q 88 [(7, .int (d_225 s.1 (d_223 C s p) w)), (6, .int (dW V e)), (5, .int (dK C p)), (0, .ref 154), (1, .int (Int32.ofInt 0)), (2, .int (nI p)), (3, .int (nI e)), (4, .int w)] [.int (Int32.ofInt 1)] h from ?_)
                      exact sv_S2 sv2_238 (fun q hq => absurd hq List.not_mem_nil) (key _ (if_pos c27).symm)
                    · suffices key : ∀ (v30 : Int32), v30 = (if ¬ (dW V e) = (Int32.ofInt 1) then Int32.ofInt 0 else Int32.ofInt 1) → pz_S 8 (some .boolean) am_r238 2 Q 88 [] [.int v30] h by
                        refine am_goX 3 (show (¬ (dW V e) = (Int32.ofInt 1) → pz_S 8 (some .boolean) am_r238 2 Q 87 [(7, .int (d_225 s.1 (d_223 C s p) w)), (6, .int (dW V e)), (5, .int (dK C p)), (0, .ref 154), (1, .int (Int32.ofInt 0)), (2, .int (nI p)), (3, .int (nI e)), (4, .int w)] [] h) ∧ (¬ ¬ (dW V e) = (Int32.ofInt 1) → pz_S 8 (some .boolean) am_r238 2 Q 83 [(7, .int (d_225 s.1 (d_223 C s p) w)), (6, .int (dW V e)), (5, .int (dK C p)), (0, .ref 154), (1, .int (Int32.ofInt 0)), (2, .int (nI p)), (3, .int (nI e)), (4, .int w)] [] h) from ⟨fun c29 => ?_, fun c29 => ?_⟩)
                        · refine am_goX 1 (show pz_S 8 (some .boolean) am_r238 2 Q 88 [(7, .int (d_225 s.1 (d_223 C s p) w)), (6, .int (dW V e)), (5, .int (dK C p)), (0, .ref 154), (1, .int (Int32.ofInt 0)), (2, .int (nI p)), (3, .int (nI e)), (4, .int w)] [.int (Int32.ofInt 0)] h from ?_)
                          exact sv_S2 sv2_238 (fun q hq => absurd hq List.not_mem_nil) (key _ (if_pos c29).symm)
                        · refine am_goX 2 (show pz_S 8 (some .boolean) am_r238 2 Q 88 [(7, .int (d_225 s.1 (d_223 C s p) w)), (6, .int (dW V e)), (5, .int (dK C p)), (0, .ref 154), (1, .int (Int32.ofInt 0)), (2, .int (nI p)), (3, .int (nI e)), (4, .int w)] [.int (Int32.ofInt 1)] h from ?_)
                          exact sv_S2 sv2_238 (fun q hq => absurd hq List.not_mem_nil) (key _ (if_neg c29).symm)
                      intro v30 e31
                      subst e31
                      exact sv_S2 sv2_238 (fun q hq => absurd hq List.not_mem_nil) (key _ (if_neg c27).symm)
                  intro v28 e32
                  subst e32
                  exact sv_S2 sv2_238 (fun q hq => absurd hq List.not_mem_nil) (key _ (if_neg c25).symm)
              intro v26 e33
              subst e33
              exact sv_S2 sv2_238 (fun q hq => absurd hq List.not_mem_nil) (key _ (if_neg c23).symm)
          intro v24 e34
          subst e34
          exact sv_S2 sv2_238 (fun q hq => absurd hq List.not_mem_nil) (key _ (if_neg c15).symm)
      intro v16 e35
      subst e35
      exact sv_S2 sv2_238 (fun q hq => absurd hq List.not_mem_nil) (key _ (if_neg c13).symm)
  intro v14 e36
  subst e36
  exact am_goX 1 (show (∃ ty, (some .boolean) = some ty ∧ narrow ty (.int (if (d_229 C p (nI e)) = 0 then Int32.ofInt 0 else (if (d_225 s.1 (d_223 C s p) w) = (dW V e) then (if ¬ (dK C p) = (Int32.ofInt 2) then Int32.ofInt 1 else (if ¬ (dW V e) = (Int32.ofInt 1) then Int32.ofInt 0 else Int32.ofInt 1)) else (if ¬ (dK C p) = (Int32.ofInt 1) then Int32.ofInt 0 else (if ¬ (d_225 s.1 (d_223 C s p) w) = (((dW V e) + (Int32.ofInt 1)) - ((dW V e) + (Int32.ofInt 1)) / ((Int8.ofInt 7).toInt32) * ((Int8.ofInt 7).toInt32)) then Int32.ofInt 0 else (if ¬ (dK C p) = (Int32.ofInt 2) then Int32.ofInt 1 else (if ¬ (dW V e) = (Int32.ofInt 1) then Int32.ofInt 0 else Int32.ofInt 1))))))) = .int (if (d_229 C p (nI e)) = 0 then Int32.ofInt 0 else (if (d_225 s.1 (d_223 C s p) w) = (dW V e) then (if ¬ (dK C p) = (Int32.ofInt 2) then Int32.ofInt 1 else (if ¬ (dW V e) = (Int32.ofInt 1) then Int32.ofInt 0 else Int32.ofInt 1)) else (if ¬ (dK C p) = (Int32.ofInt 1) then Int32.ofInt 0 else (if ¬ (d_225 s.1 (d_223 C s p) w) = (((dW V e) + (Int32.ofInt 1)) - ((dW V e) + (Int32.ofInt 1)) / ((Int8.ofInt 7).toInt32) * ((Int8.ofInt 7).toInt32)) then Int32.ofInt 0 else (if ¬ (dK C p) = (Int32.ofInt 2) then Int32.ofInt 1 else (if ¬ (dW V e) = (Int32.ofInt 1) then Int32.ofInt 0 else Int32.ofInt 1))))))) ∧ h.2.2.2.2 = 175 ∧ _ from ⟨⟨.boolean, rfl, (by (repeat' split) <;> rfl)⟩, ex_175 hP, hQ⟩)
theorem d_223_r1029 (hP : ex_P h) (hI : cI C) (hT : tR C h) (hO : ∀ e, e < dE C → h.1 172 e = dW V e) (hN : sR 0 (dP C) u h) (hS : sR 1029 (dP C) s h) (hp : p < dP C) (hQ : Q (some (.int (d_223 C s p))) h) : am_call am_cod 2 223 [.ref 154, .int ((Int16.ofInt 1029).toInt32), .int (nI p)] h Q := by
  have h6 := hT.1.2.1
  have h5 := hT.2.1.2.1
  refine pz_call (n := 223) (nL := 3) (rt := (some .int)) (rows := am_r223) (d := 1) (by decide +kernel) (by decide +kernel) rfl (by funext pc; rfl) (ex_175 hP) (by exact Nat.le_of_ble_eq_true rfl) ?_
  refine am_goX 4 (show am_rc h 154 11 ∧ 0 ≤ 8 ∧ h.2.2.2.2 + am_al 187 ≤ 175 ∧ am_call am_cod 1 187 [.ref 154, .int (nI p), .int (Int32.ofInt 0)] h (fun vv h' => pz_S 3 (some .int) am_r223 1 Q 6 [(0, .ref 154), (1, .int ((Int16.ofInt 1029).toInt32)), (2, .int (nI p))] (vv.toList ++ []) h') from ⟨Or.inl ⟨by decide, ex_154 hP⟩, by decide, ex_lim hP rfl, am_call.up (d_187_r0 hP hT (by omega) ?_) (by decide)⟩)
  suffices key : ∀ (v38 : Int32), v38 = (if ¬ (dK C p) = (Int32.ofInt 3) then (s.2.2.1 p) - (Int32.ofInt 2) else Int32.ofInt 0) → pz_S 3 (some .int) am_r223 1 Q 26 [] [.int v38] h by
    refine am_goX 2 (show (¬ (dK C p) = (Int32.ofInt 3) → pz_S 3 (some .int) am_r223 1 Q 14 [(0, .ref 154), (1, .int ((Int16.ofInt 1029).toInt32)), (2, .int (nI p))] [] h) ∧ (¬ ¬ (dK C p) = (Int32.ofInt 3) → pz_S 3 (some .int) am_r223 1 Q 10 [(0, .ref 154), (1, .int ((Int16.ofInt 1029).toInt32)), (2, .int (nI p))] [] h) from ⟨fun c37 => ?_, fun c37 => ?_⟩)
    · refine am_goX 2 (show am_sh h 154 = some (11, 0) ∧ pz_S 3 (some .int) am_r223 1 Q 18 [(0, .ref 154), (1, .int ((Int16.ofInt 1029).toInt32)), (2, .int (nI p))] [am_rf (h.2.2.1 154 24)] h from ⟨ex_154 hP, ?_⟩)
      rw [show am_rf (h.2.2.1 154 24) = .ref 170 from congrArg am_rf (ex_r154_24 hP)]
      refine am_goX 6 (show ∃ jj nn : Nat, am_sh h 170 = some (13, nn) ∧ jj < nn ∧ (((Int16.ofInt 1029).toInt32) + (Int32.ofInt 2)) + (nI p) = nI jj ∧ pz_S 3 (some .int) am_r223 1 Q 24 [(0, .ref 154), (1, .int ((Int16.ofInt 1029).toInt32)), (2, .int (nI p))] [.int (h.1 170 jj)] h from ⟨(1031 + p), 1127, ex_170 hP, (by omega), (dn_a (dn_a (show (Int16.ofInt 1029).toInt32 = nI 1029 by decide) rfl) rfl), ?_⟩)
      rw [show h.1 170 (1031 + p) = s.2.2.1 p from (by rw [show (1031 + p) = 1029 + 2 + p by omega]; exact hS.2.1 p (by omega))]
      refine am_goX 2 (show pz_S 3 (some .int) am_r223 1 Q 26 [(0, .ref 154), (1, .int ((Int16.ofInt 1029).toInt32)), (2, .int (nI p))] [.int ((s.2.2.1 p) - (Int32.ofInt 2))] h from ?_)
      exact sv_S2 sv2_223 (fun q hq => absurd hq List.not_mem_nil) (key _ (if_pos c37).symm)
    · refine am_goX 2 (show pz_S 3 (some .int) am_r223 1 Q 26 [(0, .ref 154), (1, .int ((Int16.ofInt 1029).toInt32)), (2, .int (nI p))] [.int (Int32.ofInt 0)] h from ?_)
      exact sv_S2 sv2_223 (fun q hq => absurd hq List.not_mem_nil) (key _ (if_neg c37).symm)
  intro v38 e39
  subst e39
  exact am_goX 1 (show (∃ ty, (some .int) = some ty ∧ narrow ty (.int (if ¬ (dK C p) = (Int32.ofInt 3) then (s.2.2.1 p) - (Int32.ofInt 2) else Int32.ofInt 0)) = .int (if ¬ (dK C p) = (Int32.ofInt 3) then (s.2.2.1 p) - (Int32.ofInt 2) else Int32.ofInt 0)) ∧ h.2.2.2.2 = 175 ∧ _ from ⟨⟨.int, rfl, rfl⟩, ex_175 hP, hQ⟩)
theorem d_238_r1029 (hP : ex_P h) (hI : cI C) (hT : tR C h) (hO : ∀ e, e < dE C → h.1 172 e = dW V e) (hN : sR 0 (dP C) u h) (hS : sR 1029 (dP C) s h) (hp : p < dP C) (he : e < dE C) (hQ : Q (some (.int (d_238 C V s p e w))) h) : am_call am_cod 3 238 [.ref 154, .int ((Int16.ofInt 1029).toInt32), .int (nI p), .int (nI e), .int w] h Q := by
  have h6 := hT.1.2.1
  have h5 := hT.2.1.2.1
  refine pz_call (n := 238) (nL := 8) (rt := (some .boolean)) (rows := am_r238) (d := 2) (by decide +kernel) (by decide +kernel) rfl (by funext pc; rfl) (ex_175 hP) (by exact Nat.le_of_ble_eq_true rfl) ?_
  refine am_goX 4 (show am_rc h 154 11 ∧ 0 ≤ 8 ∧ h.2.2.2.2 + am_al 187 ≤ 175 ∧ am_call am_cod 2 187 [.ref 154, .int (nI p), .int (Int32.ofInt 0)] h (fun vv h' => pz_S 8 (some .boolean) am_r238 2 Q 6 [(0, .ref 154), (1, .int ((Int16.ofInt 1029).toInt32)), (2, .int (nI p)), (3, .int (nI e)), (4, .int w)] (vv.toList ++ []) h') from ⟨Or.inl ⟨by decide, ex_154 hP⟩, by decide, ex_lim hP rfl, am_call.up (d_187_r0 hP hT (by omega) ?_) (by decide)⟩)
  refine am_goX 3 (show 5 < 8 ∧ am_sh h 154 = some (11, 0) ∧ pz_S 8 (some .boolean) am_r238 2 Q 12 [(5, .int (dK C p)), (0, .ref 154), (1, .int ((Int16.ofInt 1029).toInt32)), (2, .int (nI p)), (3, .int (nI e)), (4, .int w)] [am_rf (h.2.2.1 154 27)] h from ⟨by decide, ex_154 hP, ?_⟩)
  rw [show am_rf (h.2.2.1 154 27) = .ref 172 from congrArg am_rf (ex_r154_27 hP)]
  refine am_goX 2 (show ∃ jj nn : Nat, am_sh h 172 = some (13, nn) ∧ jj < nn ∧ nI e = nI jj ∧ pz_S 8 (some .boolean) am_r238 2 Q 14 [(5, .int (dK C p)), (0, .ref 154), (1, .int ((Int16.ofInt 1029).toInt32)), (2, .int (nI p)), (3, .int (nI e)), (4, .int w)] [.int (h.1 172 jj)] h from ⟨e, 5, ex_172 hP, (by omega), rfl, ?_⟩)
  rw [show h.1 172 e = dW V e from hO e (by omega)]
  refine am_goX 3 (show 6 < 8 ∧ am_sh h 154 = some (11, 0) ∧ pz_S 8 (some .boolean) am_r238 2 Q 20 [(6, .int (dW V e)), (5, .int (dK C p)), (0, .ref 154), (1, .int ((Int16.ofInt 1029).toInt32)), (2, .int (nI p)), (3, .int (nI e)), (4, .int w)] [am_rf (h.2.2.1 154 24)] h from ⟨by decide, ex_154 hP, ?_⟩)
  rw [show am_rf (h.2.2.1 154 24) = .ref 170 from congrArg am_rf (ex_r154_24 hP)]
  refine am_goX 4 (show ∃ jj nn : Nat, am_sh h 170 = some (13, nn) ∧ jj < nn ∧ ((Int16.ofInt 1029).toInt32) + (Int32.ofInt 0) = nI jj ∧ pz_S 8 (some .boolean) am_r238 2 Q 24 [(6, .int (dW V e)), (5, .int (dK C p)), (0, .ref 154), (1, .int ((Int16.ofInt 1029).toInt32)), (2, .int (nI p)), (3, .int (nI e)), (4, .int w)] [.int (h.1 170 jj)] h from ⟨1029, 1127, ex_170 hP, (by omega), (dn_a (show (Int16.ofInt 1029).toInt32 = nI 1029 by decide) rfl), ?_⟩)
  rw [show h.1 170 1029 = s.1 from hS.1.1]
  refine am_goX 4 (show am_rc h 154 11 ∧ 1 ≤ 8 ∧ h.2.2.2.2 + am_al 223 ≤ 175 ∧ am_call am_cod 2 223 [.ref 154, .int ((Int16.ofInt 1029).toInt32), .int (nI p)] h (fun vv h' => pz_S 8 (some .boolean) am_r238 2 Q 30 [(6, .int (dW V e)), (5, .int (dK C p)), (0, .ref 154), (1, .int ((Int16.ofInt 1029).toInt32)), (2, .int (nI p)), (3, .int (nI e)), (4, .int w)] (vv.toList ++ [.int s.1]) h') from ⟨Or.inl ⟨by decide, ex_154 hP⟩, by decide, ex_lim hP rfl, am_call.up (d_223_r1029 hP hI hT hO hN hS (by omega) ?_) (by decide)⟩)
  refine am_goX 2 (show 0 ≤ 8 ∧ h.2.2.2.2 + am_al 225 ≤ 175 ∧ am_call am_cod 2 225 [.int s.1, .int (d_223 C s p), .int w] h (fun vv h' => pz_S 8 (some .boolean) am_r238 2 Q 35 [(6, .int (dW V e)), (5, .int (dK C p)), (0, .ref 154), (1, .int ((Int16.ofInt 1029).toInt32)), (2, .int (nI p)), (3, .int (nI e)), (4, .int w)] (vv.toList ++ []) h') from ⟨by decide, ex_lim hP rfl, am_call.up (d_225_w hP ?_) (by decide)⟩)
  refine am_goX 5 (show 7 < 8 ∧ am_rc h 154 11 ∧ 0 ≤ 8 ∧ h.2.2.2.2 + am_al 229 ≤ 175 ∧ am_call am_cod 2 229 [.ref 154, .int (nI p), .int (nI e)] h (fun vv h' => pz_S 8 (some .boolean) am_r238 2 Q 43 [(7, .int (d_225 s.1 (d_223 C s p) w)), (6, .int (dW V e)), (5, .int (dK C p)), (0, .ref 154), (1, .int ((Int16.ofInt 1029).toInt32)), (2, .int (nI p)), (3, .int (nI e)), (4, .int w)] (vv.toList ++ []) h') from ⟨by decide, Or.inl ⟨by decide, ex_154 hP⟩, by decide, ex_lim hP rfl, am_call.up (d_229_r hP hT (by omega) ?_) (by decide)⟩)
  suffices key : ∀ (v41 : Int32), v41 = (if (d_229 C p (nI e)) = 0 then Int32.ofInt 0 else (if (d_225 s.1 (d_223 C s p) w) = (dW V e) then (if ¬ (dK C p) = (Int32.ofInt 2) then Int32.ofInt 1 else (if ¬ (dW V e) = (Int32.ofInt 1) then Int32.ofInt 0 else Int32.ofInt 1)) else (if ¬ (dK C p) = (Int32.ofInt 1) then Int32.ofInt 0 else (if ¬ (d_225 s.1 (d_223 C s p) w) = (((dW V e) + (Int32.ofInt 1)) - ((dW V e) + (Int32.ofInt 1)) / ((Int8.ofInt 7).toInt32) * ((Int8.ofInt 7).toInt32)) then Int32.ofInt 0 else (if ¬ (dK C p) = (Int32.ofInt 2) then Int32.ofInt 1 else (if ¬ (dW V e) = (Int32.ofInt 1) then Int32.ofInt 0 else Int32.ofInt 1)))))) → pz_S 8 (some .boolean) am_r238 2 Q 88 [] [.int v41] h by
    refine am_goX 1 (show ((d_229 C p (nI e)) = 0 → pz_S 8 (some .boolean) am_r238 2 Q 87 [(7, .int (d_225 s.1 (d_223 C s p) w)), (6, .int (dW V e)), (5, .int (dK C p)), (0, .ref 154), (1, .int ((Int16.ofInt 1029).toInt32)), (2, .int (nI p)), (3, .int (nI e)), (4, .int w)] [] h) ∧ (¬ ((d_229 C p (nI e)) = 0) → pz_S 8 (some .boolean) am_r238 2 Q 46 [(7, .int (d_225 s.1 (d_223 C s p) w)), (6, .int (dW V e)), (5, .int (dK C p)), (0, .ref 154), (1, .int ((Int16.ofInt 1029).toInt32)), (2, .int (nI p)), (3, .int (nI e)), (4, .int w)] [] h) from ⟨fun c40 => ?_, fun c40 => ?_⟩)
    · refine am_goX 1 (show pz_S 8 (some .boolean) am_r238 2 Q 88 [(7, .int (d_225 s.1 (d_223 C s p) w)), (6, .int (dW V e)), (5, .int (dK C p)), (0, .ref 154), (1, .int ((Int16.ofInt 1029).toInt32)), (2, .int (nI p)), (3, .int (nI e)), (4, .int w)] [.int (Int32.ofInt 0)] h from ?_)
      exact sv_S2 sv2_238 (fun q hq => absurd hq List.not_mem_nil) (key _ (if_pos c40).symm)
    · suffices key : ∀ (v43 : Int32), v43 = (if (d_225 s.1 (d_223 C s p) w) = (dW V e) then (if ¬ (dK C p) = (Int32.ofInt 2) then Int32.ofInt 1 else (if ¬ (dW V e) = (Int32.ofInt 1) then Int32.ofInt 0 else Int32.ofInt 1)) else (if ¬ (dK C p) = (Int32.ofInt 1) then Int32.ofInt 0 else (if ¬ (d_225 s.1 (d_223 C s p) w) = (((dW V e) + (Int32.ofInt 1)) - ((dW V e) + (Int32.ofInt 1)) / ((Int8.ofInt 7).toInt32) * ((Int8.ofInt 7).toInt32)) then Int32.ofInt 0 else (if ¬ (dK C p) = (Int32.ofInt 2) then Int32.ofInt 1 else (if ¬ (dW V e) = (Int32.ofInt 1) then Int32.ofInt 0 else Int32.ofInt 1))))) → pz_S 8 (some .boolean) am_r238 2 Q 88 [] [.int v43] h by
        refine am_goX 3 (show ((d_225 s.1 (d_223 C s p) w) = (dW V e) → pz_S 8 (some .boolean) am_r238 2 Q 71 [(7, .int (d_225 s.1 (d_223 C s p) w)), (6, .int (dW V e)), (5, .int (dK C p)), (0, .ref 154), (1, .int ((Int16.ofInt 1029).toInt32)), (2, .int (nI p)), (3, .int (nI e)), (4, .int w)] [] h) ∧ (¬ ((d_225 s.1 (d_223 C s p) w) = (dW V e)) → pz_S 8 (some .boolean) am_r238 2 Q 53 [(7, .int (d_225 s.1 (d_223 C s p) w)), (6, .int (dW V e)), (5, .int (dK C p)), (0, .ref 154), (1, .int ((Int16.ofInt 1029).toInt32)), (2, .int (nI p)), (3, .int (nI e)), (4, .int w)] [] h) from ⟨fun c42 => ?_, fun c42 => ?_⟩)
        · suffices key : ∀ (v45 : Int32), v45 = (if ¬ (dK C p) = (Int32.ofInt 2) then Int32.ofInt 1 else (if ¬ (dW V e) = (Int32.ofInt 1) then Int32.ofInt 0 else Int32.ofInt 1)) → pz_S 8 (some .boolean) am_r238 2 Q 88 [] [.int v45] h by
            refine am_goX 3 (show (¬ (dK C p) = (Int32.ofInt 2) → pz_S 8 (some .boolean) am_r238 2 Q 83 [(7, .int (d_225 s.1 (d_223 C s p) w)), (6, .int (dW V e)), (5, .int (dK C p)), (0, .ref 154), (1, .int ((Int16.ofInt 1029).toInt32)), (2, .int (nI p)), (3, .int (nI e)), (4, .int w)] [] h) ∧ (¬ ¬ (dK C p) = (Int32.ofInt 2) → pz_S 8 (some .boolean) am_r238 2 Q 77 [(7, .int (d_225 s.1 (d_223 C s p) w)), (6, .int (dW V e)), (5, .int (dK C p)), (0, .ref 154), (1, .int ((Int16.ofInt 1029).toInt32)), (2, .int (nI p)), (3, .int (nI e)), (4, .int w)] [] h) from ⟨fun c44 => ?_, fun c44 => ?_⟩)
            · refine am_goX 2 (show pz_S 8 (some .boolean) am_r238 2 Q 88 [(7, .int (d_225 s.1 (d_223 C s p) w)), (6, .int (dW V e)), (5, .int (dK C p)), (0, .ref 154), (1, .int ((Int16.ofInt 1029).toInt32)), (2, .int (nI p)), (3, .int (nI e)), (4, .int w)] [.int (Int32.ofInt 1)] h from ?_)
              exact sv_S2 sv2_238 (fun q hq => absurd hq List.not_mem_nil) (key _ (if_pos c44).symm)
            · suffices key : ∀ (v47 : Int32), v47 = (if ¬ (dW V e) = (Int32.ofInt 1) then Int32.ofInt 0 else Int32.ofInt 1) → pz_S 8 (some .boolean) am_r238 2 Q 88 [] [.int v47] h by
                refine am_goX 3 (show (¬ (dW V e) = (Int32.ofInt 1) → pz_S 8 (some .boolean) am_r238 2 Q 87 [(7, .int (d_225 s.1 (d_223 C s p) w)), (6, .int (dW V e)), (5, .int (dK C p)), (0, .ref 154), (1, .int ((Int16.ofInt 1029).toInt32)), (2, .int (nI p)), (3, .int (nI e)), (4, .int w)] [] h) ∧ (¬ ¬ (dW V e) = (Int32.ofInt 1) → pz_S 8 (some .boolean) am_r238 2 Q 83 [(7, .int (d_225 s.1 (d_223 C s p) w)), (6, .int (dW V e)), (5, .int (dK C p)), (0, .ref 154), (1, .int ((Int16.ofInt 1029).toInt32)), (2, .int (nI p)), (3, .int (nI e)), (4, .int w)] [] h) from ⟨fun c46 => ?_, fun c46 => ?_⟩)
                · refine am_goX 1 (show pz_S 8 (some .boolean) am_r238 2 Q 88 [(7, .int (d_225 s.1 (d_223 C s p) w)), (6, .int (dW V e)), (5, .int (dK C p)), (0, .ref 154), (1, .int ((Int16.ofInt 1029).toInt32)), (2, .int (nI p)), (3, .int (nI e)), (4, .int w)] [.int (Int32.ofInt 0)] h from ?_)
                  exact sv_S2 sv2_238 (fun q hq => absurd hq List.not_mem_nil) (key _ (if_pos c46).symm)
                · refine am_goX 2 (show pz_S 8 (some .boolean) am_r238 2 Q 88 [(7, .int (d_225 s.1 (d_223 C s p) w)), (6, .int (dW V e)), (5, .int (dK C p)), (0, .ref 154), (1, .int ((Int16.ofInt 1029).toInt32)), (2, .int (nI p)), (3, .int (nI e)), (4, .int w)] [.int (Int32.ofInt 1)] h from ?_)
                  exact sv_S2 sv2_238 (fun q hq => absurd hq List.not_mem_nil) (key _ (if_neg c46).symm)
              intro v47 e48
              subst e48
              exact sv_S2 sv2_238 (fun q hq => absurd hq List.not_mem_nil) (key _ (if_neg c44).symm)
          intro v45 e49
          subst e49
          exact sv_S2 sv2_238 (fun q hq => absurd hq List.not_mem_nil) (key _ (if_pos c42).symm)
        · suffices key : ∀ (v51 : Int32), v51 = (if ¬ (dK C p) = (Int32.ofInt 1) then Int32.ofInt 0 else (if ¬ (d_225 s.1 (d_223 C s p) w) = (((dW V e) + (Int32.ofInt 1)) - ((dW V e) + (Int32.ofInt 1)) / ((Int8.ofInt 7).toInt32) * ((Int8.ofInt 7).toInt32)) then Int32.ofInt 0 else (if ¬ (dK C p) = (Int32.ofInt 2) then Int32.ofInt 1 else (if ¬ (dW V e) = (Int32.ofInt 1) then Int32.ofInt 0 else Int32.ofInt 1)))) → pz_S 8 (some .boolean) am_r238 2 Q 88 [] [.int v51] h by
            refine am_goX 3 (show (¬ (dK C p) = (Int32.ofInt 1) → pz_S 8 (some .boolean) am_r238 2 Q 87 [(7, .int (d_225 s.1 (d_223 C s p) w)), (6, .int (dW V e)), (5, .int (dK C p)), (0, .ref 154), (1, .int ((Int16.ofInt 1029).toInt32)), (2, .int (nI p)), (3, .int (nI e)), (4, .int w)] [] h) ∧ (¬ ¬ (dK C p) = (Int32.ofInt 1) → pz_S 8 (some .boolean) am_r238 2 Q 59 [(7, .int (d_225 s.1 (d_223 C s p) w)), (6, .int (dW V e)), (5, .int (dK C p)), (0, .ref 154), (1, .int ((Int16.ofInt 1029).toInt32)), (2, .int (nI p)), (3, .int (nI e)), (4, .int w)] [] h) from ⟨fun c50 => ?_, fun c50 => ?_⟩)
            · refine am_goX 1 (show pz_S 8 (some .boolean) am_r238 2 Q 88 [(7, .int (d_225 s.1 (d_223 C s p) w)), (6, .int (dW V e)), (5, .int (dK C p)), (0, .ref 154), (1, .int ((Int16.ofInt 1029).toInt32)), (2, .int (nI p)), (3, .int (nI e)), (4, .int w)] [.int (Int32.ofInt 0)] h from ?_)
              exact sv_S2 sv2_238 (fun q hq => absurd hq List.not_mem_nil) (key _ (if_pos c50).symm)
            · suffices key : ∀ (v53 : Int32), v53 = (if ¬ (d_225 s.1 (d_223 C s p) w) = (((dW V e) + (Int32.ofInt 1)) - ((dW V e) + (Int32.ofInt 1)) / ((Int8.ofInt 7).toInt32) * ((Int8.ofInt 7).toInt32)) then Int32.ofInt 0 else (if ¬ (dK C p) = (Int32.ofInt 2) then Int32.ofInt 1 else (if ¬ (dW V e) = (Int32.ofInt 1) then Int32.ofInt 0 else Int32.ofInt 1))) → pz_S 8 (some .boolean) am_r238 2 Q 88 [] [.int v53] h by
                refine am_goX 7 (show ¬ ((Int8.ofInt 7).toInt32) = 0 ∧ (¬ (d_225 s.1 (d_223 C s p) w) = (((dW V e) + (Int32.ofInt 1)) - ((dW V e) + (Int32.ofInt 1)) / ((Int8.ofInt 7).toInt32) * ((Int8.ofInt 7).toInt32)) → pz_S 8 (some .boolean) am_r238 2 Q 87 [(7, .int (d_225 s.1 (d_223 C s p) w)), (6, .int (dW V e)), (5, .int (dK C p)), (0, .ref 154), (1, .int ((Int16.ofInt 1029).toInt32)), (2, .int (nI p)), (3, .int (nI e)), (4, .int w)] [] h) ∧ (¬ ¬ (d_225 s.1 (d_223 C s p) w) = (((dW V e) + (Int32.ofInt 1)) - ((dW V e) + (Int32.ofInt 1)) / ((Int8.ofInt 7).toInt32) * ((Int8.ofInt 7).toInt32)) → pz_S 8 (some .boolean) am_r238 2 Q 71 [(7, .int (d_225 s.1 (d_223 C s p) w)), (6, .int (dW V e)), (5, .int (dK C p)), (0, .ref 154), (1, .int ((Int16.ofInt 1029).toInt32)), (2, .int (nI p)), (3, .int (nI e)), (4, .int w)] [] h) from ⟨by decide, fun c52 => ?_, fun c52 => ?_⟩)
                · refine am_goX 1 (show pz_S 8 (some .boolean) am_r238 2 Q 88 [(7, .int (d_225 s.1 (d_223 C s p) w)), (6, .int (dW V e)), (5, .int (dK C p)), (0, .ref 154), (1, .int ((Int16.ofInt 1029).toInt32)), (2, .int (nI p)), (3, .int (nI e)), (4, .int w)] [.int (Int32.ofInt 0)] h from ?_)
                  exact sv_S2 sv2_238 (fun q hq => absurd hq List.not_mem_nil) (key _ (if_pos c52).symm)
                · suffices key : ∀ (v55 : Int32), v55 = (if ¬ (dK C p) = (Int32.ofInt 2) then Int32.ofInt 1 else (if ¬ (dW V e) = (Int32.ofInt 1) then Int32.ofInt 0 else Int32.ofInt 1)) → pz_S 8 (some .boolean) am_r238 2 Q 88 [] [.int v55] h by
                    refine am_goX 3 (show (¬ (dK C p) = (Int32.ofInt 2) → pz_S 8 (some .boolean) am_r238 2 Q 83 [(7, .int (d_225 s.1 (d_223 C s p) w)), (6, .int (dW V e)), (5, .int (dK C p)), (0, .ref 154), (1, .int ((Int16.ofInt 1029).toInt32)), (2, .int (nI p)), (3, .int (nI e)), (4, .int w)] [] h) ∧ (¬ ¬ (dK C p) = (Int32.ofInt 2) → pz_S 8 (some .boolean) am_r238 2 Q 77 [(7, .int (d_225 s.1 (d_223 C s p) w)), (6, .int (dW V e)), (5, .int (dK C p)), (0, .ref 154), (1, .int ((Int16.ofInt 1029).toInt32)), (2, .int (nI p)), (3, .int (nI e)), (4, .int w)] [] h) from ⟨fun c54 => ?_, fun c54 => ?_⟩)
                    · refine am_goX 2 (show pz_S 8 (some .boolean) am_r238 2 Q 88 [(7, .int (d_225 s.1 (d_223 C s p) w)), (6, .int (dW V e)), (5, .int (dK C p)), (0, .ref 154), (1, .int ((Int16.ofInt 1029).toInt32)), (2, .int (nI p)), (3, .int (nI e)), (4, .int w)] [.int (Int32.ofInt 1)] h from ?_)
                      exact sv_S2 sv2_238 (fun q hq => absurd hq List.not_mem_nil) (key _ (if_pos c54).symm)
                    · suffices key : ∀ (v57 : Int32), v57 = (if ¬ (dW V e) = (Int32.ofInt 1) then Int32.ofInt 0 else Int32.ofInt 1) → pz_S 8 (some .boolean) am_r238 2 Q 88 [] [.int v57] h by
                        refine am_goX 3 (show (¬ (dW V e) = (Int32.ofInt 1) → pz_S 8 (some .boolean) am_r238 2 Q 87 [(7, .int (d_225 s.1 (d_223 C s p) w)), (6, .int (dW V e)), (5, .int (dK C p)), (0, .ref 154), (1, .int ((Int16.ofInt 1029).toInt32)), (2, .int (nI p)), (3, .int (nI e)), (4, .int w)] [] h) ∧ (¬ ¬ (dW V e) = (Int32.ofInt 1) → pz_S 8 (some .boolean) am_r238 2 Q 83 [(7, .int (d_225 s.1 (d_223 C s p) w)), (6, .int (dW V e)), (5, .int (dK C p)), (0, .ref 154), (1, .int ((Int16.ofInt 1029).toInt32)), (2, .int (nI p)), (3, .int (nI e)), (4, .int w)] [] h) from ⟨fun c56 => ?_, fun c56 => ?_⟩)
                        · refine am_goX 1 (show pz_S 8 (some .boolean) am_r238 2 Q 88 [(7, .int (d_225 s.1 (d_223 C s p) w)), (6, .int (dW V e)), (5, .int (dK C p)), (0, .ref 154), (1, .int ((Int16.ofInt 1029).toInt32)), (2, .int (nI p)), (3, .int (nI e)), (4, .int w)] [.int (Int32.ofInt 0)] h from ?_)
                          exact sv_S2 sv2_238 (fun q hq => absurd hq List.not_mem_nil) (key _ (if_pos c56).symm)
                        · refine am_goX 2 (show pz_S 8 (some .boolean) am_r238 2 Q 88 [(7, .int (d_225 s.1 (d_223 C s p) w)), (6, .int (dW V e)), (5, .int (dK C p)), (0, .ref 154), (1, .int ((Int16.ofInt 1029).toInt32)), (2, .int (nI p)), (3, .int (nI e)), (4, .int w)] [.int (Int32.ofInt 1)] h from ?_)
                          exact sv_S2 sv2_238 (fun q hq => absurd hq List.not_mem_nil) (key _ (if_neg c56).symm)
                      intro v57 e58
                      subst e58
                      exact sv_S2 sv2_238 (fun q hq => absurd hq List.not_mem_nil) (key _ (if_neg c54).symm)
                  intro v55 e59
                  subst e59
                  exact sv_S2 sv2_238 (fun q hq => absurd hq List.not_mem_nil) (key _ (if_neg c52).symm)
              intro v53 e60
              subst e60
              exact sv_S2 sv2_238 (fun q hq => absurd hq List.not_mem_nil) (key _ (if_neg c50).symm)
          intro v51 e61
          subst e61
          exact sv_S2 sv2_238 (fun q hq => absurd hq List.not_mem_nil) (key _ (if_neg c42).symm)
      intro v43 e62
      subst e62
      exact sv_S2 sv2_238 (fun q hq => absurd hq List.not_mem_nil) (key _ (if_neg c40).symm)
  intro v41 e63
  subst e63
  exact am_goX 1 (show (∃ ty, (some .boolean) = some ty ∧ narrow ty (.int (if (d_229 C p (nI e)) = 0 then Int32.ofInt 0 else (if (d_225 s.1 (d_223 C s p) w) = (dW V e) then (if ¬ (dK C p) = (Int32.ofInt 2) then Int32.ofInt 1 else (if ¬ (dW V e) = (Int32.ofInt 1) then Int32.ofInt 0 else Int32.ofInt 1)) else (if ¬ (dK C p) = (Int32.ofInt 1) then Int32.ofInt 0 else (if ¬ (d_225 s.1 (d_223 C s p) w) = (((dW V e) + (Int32.ofInt 1)) - ((dW V e) + (Int32.ofInt 1)) / ((Int8.ofInt 7).toInt32) * ((Int8.ofInt 7).toInt32)) then Int32.ofInt 0 else (if ¬ (dK C p) = (Int32.ofInt 2) then Int32.ofInt 1 else (if ¬ (dW V e) = (Int32.ofInt 1) then Int32.ofInt 0 else Int32.ofInt 1))))))) = .int (if (d_229 C p (nI e)) = 0 then Int32.ofInt 0 else (if (d_225 s.1 (d_223 C s p) w) = (dW V e) then (if ¬ (dK C p) = (Int32.ofInt 2) then Int32.ofInt 1 else (if ¬ (dW V e) = (Int32.ofInt 1) then Int32.ofInt 0 else Int32.ofInt 1)) else (if ¬ (dK C p) = (Int32.ofInt 1) then Int32.ofInt 0 else (if ¬ (d_225 s.1 (d_223 C s p) w) = (((dW V e) + (Int32.ofInt 1)) - ((dW V e) + (Int32.ofInt 1)) / ((Int8.ofInt 7).toInt32) * ((Int8.ofInt 7).toInt32)) then Int32.ofInt 0 else (if ¬ (dK C p) = (Int32.ofInt 2) then Int32.ofInt 1 else (if ¬ (dW V e) = (Int32.ofInt 1) then Int32.ofInt 0 else Int32.ofInt 1))))))) ∧ h.2.2.2.2 = 175 ∧ _ from ⟨⟨.boolean, rfl, (by (repeat' split) <;> rfl)⟩, ex_175 hP, hQ⟩)
def d_234_19 (C : sp_C) (w : Int32) : Nat → Nat → dS → Int32 → dS × Int32
  | 0, _, s, gg => (s, gg)
  | m + 1, k, s, gg => (if (dQ C) < 0 then (d_234_19 C w m (k + 1) s (gg ||| ((Int32.ofInt 1) <<< ((nI k) &&& 31)))) else (if (dlaw C (d_223 C s k) (s.1 / ((Int8.ofInt 7).toInt32)) (d_235 (s.2.2.2.1 k)) w) = 0 then (d_234_19 C w m (k + 1) s (gg ||| (Int32.ofInt 0))) else (d_234_19 C w m (k + 1) s (gg ||| ((Int32.ofInt 1) <<< ((nI k) &&& 31))))))
theorem d_234_19_g0 : ∀ (m k : Nat) (s : dS) (gg : Int32) (h : am_H), k + m = dP C → (ex_P h) → (cI C) → (tR C h) → (∀ e, e < dE C → h.1 172 e = dW V e) → (sR 0 (dP C) s h) → (fR h0 h) → (h.1 154 28 = gg) → (∀ h1, (ex_P h1) → (cI C) → (tR C h1) → (∀ e, e < dE C → h1.1 172 e = dW V e) → (sR 0 (dP C) ((d_234_19 C w m k s gg).1) h1) → (fR h0 h1) → (h1.1 154 28 = ((d_234_19 C w m k s gg).2)) → pz_S 8 (some .int) am_r234 4 Q 127 [(0, .ref 154), (1, .int (Int32.ofInt 0)), (2, .int w)] [] h1) → pz_S 8 (some .int) am_r234 4 Q 19 [(0, .ref 154), (1, .int (Int32.ofInt 0)), (2, .int w), (3, .int (nI k))] [] h := by
  intro m
  induction m with
  | zero =>
    intro k s gg h hk hP hI hT hO hS hX hG hZ
    have h6 := hT.1.2.1
    have h5 := hT.2.1.2.1
    have hA : h.1 168 0 = (h.1 168 0) ∧ h.1 168 1 = (h.1 168 1) ∧ h.1 168 2 = (h.1 168 2) ∧ h.1 168 3 = (h.1 168 3) := ⟨rfl, rfl, rfl, rfl⟩
    refine am_goX 3 (show am_rc h 154 11 ∧ 1 ≤ 8 ∧ h.2.2.2.2 + am_al 186 ≤ 175 ∧ am_call am_cod 4 186 [.ref 154] h (fun vv h' => pz_S 8 (some .int) am_r234 4 Q 24 [(0, .ref 154), (1, .int (Int32.ofInt 0)), (2, .int w), (3, .int (nI k))] (vv.toList ++ [.int (nI k)]) h') from ⟨Or.inl ⟨by decide, ex_154 hP⟩, by decide, ex_lim hP rfl, am_call.up (d_186_r hP hT ?_) (by decide)⟩)
    refine am_goX 1 (show ((nI (dP C)) ≤ (nI k) → pz_S 8 (some .int) am_r234 4 Q 127 [(0, .ref 154), (1, .int (Int32.ofInt 0)), (2, .int w), (3, .int (nI k))] [] h) ∧ (¬ ((nI (dP C)) ≤ (nI k)) → pz_S 8 (some .int) am_r234 4 Q 27 [(0, .ref 154), (1, .int (Int32.ofInt 0)), (2, .int w), (3, .int (nI k))] [] h) from ⟨fun _ => ?_, fun hz => absurd (show nI (dP C) ≤ nI k from nI_le (by omega) (by omega)) hz⟩)
    exact sv_S2 sv2_234 (by intro q hq; simp only [List.mem_cons, List.not_mem_nil, or_false] at hq; rcases hq with rfl | rfl | rfl <;> rfl) (hZ _ hP hI hT hO hS hX hG)
  | succ m ih =>
    intro k s gg h hk hP hI hT hO hS hX hG hZ
    have h6 := hT.1.2.1
    have h5 := hT.2.1.2.1
    have hA : h.1 168 0 = (h.1 168 0) ∧ h.1 168 1 = (h.1 168 1) ∧ h.1 168 2 = (h.1 168 2) ∧ h.1 168 3 = (h.1 168 3) := ⟨rfl, rfl, rfl, rfl⟩
    refine am_goX 3 (show am_rc h 154 11 ∧ 1 ≤ 8 ∧ h.2.2.2.2 + am_al 186 ≤ 175 ∧ am_call am_cod 4 186 [.ref 154] h (fun vv h' => pz_S 8 (some .int) am_r234 4 Q 24 [(0, .ref 154), (1, .int (Int32.ofInt 0)), (2, .int w), (3, .int (nI k))] (vv.toList ++ [.int (nI k)]) h') from ⟨Or.inl ⟨by decide, ex_154 hP⟩, by decide, ex_lim hP rfl, am_call.up (d_186_r hP hT ?_) (by decide)⟩)
    refine am_goX 1 (show ((nI (dP C)) ≤ (nI k) → pz_S 8 (some .int) am_r234 4 Q 127 [(0, .ref 154), (1, .int (Int32.ofInt 0)), (2, .int w), (3, .int (nI k))] [] h) ∧ (¬ ((nI (dP C)) ≤ (nI k)) → pz_S 8 (some .int) am_r234 4 Q 27 [(0, .ref 154), (1, .int (Int32.ofInt 0)), (2, .int w), (3, .int (nI k))] [] h) from ⟨fun hz => absurd hz (show ¬ (nI (dP C) ≤ nI k) by rw [nI_leI (by omega) (by omega)]; omega), fun _ => ?_⟩)
    refine am_goX 2 (show am_sh h 154 = some (11, 0) ∧ pz_S 8 (some .int) am_r234 4 Q 31 [(0, .ref 154), (1, .int (Int32.ofInt 0)), (2, .int w), (3, .int (nI k))] [am_rf (h.2.2.1 154 22)] h from ⟨ex_154 hP, ?_⟩)
    rw [show am_rf (h.2.2.1 154 22) = .ref 168 from congrArg am_rf (ex_r154_22 hP)]
    refine am_goX 5 (show am_rc h 154 11 ∧ 2 ≤ 8 ∧ h.2.2.2.2 + am_al 223 ≤ 175 ∧ am_call am_cod 4 223 [.ref 154, .int (Int32.ofInt 0), .int (nI k)] h (fun vv h' => pz_S 8 (some .int) am_r234 4 Q 38 [(0, .ref 154), (1, .int (Int32.ofInt 0)), (2, .int w), (3, .int (nI k))] (vv.toList ++ [.int (Int32.ofInt 0), .ref 168]) h') from ⟨Or.inl ⟨by decide, ex_154 hP⟩, by decide, ex_lim hP rfl, am_call.up (d_223_r0 hP hI hT hO hS hX (by omega) ?_) (by decide)⟩)
    refine am_goX 1 (show ∃ jj nn : Nat, am_so h 168 = some (13, nn) ∧ jj < nn ∧ Int32.ofInt 0 = nI jj ∧ pz_S 8 (some .int) am_r234 4 Q 39 [(0, .ref 154), (1, .int (Int32.ofInt 0)), (2, .int w), (3, .int (nI k))] [] (am_wI h 168 jj (d_223 C s k)) from ⟨0, 4, ex_w168 hP, (by omega), rfl, ?_⟩)
    have f81 : ex_P (am_wI h 168 0 (d_223 C s k)) := hP
    have f82 : cI C := hI
    have f83 : tR C (am_wI h 168 0 (d_223 C s k)) := tR_w (by omega) hT
    have f84 : ∀ e, e < dE C → (am_wI h 168 0 (d_223 C s k)).1 172 e = dW V e := on_w (by omega) hO
    have f85 : sR 0 (dP C) s (am_wI h 168 0 (d_223 C s k)) := sR_o (by omega) hS
    have f86 : fR h0 (am_wI h 168 0 (d_223 C s k)) := fR_w (by omega) hX
    have f87 : (am_wI h 168 0 (d_223 C s k)).1 154 28 = gg := (em_wn _ _ (by omega)).trans hG
    have f88 : (am_wI h 168 0 (d_223 C s k)).1 168 0 = (d_223 C s k) ∧ (am_wI h 168 0 (d_223 C s k)).1 168 1 = (h.1 168 1) ∧ (am_wI h 168 0 (d_223 C s k)).1 168 2 = (h.1 168 2) ∧ (am_wI h 168 0 (d_223 C s k)).1 168 3 = (h.1 168 3) := fa_w0 hA
    generalize am_wI h 168 0 (d_223 C s k) = h80 at f81 f82 f83 f84 f85 f86 f87 f88 ⊢
    refine am_goX 2 (show am_sh h80 154 = some (11, 0) ∧ pz_S 8 (some .int) am_r234 4 Q 43 [(0, .ref 154), (1, .int (Int32.ofInt 0)), (2, .int w), (3, .int (nI k))] [am_rf (h80.2.2.1 154 22)] h80 from ⟨ex_154 f81, ?_⟩)
    rw [show am_rf (h80.2.2.1 154 22) = .ref 168 from congrArg am_rf (ex_r154_22 f81)]
    refine am_goX 3 (show am_sh h80 154 = some (11, 0) ∧ pz_S 8 (some .int) am_r234 4 Q 48 [(0, .ref 154), (1, .int (Int32.ofInt 0)), (2, .int w), (3, .int (nI k))] [am_rf (h80.2.2.1 154 24), .int (Int32.ofInt 1), .ref 168] h80 from ⟨ex_154 f81, ?_⟩)
    rw [show am_rf (h80.2.2.1 154 24) = .ref 170 from congrArg am_rf (ex_r154_24 f81)]
    refine am_goX 4 (show ∃ jj nn : Nat, am_sh h80 170 = some (13, nn) ∧ jj < nn ∧ (Int32.ofInt 0) + (Int32.ofInt 0) = nI jj ∧ pz_S 8 (some .int) am_r234 4 Q 52 [(0, .ref 154), (1, .int (Int32.ofInt 0)), (2, .int w), (3, .int (nI k))] [.int (h80.1 170 jj), .int (Int32.ofInt 1), .ref 168] h80 from ⟨0, 1127, ex_170 f81, (by omega), (dn_a rfl rfl), ?_⟩)
    rw [show h80.1 170 0 = s.1 from f85.1.1]
    refine am_goX 3 (show ¬ ((Int8.ofInt 7).toInt32) = 0 ∧ ∃ jj nn : Nat, am_so h80 168 = some (13, nn) ∧ jj < nn ∧ Int32.ofInt 1 = nI jj ∧ pz_S 8 (some .int) am_r234 4 Q 56 [(0, .ref 154), (1, .int (Int32.ofInt 0)), (2, .int w), (3, .int (nI k))] [] (am_wI h80 168 jj (s.1 / ((Int8.ofInt 7).toInt32))) from ⟨by decide, 1, 4, ex_w168 f81, (by omega), rfl, ?_⟩)
    have f90 : ex_P (am_wI h80 168 1 (s.1 / ((Int8.ofInt 7).toInt32))) := f81
    have f91 : cI C := f82
    have f92 : tR C (am_wI h80 168 1 (s.1 / ((Int8.ofInt 7).toInt32))) := tR_w (by omega) f83
    have f93 : ∀ e, e < dE C → (am_wI h80 168 1 (s.1 / ((Int8.ofInt 7).toInt32))).1 172 e = dW V e := on_w (by omega) f84
    have f94 : sR 0 (dP C) s (am_wI h80 168 1 (s.1 / ((Int8.ofInt 7).toInt32))) := sR_o (by omega) f85
    have f95 : fR h0 (am_wI h80 168 1 (s.1 / ((Int8.ofInt 7).toInt32))) := fR_w (by omega) f86
    have f96 : (am_wI h80 168 1 (s.1 / ((Int8.ofInt 7).toInt32))).1 154 28 = gg := (em_wn _ _ (by omega)).trans f87
    have f97 : (am_wI h80 168 1 (s.1 / ((Int8.ofInt 7).toInt32))).1 168 0 = (d_223 C s k) ∧ (am_wI h80 168 1 (s.1 / ((Int8.ofInt 7).toInt32))).1 168 1 = (s.1 / ((Int8.ofInt 7).toInt32)) ∧ (am_wI h80 168 1 (s.1 / ((Int8.ofInt 7).toInt32))).1 168 2 = (h.1 168 2) ∧ (am_wI h80 168 1 (s.1 / ((Int8.ofInt 7).toInt32))).1 168 3 = (h.1 168 3) := fa_w1 f88
    generalize am_wI h80 168 1 (s.1 / ((Int8.ofInt 7).toInt32)) = h89 at f90 f91 f92 f93 f94 f95 f96 f97 ⊢
    refine am_goX 2 (show am_sh h89 154 = some (11, 0) ∧ pz_S 8 (some .int) am_r234 4 Q 60 [(0, .ref 154), (1, .int (Int32.ofInt 0)), (2, .int w), (3, .int (nI k))] [am_rf (h89.2.2.1 154 22)] h89 from ⟨ex_154 f90, ?_⟩)
    rw [show am_rf (h89.2.2.1 154 22) = .ref 168 from congrArg am_rf (ex_r154_22 f90)]
    refine am_goX 3 (show am_sh h89 154 = some (11, 0) ∧ pz_S 8 (some .int) am_r234 4 Q 65 [(0, .ref 154), (1, .int (Int32.ofInt 0)), (2, .int w), (3, .int (nI k))] [am_rf (h89.2.2.1 154 24), .int (Int32.ofInt 2), .ref 168] h89 from ⟨ex_154 f90, ?_⟩)
    rw [show am_rf (h89.2.2.1 154 24) = .ref 170 from congrArg am_rf (ex_r154_24 f90)]
    refine am_goX 6 (show ∃ jj nn : Nat, am_sh h89 170 = some (13, nn) ∧ jj < nn ∧ ((Int32.ofInt 0) + ((Int8.ofInt 8).toInt32)) + (nI k) = nI jj ∧ pz_S 8 (some .int) am_r234 4 Q 72 [(0, .ref 154), (1, .int (Int32.ofInt 0)), (2, .int w), (3, .int (nI k))] [.int (h89.1 170 jj), .int (Int32.ofInt 2), .ref 168] h89 from ⟨(8 + k), 1127, ex_170 f90, (by omega), (dn_a (dn_a rfl (show (Int8.ofInt 8).toInt32 = nI 8 by decide)) rfl), ?_⟩)
    rw [show h89.1 170 (8 + k) = s.2.2.2.1 k from (by rw [show (8 + k) = 0 + 8 + k by omega]; exact f94.2.2.1 k (by omega))]
    refine am_goX 1 (show 2 ≤ 8 ∧ h89.2.2.2.2 + am_al 235 ≤ 175 ∧ am_call am_cod 4 235 [.int (s.2.2.2.1 k)] h89 (fun vv h' => pz_S 8 (some .int) am_r234 4 Q 75 [(0, .ref 154), (1, .int (Int32.ofInt 0)), (2, .int w), (3, .int (nI k))] (vv.toList ++ [.int (Int32.ofInt 2), .ref 168]) h') from ⟨by decide, ex_lim f90 rfl, am_call.up (d_235_w f90 ?_) (by decide)⟩)
    refine am_goX 1 (show ∃ jj nn : Nat, am_so h89 168 = some (13, nn) ∧ jj < nn ∧ Int32.ofInt 2 = nI jj ∧ pz_S 8 (some .int) am_r234 4 Q 76 [(0, .ref 154), (1, .int (Int32.ofInt 0)), (2, .int w), (3, .int (nI k))] [] (am_wI h89 168 jj (d_235 (s.2.2.2.1 k))) from ⟨2, 4, ex_w168 f90, (by omega), rfl, ?_⟩)
    have f99 : ex_P (am_wI h89 168 2 (d_235 (s.2.2.2.1 k))) := f90
    have f100 : cI C := f91
    have f101 : tR C (am_wI h89 168 2 (d_235 (s.2.2.2.1 k))) := tR_w (by omega) f92
    have f102 : ∀ e, e < dE C → (am_wI h89 168 2 (d_235 (s.2.2.2.1 k))).1 172 e = dW V e := on_w (by omega) f93
    have f103 : sR 0 (dP C) s (am_wI h89 168 2 (d_235 (s.2.2.2.1 k))) := sR_o (by omega) f94
    have f104 : fR h0 (am_wI h89 168 2 (d_235 (s.2.2.2.1 k))) := fR_w (by omega) f95
    have f105 : (am_wI h89 168 2 (d_235 (s.2.2.2.1 k))).1 154 28 = gg := (em_wn _ _ (by omega)).trans f96
    have f106 : (am_wI h89 168 2 (d_235 (s.2.2.2.1 k))).1 168 0 = (d_223 C s k) ∧ (am_wI h89 168 2 (d_235 (s.2.2.2.1 k))).1 168 1 = (s.1 / ((Int8.ofInt 7).toInt32)) ∧ (am_wI h89 168 2 (d_235 (s.2.2.2.1 k))).1 168 2 = (d_235 (s.2.2.2.1 k)) ∧ (am_wI h89 168 2 (d_235 (s.2.2.2.1 k))).1 168 3 = (h.1 168 3) := fa_w2 f97
    generalize am_wI h89 168 2 (d_235 (s.2.2.2.1 k)) = h98 at f99 f100 f101 f102 f103 f104 f105 f106 ⊢
    refine am_goX 2 (show am_sh h98 154 = some (11, 0) ∧ pz_S 8 (some .int) am_r234 4 Q 80 [(0, .ref 154), (1, .int (Int32.ofInt 0)), (2, .int w), (3, .int (nI k))] [am_rf (h98.2.2.1 154 22)] h98 from ⟨ex_154 f99, ?_⟩)
    rw [show am_rf (h98.2.2.1 154 22) = .ref 168 from congrArg am_rf (ex_r154_22 f99)]
    refine am_goX 3 (show ∃ jj nn : Nat, am_so h98 168 = some (13, nn) ∧ jj < nn ∧ Int32.ofInt 3 = nI jj ∧ pz_S 8 (some .int) am_r234 4 Q 83 [(0, .ref 154), (1, .int (Int32.ofInt 0)), (2, .int w), (3, .int (nI k))] [] (am_wI h98 168 jj w) from ⟨3, 4, ex_w168 f99, (by omega), rfl, ?_⟩)
    have f108 : ex_P (am_wI h98 168 3 w) := f99
    have f109 : cI C := f100
    have f110 : tR C (am_wI h98 168 3 w) := tR_w (by omega) f101
    have f111 : ∀ e, e < dE C → (am_wI h98 168 3 w).1 172 e = dW V e := on_w (by omega) f102
    have f112 : sR 0 (dP C) s (am_wI h98 168 3 w) := sR_o (by omega) f103
    have f113 : fR h0 (am_wI h98 168 3 w) := fR_w (by omega) f104
    have f114 : (am_wI h98 168 3 w).1 154 28 = gg := (em_wn _ _ (by omega)).trans f105
    have f115 : (am_wI h98 168 3 w).1 168 0 = (d_223 C s k) ∧ (am_wI h98 168 3 w).1 168 1 = (s.1 / ((Int8.ofInt 7).toInt32)) ∧ (am_wI h98 168 3 w).1 168 2 = (d_235 (s.2.2.2.1 k)) ∧ (am_wI h98 168 3 w).1 168 3 = w := fa_w3 f106
    generalize am_wI h98 168 3 w = h107 at f108 f109 f110 f111 f112 f113 f114 f115 ⊢
    refine am_goX 3 (show (Value.ref 154).category = 1 ∧ am_sh h107 154 = some (11, 0) ∧ pz_S 8 (some .int) am_r234 4 Q 88 [(0, .ref 154), (1, .int (Int32.ofInt 0)), (2, .int w), (3, .int (nI k))] [.int (h107.1 154 28), .ref 154] h107 from ⟨rfl, ex_154 f108, ?_⟩)
    rw [show h107.1 154 28 = gg from f114]
    refine am_goX 2 (show am_sh h107 154 = some (11, 0) ∧ pz_S 8 (some .int) am_r234 4 Q 92 [(0, .ref 154), (1, .int (Int32.ofInt 0)), (2, .int w), (3, .int (nI k))] [am_rf (h107.2.2.1 154 10), .int gg, .ref 154] h107 from ⟨ex_154 f108, ?_⟩)
    rw [show am_rf (h107.2.2.1 154 10) = .ref 160 from congrArg am_rf (ex_r154_10 f108)]
    refine am_goX 2 (show ∃ jj nn : Nat, am_sh h107 160 = some (13, nn) ∧ jj < nn ∧ Int32.ofInt 3 = nI jj ∧ pz_S 8 (some .int) am_r234 4 Q 94 [(0, .ref 154), (1, .int (Int32.ofInt 0)), (2, .int w), (3, .int (nI k))] [.int (h107.1 160 jj), .int gg, .ref 154] h107 from ⟨3, 80, ex_160 f108, (by omega), rfl, ?_⟩)
    rw [show h107.1 160 3 = dQ C from f110.2.2.2.2.2.2.2.2]
    refine am_goX 1 (show ((dQ C) < 0 → pz_S 8 (some .int) am_r234 4 Q 110 [(0, .ref 154), (1, .int (Int32.ofInt 0)), (2, .int w), (3, .int (nI k))] [.int gg, .ref 154] h107) ∧ (¬ ((dQ C) < 0) → pz_S 8 (some .int) am_r234 4 Q 97 [(0, .ref 154), (1, .int (Int32.ofInt 0)), (2, .int w), (3, .int (nI k))] [.int gg, .ref 154] h107) from ⟨fun c116 => ?_, fun c116 => ?_⟩)
    · refine am_goX 6 (show am_sh h107 154 = some (11, 0) ∧ narrow (am_fty 11 28) (.int (gg ||| ((Int32.ofInt 1) <<< ((nI k) &&& 31)))) = .int (gg ||| ((Int32.ofInt 1) <<< ((nI k) &&& 31))) ∧ fits (am_fty 11 28) (.int (gg ||| ((Int32.ofInt 1) <<< ((nI k) &&& 31)))) = true ∧ pz_S 8 (some .int) am_r234 4 Q 121 [(0, .ref 154), (1, .int (Int32.ofInt 0)), (2, .int w), (3, .int (nI k))] [] (am_wI h107 154 28 (gg ||| ((Int32.ofInt 1) <<< ((nI k) &&& 31)))) from ⟨ex_154 f108, rfl, rfl, ?_⟩)
      have f118 : ex_P (am_wI h107 154 28 (gg ||| ((Int32.ofInt 1) <<< ((nI k) &&& 31)))) := f108
      have f119 : cI C := f109
      have f120 : tR C (am_wI h107 154 28 (gg ||| ((Int32.ofInt 1) <<< ((nI k) &&& 31)))) := tR_w (by omega) f110
      have f121 : ∀ e, e < dE C → (am_wI h107 154 28 (gg ||| ((Int32.ofInt 1) <<< ((nI k) &&& 31)))).1 172 e = dW V e := on_w (by omega) f111
      have f122 : sR 0 (dP C) s (am_wI h107 154 28 (gg ||| ((Int32.ofInt 1) <<< ((nI k) &&& 31)))) := sR_o (by omega) f112
      have f123 : fR h0 (am_wI h107 154 28 (gg ||| ((Int32.ofInt 1) <<< ((nI k) &&& 31)))) := fR_w (by omega) f113
      have f124 : (am_wI h107 154 28 (gg ||| ((Int32.ofInt 1) <<< ((nI k) &&& 31)))).1 154 28 = (gg ||| ((Int32.ofInt 1) <<< ((nI k) &&& 31))) := em_we _ _ _ _
      have f125 : (am_wI h107 154 28 (gg ||| ((Int32.ofInt 1) <<< ((nI k) &&& 31)))).1 168 0 = (d_223 C s k) ∧ (am_wI h107 154 28 (gg ||| ((Int32.ofInt 1) <<< ((nI k) &&& 31)))).1 168 1 = (s.1 / ((Int8.ofInt 7).toInt32)) ∧ (am_wI h107 154 28 (gg ||| ((Int32.ofInt 1) <<< ((nI k) &&& 31)))).1 168 2 = (d_235 (s.2.2.2.1 k)) ∧ (am_wI h107 154 28 (gg ||| ((Int32.ofInt 1) <<< ((nI k) &&& 31)))).1 168 3 = w := fo_w (by omega) f115
      generalize am_wI h107 154 28 (gg ||| ((Int32.ofInt 1) <<< ((nI k) &&& 31))) = h117 at f118 f119 f120 f121 f122 f123 f124 f125 ⊢
      refine am_goX 2 (show 3 < 8 ∧ pz_S 8 (some .int) am_r234 4 Q 19 [(3, .int ((nI k) + (Int32.ofInt 1))), (0, .ref 154), (1, .int (Int32.ofInt 0)), (2, .int w)] [] h117 from ⟨by decide, ?_⟩)
      rw [show d_234_19 C w (m + 1) k s gg = d_234_19 C w m (k + 1) s (gg ||| ((Int32.ofInt 1) <<< ((nI k) &&& 31))) from if_pos c116] at hZ
      rw [show (nI k) + (Int32.ofInt 1) = nI (k + 1) from (dn_a rfl rfl)]
      exact sv_S2 sv2_234 (by intro q hq; simp only [List.mem_cons, List.not_mem_nil, or_false] at hq; rcases hq with rfl | rfl | rfl | rfl <;> rfl) (ih (k + 1) s (gg ||| ((Int32.ofInt 1) <<< ((nI k) &&& 31))) _ (by omega) f118 f119 f120 f121 f122 f123 f124 hZ)
    · refine am_goX 3 (show am_sh h107 154 = some (11, 0) ∧ pz_S 8 (some .int) am_r234 4 Q 102 [(0, .ref 154), (1, .int (Int32.ofInt 0)), (2, .int w), (3, .int (nI k))] [am_rf (h107.2.2.1 154 10), .ref 154, .int gg, .ref 154] h107 from ⟨ex_154 f108, ?_⟩)
      rw [show am_rf (h107.2.2.1 154 10) = .ref 160 from congrArg am_rf (ex_r154_10 f108)]
      refine am_goX 2 (show ∃ jj nn : Nat, am_sh h107 160 = some (13, nn) ∧ jj < nn ∧ Int32.ofInt 3 = nI jj ∧ pz_S 8 (some .int) am_r234 4 Q 104 [(0, .ref 154), (1, .int (Int32.ofInt 0)), (2, .int w), (3, .int (nI k))] [.int (h107.1 160 jj), .ref 154, .int gg, .ref 154] h107 from ⟨3, 80, ex_160 f108, (by omega), rfl, ?_⟩)
      rw [show h107.1 160 3 = dQ C from f110.2.2.2.2.2.2.2.2]
      refine am_goX 1 (show am_rc h107 154 11 ∧ 2 ≤ 8 ∧ h107.2.2.2.2 + am_al 236 ≤ 175 ∧ am_call am_cod 4 236 [.ref 154, .int (dQ C)] h107 (fun vv h' => pz_S 8 (some .int) am_r234 4 Q 107 [(0, .ref 154), (1, .int (Int32.ofInt 0)), (2, .int w), (3, .int (nI k))] (vv.toList ++ [.int gg, .ref 154]) h') from ⟨Or.inl ⟨by decide, ex_154 f108⟩, by decide, ex_lim f108 rfl, am_call.up (q_236 (a := (d_223 C s k)) (b := (s.1 / ((Int8.ofInt 7).toInt32))) (c := (d_235 (s.2.2.2.1 k))) (d := w) f108 f109 f110 f115 c116 (fun h126 l127 => ?_)) (by decide)⟩)
      have f128 : ex_P h126 := lfr_P l127 f108
      have f129 : cI C := f109
      have f130 : tR C h126 := lfr_r l127 f110
      have f131 : ∀ e, e < dE C → h126.1 172 e = dW V e := lfr_on l127 f111
      have f132 : sR 0 (dP C) s h126 := lfr_sR l127 (by omega) f112
      have f133 : fR h0 h126 := fR_l l127 f113
      have f134 : h126.1 154 28 = gg := (l127.2 _ _ (by decide)).trans f114
      have f135 : h126.1 168 0 = (d_223 C s k) ∧ h126.1 168 1 = (s.1 / ((Int8.ofInt 7).toInt32)) ∧ h126.1 168 2 = (d_235 (s.2.2.2.1 k)) ∧ h126.1 168 3 = w := ⟨(l127.2 _ _ (by decide)).trans f115.1, (l127.2 _ _ (by decide)).trans f115.2.1, (l127.2 _ _ (by decide)).trans f115.2.2.1, (l127.2 _ _ (by decide)).trans f115.2.2.2⟩
      refine am_goX 1 (show ((dlaw C (d_223 C s k) (s.1 / ((Int8.ofInt 7).toInt32)) (d_235 (s.2.2.2.1 k)) w) = 0 → pz_S 8 (some .int) am_r234 4 Q 116 [(0, .ref 154), (1, .int (Int32.ofInt 0)), (2, .int w), (3, .int (nI k))] [.int gg, .ref 154] h126) ∧ (¬ ((dlaw C (d_223 C s k) (s.1 / ((Int8.ofInt 7).toInt32)) (d_235 (s.2.2.2.1 k)) w) = 0) → pz_S 8 (some .int) am_r234 4 Q 110 [(0, .ref 154), (1, .int (Int32.ofInt 0)), (2, .int w), (3, .int (nI k))] [.int gg, .ref 154] h126) from ⟨fun c136 => ?_, fun c136 => ?_⟩)
      · refine am_goX 3 (show am_sh h126 154 = some (11, 0) ∧ narrow (am_fty 11 28) (.int (gg ||| (Int32.ofInt 0))) = .int (gg ||| (Int32.ofInt 0)) ∧ fits (am_fty 11 28) (.int (gg ||| (Int32.ofInt 0))) = true ∧ pz_S 8 (some .int) am_r234 4 Q 121 [(0, .ref 154), (1, .int (Int32.ofInt 0)), (2, .int w), (3, .int (nI k))] [] (am_wI h126 154 28 (gg ||| (Int32.ofInt 0))) from ⟨ex_154 f128, rfl, rfl, ?_⟩)
        have f138 : ex_P (am_wI h126 154 28 (gg ||| (Int32.ofInt 0))) := f128
        have f139 : cI C := f129
        have f140 : tR C (am_wI h126 154 28 (gg ||| (Int32.ofInt 0))) := tR_w (by omega) f130
        have f141 : ∀ e, e < dE C → (am_wI h126 154 28 (gg ||| (Int32.ofInt 0))).1 172 e = dW V e := on_w (by omega) f131
        have f142 : sR 0 (dP C) s (am_wI h126 154 28 (gg ||| (Int32.ofInt 0))) := sR_o (by omega) f132
        have f143 : fR h0 (am_wI h126 154 28 (gg ||| (Int32.ofInt 0))) := fR_w (by omega) f133
        have f144 : (am_wI h126 154 28 (gg ||| (Int32.ofInt 0))).1 154 28 = (gg ||| (Int32.ofInt 0)) := em_we _ _ _ _
        have f145 : (am_wI h126 154 28 (gg ||| (Int32.ofInt 0))).1 168 0 = (d_223 C s k) ∧ (am_wI h126 154 28 (gg ||| (Int32.ofInt 0))).1 168 1 = (s.1 / ((Int8.ofInt 7).toInt32)) ∧ (am_wI h126 154 28 (gg ||| (Int32.ofInt 0))).1 168 2 = (d_235 (s.2.2.2.1 k)) ∧ (am_wI h126 154 28 (gg ||| (Int32.ofInt 0))).1 168 3 = w := fo_w (by omega) f135
        generalize am_wI h126 154 28 (gg ||| (Int32.ofInt 0)) = h137 at f138 f139 f140 f141 f142 f143 f144 f145 ⊢
        refine am_goX 2 (show 3 < 8 ∧ pz_S 8 (some .int) am_r234 4 Q 19 [(3, .int ((nI k) + (Int32.ofInt 1))), (0, .ref 154), (1, .int (Int32.ofInt 0)), (2, .int w)] [] h137 from ⟨by decide, ?_⟩)
        rw [show d_234_19 C w (m + 1) k s gg = d_234_19 C w m (k + 1) s (gg ||| (Int32.ofInt 0)) from (if_neg c116).trans (if_pos c136)] at hZ
        rw [show (nI k) + (Int32.ofInt 1) = nI (k + 1) from (dn_a rfl rfl)]
        exact sv_S2 sv2_234 (by intro q hq; simp only [List.mem_cons, List.not_mem_nil, or_false] at hq; rcases hq with rfl | rfl | rfl | rfl <;> rfl) (ih (k + 1) s (gg ||| (Int32.ofInt 0)) _ (by omega) f138 f139 f140 f141 f142 f143 f144 hZ)
      · refine am_goX 6 (show am_sh h126 154 = some (11, 0) ∧ narrow (am_fty 11 28) (.int (gg ||| ((Int32.ofInt 1) <<< ((nI k) &&& 31)))) = .int (gg ||| ((Int32.ofInt 1) <<< ((nI k) &&& 31))) ∧ fits (am_fty 11 28) (.int (gg ||| ((Int32.ofInt 1) <<< ((nI k) &&& 31)))) = true ∧ pz_S 8 (some .int) am_r234 4 Q 121 [(0, .ref 154), (1, .int (Int32.ofInt 0)), (2, .int w), (3, .int (nI k))] [] (am_wI h126 154 28 (gg ||| ((Int32.ofInt 1) <<< ((nI k) &&& 31)))) from ⟨ex_154 f128, rfl, rfl, ?_⟩)
        have f147 : ex_P (am_wI h126 154 28 (gg ||| ((Int32.ofInt 1) <<< ((nI k) &&& 31)))) := f128
        have f148 : cI C := f129
        have f149 : tR C (am_wI h126 154 28 (gg ||| ((Int32.ofInt 1) <<< ((nI k) &&& 31)))) := tR_w (by omega) f130
        have f150 : ∀ e, e < dE C → (am_wI h126 154 28 (gg ||| ((Int32.ofInt 1) <<< ((nI k) &&& 31)))).1 172 e = dW V e := on_w (by omega) f131
        have f151 : sR 0 (dP C) s (am_wI h126 154 28 (gg ||| ((Int32.ofInt 1) <<< ((nI k) &&& 31)))) := sR_o (by omega) f132
        have f152 : fR h0 (am_wI h126 154 28 (gg ||| ((Int32.ofInt 1) <<< ((nI k) &&& 31)))) := fR_w (by omega) f133
        have f153 : (am_wI h126 154 28 (gg ||| ((Int32.ofInt 1) <<< ((nI k) &&& 31)))).1 154 28 = (gg ||| ((Int32.ofInt 1) <<< ((nI k) &&& 31))) := em_we _ _ _ _
        have f154 : (am_wI h126 154 28 (gg ||| ((Int32.ofInt 1) <<< ((nI k) &&& 31)))).1 168 0 = (d_223 C s k) ∧ (am_wI h126 154 28 (gg ||| ((Int32.ofInt 1) <<< ((nI k) &&& 31)))).1 168 1 = (s.1 / ((Int8.ofInt 7).toInt32)) ∧ (am_wI h126 154 28 (gg ||| ((Int32.ofInt 1) <<< ((nI k) &&& 31)))).1 168 2 = (d_235 (s.2.2.2.1 k)) ∧ (am_wI h126 154 28 (gg ||| ((Int32.ofInt 1) <<< ((nI k) &&& 31)))).1 168 3 = w := fo_w (by omega) f135
        generalize am_wI h126 154 28 (gg ||| ((Int32.ofInt 1) <<< ((nI k) &&& 31))) = h146 at f147 f148 f149 f150 f151 f152 f153 f154 ⊢
        refine am_goX 2 (show 3 < 8 ∧ pz_S 8 (some .int) am_r234 4 Q 19 [(3, .int ((nI k) + (Int32.ofInt 1))), (0, .ref 154), (1, .int (Int32.ofInt 0)), (2, .int w)] [] h146 from ⟨by decide, ?_⟩)
        rw [show d_234_19 C w (m + 1) k s gg = d_234_19 C w m (k + 1) s (gg ||| ((Int32.ofInt 1) <<< ((nI k) &&& 31))) from (if_neg c116).trans (if_neg c136)] at hZ
        rw [show (nI k) + (Int32.ofInt 1) = nI (k + 1) from (dn_a rfl rfl)]
        exact sv_S2 sv2_234 (by intro q hq; simp only [List.mem_cons, List.not_mem_nil, or_false] at hq; rcases hq with rfl | rfl | rfl | rfl <;> rfl) (ih (k + 1) s (gg ||| ((Int32.ofInt 1) <<< ((nI k) &&& 31))) _ (by omega) f147 f148 f149 f150 f151 f152 f153 hZ)
def d_234_147 (C V : sp_C) (s : dS) (gg w : Int32) (n4 : Nat) : Nat → Nat → Int32 → Int32
  | 0, _, a5 => a5
  | m + 1, k, a5 => d_234_147 C V s gg w n4 m (k + 1) (a5 ||| (if ¬ ((gg >>> ((nI k) &&& 31)) &&& (Int32.ofInt 1)) = (Int32.ofInt 1) then Int32.ofInt 0 else (if (d_238 C V s k n4 w) = 0 then Int32.ofInt 0 else (Int32.ofInt 1) <<< ((nI k) &&& 31))))
theorem d_234_147_g0 (x3 : Int32) (n4 : Nat) (hP : ex_P h) (hI : cI C) (hT : tR C h) (hO : ∀ e, e < dE C → h.1 172 e = dW V e) (hS : sR 0 (dP C) s h) (hX : fR h0 h) (hG : h.1 154 28 = gg) (he : n4 < dE C) : ∀ (m k : Nat) (a5 : Int32), k + m = dP C → (pz_S 8 (some .int) am_r234 4 Q 201 [(0, .ref 154), (1, .int (Int32.ofInt 0)), (2, .int w), (3, .int x3), (4, .int (nI n4)), (5, .int (d_234_147 C V s gg w n4 m k a5))] [] h) → pz_S 8 (some .int) am_r234 4 Q 147 [(0, .ref 154), (1, .int (Int32.ofInt 0)), (2, .int w), (3, .int x3), (4, .int (nI n4)), (5, .int a5), (6, .int (nI k))] [] h := by
  intro m
  induction m with
  | zero =>
    intro k a5 hk hZ
    have h6 := hT.1.2.1
    have h5 := hT.2.1.2.1
    refine am_goX 3 (show am_rc h 154 11 ∧ 1 ≤ 8 ∧ h.2.2.2.2 + am_al 186 ≤ 175 ∧ am_call am_cod 4 186 [.ref 154] h (fun vv h' => pz_S 8 (some .int) am_r234 4 Q 153 [(0, .ref 154), (1, .int (Int32.ofInt 0)), (2, .int w), (3, .int x3), (4, .int (nI n4)), (5, .int a5), (6, .int (nI k))] (vv.toList ++ [.int (nI k)]) h') from ⟨Or.inl ⟨by decide, ex_154 hP⟩, by decide, ex_lim hP rfl, am_call.up (d_186_r hP hT ?_) (by decide)⟩)
    refine am_goX 1 (show ((nI (dP C)) ≤ (nI k) → pz_S 8 (some .int) am_r234 4 Q 201 [(0, .ref 154), (1, .int (Int32.ofInt 0)), (2, .int w), (3, .int x3), (4, .int (nI n4)), (5, .int a5), (6, .int (nI k))] [] h) ∧ (¬ ((nI (dP C)) ≤ (nI k)) → pz_S 8 (some .int) am_r234 4 Q 156 [(0, .ref 154), (1, .int (Int32.ofInt 0)), (2, .int w), (3, .int x3), (4, .int (nI n4)), (5, .int a5), (6, .int (nI k))] [] h) from ⟨fun _ => ?_, fun hz => absurd (show nI (dP C) ≤ nI k from nI_le (by omega) (by omega)) hz⟩)
    exact sv_S2 sv2_234 (by intro q hq; simp only [List.mem_cons, List.not_mem_nil, or_false] at hq; rcases hq with rfl | rfl | rfl | rfl | rfl | rfl <;> rfl) (hZ)
  | succ m ih =>
    intro k a5 hk hZ
    have h6 := hT.1.2.1
    have h5 := hT.2.1.2.1
    refine am_goX 3 (show am_rc h 154 11 ∧ 1 ≤ 8 ∧ h.2.2.2.2 + am_al 186 ≤ 175 ∧ am_call am_cod 4 186 [.ref 154] h (fun vv h' => pz_S 8 (some .int) am_r234 4 Q 153 [(0, .ref 154), (1, .int (Int32.ofInt 0)), (2, .int w), (3, .int x3), (4, .int (nI n4)), (5, .int a5), (6, .int (nI k))] (vv.toList ++ [.int (nI k)]) h') from ⟨Or.inl ⟨by decide, ex_154 hP⟩, by decide, ex_lim hP rfl, am_call.up (d_186_r hP hT ?_) (by decide)⟩)
    refine am_goX 1 (show ((nI (dP C)) ≤ (nI k) → pz_S 8 (some .int) am_r234 4 Q 201 [(0, .ref 154), (1, .int (Int32.ofInt 0)), (2, .int w), (3, .int x3), (4, .int (nI n4)), (5, .int a5), (6, .int (nI k))] [] h) ∧ (¬ ((nI (dP C)) ≤ (nI k)) → pz_S 8 (some .int) am_r234 4 Q 156 [(0, .ref 154), (1, .int (Int32.ofInt 0)), (2, .int w), (3, .int x3), (4, .int (nI n4)), (5, .int a5), (6, .int (nI k))] [] h) from ⟨fun hz => absurd hz (show ¬ (nI (dP C) ≤ nI k) by rw [nI_leI (by omega) (by omega)]; omega), fun _ => ?_⟩)
    refine am_goX 3 (show am_sh h 154 = some (11, 0) ∧ pz_S 8 (some .int) am_r234 4 Q 162 [(0, .ref 154), (1, .int (Int32.ofInt 0)), (2, .int w), (3, .int x3), (4, .int (nI n4)), (5, .int a5), (6, .int (nI k))] [.int (h.1 154 28), .int a5] h from ⟨ex_154 hP, ?_⟩)
    rw [show h.1 154 28 = gg from hG]
    suffices key : ∀ (v164 : Int32), v164 = (if ¬ ((gg >>> ((nI k) &&& 31)) &&& (Int32.ofInt 1)) = (Int32.ofInt 1) then Int32.ofInt 0 else (if (d_238 C V s k n4 w) = 0 then Int32.ofInt 0 else (Int32.ofInt 1) <<< ((nI k) &&& 31))) → pz_S 8 (some .int) am_r234 4 Q 192 [(0, .ref 154), (1, .int (Int32.ofInt 0)), (2, .int w), (3, .int x3), (4, .int (nI n4)), (6, .int (nI k))] [.int v164, .int a5] h by
      refine am_goX 6 (show (¬ ((gg >>> ((nI k) &&& 31)) &&& (Int32.ofInt 1)) = (Int32.ofInt 1) → pz_S 8 (some .int) am_r234 4 Q 191 [(0, .ref 154), (1, .int (Int32.ofInt 0)), (2, .int w), (3, .int x3), (4, .int (nI n4)), (5, .int a5), (6, .int (nI k))] [.int a5] h) ∧ (¬ ¬ ((gg >>> ((nI k) &&& 31)) &&& (Int32.ofInt 1)) = (Int32.ofInt 1) → pz_S 8 (some .int) am_r234 4 Q 171 [(0, .ref 154), (1, .int (Int32.ofInt 0)), (2, .int w), (3, .int x3), (4, .int (nI n4)), (5, .int a5), (6, .int (nI k))] [.int a5] h) from ⟨fun c163 => ?_, fun c163 => ?_⟩)
      · refine am_goX 1 (show pz_S 8 (some .int) am_r234 4 Q 192 [(0, .ref 154), (1, .int (Int32.ofInt 0)), (2, .int w), (3, .int x3), (4, .int (nI n4)), (5, .int a5), (6, .int (nI k))] [.int (Int32.ofInt 0), .int a5] h from ?_)
        exact sv_S2 sv2_234 (by intro q hq; simp only [List.mem_cons, List.not_mem_nil, or_false] at hq; rcases hq with rfl | rfl | rfl | rfl | rfl | rfl <;> rfl) (key _ (if_pos c163).symm)
      · refine am_goX 6 (show am_rc h 154 11 ∧ 1 ≤ 8 ∧ h.2.2.2.2 + am_al 238 ≤ 175 ∧ am_call am_cod 4 238 [.ref 154, .int (Int32.ofInt 0), .int (nI k), .int (nI n4), .int w] h (fun vv h' => pz_S 8 (some .int) am_r234 4 Q 181 [(0, .ref 154), (1, .int (Int32.ofInt 0)), (2, .int w), (3, .int x3), (4, .int (nI n4)), (5, .int a5), (6, .int (nI k))] (vv.toList ++ [.int a5]) h') from ⟨Or.inl ⟨by decide, ex_154 hP⟩, by decide, ex_lim hP rfl, am_call.up (d_238_r0 hP hI hT hO hS hX (by omega) (by omega) ?_) (by decide)⟩)
        suffices key : ∀ (v166 : Int32), v166 = (if (d_238 C V s k n4 w) = 0 then Int32.ofInt 0 else (Int32.ofInt 1) <<< ((nI k) &&& 31)) → pz_S 8 (some .int) am_r234 4 Q 192 [(0, .ref 154), (1, .int (Int32.ofInt 0)), (2, .int w), (3, .int x3), (4, .int (nI n4)), (6, .int (nI k))] [.int v166, .int a5] h by
          refine am_goX 1 (show ((d_238 C V s k n4 w) = 0 → pz_S 8 (some .int) am_r234 4 Q 191 [(0, .ref 154), (1, .int (Int32.ofInt 0)), (2, .int w), (3, .int x3), (4, .int (nI n4)), (5, .int a5), (6, .int (nI k))] [.int a5] h) ∧ (¬ ((d_238 C V s k n4 w) = 0) → pz_S 8 (some .int) am_r234 4 Q 184 [(0, .ref 154), (1, .int (Int32.ofInt 0)), (2, .int w), (3, .int x3), (4, .int (nI n4)), (5, .int a5), (6, .int (nI k))] [.int a5] h) from ⟨fun c165 => ?_, fun c165 => ?_⟩)
          · refine am_goX 1 (show pz_S 8 (some .int) am_r234 4 Q 192 [(0, .ref 154), (1, .int (Int32.ofInt 0)), (2, .int w), (3, .int x3), (4, .int (nI n4)), (5, .int a5), (6, .int (nI k))] [.int (Int32.ofInt 0), .int a5] h from ?_)
            exact sv_S2 sv2_234 (by intro q hq; simp only [List.mem_cons, List.not_mem_nil, or_false] at hq; rcases hq with rfl | rfl | rfl | rfl | rfl | rfl <;> rfl) (key _ (if_pos c165).symm)
          · refine am_goX 4 (show pz_S 8 (some .int) am_r234 4 Q 192 [(0, .ref 154), (1, .int (Int32.ofInt 0)), (2, .int w), (3, .int x3), (4, .int (nI n4)), (5, .int a5), (6, .int (nI k))] [.int ((Int32.ofInt 1) <<< ((nI k) &&& 31)), .int a5] h from ?_)
            exact sv_S2 sv2_234 (by intro q hq; simp only [List.mem_cons, List.not_mem_nil, or_false] at hq; rcases hq with rfl | rfl | rfl | rfl | rfl | rfl <;> rfl) (key _ (if_neg c165).symm)
        intro v166 e167
        subst e167
        exact sv_S2 sv2_234 (by intro q hq; simp only [List.mem_cons, List.not_mem_nil, or_false] at hq; rcases hq with rfl | rfl | rfl | rfl | rfl | rfl <;> rfl) (key _ (if_neg c163).symm)
    intro v164 e168
    subst e168
    refine am_goX 4 (show 5 < 8 ∧ 6 < 8 ∧ pz_S 8 (some .int) am_r234 4 Q 147 [(6, .int ((nI k) + (Int32.ofInt 1))), (5, .int (a5 ||| (if ¬ ((gg >>> ((nI k) &&& 31)) &&& (Int32.ofInt 1)) = (Int32.ofInt 1) then Int32.ofInt 0 else (if (d_238 C V s k n4 w) = 0 then Int32.ofInt 0 else (Int32.ofInt 1) <<< ((nI k) &&& 31))))), (0, .ref 154), (1, .int (Int32.ofInt 0)), (2, .int w), (3, .int x3), (4, .int (nI n4))] [] h from ⟨by decide, by decide, ?_⟩)
    rw [show (nI k) + (Int32.ofInt 1) = nI (k + 1) from (dn_a rfl rfl)]
    exact sv_S2 sv2_234 (by intro q hq; simp only [List.mem_cons, List.not_mem_nil, or_false] at hq; rcases hq with rfl | rfl | rfl | rfl | rfl | rfl | rfl <;> rfl) (ih (k + 1) (a5 ||| (if ¬ ((gg >>> ((nI k) &&& 31)) &&& (Int32.ofInt 1)) = (Int32.ofInt 1) then Int32.ofInt 0 else (if (d_238 C V s k n4 w) = 0 then Int32.ofInt 0 else (Int32.ofInt 1) <<< ((nI k) &&& 31)))) (by omega) hZ)
def d_234_281 (C : sp_C) (x5 : Int32) : Nat → Nat → dS → dS
  | 0, _, s => s
  | m + 1, k, s => d_234_281 C x5 m (k + 1) (sSM s k ((s.2.2.2.1 k) ||| (if ¬ ((x5 >>> ((nI k) &&& 31)) &&& (Int32.ofInt 1)) = (Int32.ofInt 1) then Int32.ofInt 0 else x5 &&& (((Int32.ofInt 1) <<< ((nI k) &&& 31)) ^^^ (Int32.ofInt (-1))))))
theorem d_234_281_g0 (x3 : Int32) (n4 : Nat) (x5 : Int32) : ∀ (m k : Nat) (s : dS) (h : am_H), k + m = dP C → (ex_P h) → (cI C) → (tR C h) → (∀ e, e < dE C → h.1 172 e = dW V e) → (sR 0 (dP C) s h) → (fR h0 h) → (h.1 154 28 = gg) → (∀ h1, (ex_P h1) → (cI C) → (tR C h1) → (∀ e, e < dE C → h1.1 172 e = dW V e) → (sR 0 (dP C) (d_234_281 C x5 m k s) h1) → (fR h0 h1) → (h1.1 154 28 = gg) → pz_S 8 (some .int) am_r234 4 Q 335 [(0, .ref 154), (1, .int (Int32.ofInt 0)), (2, .int w), (3, .int x3), (4, .int (nI n4))] [] h1) → pz_S 8 (some .int) am_r234 4 Q 281 [(0, .ref 154), (1, .int (Int32.ofInt 0)), (2, .int w), (3, .int x3), (4, .int (nI n4)), (5, .int x5), (7, .int (nI k))] [] h := by
  intro m
  induction m with
  | zero =>
    intro k s h hk hP hI hT hO hS hX hG hZ
    have h6 := hT.1.2.1
    have h5 := hT.2.1.2.1
    refine am_goX 3 (show am_rc h 154 11 ∧ 1 ≤ 8 ∧ h.2.2.2.2 + am_al 186 ≤ 175 ∧ am_call am_cod 4 186 [.ref 154] h (fun vv h' => pz_S 8 (some .int) am_r234 4 Q 287 [(0, .ref 154), (1, .int (Int32.ofInt 0)), (2, .int w), (3, .int x3), (4, .int (nI n4)), (5, .int x5), (7, .int (nI k))] (vv.toList ++ [.int (nI k)]) h') from ⟨Or.inl ⟨by decide, ex_154 hP⟩, by decide, ex_lim hP rfl, am_call.up (d_186_r hP hT ?_) (by decide)⟩)
    refine am_goX 1 (show ((nI (dP C)) ≤ (nI k) → pz_S 8 (some .int) am_r234 4 Q 335 [(0, .ref 154), (1, .int (Int32.ofInt 0)), (2, .int w), (3, .int x3), (4, .int (nI n4)), (5, .int x5), (7, .int (nI k))] [] h) ∧ (¬ ((nI (dP C)) ≤ (nI k)) → pz_S 8 (some .int) am_r234 4 Q 290 [(0, .ref 154), (1, .int (Int32.ofInt 0)), (2, .int w), (3, .int x3), (4, .int (nI n4)), (5, .int x5), (7, .int (nI k))] [] h) from ⟨fun _ => ?_, fun hz => absurd (show nI (dP C) ≤ nI k from nI_le (by omega) (by omega)) hz⟩)
    exact sv_S2 sv2_234 (by intro q hq; simp only [List.mem_cons, List.not_mem_nil, or_false] at hq; rcases hq with rfl | rfl | rfl | rfl | rfl <;> rfl) (hZ _ hP hI hT hO hS hX hG)
  | succ m ih =>
    intro k s h hk hP hI hT hO hS hX hG hZ
    have h6 := hT.1.2.1
    have h5 := hT.2.1.2.1
    refine am_goX 3 (show am_rc h 154 11 ∧ 1 ≤ 8 ∧ h.2.2.2.2 + am_al 186 ≤ 175 ∧ am_call am_cod 4 186 [.ref 154] h (fun vv h' => pz_S 8 (some .int) am_r234 4 Q 287 [(0, .ref 154), (1, .int (Int32.ofInt 0)), (2, .int w), (3, .int x3), (4, .int (nI n4)), (5, .int x5), (7, .int (nI k))] (vv.toList ++ [.int (nI k)]) h') from ⟨Or.inl ⟨by decide, ex_154 hP⟩, by decide, ex_lim hP rfl, am_call.up (d_186_r hP hT ?_) (by decide)⟩)
    refine am_goX 1 (show ((nI (dP C)) ≤ (nI k) → pz_S 8 (some .int) am_r234 4 Q 335 [(0, .ref 154), (1, .int (Int32.ofInt 0)), (2, .int w), (3, .int x3), (4, .int (nI n4)), (5, .int x5), (7, .int (nI k))] [] h) ∧ (¬ ((nI (dP C)) ≤ (nI k)) → pz_S 8 (some .int) am_r234 4 Q 290 [(0, .ref 154), (1, .int (Int32.ofInt 0)), (2, .int w), (3, .int x3), (4, .int (nI n4)), (5, .int x5), (7, .int (nI k))] [] h) from ⟨fun hz => absurd hz (show ¬ (nI (dP C) ≤ nI k) by rw [nI_leI (by omega) (by omega)]; omega), fun _ => ?_⟩)
    refine am_goX 2 (show am_sh h 154 = some (11, 0) ∧ pz_S 8 (some .int) am_r234 4 Q 294 [(0, .ref 154), (1, .int (Int32.ofInt 0)), (2, .int w), (3, .int x3), (4, .int (nI n4)), (5, .int x5), (7, .int (nI k))] [am_rf (h.2.2.1 154 24)] h from ⟨ex_154 hP, ?_⟩)
    rw [show am_rf (h.2.2.1 154 24) = .ref 170 from congrArg am_rf (ex_r154_24 hP)]
    refine am_goX 7 (show (Value.int (((Int32.ofInt 0) + ((Int8.ofInt 8).toInt32)) + (nI k))).category = 1 ∧ (Value.ref 170).category = 1 ∧ ∃ jj nn : Nat, am_sh h 170 = some (13, nn) ∧ jj < nn ∧ ((Int32.ofInt 0) + ((Int8.ofInt 8).toInt32)) + (nI k) = nI jj ∧ pz_S 8 (some .int) am_r234 4 Q 303 [(0, .ref 154), (1, .int (Int32.ofInt 0)), (2, .int w), (3, .int x3), (4, .int (nI n4)), (5, .int x5), (7, .int (nI k))] [.int (h.1 170 jj), .int (((Int32.ofInt 0) + ((Int8.ofInt 8).toInt32)) + (nI k)), .ref 170] h from ⟨rfl, rfl, ⟨(8 + k), 1127, ex_170 hP, (by omega), (dn_a (dn_a rfl (show (Int8.ofInt 8).toInt32 = nI 8 by decide)) rfl), ?_⟩⟩)
    rw [show h.1 170 (8 + k) = s.2.2.2.1 k from (by rw [show (8 + k) = 0 + 8 + k by omega]; exact hS.2.2.1 k (by omega))]
    suffices key : ∀ (v195 : Int32), v195 = (if ¬ ((x5 >>> ((nI k) &&& 31)) &&& (Int32.ofInt 1)) = (Int32.ofInt 1) then Int32.ofInt 0 else x5 &&& (((Int32.ofInt 1) <<< ((nI k) &&& 31)) ^^^ (Int32.ofInt (-1)))) → pz_S 8 (some .int) am_r234 4 Q 327 [(0, .ref 154), (1, .int (Int32.ofInt 0)), (2, .int w), (3, .int x3), (4, .int (nI n4)), (5, .int x5), (7, .int (nI k))] [.int v195, .int (s.2.2.2.1 k), .int (((Int32.ofInt 0) + ((Int8.ofInt 8).toInt32)) + (nI k)), .ref 170] h by
      refine am_goX 7 (show (¬ ((x5 >>> ((nI k) &&& 31)) &&& (Int32.ofInt 1)) = (Int32.ofInt 1) → pz_S 8 (some .int) am_r234 4 Q 326 [(0, .ref 154), (1, .int (Int32.ofInt 0)), (2, .int w), (3, .int x3), (4, .int (nI n4)), (5, .int x5), (7, .int (nI k))] [.int (s.2.2.2.1 k), .int (((Int32.ofInt 0) + ((Int8.ofInt 8).toInt32)) + (nI k)), .ref 170] h) ∧ (¬ ¬ ((x5 >>> ((nI k) &&& 31)) &&& (Int32.ofInt 1)) = (Int32.ofInt 1) → pz_S 8 (some .int) am_r234 4 Q 314 [(0, .ref 154), (1, .int (Int32.ofInt 0)), (2, .int w), (3, .int x3), (4, .int (nI n4)), (5, .int x5), (7, .int (nI k))] [.int (s.2.2.2.1 k), .int (((Int32.ofInt 0) + ((Int8.ofInt 8).toInt32)) + (nI k)), .ref 170] h) from ⟨fun c194 => ?_, fun c194 => ?_⟩)
      · refine am_goX 1 (show pz_S 8 (some .int) am_r234 4 Q 327 [(0, .ref 154), (1, .int (Int32.ofInt 0)), (2, .int w), (3, .int x3), (4, .int (nI n4)), (5, .int x5), (7, .int (nI k))] [.int (Int32.ofInt 0), .int (s.2.2.2.1 k), .int (((Int32.ofInt 0) + ((Int8.ofInt 8).toInt32)) + (nI k)), .ref 170] h from ?_)
        exact sv_S2 sv2_234 (by intro q hq; simp only [List.mem_cons, List.not_mem_nil, or_false] at hq; rcases hq with rfl | rfl | rfl | rfl | rfl | rfl | rfl <;> rfl) (key _ (if_pos c194).symm)
      · refine am_goX 8 (show pz_S 8 (some .int) am_r234 4 Q 327 [(0, .ref 154), (1, .int (Int32.ofInt 0)), (2, .int w), (3, .int x3), (4, .int (nI n4)), (5, .int x5), (7, .int (nI k))] [.int (x5 &&& (((Int32.ofInt 1) <<< ((nI k) &&& 31)) ^^^ (Int32.ofInt (-1)))), .int (s.2.2.2.1 k), .int (((Int32.ofInt 0) + ((Int8.ofInt 8).toInt32)) + (nI k)), .ref 170] h from ?_)
        exact sv_S2 sv2_234 (by intro q hq; simp only [List.mem_cons, List.not_mem_nil, or_false] at hq; rcases hq with rfl | rfl | rfl | rfl | rfl | rfl | rfl <;> rfl) (key _ (if_neg c194).symm)
    intro v195 e196
    subst e196
    refine am_goX 2 (show ∃ jj nn : Nat, am_so h 170 = some (13, nn) ∧ jj < nn ∧ ((Int32.ofInt 0) + ((Int8.ofInt 8).toInt32)) + (nI k) = nI jj ∧ pz_S 8 (some .int) am_r234 4 Q 329 [(0, .ref 154), (1, .int (Int32.ofInt 0)), (2, .int w), (3, .int x3), (4, .int (nI n4)), (5, .int x5), (7, .int (nI k))] [] (am_wI h 170 jj ((s.2.2.2.1 k) ||| (if ¬ ((x5 >>> ((nI k) &&& 31)) &&& (Int32.ofInt 1)) = (Int32.ofInt 1) then Int32.ofInt 0 else x5 &&& (((Int32.ofInt 1) <<< ((nI k) &&& 31)) ^^^ (Int32.ofInt (-1)))))) from ⟨(8 + k), 1127, ex_w170 hP, (by omega), (dn_a (dn_a rfl (show (Int8.ofInt 8).toInt32 = nI 8 by decide)) rfl), ?_⟩)
    have f198 : ex_P (am_wI h 170 (8 + k) ((s.2.2.2.1 k) ||| (if ¬ ((x5 >>> ((nI k) &&& 31)) &&& (Int32.ofInt 1)) = (Int32.ofInt 1) then Int32.ofInt 0 else x5 &&& (((Int32.ofInt 1) <<< ((nI k) &&& 31)) ^^^ (Int32.ofInt (-1)))))) := hP
    have f199 : cI C := hI
    have f200 : tR C (am_wI h 170 (8 + k) ((s.2.2.2.1 k) ||| (if ¬ ((x5 >>> ((nI k) &&& 31)) &&& (Int32.ofInt 1)) = (Int32.ofInt 1) then Int32.ofInt 0 else x5 &&& (((Int32.ofInt 1) <<< ((nI k) &&& 31)) ^^^ (Int32.ofInt (-1)))))) := tR_w (by omega) hT
    have f201 : ∀ e, e < dE C → (am_wI h 170 (8 + k) ((s.2.2.2.1 k) ||| (if ¬ ((x5 >>> ((nI k) &&& 31)) &&& (Int32.ofInt 1)) = (Int32.ofInt 1) then Int32.ofInt 0 else x5 &&& (((Int32.ofInt 1) <<< ((nI k) &&& 31)) ^^^ (Int32.ofInt (-1)))))).1 172 e = dW V e := on_w (by omega) hO
    have f202 : sR 0 (dP C) (sSM s k ((s.2.2.2.1 k) ||| (if ¬ ((x5 >>> ((nI k) &&& 31)) &&& (Int32.ofInt 1)) = (Int32.ofInt 1) then Int32.ofInt 0 else x5 &&& (((Int32.ofInt 1) <<< ((nI k) &&& 31)) ^^^ (Int32.ofInt (-1)))))) (am_wI h 170 (8 + k) ((s.2.2.2.1 k) ||| (if ¬ ((x5 >>> ((nI k) &&& 31)) &&& (Int32.ofInt 1)) = (Int32.ofInt 1) then Int32.ofInt 0 else x5 &&& (((Int32.ofInt 1) <<< ((nI k) &&& 31)) ^^^ (Int32.ofInt (-1)))))) := sR_wM (i := k) (by omega) (by omega) hS
    have f203 : fR h0 (am_wI h 170 (8 + k) ((s.2.2.2.1 k) ||| (if ¬ ((x5 >>> ((nI k) &&& 31)) &&& (Int32.ofInt 1)) = (Int32.ofInt 1) then Int32.ofInt 0 else x5 &&& (((Int32.ofInt 1) <<< ((nI k) &&& 31)) ^^^ (Int32.ofInt (-1)))))) := fR_w (by omega) hX
    have f204 : (am_wI h 170 (8 + k) ((s.2.2.2.1 k) ||| (if ¬ ((x5 >>> ((nI k) &&& 31)) &&& (Int32.ofInt 1)) = (Int32.ofInt 1) then Int32.ofInt 0 else x5 &&& (((Int32.ofInt 1) <<< ((nI k) &&& 31)) ^^^ (Int32.ofInt (-1)))))).1 154 28 = gg := (em_wn _ _ (by omega)).trans hG
    generalize am_wI h 170 (8 + k) ((s.2.2.2.1 k) ||| (if ¬ ((x5 >>> ((nI k) &&& 31)) &&& (Int32.ofInt 1)) = (Int32.ofInt 1) then Int32.ofInt 0 else x5 &&& (((Int32.ofInt 1) <<< ((nI k) &&& 31)) ^^^ (Int32.ofInt (-1))))) = h197 at f198 f199 f200 f201 f202 f203 f204 ⊢
    refine am_goX 2 (show 7 < 8 ∧ pz_S 8 (some .int) am_r234 4 Q 281 [(7, .int ((nI k) + (Int32.ofInt 1))), (0, .ref 154), (1, .int (Int32.ofInt 0)), (2, .int w), (3, .int x3), (4, .int (nI n4)), (5, .int x5)] [] h197 from ⟨by decide, ?_⟩)
    rw [show (nI k) + (Int32.ofInt 1) = nI (k + 1) from (dn_a rfl rfl)]
    exact sv_S2 sv2_234 (by intro q hq; simp only [List.mem_cons, List.not_mem_nil, or_false] at hq; rcases hq with rfl | rfl | rfl | rfl | rfl | rfl | rfl <;> rfl) (ih (k + 1) (sSM s k ((s.2.2.2.1 k) ||| (if ¬ ((x5 >>> ((nI k) &&& 31)) &&& (Int32.ofInt 1)) = (Int32.ofInt 1) then Int32.ofInt 0 else x5 &&& (((Int32.ofInt 1) <<< ((nI k) &&& 31)) ^^^ (Int32.ofInt (-1)))))) _ (by omega) f198 f199 f200 f201 f202 f203 f204 hZ)
def d_234_132 (C V : sp_C) (gg w : Int32) : Nat → Nat → Int32 → dS → Int32 × dS
  | 0, _, a3, s => (a3, s)
  | m + 1, k, a3, s => d_234_132 C V gg w m (k + 1) (a3 ||| (if (if (d_235 (d_234_147 C V s gg w k (dP C) 0 (Int32.ofInt 0))) < (dN C k) then Int32.ofInt 0 else Int32.ofInt 1) = 0 then Int32.ofInt 0 else (Int32.ofInt 1) <<< ((nI k) &&& 31))) (d_234_281 C (d_234_147 C V s gg w k (dP C) 0 (Int32.ofInt 0)) (dP C) 0 (sSH (sSA s k (d_234_147 C V s gg w k (dP C) 0 (Int32.ofInt 0))) k (((sSA s k (d_234_147 C V s gg w k (dP C) 0 (Int32.ofInt 0))).2.2.2.2.1 k) + (if (if (d_235 (d_234_147 C V s gg w k (dP C) 0 (Int32.ofInt 0))) < (dN C k) then Int32.ofInt 0 else Int32.ofInt 1) = 0 then Int32.ofInt 0 else Int32.ofInt 1))))
theorem d_234_132_g0 : ∀ (m k : Nat) (a3 : Int32) (s : dS) (h : am_H), k + m = dE C → (ex_P h) → (cI C) → (tR C h) → (∀ e, e < dE C → h.1 172 e = dW V e) → (sR 0 (dP C) s h) → (fR h0 h) → (h.1 154 28 = gg) → (∀ h1, (ex_P h1) → (cI C) → (tR C h1) → (∀ e, e < dE C → h1.1 172 e = dW V e) → (sR 0 (dP C) ((d_234_132 C V gg w m k a3 s).2) h1) → (fR h0 h1) → (h1.1 154 28 = gg) → pz_S 8 (some .int) am_r234 4 Q 341 [(3, .int ((d_234_132 C V gg w m k a3 s).1))] [] h1) → pz_S 8 (some .int) am_r234 4 Q 132 [(0, .ref 154), (1, .int (Int32.ofInt 0)), (2, .int w), (3, .int a3), (4, .int (nI k))] [] h := by
  intro m
  induction m with
  | zero =>
    intro k a3 s h hk hP hI hT hO hS hX hG hZ
    have h6 := hT.1.2.1
    have h5 := hT.2.1.2.1
    refine am_goX 3 (show am_rc h 154 11 ∧ 1 ≤ 8 ∧ h.2.2.2.2 + am_al 183 ≤ 175 ∧ am_call am_cod 4 183 [.ref 154] h (fun vv h' => pz_S 8 (some .int) am_r234 4 Q 138 [(0, .ref 154), (1, .int (Int32.ofInt 0)), (2, .int w), (3, .int a3), (4, .int (nI k))] (vv.toList ++ [.int (nI k)]) h') from ⟨Or.inl ⟨by decide, ex_154 hP⟩, by decide, ex_lim hP rfl, am_call.up (d_183_r hP hT ?_) (by decide)⟩)
    refine am_goX 1 (show ((nI (dE C)) ≤ (nI k) → pz_S 8 (some .int) am_r234 4 Q 341 [(0, .ref 154), (1, .int (Int32.ofInt 0)), (2, .int w), (3, .int a3), (4, .int (nI k))] [] h) ∧ (¬ ((nI (dE C)) ≤ (nI k)) → pz_S 8 (some .int) am_r234 4 Q 141 [(0, .ref 154), (1, .int (Int32.ofInt 0)), (2, .int w), (3, .int a3), (4, .int (nI k))] [] h) from ⟨fun _ => ?_, fun hz => absurd (show nI (dE C) ≤ nI k from nI_le (by omega) (by omega)) hz⟩)
    exact sv_S2 sv2_234 (by intro q hq; simp only [List.mem_cons, List.not_mem_nil, or_false] at hq; rcases hq with rfl <;> rfl) (hZ _ hP hI hT hO hS hX hG)
  | succ m ih =>
    intro k a3 s h hk hP hI hT hO hS hX hG hZ
    have h6 := hT.1.2.1
    have h5 := hT.2.1.2.1
    refine am_goX 3 (show am_rc h 154 11 ∧ 1 ≤ 8 ∧ h.2.2.2.2 + am_al 183 ≤ 175 ∧ am_call am_cod 4 183 [.ref 154] h (fun vv h' => pz_S 8 (some .int) am_r234 4 Q 138 [(0, .ref 154), (1, .int (Int32.ofInt 0)), (2, .int w), (3, .int a3), (4, .int (nI k))] (vv.toList ++ [.int (nI k)]) h') from ⟨Or.inl ⟨by decide, ex_154 hP⟩, by decide, ex_lim hP rfl, am_call.up (d_183_r hP hT ?_) (by decide)⟩)
    refine am_goX 1 (show ((nI (dE C)) ≤ (nI k) → pz_S 8 (some .int) am_r234 4 Q 341 [(0, .ref 154), (1, .int (Int32.ofInt 0)), (2, .int w), (3, .int a3), (4, .int (nI k))] [] h) ∧ (¬ ((nI (dE C)) ≤ (nI k)) → pz_S 8 (some .int) am_r234 4 Q 141 [(0, .ref 154), (1, .int (Int32.ofInt 0)), (2, .int w), (3, .int a3), (4, .int (nI k))] [] h) from ⟨fun hz => absurd hz (show ¬ (nI (dE C) ≤ nI k) by rw [nI_leI (by omega) (by omega)]; omega), fun _ => ?_⟩)
    refine am_goX 4 (show 5 < 8 ∧ 6 < 8 ∧ pz_S 8 (some .int) am_r234 4 Q 147 [(6, .int (Int32.ofInt 0)), (5, .int (Int32.ofInt 0)), (0, .ref 154), (1, .int (Int32.ofInt 0)), (2, .int w), (3, .int a3), (4, .int (nI k))] [] h from ⟨by decide, by decide, ?_⟩)
    refine sv_S2 sv2_234 (by intro q hq; simp only [List.mem_cons, List.not_mem_nil, or_false] at hq; rcases hq with rfl | rfl | rfl | rfl | rfl | rfl | rfl <;> rfl) (d_234_147_g0 a3 k hP hI hT hO hS hX hG (by omega) (dP C) 0 (Int32.ofInt 0) (by omega) ?_)
    refine am_goX 2 (show am_sh h 154 = some (11, 0) ∧ pz_S 8 (some .int) am_r234 4 Q 205 [(0, .ref 154), (1, .int (Int32.ofInt 0)), (2, .int w), (3, .int a3), (4, .int (nI k)), (5, .int (d_234_147 C V s gg w k (dP C) 0 (Int32.ofInt 0)))] [am_rf (h.2.2.1 154 24)] h from ⟨ex_154 hP, ?_⟩)
    rw [show am_rf (h.2.2.1 154 24) = .ref 170 from congrArg am_rf (ex_r154_24 hP)]
    refine am_goX 7 (show ∃ jj nn : Nat, am_so h 170 = some (13, nn) ∧ jj < nn ∧ ((Int32.ofInt 0) + ((Int8.ofInt 19).toInt32)) + (nI k) = nI jj ∧ pz_S 8 (some .int) am_r234 4 Q 215 [(0, .ref 154), (1, .int (Int32.ofInt 0)), (2, .int w), (3, .int a3), (4, .int (nI k)), (5, .int (d_234_147 C V s gg w k (dP C) 0 (Int32.ofInt 0)))] [] (am_wI h 170 jj (d_234_147 C V s gg w k (dP C) 0 (Int32.ofInt 0))) from ⟨(19 + k), 1127, ex_w170 hP, (by omega), (dn_a (dn_a rfl (show (Int8.ofInt 19).toInt32 = nI 19 by decide)) rfl), ?_⟩)
    have f164 : ex_P (am_wI h 170 (19 + k) (d_234_147 C V s gg w k (dP C) 0 (Int32.ofInt 0))) := hP
    have f165 : cI C := hI
    have f166 : tR C (am_wI h 170 (19 + k) (d_234_147 C V s gg w k (dP C) 0 (Int32.ofInt 0))) := tR_w (by omega) hT
    have f167 : ∀ e, e < dE C → (am_wI h 170 (19 + k) (d_234_147 C V s gg w k (dP C) 0 (Int32.ofInt 0))).1 172 e = dW V e := on_w (by omega) hO
    have f168 : sR 0 (dP C) (sSA s k (d_234_147 C V s gg w k (dP C) 0 (Int32.ofInt 0))) (am_wI h 170 (19 + k) (d_234_147 C V s gg w k (dP C) 0 (Int32.ofInt 0))) := sR_wA (i := k) (by omega) (by omega) hS
    have f169 : fR h0 (am_wI h 170 (19 + k) (d_234_147 C V s gg w k (dP C) 0 (Int32.ofInt 0))) := fR_w (by omega) hX
    have f170 : (am_wI h 170 (19 + k) (d_234_147 C V s gg w k (dP C) 0 (Int32.ofInt 0))).1 154 28 = gg := (em_wn _ _ (by omega)).trans hG
    generalize am_wI h 170 (19 + k) (d_234_147 C V s gg w k (dP C) 0 (Int32.ofInt 0)) = h163 at f164 f165 f166 f167 f168 f169 f170 ⊢
    refine am_goX 2 (show 0 ≤ 8 ∧ h163.2.2.2.2 + am_al 235 ≤ 175 ∧ am_call am_cod 4 235 [.int (d_234_147 C V s gg w k (dP C) 0 (Int32.ofInt 0))] h163 (fun vv h' => pz_S 8 (some .int) am_r234 4 Q 220 [(0, .ref 154), (1, .int (Int32.ofInt 0)), (2, .int w), (3, .int a3), (4, .int (nI k)), (5, .int (d_234_147 C V s gg w k (dP C) 0 (Int32.ofInt 0)))] (vv.toList ++ []) h') from ⟨by decide, ex_lim f164 rfl, am_call.up (d_235_w f164 ?_) (by decide)⟩)
    refine am_goX 4 (show am_rc h163 154 11 ∧ 1 ≤ 8 ∧ h163.2.2.2.2 + am_al 184 ≤ 175 ∧ am_call am_cod 4 184 [.ref 154, .int (nI k), .int (Int32.ofInt 1)] h163 (fun vv h' => pz_S 8 (some .int) am_r234 4 Q 227 [(0, .ref 154), (1, .int (Int32.ofInt 0)), (2, .int w), (3, .int a3), (4, .int (nI k)), (5, .int (d_234_147 C V s gg w k (dP C) 0 (Int32.ofInt 0)))] (vv.toList ++ [.int (d_235 (d_234_147 C V s gg w k (dP C) 0 (Int32.ofInt 0)))]) h') from ⟨Or.inl ⟨by decide, ex_154 f164⟩, by decide, ex_lim f164 rfl, am_call.up (d_184_r1 f164 f166 (by omega) ?_) (by decide)⟩)
    suffices key : ∀ (v172 : Int32), v172 = (if (d_235 (d_234_147 C V s gg w k (dP C) 0 (Int32.ofInt 0))) < (dN C k) then Int32.ofInt 0 else Int32.ofInt 1) → pz_S 8 (some .int) am_r234 4 Q 235 [(0, .ref 154), (1, .int (Int32.ofInt 0)), (2, .int w), (3, .int a3), (4, .int (nI k)), (5, .int (d_234_147 C V s gg w k (dP C) 0 (Int32.ofInt 0)))] [.int v172] h163 by
      refine am_goX 1 (show ((d_235 (d_234_147 C V s gg w k (dP C) 0 (Int32.ofInt 0))) < (dN C k) → pz_S 8 (some .int) am_r234 4 Q 234 [(0, .ref 154), (1, .int (Int32.ofInt 0)), (2, .int w), (3, .int a3), (4, .int (nI k)), (5, .int (d_234_147 C V s gg w k (dP C) 0 (Int32.ofInt 0)))] [] h163) ∧ (¬ ((d_235 (d_234_147 C V s gg w k (dP C) 0 (Int32.ofInt 0))) < (dN C k)) → pz_S 8 (some .int) am_r234 4 Q 230 [(0, .ref 154), (1, .int (Int32.ofInt 0)), (2, .int w), (3, .int a3), (4, .int (nI k)), (5, .int (d_234_147 C V s gg w k (dP C) 0 (Int32.ofInt 0)))] [] h163) from ⟨fun c171 => ?_, fun c171 => ?_⟩)
      · refine am_goX 1 (show pz_S 8 (some .int) am_r234 4 Q 235 [(0, .ref 154), (1, .int (Int32.ofInt 0)), (2, .int w), (3, .int a3), (4, .int (nI k)), (5, .int (d_234_147 C V s gg w k (dP C) 0 (Int32.ofInt 0)))] [.int (Int32.ofInt 0)] h163 from ?_)
        exact sv_S2 sv2_234 (by intro q hq; simp only [List.mem_cons, List.not_mem_nil, or_false] at hq; rcases hq with rfl | rfl | rfl | rfl | rfl | rfl <;> rfl) (key _ (if_pos c171).symm)
      · refine am_goX 2 (show pz_S 8 (some .int) am_r234 4 Q 235 [(0, .ref 154), (1, .int (Int32.ofInt 0)), (2, .int w), (3, .int a3), (4, .int (nI k)), (5, .int (d_234_147 C V s gg w k (dP C) 0 (Int32.ofInt 0)))] [.int (Int32.ofInt 1)] h163 from ?_)
        exact sv_S2 sv2_234 (by intro q hq; simp only [List.mem_cons, List.not_mem_nil, or_false] at hq; rcases hq with rfl | rfl | rfl | rfl | rfl | rfl <;> rfl) (key _ (if_neg c171).symm)
    intro v172 e173
    subst e173
    refine am_goX 3 (show 6 < 8 ∧ am_sh h163 154 = some (11, 0) ∧ pz_S 8 (some .int) am_r234 4 Q 241 [(6, .int (if (d_235 (d_234_147 C V s gg w k (dP C) 0 (Int32.ofInt 0))) < (dN C k) then Int32.ofInt 0 else Int32.ofInt 1)), (0, .ref 154), (1, .int (Int32.ofInt 0)), (2, .int w), (3, .int a3), (4, .int (nI k)), (5, .int (d_234_147 C V s gg w k (dP C) 0 (Int32.ofInt 0)))] [am_rf (h163.2.2.1 154 24)] h163 from ⟨by decide, ex_154 f164, ?_⟩)
    rw [show am_rf (h163.2.2.1 154 24) = .ref 170 from congrArg am_rf (ex_r154_24 f164)]
    refine am_goX 7 (show (Value.int (((Int32.ofInt 0) + ((Int8.ofInt 14).toInt32)) + (nI k))).category = 1 ∧ (Value.ref 170).category = 1 ∧ ∃ jj nn : Nat, am_sh h163 170 = some (13, nn) ∧ jj < nn ∧ ((Int32.ofInt 0) + ((Int8.ofInt 14).toInt32)) + (nI k) = nI jj ∧ pz_S 8 (some .int) am_r234 4 Q 250 [(6, .int (if (d_235 (d_234_147 C V s gg w k (dP C) 0 (Int32.ofInt 0))) < (dN C k) then Int32.ofInt 0 else Int32.ofInt 1)), (0, .ref 154), (1, .int (Int32.ofInt 0)), (2, .int w), (3, .int a3), (4, .int (nI k)), (5, .int (d_234_147 C V s gg w k (dP C) 0 (Int32.ofInt 0)))] [.int (h163.1 170 jj), .int (((Int32.ofInt 0) + ((Int8.ofInt 14).toInt32)) + (nI k)), .ref 170] h163 from ⟨rfl, rfl, ⟨(14 + k), 1127, ex_170 f164, (by omega), (dn_a (dn_a rfl (show (Int8.ofInt 14).toInt32 = nI 14 by decide)) rfl), ?_⟩⟩)
    rw [show h163.1 170 (14 + k) = (sSA s k (d_234_147 C V s gg w k (dP C) 0 (Int32.ofInt 0))).2.2.2.2.1 k from (by rw [show (14 + k) = 0 + 14 + k by omega]; exact (f168.2.2.2 k (by omega)).1)]
    suffices key : ∀ (v175 : Int32), v175 = (if (if (d_235 (d_234_147 C V s gg w k (dP C) 0 (Int32.ofInt 0))) < (dN C k) then Int32.ofInt 0 else Int32.ofInt 1) = 0 then Int32.ofInt 0 else Int32.ofInt 1) → pz_S 8 (some .int) am_r234 4 Q 260 [(0, .ref 154), (1, .int (Int32.ofInt 0)), (2, .int w), (3, .int a3), (4, .int (nI k)), (5, .int (d_234_147 C V s gg w k (dP C) 0 (Int32.ofInt 0))), (6, .int (if (d_235 (d_234_147 C V s gg w k (dP C) 0 (Int32.ofInt 0))) < (dN C k) then Int32.ofInt 0 else Int32.ofInt 1))] [.int v175, .int ((sSA s k (d_234_147 C V s gg w k (dP C) 0 (Int32.ofInt 0))).2.2.2.2.1 k), .int (((Int32.ofInt 0) + ((Int8.ofInt 14).toInt32)) + (nI k)), .ref 170] h163 by
      refine am_goX 2 (show ((if (d_235 (d_234_147 C V s gg w k (dP C) 0 (Int32.ofInt 0))) < (dN C k) then Int32.ofInt 0 else Int32.ofInt 1) = 0 → pz_S 8 (some .int) am_r234 4 Q 259 [(6, .int (if (d_235 (d_234_147 C V s gg w k (dP C) 0 (Int32.ofInt 0))) < (dN C k) then Int32.ofInt 0 else Int32.ofInt 1)), (0, .ref 154), (1, .int (Int32.ofInt 0)), (2, .int w), (3, .int a3), (4, .int (nI k)), (5, .int (d_234_147 C V s gg w k (dP C) 0 (Int32.ofInt 0)))] [.int ((sSA s k (d_234_147 C V s gg w k (dP C) 0 (Int32.ofInt 0))).2.2.2.2.1 k), .int (((Int32.ofInt 0) + ((Int8.ofInt 14).toInt32)) + (nI k)), .ref 170] h163) ∧ (¬ ((if (d_235 (d_234_147 C V s gg w k (dP C) 0 (Int32.ofInt 0))) < (dN C k) then Int32.ofInt 0 else Int32.ofInt 1) = 0) → pz_S 8 (some .int) am_r234 4 Q 255 [(6, .int (if (d_235 (d_234_147 C V s gg w k (dP C) 0 (Int32.ofInt 0))) < (dN C k) then Int32.ofInt 0 else Int32.ofInt 1)), (0, .ref 154), (1, .int (Int32.ofInt 0)), (2, .int w), (3, .int a3), (4, .int (nI k)), (5, .int (d_234_147 C V s gg w k (dP C) 0 (Int32.ofInt 0)))] [.int ((sSA s k (d_234_147 C V s gg w k (dP C) 0 (Int32.ofInt 0))).2.2.2.2.1 k), .int (((Int32.ofInt 0) + ((Int8.ofInt 14).toInt32)) + (nI k)), .ref 170] h163) from ⟨fun c174 => ?_, fun c174 => ?_⟩)
      · refine am_goX 1 (show pz_S 8 (some .int) am_r234 4 Q 260 [(6, .int (if (d_235 (d_234_147 C V s gg w k (dP C) 0 (Int32.ofInt 0))) < (dN C k) then Int32.ofInt 0 else Int32.ofInt 1)), (0, .ref 154), (1, .int (Int32.ofInt 0)), (2, .int w), (3, .int a3), (4, .int (nI k)), (5, .int (d_234_147 C V s gg w k (dP C) 0 (Int32.ofInt 0)))] [.int (Int32.ofInt 0), .int ((sSA s k (d_234_147 C V s gg w k (dP C) 0 (Int32.ofInt 0))).2.2.2.2.1 k), .int (((Int32.ofInt 0) + ((Int8.ofInt 14).toInt32)) + (nI k)), .ref 170] h163 from ?_)
        exact sv_S2 sv2_234 (by intro q hq; simp only [List.mem_cons, List.not_mem_nil, or_false] at hq; rcases hq with rfl | rfl | rfl | rfl | rfl | rfl | rfl <;> rfl) (key _ (if_pos c174).symm)
      · refine am_goX 2 (show pz_S 8 (some .int) am_r234 4 Q 260 [(6, .int (if (d_235 (d_234_147 C V s gg w k (dP C) 0 (Int32.ofInt 0))) < (dN C k) then Int32.ofInt 0 else Int32.ofInt 1)), (0, .ref 154), (1, .int (Int32.ofInt 0)), (2, .int w), (3, .int a3), (4, .int (nI k)), (5, .int (d_234_147 C V s gg w k (dP C) 0 (Int32.ofInt 0)))] [.int (Int32.ofInt 1), .int ((sSA s k (d_234_147 C V s gg w k (dP C) 0 (Int32.ofInt 0))).2.2.2.2.1 k), .int (((Int32.ofInt 0) + ((Int8.ofInt 14).toInt32)) + (nI k)), .ref 170] h163 from ?_)
        exact sv_S2 sv2_234 (by intro q hq; simp only [List.mem_cons, List.not_mem_nil, or_false] at hq; rcases hq with rfl | rfl | rfl | rfl | rfl | rfl | rfl <;> rfl) (key _ (if_neg c174).symm)
    intro v175 e176
    subst e176
    refine am_goX 2 (show ∃ jj nn : Nat, am_so h163 170 = some (13, nn) ∧ jj < nn ∧ ((Int32.ofInt 0) + ((Int8.ofInt 14).toInt32)) + (nI k) = nI jj ∧ pz_S 8 (some .int) am_r234 4 Q 262 [(0, .ref 154), (1, .int (Int32.ofInt 0)), (2, .int w), (3, .int a3), (4, .int (nI k)), (5, .int (d_234_147 C V s gg w k (dP C) 0 (Int32.ofInt 0))), (6, .int (if (d_235 (d_234_147 C V s gg w k (dP C) 0 (Int32.ofInt 0))) < (dN C k) then Int32.ofInt 0 else Int32.ofInt 1))] [] (am_wI h163 170 jj (((sSA s k (d_234_147 C V s gg w k (dP C) 0 (Int32.ofInt 0))).2.2.2.2.1 k) + (if (if (d_235 (d_234_147 C V s gg w k (dP C) 0 (Int32.ofInt 0))) < (dN C k) then Int32.ofInt 0 else Int32.ofInt 1) = 0 then Int32.ofInt 0 else Int32.ofInt 1))) from ⟨(14 + k), 1127, ex_w170 f164, (by omega), (dn_a (dn_a rfl (show (Int8.ofInt 14).toInt32 = nI 14 by decide)) rfl), ?_⟩)
    have f178 : ex_P (am_wI h163 170 (14 + k) (((sSA s k (d_234_147 C V s gg w k (dP C) 0 (Int32.ofInt 0))).2.2.2.2.1 k) + (if (if (d_235 (d_234_147 C V s gg w k (dP C) 0 (Int32.ofInt 0))) < (dN C k) then Int32.ofInt 0 else Int32.ofInt 1) = 0 then Int32.ofInt 0 else Int32.ofInt 1))) := f164
    have f179 : cI C := f165
    have f180 : tR C (am_wI h163 170 (14 + k) (((sSA s k (d_234_147 C V s gg w k (dP C) 0 (Int32.ofInt 0))).2.2.2.2.1 k) + (if (if (d_235 (d_234_147 C V s gg w k (dP C) 0 (Int32.ofInt 0))) < (dN C k) then Int32.ofInt 0 else Int32.ofInt 1) = 0 then Int32.ofInt 0 else Int32.ofInt 1))) := tR_w (by omega) f166
    have f181 : ∀ e, e < dE C → (am_wI h163 170 (14 + k) (((sSA s k (d_234_147 C V s gg w k (dP C) 0 (Int32.ofInt 0))).2.2.2.2.1 k) + (if (if (d_235 (d_234_147 C V s gg w k (dP C) 0 (Int32.ofInt 0))) < (dN C k) then Int32.ofInt 0 else Int32.ofInt 1) = 0 then Int32.ofInt 0 else Int32.ofInt 1))).1 172 e = dW V e := on_w (by omega) f167
    have f182 : sR 0 (dP C) (sSH (sSA s k (d_234_147 C V s gg w k (dP C) 0 (Int32.ofInt 0))) k (((sSA s k (d_234_147 C V s gg w k (dP C) 0 (Int32.ofInt 0))).2.2.2.2.1 k) + (if (if (d_235 (d_234_147 C V s gg w k (dP C) 0 (Int32.ofInt 0))) < (dN C k) then Int32.ofInt 0 else Int32.ofInt 1) = 0 then Int32.ofInt 0 else Int32.ofInt 1))) (am_wI h163 170 (14 + k) (((sSA s k (d_234_147 C V s gg w k (dP C) 0 (Int32.ofInt 0))).2.2.2.2.1 k) + (if (if (d_235 (d_234_147 C V s gg w k (dP C) 0 (Int32.ofInt 0))) < (dN C k) then Int32.ofInt 0 else Int32.ofInt 1) = 0 then Int32.ofInt 0 else Int32.ofInt 1))) := sR_wH (i := k) (by omega) (by omega) f168
    have f183 : fR h0 (am_wI h163 170 (14 + k) (((sSA s k (d_234_147 C V s gg w k (dP C) 0 (Int32.ofInt 0))).2.2.2.2.1 k) + (if (if (d_235 (d_234_147 C V s gg w k (dP C) 0 (Int32.ofInt 0))) < (dN C k) then Int32.ofInt 0 else Int32.ofInt 1) = 0 then Int32.ofInt 0 else Int32.ofInt 1))) := fR_w (by omega) f169
    have f184 : (am_wI h163 170 (14 + k) (((sSA s k (d_234_147 C V s gg w k (dP C) 0 (Int32.ofInt 0))).2.2.2.2.1 k) + (if (if (d_235 (d_234_147 C V s gg w k (dP C) 0 (Int32.ofInt 0))) < (dN C k) then Int32.ofInt 0 else Int32.ofInt 1) = 0 then Int32.ofInt 0 else Int32.ofInt 1))).1 154 28 = gg := (em_wn _ _ (by omega)).trans f170
    generalize am_wI h163 170 (14 + k) (((sSA s k (d_234_147 C V s gg w k (dP C) 0 (Int32.ofInt 0))).2.2.2.2.1 k) + (if (if (d_235 (d_234_147 C V s gg w k (dP C) 0 (Int32.ofInt 0))) < (dN C k) then Int32.ofInt 0 else Int32.ofInt 1) = 0 then Int32.ofInt 0 else Int32.ofInt 1)) = h177 at f178 f179 f180 f181 f182 f183 f184 ⊢
    suffices key : ∀ (v186 : Int32), v186 = (if (if (d_235 (d_234_147 C V s gg w k (dP C) 0 (Int32.ofInt 0))) < (dN C k) then Int32.ofInt 0 else Int32.ofInt 1) = 0 then Int32.ofInt 0 else (Int32.ofInt 1) <<< ((nI k) &&& 31)) → pz_S 8 (some .int) am_r234 4 Q 276 [(0, .ref 154), (1, .int (Int32.ofInt 0)), (2, .int w), (4, .int (nI k)), (5, .int (d_234_147 C V s gg w k (dP C) 0 (Int32.ofInt 0)))] [.int v186, .int a3] h177 by
      refine am_goX 3 (show ((if (d_235 (d_234_147 C V s gg w k (dP C) 0 (Int32.ofInt 0))) < (dN C k) then Int32.ofInt 0 else Int32.ofInt 1) = 0 → pz_S 8 (some .int) am_r234 4 Q 275 [(0, .ref 154), (1, .int (Int32.ofInt 0)), (2, .int w), (3, .int a3), (4, .int (nI k)), (5, .int (d_234_147 C V s gg w k (dP C) 0 (Int32.ofInt 0))), (6, .int (if (d_235 (d_234_147 C V s gg w k (dP C) 0 (Int32.ofInt 0))) < (dN C k) then Int32.ofInt 0 else Int32.ofInt 1))] [.int a3] h177) ∧ (¬ ((if (d_235 (d_234_147 C V s gg w k (dP C) 0 (Int32.ofInt 0))) < (dN C k) then Int32.ofInt 0 else Int32.ofInt 1) = 0) → pz_S 8 (some .int) am_r234 4 Q 268 [(0, .ref 154), (1, .int (Int32.ofInt 0)), (2, .int w), (3, .int a3), (4, .int (nI k)), (5, .int (d_234_147 C V s gg w k (dP C) 0 (Int32.ofInt 0))), (6, .int (if (d_235 (d_234_147 C V s gg w k (dP C) 0 (Int32.ofInt 0))) < (dN C k) then Int32.ofInt 0 else Int32.ofInt 1))] [.int a3] h177) from ⟨fun c185 => ?_, fun c185 => ?_⟩)
      · refine am_goX 1 (show pz_S 8 (some .int) am_r234 4 Q 276 [(0, .ref 154), (1, .int (Int32.ofInt 0)), (2, .int w), (3, .int a3), (4, .int (nI k)), (5, .int (d_234_147 C V s gg w k (dP C) 0 (Int32.ofInt 0))), (6, .int (if (d_235 (d_234_147 C V s gg w k (dP C) 0 (Int32.ofInt 0))) < (dN C k) then Int32.ofInt 0 else Int32.ofInt 1))] [.int (Int32.ofInt 0), .int a3] h177 from ?_)
        exact sv_S2 sv2_234 (by intro q hq; simp only [List.mem_cons, List.not_mem_nil, or_false] at hq; rcases hq with rfl | rfl | rfl | rfl | rfl <;> rfl) (key _ (if_pos c185).symm)
      · refine am_goX 4 (show pz_S 8 (some .int) am_r234 4 Q 276 [(0, .ref 154), (1, .int (Int32.ofInt 0)), (2, .int w), (3, .int a3), (4, .int (nI k)), (5, .int (d_234_147 C V s gg w k (dP C) 0 (Int32.ofInt 0))), (6, .int (if (d_235 (d_234_147 C V s gg w k (dP C) 0 (Int32.ofInt 0))) < (dN C k) then Int32.ofInt 0 else Int32.ofInt 1))] [.int ((Int32.ofInt 1) <<< ((nI k) &&& 31)), .int a3] h177 from ?_)
        exact sv_S2 sv2_234 (by intro q hq; simp only [List.mem_cons, List.not_mem_nil, or_false] at hq; rcases hq with rfl | rfl | rfl | rfl | rfl <;> rfl) (key _ (if_neg c185).symm)
    intro v186 e187
    subst e187
    refine am_goX 4 (show 3 < 8 ∧ 7 < 8 ∧ pz_S 8 (some .int) am_r234 4 Q 281 [(7, .int (Int32.ofInt 0)), (3, .int (a3 ||| (if (if (d_235 (d_234_147 C V s gg w k (dP C) 0 (Int32.ofInt 0))) < (dN C k) then Int32.ofInt 0 else Int32.ofInt 1) = 0 then Int32.ofInt 0 else (Int32.ofInt 1) <<< ((nI k) &&& 31)))), (0, .ref 154), (1, .int (Int32.ofInt 0)), (2, .int w), (4, .int (nI k)), (5, .int (d_234_147 C V s gg w k (dP C) 0 (Int32.ofInt 0)))] [] h177 from ⟨by decide, by decide, ?_⟩)
    refine sv_S2 sv2_234 (by intro q hq; simp only [List.mem_cons, List.not_mem_nil, or_false] at hq; rcases hq with rfl | rfl | rfl | rfl | rfl | rfl | rfl <;> rfl) (d_234_281_g0 (a3 ||| (if (if (d_235 (d_234_147 C V s gg w k (dP C) 0 (Int32.ofInt 0))) < (dN C k) then Int32.ofInt 0 else Int32.ofInt 1) = 0 then Int32.ofInt 0 else (Int32.ofInt 1) <<< ((nI k) &&& 31))) k (d_234_147 C V s gg w k (dP C) 0 (Int32.ofInt 0)) (dP C) 0 (sSH (sSA s k (d_234_147 C V s gg w k (dP C) 0 (Int32.ofInt 0))) k (((sSA s k (d_234_147 C V s gg w k (dP C) 0 (Int32.ofInt 0))).2.2.2.2.1 k) + (if (if (d_235 (d_234_147 C V s gg w k (dP C) 0 (Int32.ofInt 0))) < (dN C k) then Int32.ofInt 0 else Int32.ofInt 1) = 0 then Int32.ofInt 0 else Int32.ofInt 1))) _ (by omega) f178 f179 f180 f181 f182 f183 f184 (fun h188 f189 f190 f191 f192 f193 f194 f195 => ?_))
    refine am_goX 2 (show 4 < 8 ∧ pz_S 8 (some .int) am_r234 4 Q 132 [(4, .int ((nI k) + (Int32.ofInt 1))), (0, .ref 154), (1, .int (Int32.ofInt 0)), (2, .int w), (3, .int (a3 ||| (if (if (d_235 (d_234_147 C V s gg w k (dP C) 0 (Int32.ofInt 0))) < (dN C k) then Int32.ofInt 0 else Int32.ofInt 1) = 0 then Int32.ofInt 0 else (Int32.ofInt 1) <<< ((nI k) &&& 31))))] [] h188 from ⟨by decide, ?_⟩)
    rw [show (nI k) + (Int32.ofInt 1) = nI (k + 1) from (dn_a rfl rfl)]
    exact sv_S2 sv2_234 (by intro q hq; simp only [List.mem_cons, List.not_mem_nil, or_false] at hq; rcases hq with rfl | rfl | rfl | rfl | rfl <;> rfl) (ih (k + 1) (a3 ||| (if (if (d_235 (d_234_147 C V s gg w k (dP C) 0 (Int32.ofInt 0))) < (dN C k) then Int32.ofInt 0 else Int32.ofInt 1) = 0 then Int32.ofInt 0 else (Int32.ofInt 1) <<< ((nI k) &&& 31))) (d_234_281 C (d_234_147 C V s gg w k (dP C) 0 (Int32.ofInt 0)) (dP C) 0 (sSH (sSA s k (d_234_147 C V s gg w k (dP C) 0 (Int32.ofInt 0))) k (((sSA s k (d_234_147 C V s gg w k (dP C) 0 (Int32.ofInt 0))).2.2.2.2.1 k) + (if (if (d_235 (d_234_147 C V s gg w k (dP C) 0 (Int32.ofInt 0))) < (dN C k) then Int32.ofInt 0 else Int32.ofInt 1) = 0 then Int32.ofInt 0 else Int32.ofInt 1)))) _ (by omega) f189 f190 f191 f192 f193 f194 f195 hZ)
def d_234_s (C V : sp_C) (s : dS) (w : Int32) : dS := (d_234_132 C V ((d_234_19 C w (dP C) 0 (sSD s (s.1 + (Int32.ofInt 1))) (Int32.ofInt 0)).2) w (dE C) 0 (Int32.ofInt 0) ((d_234_19 C w (dP C) 0 (sSD s (s.1 + (Int32.ofInt 1))) (Int32.ofInt 0)).1)).2
def d_234_gg (C V : sp_C) (s : dS) (w : Int32) : Int32 := (d_234_19 C w (dP C) 0 (sSD s (s.1 + (Int32.ofInt 1))) (Int32.ofInt 0)).2
def d_234 (C V : sp_C) (s : dS) (w : Int32) : Int32 := (d_234_132 C V ((d_234_19 C w (dP C) 0 (sSD s (s.1 + (Int32.ofInt 1))) (Int32.ofInt 0)).2) w (dE C) 0 (Int32.ofInt 0) ((d_234_19 C w (dP C) 0 (sSD s (s.1 + (Int32.ofInt 1))) (Int32.ofInt 0)).1)).1
theorem d_234_g0 (hP : ex_P h) (hI : cI C) (hT : tR C h) (hO : ∀ e, e < dE C → h.1 172 e = dW V e) (hS : sR 0 (dP C) s h) (hX : fR h0 h) (hG : h.1 154 28 = gg)  (hQ : ∀ h1, (ex_P h1) → (cI C) → (tR C h1) → (∀ e, e < dE C → h1.1 172 e = dW V e) → (sR 0 (dP C) (d_234_s C V s w) h1) → (fR h0 h1) → (h1.1 154 28 = (d_234_gg C V s w)) → Q (some (.int (d_234 C V s w))) h1) : am_call am_cod 5 234 [.ref 154, .int (Int32.ofInt 0), .int w] h Q := by
  have h6 := hT.1.2.1
  have h5 := hT.2.1.2.1
  refine pz_call (n := 234) (nL := 8) (rt := (some .int)) (rows := am_r234) (d := 4) (by decide +kernel) (by decide +kernel) rfl (by funext pc; rfl) (ex_175 hP) (by exact Nat.le_of_ble_eq_true rfl) ?_
  refine am_goX 2 (show am_sh h 154 = some (11, 0) ∧ pz_S 8 (some .int) am_r234 4 Q 4 [(0, .ref 154), (1, .int (Int32.ofInt 0)), (2, .int w)] [am_rf (h.2.2.1 154 24)] h from ⟨ex_154 hP, ?_⟩)
  rw [show am_rf (h.2.2.1 154 24) = .ref 170 from congrArg am_rf (ex_r154_24 hP)]
  refine am_goX 5 (show (Value.int ((Int32.ofInt 0) + (Int32.ofInt 0))).category = 1 ∧ (Value.ref 170).category = 1 ∧ ∃ jj nn : Nat, am_sh h 170 = some (13, nn) ∧ jj < nn ∧ (Int32.ofInt 0) + (Int32.ofInt 0) = nI jj ∧ pz_S 8 (some .int) am_r234 4 Q 9 [(0, .ref 154), (1, .int (Int32.ofInt 0)), (2, .int w)] [.int (h.1 170 jj), .int ((Int32.ofInt 0) + (Int32.ofInt 0)), .ref 170] h from ⟨rfl, rfl, ⟨0, 1127, ex_170 hP, (by omega), (dn_a rfl rfl), ?_⟩⟩)
  rw [show h.1 170 0 = s.1 from hS.1.1]
  refine am_goX 3 (show ∃ jj nn : Nat, am_so h 170 = some (13, nn) ∧ jj < nn ∧ (Int32.ofInt 0) + (Int32.ofInt 0) = nI jj ∧ pz_S 8 (some .int) am_r234 4 Q 12 [(0, .ref 154), (1, .int (Int32.ofInt 0)), (2, .int w)] [] (am_wI h 170 jj (s.1 + (Int32.ofInt 1))) from ⟨0, 1127, ex_w170 hP, (by omega), (dn_a rfl rfl), ?_⟩)
  have f65 : ex_P (am_wI h 170 0 (s.1 + (Int32.ofInt 1))) := hP
  have f66 : cI C := hI
  have f67 : tR C (am_wI h 170 0 (s.1 + (Int32.ofInt 1))) := tR_w (by omega) hT
  have f68 : ∀ e, e < dE C → (am_wI h 170 0 (s.1 + (Int32.ofInt 1))).1 172 e = dW V e := on_w (by omega) hO
  have f69 : sR 0 (dP C) (sSD s (s.1 + (Int32.ofInt 1))) (am_wI h 170 0 (s.1 + (Int32.ofInt 1))) := sR_wD (by omega) hS
  have f70 : fR h0 (am_wI h 170 0 (s.1 + (Int32.ofInt 1))) := fR_w (by omega) hX
  have f71 : (am_wI h 170 0 (s.1 + (Int32.ofInt 1))).1 154 28 = gg := (em_wn _ _ (by omega)).trans hG
  generalize am_wI h 170 0 (s.1 + (Int32.ofInt 1)) = h64 at f65 f66 f67 f68 f69 f70 f71 ⊢
  refine am_goX 3 (show am_sh h64 154 = some (11, 0) ∧ narrow (am_fty 11 28) (.int (Int32.ofInt 0)) = .int (Int32.ofInt 0) ∧ fits (am_fty 11 28) (.int (Int32.ofInt 0)) = true ∧ pz_S 8 (some .int) am_r234 4 Q 17 [(0, .ref 154), (1, .int (Int32.ofInt 0)), (2, .int w)] [] (am_wI h64 154 28 (Int32.ofInt 0)) from ⟨ex_154 f65, rfl, rfl, ?_⟩)
  have f73 : ex_P (am_wI h64 154 28 (Int32.ofInt 0)) := f65
  have f74 : cI C := f66
  have f75 : tR C (am_wI h64 154 28 (Int32.ofInt 0)) := tR_w (by omega) f67
  have f76 : ∀ e, e < dE C → (am_wI h64 154 28 (Int32.ofInt 0)).1 172 e = dW V e := on_w (by omega) f68
  have f77 : sR 0 (dP C) (sSD s (s.1 + (Int32.ofInt 1))) (am_wI h64 154 28 (Int32.ofInt 0)) := sR_o (by omega) f69
  have f78 : fR h0 (am_wI h64 154 28 (Int32.ofInt 0)) := fR_w (by omega) f70
  have f79 : (am_wI h64 154 28 (Int32.ofInt 0)).1 154 28 = (Int32.ofInt 0) := em_we _ _ _ _
  generalize am_wI h64 154 28 (Int32.ofInt 0) = h72 at f73 f74 f75 f76 f77 f78 f79 ⊢
  refine am_goX 2 (show 3 < 8 ∧ pz_S 8 (some .int) am_r234 4 Q 19 [(3, .int (Int32.ofInt 0)), (0, .ref 154), (1, .int (Int32.ofInt 0)), (2, .int w)] [] h72 from ⟨by decide, ?_⟩)
  refine sv_S2 sv2_234 (by intro q hq; simp only [List.mem_cons, List.not_mem_nil, or_false] at hq; rcases hq with rfl | rfl | rfl | rfl <;> rfl) (d_234_19_g0 (dP C) 0 (sSD s (s.1 + (Int32.ofInt 1))) (Int32.ofInt 0) _ (by omega) f73 f74 f75 f76 f77 f78 f79 (fun h155 f156 f157 f158 f159 f160 f161 f162 => ?_))
  refine am_goX 4 (show 3 < 8 ∧ 4 < 8 ∧ pz_S 8 (some .int) am_r234 4 Q 132 [(4, .int (Int32.ofInt 0)), (3, .int (Int32.ofInt 0)), (0, .ref 154), (1, .int (Int32.ofInt 0)), (2, .int w)] [] h155 from ⟨by decide, by decide, ?_⟩)
  refine sv_S2 sv2_234 (by intro q hq; simp only [List.mem_cons, List.not_mem_nil, or_false] at hq; rcases hq with rfl | rfl | rfl | rfl | rfl <;> rfl) (d_234_132_g0 (dE C) 0 (Int32.ofInt 0) ((d_234_19 C w (dP C) 0 (sSD s (s.1 + (Int32.ofInt 1))) (Int32.ofInt 0)).1) _ (by omega) f156 f157 f158 f159 f160 f161 f162 (fun h196 f197 f198 f199 f200 f201 f202 f203 => ?_))
  exact am_goX 2 (show (∃ ty, (some .int) = some ty ∧ narrow ty (.int ((d_234_132 C V ((d_234_19 C w (dP C) 0 (sSD s (s.1 + (Int32.ofInt 1))) (Int32.ofInt 0)).2) w (dE C) 0 (Int32.ofInt 0) ((d_234_19 C w (dP C) 0 (sSD s (s.1 + (Int32.ofInt 1))) (Int32.ofInt 0)).1)).1)) = .int ((d_234_132 C V ((d_234_19 C w (dP C) 0 (sSD s (s.1 + (Int32.ofInt 1))) (Int32.ofInt 0)).2) w (dE C) 0 (Int32.ofInt 0) ((d_234_19 C w (dP C) 0 (sSD s (s.1 + (Int32.ofInt 1))) (Int32.ofInt 0)).1)).1)) ∧ h196.2.2.2.2 = 175 ∧ _ from ⟨⟨.int, rfl, rfl⟩, ex_175 f197, hQ _ f197 f198 f199 f200 f201 f202 f203⟩)
theorem q_234_r0 (hP : ex_P h) (hI : cI C) (hT : tR C h) (hO : ∀ e, e < dE C → h.1 172 e = dW V e) (hS : sR 0 (dP C) s h) (hX : fR h0 h) (hQ : ∀ h1, (ex_P h1) → (cI C) → (tR C h1) → (∀ e, e < dE C → h1.1 172 e = dW V e) → (sR 0 (dP C) (d_234_s C V s w) h1) → (fR h0 h1) → Q (some (.int (d_234 C V s w))) h1) : am_call am_cod 5 234 [.ref 154, .int (Int32.ofInt 0), .int w] h Q :=
  d_234_g0 (gg := h.1 154 28) hP hI hT hO hS hX rfl (fun h1 khP khI khT khO khS khX _ => hQ h1 khP khI khT khO khS khX)
def d_233_s (C V : sp_C) (s : dS) : dS := d_234_s C V s (d_224 C (s.1 + (Int32.ofInt 1)))
def d_233 (C V : sp_C) (s : dS) : Int32 := d_234 C V s (d_224 C (s.1 + (Int32.ofInt 1)))
theorem d_233_r0 (hP : ex_P h) (hI : cI C) (hT : tR C h) (hO : ∀ e, e < dE C → h.1 172 e = dW V e) (hS : sR 0 (dP C) s h) (hX : fR h0 h)  (hQ : ∀ h1, (ex_P h1) → (cI C) → (tR C h1) → (∀ e, e < dE C → h1.1 172 e = dW V e) → (sR 0 (dP C) (d_233_s C V s) h1) → (fR h0 h1) → Q (some (.int (d_233 C V s))) h1) : am_call am_cod 6 233 [.ref 154, .int (Int32.ofInt 0)] h Q := by
  have h6 := hT.1.2.1
  have h5 := hT.2.1.2.1
  refine pz_call (n := 233) (nL := 2) (rt := (some .int)) (rows := am_r233) (d := 5) (by decide +kernel) (by decide +kernel) rfl (by funext pc; rfl) (ex_175 hP) (by exact Nat.le_of_ble_eq_true rfl) ?_
  refine am_goX 5 (show am_sh h 154 = some (11, 0) ∧ pz_S 2 (some .int) am_r233 5 Q 7 [(0, .ref 154), (1, .int (Int32.ofInt 0))] [am_rf (h.2.2.1 154 24), .ref 154, .int (Int32.ofInt 0), .ref 154] h from ⟨ex_154 hP, ?_⟩)
  rw [show am_rf (h.2.2.1 154 24) = .ref 170 from congrArg am_rf (ex_r154_24 hP)]
  refine am_goX 4 (show ∃ jj nn : Nat, am_sh h 170 = some (13, nn) ∧ jj < nn ∧ (Int32.ofInt 0) + (Int32.ofInt 0) = nI jj ∧ pz_S 2 (some .int) am_r233 5 Q 11 [(0, .ref 154), (1, .int (Int32.ofInt 0))] [.int (h.1 170 jj), .ref 154, .int (Int32.ofInt 0), .ref 154] h from ⟨0, 1127, ex_170 hP, (by omega), (dn_a rfl rfl), ?_⟩)
  rw [show h.1 170 0 = s.1 from hS.1.1]
  refine am_goX 3 (show am_rc h 154 11 ∧ 2 ≤ 8 ∧ h.2.2.2.2 + am_al 224 ≤ 175 ∧ am_call am_cod 5 224 [.ref 154, .int (s.1 + (Int32.ofInt 1))] h (fun vv h' => pz_S 2 (some .int) am_r233 5 Q 16 [(0, .ref 154), (1, .int (Int32.ofInt 0))] (vv.toList ++ [.int (Int32.ofInt 0), .ref 154]) h') from ⟨Or.inl ⟨by decide, ex_154 hP⟩, by decide, ex_lim hP rfl, am_call.up (d_224_r hP hT ?_) (by decide)⟩)
  refine am_goX 1 (show am_rc h 154 11 ∧ 0 ≤ 8 ∧ h.2.2.2.2 + am_al 234 ≤ 175 ∧ am_call am_cod 5 234 [.ref 154, .int (Int32.ofInt 0), .int (d_224 C (s.1 + (Int32.ofInt 1)))] h (fun vv h' => pz_S 2 (some .int) am_r233 5 Q 19 [(0, .ref 154), (1, .int (Int32.ofInt 0))] (vv.toList ++ []) h') from ⟨Or.inl ⟨by decide, ex_154 hP⟩, by decide, ex_lim hP rfl, am_call.up (q_234_r0 hP hI hT hO hS hX (fun h204 f205 f206 f207 f208 f209 f210 => ?_)) (by decide)⟩)
  exact am_goX 1 (show (∃ ty, (some .int) = some ty ∧ narrow ty (.int (d_234 C V s (d_224 C (s.1 + (Int32.ofInt 1))))) = .int (d_234 C V s (d_224 C (s.1 + (Int32.ofInt 1))))) ∧ h204.2.2.2.2 = 175 ∧ _ from ⟨⟨.int, rfl, rfl⟩, ex_175 f205, hQ _ f205 f206 f207 f208 f209 f210⟩)
theorem d_234_19_g1029 : ∀ (m k : Nat) (s : dS) (gg : Int32) (h : am_H), k + m = dP C → (ex_P h) → (cI C) → (tR C h) → (∀ e, e < dE C → h.1 172 e = dW V e) → (sR 0 (dP C) u h) → (sR 1029 (dP C) s h) → (h.1 154 28 = gg) → (∀ h1, (ex_P h1) → (cI C) → (tR C h1) → (∀ e, e < dE C → h1.1 172 e = dW V e) → (sR 0 (dP C) u h1) → (sR 1029 (dP C) ((d_234_19 C w m k s gg).1) h1) → (h1.1 154 28 = ((d_234_19 C w m k s gg).2)) → pz_S 8 (some .int) am_r234 4 Q 127 [(0, .ref 154), (1, .int ((Int16.ofInt 1029).toInt32)), (2, .int w)] [] h1) → pz_S 8 (some .int) am_r234 4 Q 19 [(0, .ref 154), (1, .int ((Int16.ofInt 1029).toInt32)), (2, .int w), (3, .int (nI k))] [] h := by
  intro m
  induction m with
  | zero =>
    intro k s gg h hk hP hI hT hO hN hS hG hZ
    have h6 := hT.1.2.1
    have h5 := hT.2.1.2.1
    have hA : h.1 168 0 = (h.1 168 0) ∧ h.1 168 1 = (h.1 168 1) ∧ h.1 168 2 = (h.1 168 2) ∧ h.1 168 3 = (h.1 168 3) := ⟨rfl, rfl, rfl, rfl⟩
    refine am_goX 3 (show am_rc h 154 11 ∧ 1 ≤ 8 ∧ h.2.2.2.2 + am_al 186 ≤ 175 ∧ am_call am_cod 4 186 [.ref 154] h (fun vv h' => pz_S 8 (some .int) am_r234 4 Q 24 [(0, .ref 154), (1, .int ((Int16.ofInt 1029).toInt32)), (2, .int w), (3, .int (nI k))] (vv.toList ++ [.int (nI k)]) h') from ⟨Or.inl ⟨by decide, ex_154 hP⟩, by decide, ex_lim hP rfl, am_call.up (d_186_r hP hT ?_) (by decide)⟩)
    refine am_goX 1 (show ((nI (dP C)) ≤ (nI k) → pz_S 8 (some .int) am_r234 4 Q 127 [(0, .ref 154), (1, .int ((Int16.ofInt 1029).toInt32)), (2, .int w), (3, .int (nI k))] [] h) ∧ (¬ ((nI (dP C)) ≤ (nI k)) → pz_S 8 (some .int) am_r234 4 Q 27 [(0, .ref 154), (1, .int ((Int16.ofInt 1029).toInt32)), (2, .int w), (3, .int (nI k))] [] h) from ⟨fun _ => ?_, fun hz => absurd (show nI (dP C) ≤ nI k from nI_le (by omega) (by omega)) hz⟩)
    exact sv_S2 sv2_234 (by intro q hq; simp only [List.mem_cons, List.not_mem_nil, or_false] at hq; rcases hq with rfl | rfl | rfl <;> rfl) (hZ _ hP hI hT hO hN hS hG)
  | succ m ih =>
    intro k s gg h hk hP hI hT hO hN hS hG hZ
    have h6 := hT.1.2.1
    have h5 := hT.2.1.2.1
    have hA : h.1 168 0 = (h.1 168 0) ∧ h.1 168 1 = (h.1 168 1) ∧ h.1 168 2 = (h.1 168 2) ∧ h.1 168 3 = (h.1 168 3) := ⟨rfl, rfl, rfl, rfl⟩
    refine am_goX 3 (show am_rc h 154 11 ∧ 1 ≤ 8 ∧ h.2.2.2.2 + am_al 186 ≤ 175 ∧ am_call am_cod 4 186 [.ref 154] h (fun vv h' => pz_S 8 (some .int) am_r234 4 Q 24 [(0, .ref 154), (1, .int ((Int16.ofInt 1029).toInt32)), (2, .int w), (3, .int (nI k))] (vv.toList ++ [.int (nI k)]) h') from ⟨Or.inl ⟨by decide, ex_154 hP⟩, by decide, ex_lim hP rfl, am_call.up (d_186_r hP hT ?_) (by decide)⟩)
    refine am_goX 1 (show ((nI (dP C)) ≤ (nI k) → pz_S 8 (some .int) am_r234 4 Q 127 [(0, .ref 154), (1, .int ((Int16.ofInt 1029).toInt32)), (2, .int w), (3, .int (nI k))] [] h) ∧ (¬ ((nI (dP C)) ≤ (nI k)) → pz_S 8 (some .int) am_r234 4 Q 27 [(0, .ref 154), (1, .int ((Int16.ofInt 1029).toInt32)), (2, .int w), (3, .int (nI k))] [] h) from ⟨fun hz => absurd hz (show ¬ (nI (dP C) ≤ nI k) by rw [nI_leI (by omega) (by omega)]; omega), fun _ => ?_⟩)
    refine am_goX 2 (show am_sh h 154 = some (11, 0) ∧ pz_S 8 (some .int) am_r234 4 Q 31 [(0, .ref 154), (1, .int ((Int16.ofInt 1029).toInt32)), (2, .int w), (3, .int (nI k))] [am_rf (h.2.2.1 154 22)] h from ⟨ex_154 hP, ?_⟩)
    rw [show am_rf (h.2.2.1 154 22) = .ref 168 from congrArg am_rf (ex_r154_22 hP)]
    refine am_goX 5 (show am_rc h 154 11 ∧ 2 ≤ 8 ∧ h.2.2.2.2 + am_al 223 ≤ 175 ∧ am_call am_cod 4 223 [.ref 154, .int ((Int16.ofInt 1029).toInt32), .int (nI k)] h (fun vv h' => pz_S 8 (some .int) am_r234 4 Q 38 [(0, .ref 154), (1, .int ((Int16.ofInt 1029).toInt32)), (2, .int w), (3, .int (nI k))] (vv.toList ++ [.int (Int32.ofInt 0), .ref 168]) h') from ⟨Or.inl ⟨by decide, ex_154 hP⟩, by decide, ex_lim hP rfl, am_call.up (d_223_r1029 hP hI hT hO hN hS (by omega) ?_) (by decide)⟩)
    refine am_goX 1 (show ∃ jj nn : Nat, am_so h 168 = some (13, nn) ∧ jj < nn ∧ Int32.ofInt 0 = nI jj ∧ pz_S 8 (some .int) am_r234 4 Q 39 [(0, .ref 154), (1, .int ((Int16.ofInt 1029).toInt32)), (2, .int w), (3, .int (nI k))] [] (am_wI h 168 jj (d_223 C s k)) from ⟨0, 4, ex_w168 hP, (by omega), rfl, ?_⟩)
    have f228 : ex_P (am_wI h 168 0 (d_223 C s k)) := hP
    have f229 : cI C := hI
    have f230 : tR C (am_wI h 168 0 (d_223 C s k)) := tR_w (by omega) hT
    have f231 : ∀ e, e < dE C → (am_wI h 168 0 (d_223 C s k)).1 172 e = dW V e := on_w (by omega) hO
    have f232 : sR 0 (dP C) u (am_wI h 168 0 (d_223 C s k)) := sR_o (by omega) hN
    have f233 : sR 1029 (dP C) s (am_wI h 168 0 (d_223 C s k)) := sR_o (by omega) hS
    have f234 : (am_wI h 168 0 (d_223 C s k)).1 154 28 = gg := (em_wn _ _ (by omega)).trans hG
    have f235 : (am_wI h 168 0 (d_223 C s k)).1 168 0 = (d_223 C s k) ∧ (am_wI h 168 0 (d_223 C s k)).1 168 1 = (h.1 168 1) ∧ (am_wI h 168 0 (d_223 C s k)).1 168 2 = (h.1 168 2) ∧ (am_wI h 168 0 (d_223 C s k)).1 168 3 = (h.1 168 3) := fa_w0 hA
    generalize am_wI h 168 0 (d_223 C s k) = h227 at f228 f229 f230 f231 f232 f233 f234 f235 ⊢
    refine am_goX 2 (show am_sh h227 154 = some (11, 0) ∧ pz_S 8 (some .int) am_r234 4 Q 43 [(0, .ref 154), (1, .int ((Int16.ofInt 1029).toInt32)), (2, .int w), (3, .int (nI k))] [am_rf (h227.2.2.1 154 22)] h227 from ⟨ex_154 f228, ?_⟩)
    rw [show am_rf (h227.2.2.1 154 22) = .ref 168 from congrArg am_rf (ex_r154_22 f228)]
    refine am_goX 3 (show am_sh h227 154 = some (11, 0) ∧ pz_S 8 (some .int) am_r234 4 Q 48 [(0, .ref 154), (1, .int ((Int16.ofInt 1029).toInt32)), (2, .int w), (3, .int (nI k))] [am_rf (h227.2.2.1 154 24), .int (Int32.ofInt 1), .ref 168] h227 from ⟨ex_154 f228, ?_⟩)
    rw [show am_rf (h227.2.2.1 154 24) = .ref 170 from congrArg am_rf (ex_r154_24 f228)]
    refine am_goX 4 (show ∃ jj nn : Nat, am_sh h227 170 = some (13, nn) ∧ jj < nn ∧ ((Int16.ofInt 1029).toInt32) + (Int32.ofInt 0) = nI jj ∧ pz_S 8 (some .int) am_r234 4 Q 52 [(0, .ref 154), (1, .int ((Int16.ofInt 1029).toInt32)), (2, .int w), (3, .int (nI k))] [.int (h227.1 170 jj), .int (Int32.ofInt 1), .ref 168] h227 from ⟨1029, 1127, ex_170 f228, (by omega), (dn_a (show (Int16.ofInt 1029).toInt32 = nI 1029 by decide) rfl), ?_⟩)
    rw [show h227.1 170 1029 = s.1 from f233.1.1]
    refine am_goX 3 (show ¬ ((Int8.ofInt 7).toInt32) = 0 ∧ ∃ jj nn : Nat, am_so h227 168 = some (13, nn) ∧ jj < nn ∧ Int32.ofInt 1 = nI jj ∧ pz_S 8 (some .int) am_r234 4 Q 56 [(0, .ref 154), (1, .int ((Int16.ofInt 1029).toInt32)), (2, .int w), (3, .int (nI k))] [] (am_wI h227 168 jj (s.1 / ((Int8.ofInt 7).toInt32))) from ⟨by decide, 1, 4, ex_w168 f228, (by omega), rfl, ?_⟩)
    have f237 : ex_P (am_wI h227 168 1 (s.1 / ((Int8.ofInt 7).toInt32))) := f228
    have f238 : cI C := f229
    have f239 : tR C (am_wI h227 168 1 (s.1 / ((Int8.ofInt 7).toInt32))) := tR_w (by omega) f230
    have f240 : ∀ e, e < dE C → (am_wI h227 168 1 (s.1 / ((Int8.ofInt 7).toInt32))).1 172 e = dW V e := on_w (by omega) f231
    have f241 : sR 0 (dP C) u (am_wI h227 168 1 (s.1 / ((Int8.ofInt 7).toInt32))) := sR_o (by omega) f232
    have f242 : sR 1029 (dP C) s (am_wI h227 168 1 (s.1 / ((Int8.ofInt 7).toInt32))) := sR_o (by omega) f233
    have f243 : (am_wI h227 168 1 (s.1 / ((Int8.ofInt 7).toInt32))).1 154 28 = gg := (em_wn _ _ (by omega)).trans f234
    have f244 : (am_wI h227 168 1 (s.1 / ((Int8.ofInt 7).toInt32))).1 168 0 = (d_223 C s k) ∧ (am_wI h227 168 1 (s.1 / ((Int8.ofInt 7).toInt32))).1 168 1 = (s.1 / ((Int8.ofInt 7).toInt32)) ∧ (am_wI h227 168 1 (s.1 / ((Int8.ofInt 7).toInt32))).1 168 2 = (h.1 168 2) ∧ (am_wI h227 168 1 (s.1 / ((Int8.ofInt 7).toInt32))).1 168 3 = (h.1 168 3) := fa_w1 f235
    generalize am_wI h227 168 1 (s.1 / ((Int8.ofInt 7).toInt32)) = h236 at f237 f238 f239 f240 f241 f242 f243 f244 ⊢
    refine am_goX 2 (show am_sh h236 154 = some (11, 0) ∧ pz_S 8 (some .int) am_r234 4 Q 60 [(0, .ref 154), (1, .int ((Int16.ofInt 1029).toInt32)), (2, .int w), (3, .int (nI k))] [am_rf (h236.2.2.1 154 22)] h236 from ⟨ex_154 f237, ?_⟩)
    rw [show am_rf (h236.2.2.1 154 22) = .ref 168 from congrArg am_rf (ex_r154_22 f237)]
    refine am_goX 3 (show am_sh h236 154 = some (11, 0) ∧ pz_S 8 (some .int) am_r234 4 Q 65 [(0, .ref 154), (1, .int ((Int16.ofInt 1029).toInt32)), (2, .int w), (3, .int (nI k))] [am_rf (h236.2.2.1 154 24), .int (Int32.ofInt 2), .ref 168] h236 from ⟨ex_154 f237, ?_⟩)
    rw [show am_rf (h236.2.2.1 154 24) = .ref 170 from congrArg am_rf (ex_r154_24 f237)]
    refine am_goX 6 (show ∃ jj nn : Nat, am_sh h236 170 = some (13, nn) ∧ jj < nn ∧ (((Int16.ofInt 1029).toInt32) + ((Int8.ofInt 8).toInt32)) + (nI k) = nI jj ∧ pz_S 8 (some .int) am_r234 4 Q 72 [(0, .ref 154), (1, .int ((Int16.ofInt 1029).toInt32)), (2, .int w), (3, .int (nI k))] [.int (h236.1 170 jj), .int (Int32.ofInt 2), .ref 168] h236 from ⟨(1037 + k), 1127, ex_170 f237, (by omega), (dn_a (dn_a (show (Int16.ofInt 1029).toInt32 = nI 1029 by decide) (show (Int8.ofInt 8).toInt32 = nI 8 by decide)) rfl), ?_⟩)
    rw [show h236.1 170 (1037 + k) = s.2.2.2.1 k from (by rw [show (1037 + k) = 1029 + 8 + k by omega]; exact f242.2.2.1 k (by omega))]
    refine am_goX 1 (show 2 ≤ 8 ∧ h236.2.2.2.2 + am_al 235 ≤ 175 ∧ am_call am_cod 4 235 [.int (s.2.2.2.1 k)] h236 (fun vv h' => pz_S 8 (some .int) am_r234 4 Q 75 [(0, .ref 154), (1, .int ((Int16.ofInt 1029).toInt32)), (2, .int w), (3, .int (nI k))] (vv.toList ++ [.int (Int32.ofInt 2), .ref 168]) h') from ⟨by decide, ex_lim f237 rfl, am_call.up (d_235_w f237 ?_) (by decide)⟩)
    refine am_goX 1 (show ∃ jj nn : Nat, am_so h236 168 = some (13, nn) ∧ jj < nn ∧ Int32.ofInt 2 = nI jj ∧ pz_S 8 (some .int) am_r234 4 Q 76 [(0, .ref 154), (1, .int ((Int16.ofInt 1029).toInt32)), (2, .int w), (3, .int (nI k))] [] (am_wI h236 168 jj (d_235 (s.2.2.2.1 k))) from ⟨2, 4, ex_w168 f237, (by omega), rfl, ?_⟩)
    have f246 : ex_P (am_wI h236 168 2 (d_235 (s.2.2.2.1 k))) := f237
    have f247 : cI C := f238
    have f248 : tR C (am_wI h236 168 2 (d_235 (s.2.2.2.1 k))) := tR_w (by omega) f239
    have f249 : ∀ e, e < dE C → (am_wI h236 168 2 (d_235 (s.2.2.2.1 k))).1 172 e = dW V e := on_w (by omega) f240
    have f250 : sR 0 (dP C) u (am_wI h236 168 2 (d_235 (s.2.2.2.1 k))) := sR_o (by omega) f241
    have f251 : sR 1029 (dP C) s (am_wI h236 168 2 (d_235 (s.2.2.2.1 k))) := sR_o (by omega) f242
    have f252 : (am_wI h236 168 2 (d_235 (s.2.2.2.1 k))).1 154 28 = gg := (em_wn _ _ (by omega)).trans f243
    have f253 : (am_wI h236 168 2 (d_235 (s.2.2.2.1 k))).1 168 0 = (d_223 C s k) ∧ (am_wI h236 168 2 (d_235 (s.2.2.2.1 k))).1 168 1 = (s.1 / ((Int8.ofInt 7).toInt32)) ∧ (am_wI h236 168 2 (d_235 (s.2.2.2.1 k))).1 168 2 = (d_235 (s.2.2.2.1 k)) ∧ (am_wI h236 168 2 (d_235 (s.2.2.2.1 k))).1 168 3 = (h.1 168 3) := fa_w2 f244
    generalize am_wI h236 168 2 (d_235 (s.2.2.2.1 k)) = h245 at f246 f247 f248 f249 f250 f251 f252 f253 ⊢
    refine am_goX 2 (show am_sh h245 154 = some (11, 0) ∧ pz_S 8 (some .int) am_r234 4 Q 80 [(0, .ref 154), (1, .int ((Int16.ofInt 1029).toInt32)), (2, .int w), (3, .int (nI k))] [am_rf (h245.2.2.1 154 22)] h245 from ⟨ex_154 f246, ?_⟩)
    rw [show am_rf (h245.2.2.1 154 22) = .ref 168 from congrArg am_rf (ex_r154_22 f246)]
    refine am_goX 3 (show ∃ jj nn : Nat, am_so h245 168 = some (13, nn) ∧ jj < nn ∧ Int32.ofInt 3 = nI jj ∧ pz_S 8 (some .int) am_r234 4 Q 83 [(0, .ref 154), (1, .int ((Int16.ofInt 1029).toInt32)), (2, .int w), (3, .int (nI k))] [] (am_wI h245 168 jj w) from ⟨3, 4, ex_w168 f246, (by omega), rfl, ?_⟩)
    have f255 : ex_P (am_wI h245 168 3 w) := f246
    have f256 : cI C := f247
    have f257 : tR C (am_wI h245 168 3 w) := tR_w (by omega) f248
    have f258 : ∀ e, e < dE C → (am_wI h245 168 3 w).1 172 e = dW V e := on_w (by omega) f249
    have f259 : sR 0 (dP C) u (am_wI h245 168 3 w) := sR_o (by omega) f250
    have f260 : sR 1029 (dP C) s (am_wI h245 168 3 w) := sR_o (by omega) f251
    have f261 : (am_wI h245 168 3 w).1 154 28 = gg := (em_wn _ _ (by omega)).trans f252
    have f262 : (am_wI h245 168 3 w).1 168 0 = (d_223 C s k) ∧ (am_wI h245 168 3 w).1 168 1 = (s.1 / ((Int8.ofInt 7).toInt32)) ∧ (am_wI h245 168 3 w).1 168 2 = (d_235 (s.2.2.2.1 k)) ∧ (am_wI h245 168 3 w).1 168 3 = w := fa_w3 f253
    generalize am_wI h245 168 3 w = h254 at f255 f256 f257 f258 f259 f260 f261 f262 ⊢
    refine am_goX 3 (show (Value.ref 154).category = 1 ∧ am_sh h254 154 = some (11, 0) ∧ pz_S 8 (some .int) am_r234 4 Q 88 [(0, .ref 154), (1, .int ((Int16.ofInt 1029).toInt32)), (2, .int w), (3, .int (nI k))] [.int (h254.1 154 28), .ref 154] h254 from ⟨rfl, ex_154 f255, ?_⟩)
    rw [show h254.1 154 28 = gg from f261]
    refine am_goX 2 (show am_sh h254 154 = some (11, 0) ∧ pz_S 8 (some .int) am_r234 4 Q 92 [(0, .ref 154), (1, .int ((Int16.ofInt 1029).toInt32)), (2, .int w), (3, .int (nI k))] [am_rf (h254.2.2.1 154 10), .int gg, .ref 154] h254 from ⟨ex_154 f255, ?_⟩)
    rw [show am_rf (h254.2.2.1 154 10) = .ref 160 from congrArg am_rf (ex_r154_10 f255)]
    refine am_goX 2 (show ∃ jj nn : Nat, am_sh h254 160 = some (13, nn) ∧ jj < nn ∧ Int32.ofInt 3 = nI jj ∧ pz_S 8 (some .int) am_r234 4 Q 94 [(0, .ref 154), (1, .int ((Int16.ofInt 1029).toInt32)), (2, .int w), (3, .int (nI k))] [.int (h254.1 160 jj), .int gg, .ref 154] h254 from ⟨3, 80, ex_160 f255, (by omega), rfl, ?_⟩)
    rw [show h254.1 160 3 = dQ C from f257.2.2.2.2.2.2.2.2]
    refine am_goX 1 (show ((dQ C) < 0 → pz_S 8 (some .int) am_r234 4 Q 110 [(0, .ref 154), (1, .int ((Int16.ofInt 1029).toInt32)), (2, .int w), (3, .int (nI k))] [.int gg, .ref 154] h254) ∧ (¬ ((dQ C) < 0) → pz_S 8 (some .int) am_r234 4 Q 97 [(0, .ref 154), (1, .int ((Int16.ofInt 1029).toInt32)), (2, .int w), (3, .int (nI k))] [.int gg, .ref 154] h254) from ⟨fun c263 => ?_, fun c263 => ?_⟩)
    · refine am_goX 6 (show am_sh h254 154 = some (11, 0) ∧ narrow (am_fty 11 28) (.int (gg ||| ((Int32.ofInt 1) <<< ((nI k) &&& 31)))) = .int (gg ||| ((Int32.ofInt 1) <<< ((nI k) &&& 31))) ∧ fits (am_fty 11 28) (.int (gg ||| ((Int32.ofInt 1) <<< ((nI k) &&& 31)))) = true ∧ pz_S 8 (some .int) am_r234 4 Q 121 [(0, .ref 154), (1, .int ((Int16.ofInt 1029).toInt32)), (2, .int w), (3, .int (nI k))] [] (am_wI h254 154 28 (gg ||| ((Int32.ofInt 1) <<< ((nI k) &&& 31)))) from ⟨ex_154 f255, rfl, rfl, ?_⟩)
      have f265 : ex_P (am_wI h254 154 28 (gg ||| ((Int32.ofInt 1) <<< ((nI k) &&& 31)))) := f255
      have f266 : cI C := f256
      have f267 : tR C (am_wI h254 154 28 (gg ||| ((Int32.ofInt 1) <<< ((nI k) &&& 31)))) := tR_w (by omega) f257
      have f268 : ∀ e, e < dE C → (am_wI h254 154 28 (gg ||| ((Int32.ofInt 1) <<< ((nI k) &&& 31)))).1 172 e = dW V e := on_w (by omega) f258
      have f269 : sR 0 (dP C) u (am_wI h254 154 28 (gg ||| ((Int32.ofInt 1) <<< ((nI k) &&& 31)))) := sR_o (by omega) f259
      have f270 : sR 1029 (dP C) s (am_wI h254 154 28 (gg ||| ((Int32.ofInt 1) <<< ((nI k) &&& 31)))) := sR_o (by omega) f260
      have f271 : (am_wI h254 154 28 (gg ||| ((Int32.ofInt 1) <<< ((nI k) &&& 31)))).1 154 28 = (gg ||| ((Int32.ofInt 1) <<< ((nI k) &&& 31))) := em_we _ _ _ _
      have f272 : (am_wI h254 154 28 (gg ||| ((Int32.ofInt 1) <<< ((nI k) &&& 31)))).1 168 0 = (d_223 C s k) ∧ (am_wI h254 154 28 (gg ||| ((Int32.ofInt 1) <<< ((nI k) &&& 31)))).1 168 1 = (s.1 / ((Int8.ofInt 7).toInt32)) ∧ (am_wI h254 154 28 (gg ||| ((Int32.ofInt 1) <<< ((nI k) &&& 31)))).1 168 2 = (d_235 (s.2.2.2.1 k)) ∧ (am_wI h254 154 28 (gg ||| ((Int32.ofInt 1) <<< ((nI k) &&& 31)))).1 168 3 = w := fo_w (by omega) f262
      generalize am_wI h254 154 28 (gg ||| ((Int32.ofInt 1) <<< ((nI k) &&& 31))) = h264 at f265 f266 f267 f268 f269 f270 f271 f272 ⊢
      refine am_goX 2 (show 3 < 8 ∧ pz_S 8 (some .int) am_r234 4 Q 19 [(3, .int ((nI k) + (Int32.ofInt 1))), (0, .ref 154), (1, .int ((Int16.ofInt 1029).toInt32)), (2, .int w)] [] h264 from ⟨by decide, ?_⟩)
      rw [show d_234_19 C w (m + 1) k s gg = d_234_19 C w m (k + 1) s (gg ||| ((Int32.ofInt 1) <<< ((nI k) &&& 31))) from if_pos c263] at hZ
      rw [show (nI k) + (Int32.ofInt 1) = nI (k + 1) from (dn_a rfl rfl)]
      exact sv_S2 sv2_234 (by intro q hq; simp only [List.mem_cons, List.not_mem_nil, or_false] at hq; rcases hq with rfl | rfl | rfl | rfl <;> rfl) (ih (k + 1) s (gg ||| ((Int32.ofInt 1) <<< ((nI k) &&& 31))) _ (by omega) f265 f266 f267 f268 f269 f270 f271 hZ)
    · refine am_goX 3 (show am_sh h254 154 = some (11, 0) ∧ pz_S 8 (some .int) am_r234 4 Q 102 [(0, .ref 154), (1, .int ((Int16.ofInt 1029).toInt32)), (2, .int w), (3, .int (nI k))] [am_rf (h254.2.2.1 154 10), .ref 154, .int gg, .ref 154] h254 from ⟨ex_154 f255, ?_⟩)
      rw [show am_rf (h254.2.2.1 154 10) = .ref 160 from congrArg am_rf (ex_r154_10 f255)]
      refine am_goX 2 (show ∃ jj nn : Nat, am_sh h254 160 = some (13, nn) ∧ jj < nn ∧ Int32.ofInt 3 = nI jj ∧ pz_S 8 (some .int) am_r234 4 Q 104 [(0, .ref 154), (1, .int ((Int16.ofInt 1029).toInt32)), (2, .int w), (3, .int (nI k))] [.int (h254.1 160 jj), .ref 154, .int gg, .ref 154] h254 from ⟨3, 80, ex_160 f255, (by omega), rfl, ?_⟩)
      rw [show h254.1 160 3 = dQ C from f257.2.2.2.2.2.2.2.2]
      refine am_goX 1 (show am_rc h254 154 11 ∧ 2 ≤ 8 ∧ h254.2.2.2.2 + am_al 236 ≤ 175 ∧ am_call am_cod 4 236 [.ref 154, .int (dQ C)] h254 (fun vv h' => pz_S 8 (some .int) am_r234 4 Q 107 [(0, .ref 154), (1, .int ((Int16.ofInt 1029).toInt32)), (2, .int w), (3, .int (nI k))] (vv.toList ++ [.int gg, .ref 154]) h') from ⟨Or.inl ⟨by decide, ex_154 f255⟩, by decide, ex_lim f255 rfl, am_call.up (q_236 (a := (d_223 C s k)) (b := (s.1 / ((Int8.ofInt 7).toInt32))) (c := (d_235 (s.2.2.2.1 k))) (d := w) f255 f256 f257 f262 c263 (fun h273 l274 => ?_)) (by decide)⟩)
      have f275 : ex_P h273 := lfr_P l274 f255
      have f276 : cI C := f256
      have f277 : tR C h273 := lfr_r l274 f257
      have f278 : ∀ e, e < dE C → h273.1 172 e = dW V e := lfr_on l274 f258
      have f279 : sR 0 (dP C) u h273 := lfr_sR l274 (by omega) f259
      have f280 : sR 1029 (dP C) s h273 := lfr_sR l274 (by omega) f260
      have f281 : h273.1 154 28 = gg := (l274.2 _ _ (by decide)).trans f261
      have f282 : h273.1 168 0 = (d_223 C s k) ∧ h273.1 168 1 = (s.1 / ((Int8.ofInt 7).toInt32)) ∧ h273.1 168 2 = (d_235 (s.2.2.2.1 k)) ∧ h273.1 168 3 = w := ⟨(l274.2 _ _ (by decide)).trans f262.1, (l274.2 _ _ (by decide)).trans f262.2.1, (l274.2 _ _ (by decide)).trans f262.2.2.1, (l274.2 _ _ (by decide)).trans f262.2.2.2⟩
      refine am_goX 1 (show ((dlaw C (d_223 C s k) (s.1 / ((Int8.ofInt 7).toInt32)) (d_235 (s.2.2.2.1 k)) w) = 0 → pz_S 8 (some .int) am_r234 4 Q 116 [(0, .ref 154), (1, .int ((Int16.ofInt 1029).toInt32)), (2, .int w), (3, .int (nI k))] [.int gg, .ref 154] h273) ∧ (¬ ((dlaw C (d_223 C s k) (s.1 / ((Int8.ofInt 7).toInt32)) (d_235 (s.2.2.2.1 k)) w) = 0) → pz_S 8 (some .int) am_r234 4 Q 110 [(0, .ref 154), (1, .int ((Int16.ofInt 1029).toInt32)), (2, .int w), (3, .int (nI k))] [.int gg, .ref 154] h273) from ⟨fun c283 => ?_, fun c283 => ?_⟩)
      · refine am_goX 3 (show am_sh h273 154 = some (11, 0) ∧ narrow (am_fty 11 28) (.int (gg ||| (Int32.ofInt 0))) = .int (gg ||| (Int32.ofInt 0)) ∧ fits (am_fty 11 28) (.int (gg ||| (Int32.ofInt 0))) = true ∧ pz_S 8 (some .int) am_r234 4 Q 121 [(0, .ref 154), (1, .int ((Int16.ofInt 1029).toInt32)), (2, .int w), (3, .int (nI k))] [] (am_wI h273 154 28 (gg ||| (Int32.ofInt 0))) from ⟨ex_154 f275, rfl, rfl, ?_⟩)
        have f285 : ex_P (am_wI h273 154 28 (gg ||| (Int32.ofInt 0))) := f275
        have f286 : cI C := f276
        have f287 : tR C (am_wI h273 154 28 (gg ||| (Int32.ofInt 0))) := tR_w (by omega) f277
        have f288 : ∀ e, e < dE C → (am_wI h273 154 28 (gg ||| (Int32.ofInt 0))).1 172 e = dW V e := on_w (by omega) f278
        have f289 : sR 0 (dP C) u (am_wI h273 154 28 (gg ||| (Int32.ofInt 0))) := sR_o (by omega) f279
        have f290 : sR 1029 (dP C) s (am_wI h273 154 28 (gg ||| (Int32.ofInt 0))) := sR_o (by omega) f280
        have f291 : (am_wI h273 154 28 (gg ||| (Int32.ofInt 0))).1 154 28 = (gg ||| (Int32.ofInt 0)) := em_we _ _ _ _
        have f292 : (am_wI h273 154 28 (gg ||| (Int32.ofInt 0))).1 168 0 = (d_223 C s k) ∧ (am_wI h273 154 28 (gg ||| (Int32.ofInt 0))).1 168 1 = (s.1 / ((Int8.ofInt 7).toInt32)) ∧ (am_wI h273 154 28 (gg ||| (Int32.ofInt 0))).1 168 2 = (d_235 (s.2.2.2.1 k)) ∧ (am_wI h273 154 28 (gg ||| (Int32.ofInt 0))).1 168 3 = w := fo_w (by omega) f282
        generalize am_wI h273 154 28 (gg ||| (Int32.ofInt 0)) = h284 at f285 f286 f287 f288 f289 f290 f291 f292 ⊢
        refine am_goX 2 (show 3 < 8 ∧ pz_S 8 (some .int) am_r234 4 Q 19 [(3, .int ((nI k) + (Int32.ofInt 1))), (0, .ref 154), (1, .int ((Int16.ofInt 1029).toInt32)), (2, .int w)] [] h284 from ⟨by decide, ?_⟩)
        rw [show d_234_19 C w (m + 1) k s gg = d_234_19 C w m (k + 1) s (gg ||| (Int32.ofInt 0)) from (if_neg c263).trans (if_pos c283)] at hZ
        rw [show (nI k) + (Int32.ofInt 1) = nI (k + 1) from (dn_a rfl rfl)]
        exact sv_S2 sv2_234 (by intro q hq; simp only [List.mem_cons, List.not_mem_nil, or_false] at hq; rcases hq with rfl | rfl | rfl | rfl <;> rfl) (ih (k + 1) s (gg ||| (Int32.ofInt 0)) _ (by omega) f285 f286 f287 f288 f289 f290 f291 hZ)
      · refine am_goX 6 (show am_sh h273 154 = some (11, 0) ∧ narrow (am_fty 11 28) (.int (gg ||| ((Int32.ofInt 1) <<< ((nI k) &&& 31)))) = .int (gg ||| ((Int32.ofInt 1) <<< ((nI k) &&& 31))) ∧ fits (am_fty 11 28) (.int (gg ||| ((Int32.ofInt 1) <<< ((nI k) &&& 31)))) = true ∧ pz_S 8 (some .int) am_r234 4 Q 121 [(0, .ref 154), (1, .int ((Int16.ofInt 1029).toInt32)), (2, .int w), (3, .int (nI k))] [] (am_wI h273 154 28 (gg ||| ((Int32.ofInt 1) <<< ((nI k) &&& 31)))) from ⟨ex_154 f275, rfl, rfl, ?_⟩)
        have f294 : ex_P (am_wI h273 154 28 (gg ||| ((Int32.ofInt 1) <<< ((nI k) &&& 31)))) := f275
        have f295 : cI C := f276
        have f296 : tR C (am_wI h273 154 28 (gg ||| ((Int32.ofInt 1) <<< ((nI k) &&& 31)))) := tR_w (by omega) f277
        have f297 : ∀ e, e < dE C → (am_wI h273 154 28 (gg ||| ((Int32.ofInt 1) <<< ((nI k) &&& 31)))).1 172 e = dW V e := on_w (by omega) f278
        have f298 : sR 0 (dP C) u (am_wI h273 154 28 (gg ||| ((Int32.ofInt 1) <<< ((nI k) &&& 31)))) := sR_o (by omega) f279
        have f299 : sR 1029 (dP C) s (am_wI h273 154 28 (gg ||| ((Int32.ofInt 1) <<< ((nI k) &&& 31)))) := sR_o (by omega) f280
        have f300 : (am_wI h273 154 28 (gg ||| ((Int32.ofInt 1) <<< ((nI k) &&& 31)))).1 154 28 = (gg ||| ((Int32.ofInt 1) <<< ((nI k) &&& 31))) := em_we _ _ _ _
        have f301 : (am_wI h273 154 28 (gg ||| ((Int32.ofInt 1) <<< ((nI k) &&& 31)))).1 168 0 = (d_223 C s k) ∧ (am_wI h273 154 28 (gg ||| ((Int32.ofInt 1) <<< ((nI k) &&& 31)))).1 168 1 = (s.1 / ((Int8.ofInt 7).toInt32)) ∧ (am_wI h273 154 28 (gg ||| ((Int32.ofInt 1) <<< ((nI k) &&& 31)))).1 168 2 = (d_235 (s.2.2.2.1 k)) ∧ (am_wI h273 154 28 (gg ||| ((Int32.ofInt 1) <<< ((nI k) &&& 31)))).1 168 3 = w := fo_w (by omega) f282
        generalize am_wI h273 154 28 (gg ||| ((Int32.ofInt 1) <<< ((nI k) &&& 31))) = h293 at f294 f295 f296 f297 f298 f299 f300 f301 ⊢
        refine am_goX 2 (show 3 < 8 ∧ pz_S 8 (some .int) am_r234 4 Q 19 [(3, .int ((nI k) + (Int32.ofInt 1))), (0, .ref 154), (1, .int ((Int16.ofInt 1029).toInt32)), (2, .int w)] [] h293 from ⟨by decide, ?_⟩)
        rw [show d_234_19 C w (m + 1) k s gg = d_234_19 C w m (k + 1) s (gg ||| ((Int32.ofInt 1) <<< ((nI k) &&& 31))) from (if_neg c263).trans (if_neg c283)] at hZ
        rw [show (nI k) + (Int32.ofInt 1) = nI (k + 1) from (dn_a rfl rfl)]
        exact sv_S2 sv2_234 (by intro q hq; simp only [List.mem_cons, List.not_mem_nil, or_false] at hq; rcases hq with rfl | rfl | rfl | rfl <;> rfl) (ih (k + 1) s (gg ||| ((Int32.ofInt 1) <<< ((nI k) &&& 31))) _ (by omega) f294 f295 f296 f297 f298 f299 f300 hZ)
theorem d_234_147_g1029 (x3 : Int32) (n4 : Nat) (hP : ex_P h) (hI : cI C) (hT : tR C h) (hO : ∀ e, e < dE C → h.1 172 e = dW V e) (hN : sR 0 (dP C) u h) (hS : sR 1029 (dP C) s h) (hG : h.1 154 28 = gg) (he : n4 < dE C) : ∀ (m k : Nat) (a5 : Int32), k + m = dP C → (pz_S 8 (some .int) am_r234 4 Q 201 [(0, .ref 154), (1, .int ((Int16.ofInt 1029).toInt32)), (2, .int w), (3, .int x3), (4, .int (nI n4)), (5, .int (d_234_147 C V s gg w n4 m k a5))] [] h) → pz_S 8 (some .int) am_r234 4 Q 147 [(0, .ref 154), (1, .int ((Int16.ofInt 1029).toInt32)), (2, .int w), (3, .int x3), (4, .int (nI n4)), (5, .int a5), (6, .int (nI k))] [] h := by
  intro m
  induction m with
  | zero =>
    intro k a5 hk hZ
    have h6 := hT.1.2.1
    have h5 := hT.2.1.2.1
    refine am_goX 3 (show am_rc h 154 11 ∧ 1 ≤ 8 ∧ h.2.2.2.2 + am_al 186 ≤ 175 ∧ am_call am_cod 4 186 [.ref 154] h (fun vv h' => pz_S 8 (some .int) am_r234 4 Q 153 [(0, .ref 154), (1, .int ((Int16.ofInt 1029).toInt32)), (2, .int w), (3, .int x3), (4, .int (nI n4)), (5, .int a5), (6, .int (nI k))] (vv.toList ++ [.int (nI k)]) h') from ⟨Or.inl ⟨by decide, ex_154 hP⟩, by decide, ex_lim hP rfl, am_call.up (d_186_r hP hT ?_) (by decide)⟩)
    refine am_goX 1 (show ((nI (dP C)) ≤ (nI k) → pz_S 8 (some .int) am_r234 4 Q 201 [(0, .ref 154), (1, .int ((Int16.ofInt 1029).toInt32)), (2, .int w), (3, .int x3), (4, .int (nI n4)), (5, .int a5), (6, .int (nI k))] [] h) ∧ (¬ ((nI (dP C)) ≤ (nI k)) → pz_S 8 (some .int) am_r234 4 Q 156 [(0, .ref 154), (1, .int ((Int16.ofInt 1029).toInt32)), (2, .int w), (3, .int x3), (4, .int (nI n4)), (5, .int a5), (6, .int (nI k))] [] h) from ⟨fun _ => ?_, fun hz => absurd (show nI (dP C) ≤ nI k from nI_le (by omega) (by omega)) hz⟩)
    exact sv_S2 sv2_234 (by intro q hq; simp only [List.mem_cons, List.not_mem_nil, or_false] at hq; rcases hq with rfl | rfl | rfl | rfl | rfl | rfl <;> rfl) (hZ)
  | succ m ih =>
    intro k a5 hk hZ
    have h6 := hT.1.2.1
    have h5 := hT.2.1.2.1
    refine am_goX 3 (show am_rc h 154 11 ∧ 1 ≤ 8 ∧ h.2.2.2.2 + am_al 186 ≤ 175 ∧ am_call am_cod 4 186 [.ref 154] h (fun vv h' => pz_S 8 (some .int) am_r234 4 Q 153 [(0, .ref 154), (1, .int ((Int16.ofInt 1029).toInt32)), (2, .int w), (3, .int x3), (4, .int (nI n4)), (5, .int a5), (6, .int (nI k))] (vv.toList ++ [.int (nI k)]) h') from ⟨Or.inl ⟨by decide, ex_154 hP⟩, by decide, ex_lim hP rfl, am_call.up (d_186_r hP hT ?_) (by decide)⟩)
    refine am_goX 1 (show ((nI (dP C)) ≤ (nI k) → pz_S 8 (some .int) am_r234 4 Q 201 [(0, .ref 154), (1, .int ((Int16.ofInt 1029).toInt32)), (2, .int w), (3, .int x3), (4, .int (nI n4)), (5, .int a5), (6, .int (nI k))] [] h) ∧ (¬ ((nI (dP C)) ≤ (nI k)) → pz_S 8 (some .int) am_r234 4 Q 156 [(0, .ref 154), (1, .int ((Int16.ofInt 1029).toInt32)), (2, .int w), (3, .int x3), (4, .int (nI n4)), (5, .int a5), (6, .int (nI k))] [] h) from ⟨fun hz => absurd hz (show ¬ (nI (dP C) ≤ nI k) by rw [nI_leI (by omega) (by omega)]; omega), fun _ => ?_⟩)
    refine am_goX 3 (show am_sh h 154 = some (11, 0) ∧ pz_S 8 (some .int) am_r234 4 Q 162 [(0, .ref 154), (1, .int ((Int16.ofInt 1029).toInt32)), (2, .int w), (3, .int x3), (4, .int (nI n4)), (5, .int a5), (6, .int (nI k))] [.int (h.1 154 28), .int a5] h from ⟨ex_154 hP, ?_⟩)
    rw [show h.1 154 28 = gg from hG]
    suffices key : ∀ (v311 : Int32), v311 = (if ¬ ((gg >>> ((nI k) &&& 31)) &&& (Int32.ofInt 1)) = (Int32.ofInt 1) then Int32.ofInt 0 else (if (d_238 C V s k n4 w) = 0 then Int32.ofInt 0 else (Int32.ofInt 1) <<< ((nI k) &&& 31))) → pz_S 8 (some .int) am_r234 4 Q 192 [(0, .ref 154), (1, .int ((Int16.ofInt 1029).toInt32)), (2, .int w), (3, .int x3), (4, .int (nI n4)), (6, .int (nI k))] [.int v311, .int a5] h by
      refine am_goX 6 (show (¬ ((gg >>> ((nI k) &&& 31)) &&& (Int32.ofInt 1)) = (Int32.ofInt 1) → pz_S 8 (some .int) am_r234 4 Q 191 [(0, .ref 154), (1, .int ((Int16.ofInt 1029).toInt32)), (2, .int w), (3, .int x3), (4, .int (nI n4)), (5, .int a5), (6, .int (nI k))] [.int a5] h) ∧ (¬ ¬ ((gg >>> ((nI k) &&& 31)) &&& (Int32.ofInt 1)) = (Int32.ofInt 1) → pz_S 8 (some .int) am_r234 4 Q 171 [(0, .ref 154), (1, .int ((Int16.ofInt 1029).toInt32)), (2, .int w), (3, .int x3), (4, .int (nI n4)), (5, .int a5), (6, .int (nI k))] [.int a5] h) from ⟨fun c310 => ?_, fun c310 => ?_⟩)
      · refine am_goX 1 (show pz_S 8 (some .int) am_r234 4 Q 192 [(0, .ref 154), (1, .int ((Int16.ofInt 1029).toInt32)), (2, .int w), (3, .int x3), (4, .int (nI n4)), (5, .int a5), (6, .int (nI k))] [.int (Int32.ofInt 0), .int a5] h from ?_)
        exact sv_S2 sv2_234 (by intro q hq; simp only [List.mem_cons, List.not_mem_nil, or_false] at hq; rcases hq with rfl | rfl | rfl | rfl | rfl | rfl <;> rfl) (key _ (if_pos c310).symm)
      · refine am_goX 6 (show am_rc h 154 11 ∧ 1 ≤ 8 ∧ h.2.2.2.2 + am_al 238 ≤ 175 ∧ am_call am_cod 4 238 [.ref 154, .int ((Int16.ofInt 1029).toInt32), .int (nI k), .int (nI n4), .int w] h (fun vv h' => pz_S 8 (some .int) am_r234 4 Q 181 [(0, .ref 154), (1, .int ((Int16.ofInt 1029).toInt32)), (2, .int w), (3, .int x3), (4, .int (nI n4)), (5, .int a5), (6, .int (nI k))] (vv.toList ++ [.int a5]) h') from ⟨Or.inl ⟨by decide, ex_154 hP⟩, by decide, ex_lim hP rfl, am_call.up (d_238_r1029 hP hI hT hO hN hS (by omega) (by omega) ?_) (by decide)⟩)
        suffices key : ∀ (v313 : Int32), v313 = (if (d_238 C V s k n4 w) = 0 then Int32.ofInt 0 else (Int32.ofInt 1) <<< ((nI k) &&& 31)) → pz_S 8 (some .int) am_r234 4 Q 192 [(0, .ref 154), (1, .int ((Int16.ofInt 1029).toInt32)), (2, .int w), (3, .int x3), (4, .int (nI n4)), (6, .int (nI k))] [.int v313, .int a5] h by
          refine am_goX 1 (show ((d_238 C V s k n4 w) = 0 → pz_S 8 (some .int) am_r234 4 Q 191 [(0, .ref 154), (1, .int ((Int16.ofInt 1029).toInt32)), (2, .int w), (3, .int x3), (4, .int (nI n4)), (5, .int a5), (6, .int (nI k))] [.int a5] h) ∧ (¬ ((d_238 C V s k n4 w) = 0) → pz_S 8 (some .int) am_r234 4 Q 184 [(0, .ref 154), (1, .int ((Int16.ofInt 1029).toInt32)), (2, .int w), (3, .int x3), (4, .int (nI n4)), (5, .int a5), (6, .int (nI k))] [.int a5] h) from ⟨fun c312 => ?_, fun c312 => ?_⟩)
          · refine am_goX 1 (show pz_S 8 (some .int) am_r234 4 Q 192 [(0, .ref 154), (1, .int ((Int16.ofInt 1029).toInt32)), (2, .int w), (3, .int x3), (4, .int (nI n4)), (5, .int a5), (6, .int (nI k))] [.int (Int32.ofInt 0), .int a5] h from ?_)
            exact sv_S2 sv2_234 (by intro q hq; simp only [List.mem_cons, List.not_mem_nil, or_false] at hq; rcases hq with rfl | rfl | rfl | rfl | rfl | rfl <;> rfl) (key _ (if_pos c312).symm)
          · refine am_goX 4 (show pz_S 8 (some .int) am_r234 4 Q 192 [(0, .ref 154), (1, .int ((Int16.ofInt 1029).toInt32)), (2, .int w), (3, .int x3), (4, .int (nI n4)), (5, .int a5), (6, .int (nI k))] [.int ((Int32.ofInt 1) <<< ((nI k) &&& 31)), .int a5] h from ?_)
            exact sv_S2 sv2_234 (by intro q hq; simp only [List.mem_cons, List.not_mem_nil, or_false] at hq; rcases hq with rfl | rfl | rfl | rfl | rfl | rfl <;> rfl) (key _ (if_neg c312).symm)
        intro v313 e314
        subst e314
        exact sv_S2 sv2_234 (by intro q hq; simp only [List.mem_cons, List.not_mem_nil, or_false] at hq; rcases hq with rfl | rfl | rfl | rfl | rfl | rfl <;> rfl) (key _ (if_neg c310).symm)
    intro v311 e315
    subst e315
    refine am_goX 4 (show 5 < 8 ∧ 6 < 8 ∧ pz_S 8 (some .int) am_r234 4 Q 147 [(6, .int ((nI k) + (Int32.ofInt 1))), (5, .int (a5 ||| (if ¬ ((gg >>> ((nI k) &&& 31)) &&& (Int32.ofInt 1)) = (Int32.ofInt 1) then Int32.ofInt 0 else (if (d_238 C V s k n4 w) = 0 then Int32.ofInt 0 else (Int32.ofInt 1) <<< ((nI k) &&& 31))))), (0, .ref 154), (1, .int ((Int16.ofInt 1029).toInt32)), (2, .int w), (3, .int x3), (4, .int (nI n4))] [] h from ⟨by decide, by decide, ?_⟩)
    rw [show (nI k) + (Int32.ofInt 1) = nI (k + 1) from (dn_a rfl rfl)]
    exact sv_S2 sv2_234 (by intro q hq; simp only [List.mem_cons, List.not_mem_nil, or_false] at hq; rcases hq with rfl | rfl | rfl | rfl | rfl | rfl | rfl <;> rfl) (ih (k + 1) (a5 ||| (if ¬ ((gg >>> ((nI k) &&& 31)) &&& (Int32.ofInt 1)) = (Int32.ofInt 1) then Int32.ofInt 0 else (if (d_238 C V s k n4 w) = 0 then Int32.ofInt 0 else (Int32.ofInt 1) <<< ((nI k) &&& 31)))) (by omega) hZ)
theorem d_234_281_g1029 (x3 : Int32) (n4 : Nat) (x5 : Int32) : ∀ (m k : Nat) (s : dS) (h : am_H), k + m = dP C → (ex_P h) → (cI C) → (tR C h) → (∀ e, e < dE C → h.1 172 e = dW V e) → (sR 0 (dP C) u h) → (sR 1029 (dP C) s h) → (h.1 154 28 = gg) → (∀ h1, (ex_P h1) → (cI C) → (tR C h1) → (∀ e, e < dE C → h1.1 172 e = dW V e) → (sR 0 (dP C) u h1) → (sR 1029 (dP C) (d_234_281 C x5 m k s) h1) → (h1.1 154 28 = gg) → pz_S 8 (some .int) am_r234 4 Q 335 [(0, .ref 154), (1, .int ((Int16.ofInt 1029).toInt32)), (2, .int w), (3, .int x3), (4, .int (nI n4))] [] h1) → pz_S 8 (some .int) am_r234 4 Q 281 [(0, .ref 154), (1, .int ((Int16.ofInt 1029).toInt32)), (2, .int w), (3, .int x3), (4, .int (nI n4)), (5, .int x5), (7, .int (nI k))] [] h := by
  intro m
  induction m with
  | zero =>
    intro k s h hk hP hI hT hO hN hS hG hZ
    have h6 := hT.1.2.1
    have h5 := hT.2.1.2.1
    refine am_goX 3 (show am_rc h 154 11 ∧ 1 ≤ 8 ∧ h.2.2.2.2 + am_al 186 ≤ 175 ∧ am_call am_cod 4 186 [.ref 154] h (fun vv h' => pz_S 8 (some .int) am_r234 4 Q 287 [(0, .ref 154), (1, .int ((Int16.ofInt 1029).toInt32)), (2, .int w), (3, .int x3), (4, .int (nI n4)), (5, .int x5), (7, .int (nI k))] (vv.toList ++ [.int (nI k)]) h') from ⟨Or.inl ⟨by decide, ex_154 hP⟩, by decide, ex_lim hP rfl, am_call.up (d_186_r hP hT ?_) (by decide)⟩)
    refine am_goX 1 (show ((nI (dP C)) ≤ (nI k) → pz_S 8 (some .int) am_r234 4 Q 335 [(0, .ref 154), (1, .int ((Int16.ofInt 1029).toInt32)), (2, .int w), (3, .int x3), (4, .int (nI n4)), (5, .int x5), (7, .int (nI k))] [] h) ∧ (¬ ((nI (dP C)) ≤ (nI k)) → pz_S 8 (some .int) am_r234 4 Q 290 [(0, .ref 154), (1, .int ((Int16.ofInt 1029).toInt32)), (2, .int w), (3, .int x3), (4, .int (nI n4)), (5, .int x5), (7, .int (nI k))] [] h) from ⟨fun _ => ?_, fun hz => absurd (show nI (dP C) ≤ nI k from nI_le (by omega) (by omega)) hz⟩)
    exact sv_S2 sv2_234 (by intro q hq; simp only [List.mem_cons, List.not_mem_nil, or_false] at hq; rcases hq with rfl | rfl | rfl | rfl | rfl <;> rfl) (hZ _ hP hI hT hO hN hS hG)
  | succ m ih =>
    intro k s h hk hP hI hT hO hN hS hG hZ
    have h6 := hT.1.2.1
    have h5 := hT.2.1.2.1
    refine am_goX 3 (show am_rc h 154 11 ∧ 1 ≤ 8 ∧ h.2.2.2.2 + am_al 186 ≤ 175 ∧ am_call am_cod 4 186 [.ref 154] h (fun vv h' => pz_S 8 (some .int) am_r234 4 Q 287 [(0, .ref 154), (1, .int ((Int16.ofInt 1029).toInt32)), (2, .int w), (3, .int x3), (4, .int (nI n4)), (5, .int x5), (7, .int (nI k))] (vv.toList ++ [.int (nI k)]) h') from ⟨Or.inl ⟨by decide, ex_154 hP⟩, by decide, ex_lim hP rfl, am_call.up (d_186_r hP hT ?_) (by decide)⟩)
    refine am_goX 1 (show ((nI (dP C)) ≤ (nI k) → pz_S 8 (some .int) am_r234 4 Q 335 [(0, .ref 154), (1, .int ((Int16.ofInt 1029).toInt32)), (2, .int w), (3, .int x3), (4, .int (nI n4)), (5, .int x5), (7, .int (nI k))] [] h) ∧ (¬ ((nI (dP C)) ≤ (nI k)) → pz_S 8 (some .int) am_r234 4 Q 290 [(0, .ref 154), (1, .int ((Int16.ofInt 1029).toInt32)), (2, .int w), (3, .int x3), (4, .int (nI n4)), (5, .int x5), (7, .int (nI k))] [] h) from ⟨fun hz => absurd hz (show ¬ (nI (dP C) ≤ nI k) by rw [nI_leI (by omega) (by omega)]; omega), fun _ => ?_⟩)
    refine am_goX 2 (show am_sh h 154 = some (11, 0) ∧ pz_S 8 (some .int) am_r234 4 Q 294 [(0, .ref 154), (1, .int ((Int16.ofInt 1029).toInt32)), (2, .int w), (3, .int x3), (4, .int (nI n4)), (5, .int x5), (7, .int (nI k))] [am_rf (h.2.2.1 154 24)] h from ⟨ex_154 hP, ?_⟩)
    rw [show am_rf (h.2.2.1 154 24) = .ref 170 from congrArg am_rf (ex_r154_24 hP)]
    refine am_goX 7 (show (Value.int ((((Int16.ofInt 1029).toInt32) + ((Int8.ofInt 8).toInt32)) + (nI k))).category = 1 ∧ (Value.ref 170).category = 1 ∧ ∃ jj nn : Nat, am_sh h 170 = some (13, nn) ∧ jj < nn ∧ (((Int16.ofInt 1029).toInt32) + ((Int8.ofInt 8).toInt32)) + (nI k) = nI jj ∧ pz_S 8 (some .int) am_r234 4 Q 303 [(0, .ref 154), (1, .int ((Int16.ofInt 1029).toInt32)), (2, .int w), (3, .int x3), (4, .int (nI n4)), (5, .int x5), (7, .int (nI k))] [.int (h.1 170 jj), .int ((((Int16.ofInt 1029).toInt32) + ((Int8.ofInt 8).toInt32)) + (nI k)), .ref 170] h from ⟨rfl, rfl, ⟨(1037 + k), 1127, ex_170 hP, (by omega), (dn_a (dn_a (show (Int16.ofInt 1029).toInt32 = nI 1029 by decide) (show (Int8.ofInt 8).toInt32 = nI 8 by decide)) rfl), ?_⟩⟩)
    rw [show h.1 170 (1037 + k) = s.2.2.2.1 k from (by rw [show (1037 + k) = 1029 + 8 + k by omega]; exact hS.2.2.1 k (by omega))]
    suffices key : ∀ (v342 : Int32), v342 = (if ¬ ((x5 >>> ((nI k) &&& 31)) &&& (Int32.ofInt 1)) = (Int32.ofInt 1) then Int32.ofInt 0 else x5 &&& (((Int32.ofInt 1) <<< ((nI k) &&& 31)) ^^^ (Int32.ofInt (-1)))) → pz_S 8 (some .int) am_r234 4 Q 327 [(0, .ref 154), (1, .int ((Int16.ofInt 1029).toInt32)), (2, .int w), (3, .int x3), (4, .int (nI n4)), (5, .int x5), (7, .int (nI k))] [.int v342, .int (s.2.2.2.1 k), .int ((((Int16.ofInt 1029).toInt32) + ((Int8.ofInt 8).toInt32)) + (nI k)), .ref 170] h by
      refine am_goX 7 (show (¬ ((x5 >>> ((nI k) &&& 31)) &&& (Int32.ofInt 1)) = (Int32.ofInt 1) → pz_S 8 (some .int) am_r234 4 Q 326 [(0, .ref 154), (1, .int ((Int16.ofInt 1029).toInt32)), (2, .int w), (3, .int x3), (4, .int (nI n4)), (5, .int x5), (7, .int (nI k))] [.int (s.2.2.2.1 k), .int ((((Int16.ofInt 1029).toInt32) + ((Int8.ofInt 8).toInt32)) + (nI k)), .ref 170] h) ∧ (¬ ¬ ((x5 >>> ((nI k) &&& 31)) &&& (Int32.ofInt 1)) = (Int32.ofInt 1) → pz_S 8 (some .int) am_r234 4 Q 314 [(0, .ref 154), (1, .int ((Int16.ofInt 1029).toInt32)), (2, .int w), (3, .int x3), (4, .int (nI n4)), (5, .int x5), (7, .int (nI k))] [.int (s.2.2.2.1 k), .int ((((Int16.ofInt 1029).toInt32) + ((Int8.ofInt 8).toInt32)) + (nI k)), .ref 170] h) from ⟨fun c341 => ?_, fun c341 => ?_⟩)
      · refine am_goX 1 (show pz_S 8 (some .int) am_r234 4 Q 327 [(0, .ref 154), (1, .int ((Int16.ofInt 1029).toInt32)), (2, .int w), (3, .int x3), (4, .int (nI n4)), (5, .int x5), (7, .int (nI k))] [.int (Int32.ofInt 0), .int (s.2.2.2.1 k), .int ((((Int16.ofInt 1029).toInt32) + ((Int8.ofInt 8).toInt32)) + (nI k)), .ref 170] h from ?_)
        exact sv_S2 sv2_234 (by intro q hq; simp only [List.mem_cons, List.not_mem_nil, or_false] at hq; rcases hq with rfl | rfl | rfl | rfl | rfl | rfl | rfl <;> rfl) (key _ (if_pos c341).symm)
      · refine am_goX 8 (show pz_S 8 (some .int) am_r234 4 Q 327 [(0, .ref 154), (1, .int ((Int16.ofInt 1029).toInt32)), (2, .int w), (3, .int x3), (4, .int (nI n4)), (5, .int x5), (7, .int (nI k))] [.int (x5 &&& (((Int32.ofInt 1) <<< ((nI k) &&& 31)) ^^^ (Int32.ofInt (-1)))), .int (s.2.2.2.1 k), .int ((((Int16.ofInt 1029).toInt32) + ((Int8.ofInt 8).toInt32)) + (nI k)), .ref 170] h from ?_)
        exact sv_S2 sv2_234 (by intro q hq; simp only [List.mem_cons, List.not_mem_nil, or_false] at hq; rcases hq with rfl | rfl | rfl | rfl | rfl | rfl | rfl <;> rfl) (key _ (if_neg c341).symm)
    intro v342 e343
    subst e343
    refine am_goX 2 (show ∃ jj nn : Nat, am_so h 170 = some (13, nn) ∧ jj < nn ∧ (((Int16.ofInt 1029).toInt32) + ((Int8.ofInt 8).toInt32)) + (nI k) = nI jj ∧ pz_S 8 (some .int) am_r234 4 Q 329 [(0, .ref 154), (1, .int ((Int16.ofInt 1029).toInt32)), (2, .int w), (3, .int x3), (4, .int (nI n4)), (5, .int x5), (7, .int (nI k))] [] (am_wI h 170 jj ((s.2.2.2.1 k) ||| (if ¬ ((x5 >>> ((nI k) &&& 31)) &&& (Int32.ofInt 1)) = (Int32.ofInt 1) then Int32.ofInt 0 else x5 &&& (((Int32.ofInt 1) <<< ((nI k) &&& 31)) ^^^ (Int32.ofInt (-1)))))) from ⟨(1037 + k), 1127, ex_w170 hP, (by omega), (dn_a (dn_a (show (Int16.ofInt 1029).toInt32 = nI 1029 by decide) (show (Int8.ofInt 8).toInt32 = nI 8 by decide)) rfl), ?_⟩)
    have f345 : ex_P (am_wI h 170 (1037 + k) ((s.2.2.2.1 k) ||| (if ¬ ((x5 >>> ((nI k) &&& 31)) &&& (Int32.ofInt 1)) = (Int32.ofInt 1) then Int32.ofInt 0 else x5 &&& (((Int32.ofInt 1) <<< ((nI k) &&& 31)) ^^^ (Int32.ofInt (-1)))))) := hP
    have f346 : cI C := hI
    have f347 : tR C (am_wI h 170 (1037 + k) ((s.2.2.2.1 k) ||| (if ¬ ((x5 >>> ((nI k) &&& 31)) &&& (Int32.ofInt 1)) = (Int32.ofInt 1) then Int32.ofInt 0 else x5 &&& (((Int32.ofInt 1) <<< ((nI k) &&& 31)) ^^^ (Int32.ofInt (-1)))))) := tR_w (by omega) hT
    have f348 : ∀ e, e < dE C → (am_wI h 170 (1037 + k) ((s.2.2.2.1 k) ||| (if ¬ ((x5 >>> ((nI k) &&& 31)) &&& (Int32.ofInt 1)) = (Int32.ofInt 1) then Int32.ofInt 0 else x5 &&& (((Int32.ofInt 1) <<< ((nI k) &&& 31)) ^^^ (Int32.ofInt (-1)))))).1 172 e = dW V e := on_w (by omega) hO
    have f349 : sR 0 (dP C) u (am_wI h 170 (1037 + k) ((s.2.2.2.1 k) ||| (if ¬ ((x5 >>> ((nI k) &&& 31)) &&& (Int32.ofInt 1)) = (Int32.ofInt 1) then Int32.ofInt 0 else x5 &&& (((Int32.ofInt 1) <<< ((nI k) &&& 31)) ^^^ (Int32.ofInt (-1)))))) := sR_q (by omega) hN
    have f350 : sR 1029 (dP C) (sSM s k ((s.2.2.2.1 k) ||| (if ¬ ((x5 >>> ((nI k) &&& 31)) &&& (Int32.ofInt 1)) = (Int32.ofInt 1) then Int32.ofInt 0 else x5 &&& (((Int32.ofInt 1) <<< ((nI k) &&& 31)) ^^^ (Int32.ofInt (-1)))))) (am_wI h 170 (1037 + k) ((s.2.2.2.1 k) ||| (if ¬ ((x5 >>> ((nI k) &&& 31)) &&& (Int32.ofInt 1)) = (Int32.ofInt 1) then Int32.ofInt 0 else x5 &&& (((Int32.ofInt 1) <<< ((nI k) &&& 31)) ^^^ (Int32.ofInt (-1)))))) := sR_wM (i := k) (by omega) (by omega) hS
    have f351 : (am_wI h 170 (1037 + k) ((s.2.2.2.1 k) ||| (if ¬ ((x5 >>> ((nI k) &&& 31)) &&& (Int32.ofInt 1)) = (Int32.ofInt 1) then Int32.ofInt 0 else x5 &&& (((Int32.ofInt 1) <<< ((nI k) &&& 31)) ^^^ (Int32.ofInt (-1)))))).1 154 28 = gg := (em_wn _ _ (by omega)).trans hG
    generalize am_wI h 170 (1037 + k) ((s.2.2.2.1 k) ||| (if ¬ ((x5 >>> ((nI k) &&& 31)) &&& (Int32.ofInt 1)) = (Int32.ofInt 1) then Int32.ofInt 0 else x5 &&& (((Int32.ofInt 1) <<< ((nI k) &&& 31)) ^^^ (Int32.ofInt (-1))))) = h344 at f345 f346 f347 f348 f349 f350 f351 ⊢
    refine am_goX 2 (show 7 < 8 ∧ pz_S 8 (some .int) am_r234 4 Q 281 [(7, .int ((nI k) + (Int32.ofInt 1))), (0, .ref 154), (1, .int ((Int16.ofInt 1029).toInt32)), (2, .int w), (3, .int x3), (4, .int (nI n4)), (5, .int x5)] [] h344 from ⟨by decide, ?_⟩)
    rw [show (nI k) + (Int32.ofInt 1) = nI (k + 1) from (dn_a rfl rfl)]
    exact sv_S2 sv2_234 (by intro q hq; simp only [List.mem_cons, List.not_mem_nil, or_false] at hq; rcases hq with rfl | rfl | rfl | rfl | rfl | rfl | rfl <;> rfl) (ih (k + 1) (sSM s k ((s.2.2.2.1 k) ||| (if ¬ ((x5 >>> ((nI k) &&& 31)) &&& (Int32.ofInt 1)) = (Int32.ofInt 1) then Int32.ofInt 0 else x5 &&& (((Int32.ofInt 1) <<< ((nI k) &&& 31)) ^^^ (Int32.ofInt (-1)))))) _ (by omega) f345 f346 f347 f348 f349 f350 f351 hZ)
theorem d_234_132_g1029 : ∀ (m k : Nat) (a3 : Int32) (s : dS) (h : am_H), k + m = dE C → (ex_P h) → (cI C) → (tR C h) → (∀ e, e < dE C → h.1 172 e = dW V e) → (sR 0 (dP C) u h) → (sR 1029 (dP C) s h) → (h.1 154 28 = gg) → (∀ h1, (ex_P h1) → (cI C) → (tR C h1) → (∀ e, e < dE C → h1.1 172 e = dW V e) → (sR 0 (dP C) u h1) → (sR 1029 (dP C) ((d_234_132 C V gg w m k a3 s).2) h1) → (h1.1 154 28 = gg) → pz_S 8 (some .int) am_r234 4 Q 341 [(3, .int ((d_234_132 C V gg w m k a3 s).1))] [] h1) → pz_S 8 (some .int) am_r234 4 Q 132 [(0, .ref 154), (1, .int ((Int16.ofInt 1029).toInt32)), (2, .int w), (3, .int a3), (4, .int (nI k))] [] h := by
  intro m
  induction m with
  | zero =>
    intro k a3 s h hk hP hI hT hO hN hS hG hZ
    have h6 := hT.1.2.1
    have h5 := hT.2.1.2.1
    refine am_goX 3 (show am_rc h 154 11 ∧ 1 ≤ 8 ∧ h.2.2.2.2 + am_al 183 ≤ 175 ∧ am_call am_cod 4 183 [.ref 154] h (fun vv h' => pz_S 8 (some .int) am_r234 4 Q 138 [(0, .ref 154), (1, .int ((Int16.ofInt 1029).toInt32)), (2, .int w), (3, .int a3), (4, .int (nI k))] (vv.toList ++ [.int (nI k)]) h') from ⟨Or.inl ⟨by decide, ex_154 hP⟩, by decide, ex_lim hP rfl, am_call.up (d_183_r hP hT ?_) (by decide)⟩)
    refine am_goX 1 (show ((nI (dE C)) ≤ (nI k) → pz_S 8 (some .int) am_r234 4 Q 341 [(0, .ref 154), (1, .int ((Int16.ofInt 1029).toInt32)), (2, .int w), (3, .int a3), (4, .int (nI k))] [] h) ∧ (¬ ((nI (dE C)) ≤ (nI k)) → pz_S 8 (some .int) am_r234 4 Q 141 [(0, .ref 154), (1, .int ((Int16.ofInt 1029).toInt32)), (2, .int w), (3, .int a3), (4, .int (nI k))] [] h) from ⟨fun _ => ?_, fun hz => absurd (show nI (dE C) ≤ nI k from nI_le (by omega) (by omega)) hz⟩)
    exact sv_S2 sv2_234 (by intro q hq; simp only [List.mem_cons, List.not_mem_nil, or_false] at hq; rcases hq with rfl <;> rfl) (hZ _ hP hI hT hO hN hS hG)
  | succ m ih =>
    intro k a3 s h hk hP hI hT hO hN hS hG hZ
    have h6 := hT.1.2.1
    have h5 := hT.2.1.2.1
    refine am_goX 3 (show am_rc h 154 11 ∧ 1 ≤ 8 ∧ h.2.2.2.2 + am_al 183 ≤ 175 ∧ am_call am_cod 4 183 [.ref 154] h (fun vv h' => pz_S 8 (some .int) am_r234 4 Q 138 [(0, .ref 154), (1, .int ((Int16.ofInt 1029).toInt32)), (2, .int w), (3, .int a3), (4, .int (nI k))] (vv.toList ++ [.int (nI k)]) h') from ⟨Or.inl ⟨by decide, ex_154 hP⟩, by decide, ex_lim hP rfl, am_call.up (d_183_r hP hT ?_) (by decide)⟩)
    refine am_goX 1 (show ((nI (dE C)) ≤ (nI k) → pz_S 8 (some .int) am_r234 4 Q 341 [(0, .ref 154), (1, .int ((Int16.ofInt 1029).toInt32)), (2, .int w), (3, .int a3), (4, .int (nI k))] [] h) ∧ (¬ ((nI (dE C)) ≤ (nI k)) → pz_S 8 (some .int) am_r234 4 Q 141 [(0, .ref 154), (1, .int ((Int16.ofInt 1029).toInt32)), (2, .int w), (3, .int a3), (4, .int (nI k))] [] h) from ⟨fun hz => absurd hz (show ¬ (nI (dE C) ≤ nI k) by rw [nI_leI (by omega) (by omega)]; omega), fun _ => ?_⟩)
    refine am_goX 4 (show 5 < 8 ∧ 6 < 8 ∧ pz_S 8 (some .int) am_r234 4 Q 147 [(6, .int (Int32.ofInt 0)), (5, .int (Int32.ofInt 0)), (0, .ref 154), (1, .int ((Int16.ofInt 1029).toInt32)), (2, .int w), (3, .int a3), (4, .int (nI k))] [] h from ⟨by decide, by decide, ?_⟩)
    refine sv_S2 sv2_234 (by intro q hq; simp only [List.mem_cons, List.not_mem_nil, or_false] at hq; rcases hq with rfl | rfl | rfl | rfl | rfl | rfl | rfl <;> rfl) (d_234_147_g1029 a3 k hP hI hT hO hN hS hG (by omega) (dP C) 0 (Int32.ofInt 0) (by omega) ?_)
    refine am_goX 2 (show am_sh h 154 = some (11, 0) ∧ pz_S 8 (some .int) am_r234 4 Q 205 [(0, .ref 154), (1, .int ((Int16.ofInt 1029).toInt32)), (2, .int w), (3, .int a3), (4, .int (nI k)), (5, .int (d_234_147 C V s gg w k (dP C) 0 (Int32.ofInt 0)))] [am_rf (h.2.2.1 154 24)] h from ⟨ex_154 hP, ?_⟩)
    rw [show am_rf (h.2.2.1 154 24) = .ref 170 from congrArg am_rf (ex_r154_24 hP)]
    refine am_goX 7 (show ∃ jj nn : Nat, am_so h 170 = some (13, nn) ∧ jj < nn ∧ (((Int16.ofInt 1029).toInt32) + ((Int8.ofInt 19).toInt32)) + (nI k) = nI jj ∧ pz_S 8 (some .int) am_r234 4 Q 215 [(0, .ref 154), (1, .int ((Int16.ofInt 1029).toInt32)), (2, .int w), (3, .int a3), (4, .int (nI k)), (5, .int (d_234_147 C V s gg w k (dP C) 0 (Int32.ofInt 0)))] [] (am_wI h 170 jj (d_234_147 C V s gg w k (dP C) 0 (Int32.ofInt 0))) from ⟨(1048 + k), 1127, ex_w170 hP, (by omega), (dn_a (dn_a (show (Int16.ofInt 1029).toInt32 = nI 1029 by decide) (show (Int8.ofInt 19).toInt32 = nI 19 by decide)) rfl), ?_⟩)
    have f311 : ex_P (am_wI h 170 (1048 + k) (d_234_147 C V s gg w k (dP C) 0 (Int32.ofInt 0))) := hP
    have f312 : cI C := hI
    have f313 : tR C (am_wI h 170 (1048 + k) (d_234_147 C V s gg w k (dP C) 0 (Int32.ofInt 0))) := tR_w (by omega) hT
    have f314 : ∀ e, e < dE C → (am_wI h 170 (1048 + k) (d_234_147 C V s gg w k (dP C) 0 (Int32.ofInt 0))).1 172 e = dW V e := on_w (by omega) hO
    have f315 : sR 0 (dP C) u (am_wI h 170 (1048 + k) (d_234_147 C V s gg w k (dP C) 0 (Int32.ofInt 0))) := sR_q (by omega) hN
    have f316 : sR 1029 (dP C) (sSA s k (d_234_147 C V s gg w k (dP C) 0 (Int32.ofInt 0))) (am_wI h 170 (1048 + k) (d_234_147 C V s gg w k (dP C) 0 (Int32.ofInt 0))) := sR_wA (i := k) (by omega) (by omega) hS
    have f317 : (am_wI h 170 (1048 + k) (d_234_147 C V s gg w k (dP C) 0 (Int32.ofInt 0))).1 154 28 = gg := (em_wn _ _ (by omega)).trans hG
    generalize am_wI h 170 (1048 + k) (d_234_147 C V s gg w k (dP C) 0 (Int32.ofInt 0)) = h310 at f311 f312 f313 f314 f315 f316 f317 ⊢
    refine am_goX 2 (show 0 ≤ 8 ∧ h310.2.2.2.2 + am_al 235 ≤ 175 ∧ am_call am_cod 4 235 [.int (d_234_147 C V s gg w k (dP C) 0 (Int32.ofInt 0))] h310 (fun vv h' => pz_S 8 (some .int) am_r234 4 Q 220 [(0, .ref 154), (1, .int ((Int16.ofInt 1029).toInt32)), (2, .int w), (3, .int a3), (4, .int (nI k)), (5, .int (d_234_147 C V s gg w k (dP C) 0 (Int32.ofInt 0)))] (vv.toList ++ []) h') from ⟨by decide, ex_lim f311 rfl, am_call.up (d_235_w f311 ?_) (by decide)⟩)
    refine am_goX 4 (show am_rc h310 154 11 ∧ 1 ≤ 8 ∧ h310.2.2.2.2 + am_al 184 ≤ 175 ∧ am_call am_cod 4 184 [.ref 154, .int (nI k), .int (Int32.ofInt 1)] h310 (fun vv h' => pz_S 8 (some .int) am_r234 4 Q 227 [(0, .ref 154), (1, .int ((Int16.ofInt 1029).toInt32)), (2, .int w), (3, .int a3), (4, .int (nI k)), (5, .int (d_234_147 C V s gg w k (dP C) 0 (Int32.ofInt 0)))] (vv.toList ++ [.int (d_235 (d_234_147 C V s gg w k (dP C) 0 (Int32.ofInt 0)))]) h') from ⟨Or.inl ⟨by decide, ex_154 f311⟩, by decide, ex_lim f311 rfl, am_call.up (d_184_r1 f311 f313 (by omega) ?_) (by decide)⟩)
    suffices key : ∀ (v319 : Int32), v319 = (if (d_235 (d_234_147 C V s gg w k (dP C) 0 (Int32.ofInt 0))) < (dN C k) then Int32.ofInt 0 else Int32.ofInt 1) → pz_S 8 (some .int) am_r234 4 Q 235 [(0, .ref 154), (1, .int ((Int16.ofInt 1029).toInt32)), (2, .int w), (3, .int a3), (4, .int (nI k)), (5, .int (d_234_147 C V s gg w k (dP C) 0 (Int32.ofInt 0)))] [.int v319] h310 by
      refine am_goX 1 (show ((d_235 (d_234_147 C V s gg w k (dP C) 0 (Int32.ofInt 0))) < (dN C k) → pz_S 8 (some .int) am_r234 4 Q 234 [(0, .ref 154), (1, .int ((Int16.ofInt 1029).toInt32)), (2, .int w), (3, .int a3), (4, .int (nI k)), (5, .int (d_234_147 C V s gg w k (dP C) 0 (Int32.ofInt 0)))] [] h310) ∧ (¬ ((d_235 (d_234_147 C V s gg w k (dP C) 0 (Int32.ofInt 0))) < (dN C k)) → pz_S 8 (some .int) am_r234 4 Q 230 [(0, .ref 154), (1, .int ((Int16.ofInt 1029).toInt32)), (2, .int w), (3, .int a3), (4, .int (nI k)), (5, .int (d_234_147 C V s gg w k (dP C) 0 (Int32.ofInt 0)))] [] h310) from ⟨fun c318 => ?_, fun c318 => ?_⟩)
      · refine am_goX 1 (show pz_S 8 (some .int) am_r234 4 Q 235 [(0, .ref 154), (1, .int ((Int16.ofInt 1029).toInt32)), (2, .int w), (3, .int a3), (4, .int (nI k)), (5, .int (d_234_147 C V s gg w k (dP C) 0 (Int32.ofInt 0)))] [.int (Int32.ofInt 0)] h310 from ?_)
        exact sv_S2 sv2_234 (by intro q hq; simp only [List.mem_cons, List.not_mem_nil, or_false] at hq; rcases hq with rfl | rfl | rfl | rfl | rfl | rfl <;> rfl) (key _ (if_pos c318).symm)
      · refine am_goX 2 (show pz_S 8 (some .int) am_r234 4 Q 235 [(0, .ref 154), (1, .int ((Int16.ofInt 1029).toInt32)), (2, .int w), (3, .int a3), (4, .int (nI k)), (5, .int (d_234_147 C V s gg w k (dP C) 0 (Int32.ofInt 0)))] [.int (Int32.ofInt 1)] h310 from ?_)
        exact sv_S2 sv2_234 (by intro q hq; simp only [List.mem_cons, List.not_mem_nil, or_false] at hq; rcases hq with rfl | rfl | rfl | rfl | rfl | rfl <;> rfl) (key _ (if_neg c318).symm)
    intro v319 e320
    subst e320
    refine am_goX 3 (show 6 < 8 ∧ am_sh h310 154 = some (11, 0) ∧ pz_S 8 (some .int) am_r234 4 Q 241 [(6, .int (if (d_235 (d_234_147 C V s gg w k (dP C) 0 (Int32.ofInt 0))) < (dN C k) then Int32.ofInt 0 else Int32.ofInt 1)), (0, .ref 154), (1, .int ((Int16.ofInt 1029).toInt32)), (2, .int w), (3, .int a3), (4, .int (nI k)), (5, .int (d_234_147 C V s gg w k (dP C) 0 (Int32.ofInt 0)))] [am_rf (h310.2.2.1 154 24)] h310 from ⟨by decide, ex_154 f311, ?_⟩)
    rw [show am_rf (h310.2.2.1 154 24) = .ref 170 from congrArg am_rf (ex_r154_24 f311)]
    refine am_goX 7 (show (Value.int ((((Int16.ofInt 1029).toInt32) + ((Int8.ofInt 14).toInt32)) + (nI k))).category = 1 ∧ (Value.ref 170).category = 1 ∧ ∃ jj nn : Nat, am_sh h310 170 = some (13, nn) ∧ jj < nn ∧ (((Int16.ofInt 1029).toInt32) + ((Int8.ofInt 14).toInt32)) + (nI k) = nI jj ∧ pz_S 8 (some .int) am_r234 4 Q 250 [(6, .int (if (d_235 (d_234_147 C V s gg w k (dP C) 0 (Int32.ofInt 0))) < (dN C k) then Int32.ofInt 0 else Int32.ofInt 1)), (0, .ref 154), (1, .int ((Int16.ofInt 1029).toInt32)), (2, .int w), (3, .int a3), (4, .int (nI k)), (5, .int (d_234_147 C V s gg w k (dP C) 0 (Int32.ofInt 0)))] [.int (h310.1 170 jj), .int ((((Int16.ofInt 1029).toInt32) + ((Int8.ofInt 14).toInt32)) + (nI k)), .ref 170] h310 from ⟨rfl, rfl, ⟨(1043 + k), 1127, ex_170 f311, (by omega), (dn_a (dn_a (show (Int16.ofInt 1029).toInt32 = nI 1029 by decide) (show (Int8.ofInt 14).toInt32 = nI 14 by decide)) rfl), ?_⟩⟩)
    rw [show h310.1 170 (1043 + k) = (sSA s k (d_234_147 C V s gg w k (dP C) 0 (Int32.ofInt 0))).2.2.2.2.1 k from (by rw [show (1043 + k) = 1029 + 14 + k by omega]; exact (f316.2.2.2 k (by omega)).1)]
    suffices key : ∀ (v322 : Int32), v322 = (if (if (d_235 (d_234_147 C V s gg w k (dP C) 0 (Int32.ofInt 0))) < (dN C k) then Int32.ofInt 0 else Int32.ofInt 1) = 0 then Int32.ofInt 0 else Int32.ofInt 1) → pz_S 8 (some .int) am_r234 4 Q 260 [(0, .ref 154), (1, .int ((Int16.ofInt 1029).toInt32)), (2, .int w), (3, .int a3), (4, .int (nI k)), (5, .int (d_234_147 C V s gg w k (dP C) 0 (Int32.ofInt 0))), (6, .int (if (d_235 (d_234_147 C V s gg w k (dP C) 0 (Int32.ofInt 0))) < (dN C k) then Int32.ofInt 0 else Int32.ofInt 1))] [.int v322, .int ((sSA s k (d_234_147 C V s gg w k (dP C) 0 (Int32.ofInt 0))).2.2.2.2.1 k), .int ((((Int16.ofInt 1029).toInt32) + ((Int8.ofInt 14).toInt32)) + (nI k)), .ref 170] h310 by
      refine am_goX 2 (show ((if (d_235 (d_234_147 C V s gg w k (dP C) 0 (Int32.ofInt 0))) < (dN C k) then Int32.ofInt 0 else Int32.ofInt 1) = 0 → pz_S 8 (some .int) am_r234 4 Q 259 [(6, .int (if (d_235 (d_234_147 C V s gg w k (dP C) 0 (Int32.ofInt 0))) < (dN C k) then Int32.ofInt 0 else Int32.ofInt 1)), (0, .ref 154), (1, .int ((Int16.ofInt 1029).toInt32)), (2, .int w), (3, .int a3), (4, .int (nI k)), (5, .int (d_234_147 C V s gg w k (dP C) 0 (Int32.ofInt 0)))] [.int ((sSA s k (d_234_147 C V s gg w k (dP C) 0 (Int32.ofInt 0))).2.2.2.2.1 k), .int ((((Int16.ofInt 1029).toInt32) + ((Int8.ofInt 14).toInt32)) + (nI k)), .ref 170] h310) ∧ (¬ ((if (d_235 (d_234_147 C V s gg w k (dP C) 0 (Int32.ofInt 0))) < (dN C k) then Int32.ofInt 0 else Int32.ofInt 1) = 0) → pz_S 8 (some .int) am_r234 4 Q 255 [(6, .int (if (d_235 (d_234_147 C V s gg w k (dP C) 0 (Int32.ofInt 0))) < (dN C k) then Int32.ofInt 0 else Int32.ofInt 1)), (0, .ref 154), (1, .int ((Int16.ofInt 1029).toInt32)), (2, .int w), (3, .int a3), (4, .int (nI k)), (5, .int (d_234_147 C V s gg w k (dP C) 0 (Int32.ofInt 0)))] [.int ((sSA s k (d_234_147 C V s gg w k (dP C) 0 (Int32.ofInt 0))).2.2.2.2.1 k), .int ((((Int16.ofInt 1029).toInt32) + ((Int8.ofInt 14).toInt32)) + (nI k)), .ref 170] h310) from ⟨fun c321 => ?_, fun c321 => ?_⟩)
      · refine am_goX 1 (show pz_S 8 (some .int) am_r234 4 Q 260 [(6, .int (if (d_235 (d_234_147 C V s gg w k (dP C) 0 (Int32.ofInt 0))) < (dN C k) then Int32.ofInt 0 else Int32.ofInt 1)), (0, .ref 154), (1, .int ((Int16.ofInt 1029).toInt32)), (2, .int w), (3, .int a3), (4, .int (nI k)), (5, .int (d_234_147 C V s gg w k (dP C) 0 (Int32.ofInt 0)))] [.int (Int32.ofInt 0), .int ((sSA s k (d_234_147 C V s gg w k (dP C) 0 (Int32.ofInt 0))).2.2.2.2.1 k), .int ((((Int16.ofInt 1029).toInt32) + ((Int8.ofInt 14).toInt32)) + (nI k)), .ref 170] h310 from ?_)
        exact sv_S2 sv2_234 (by intro q hq; simp only [List.mem_cons, List.not_mem_nil, or_false] at hq; rcases hq with rfl | rfl | rfl | rfl | rfl | rfl | rfl <;> rfl) (key _ (if_pos c321).symm)
      · refine am_goX 2 (show pz_S 8 (some .int) am_r234 4 Q 260 [(6, .int (if (d_235 (d_234_147 C V s gg w k (dP C) 0 (Int32.ofInt 0))) < (dN C k) then Int32.ofInt 0 else Int32.ofInt 1)), (0, .ref 154), (1, .int ((Int16.ofInt 1029).toInt32)), (2, .int w), (3, .int a3), (4, .int (nI k)), (5, .int (d_234_147 C V s gg w k (dP C) 0 (Int32.ofInt 0)))] [.int (Int32.ofInt 1), .int ((sSA s k (d_234_147 C V s gg w k (dP C) 0 (Int32.ofInt 0))).2.2.2.2.1 k), .int ((((Int16.ofInt 1029).toInt32) + ((Int8.ofInt 14).toInt32)) + (nI k)), .ref 170] h310 from ?_)
        exact sv_S2 sv2_234 (by intro q hq; simp only [List.mem_cons, List.not_mem_nil, or_false] at hq; rcases hq with rfl | rfl | rfl | rfl | rfl | rfl | rfl <;> rfl) (key _ (if_neg c321).symm)
    intro v322 e323
    subst e323
    refine am_goX 2 (show ∃ jj nn : Nat, am_so h310 170 = some (13, nn) ∧ jj < nn ∧ (((Int16.ofInt 1029).toInt32) + ((Int8.ofInt 14).toInt32)) + (nI k) = nI jj ∧ pz_S 8 (some .int) am_r234 4 Q 262 [(0, .ref 154), (1, .int ((Int16.ofInt 1029).toInt32)), (2, .int w), (3, .int a3), (4, .int (nI k)), (5, .int (d_234_147 C V s gg w k (dP C) 0 (Int32.ofInt 0))), (6, .int (if (d_235 (d_234_147 C V s gg w k (dP C) 0 (Int32.ofInt 0))) < (dN C k) then Int32.ofInt 0 else Int32.ofInt 1))] [] (am_wI h310 170 jj (((sSA s k (d_234_147 C V s gg w k (dP C) 0 (Int32.ofInt 0))).2.2.2.2.1 k) + (if (if (d_235 (d_234_147 C V s gg w k (dP C) 0 (Int32.ofInt 0))) < (dN C k) then Int32.ofInt 0 else Int32.ofInt 1) = 0 then Int32.ofInt 0 else Int32.ofInt 1))) from ⟨(1043 + k), 1127, ex_w170 f311, (by omega), (dn_a (dn_a (show (Int16.ofInt 1029).toInt32 = nI 1029 by decide) (show (Int8.ofInt 14).toInt32 = nI 14 by decide)) rfl), ?_⟩)
    have f325 : ex_P (am_wI h310 170 (1043 + k) (((sSA s k (d_234_147 C V s gg w k (dP C) 0 (Int32.ofInt 0))).2.2.2.2.1 k) + (if (if (d_235 (d_234_147 C V s gg w k (dP C) 0 (Int32.ofInt 0))) < (dN C k) then Int32.ofInt 0 else Int32.ofInt 1) = 0 then Int32.ofInt 0 else Int32.ofInt 1))) := f311
    have f326 : cI C := f312
    have f327 : tR C (am_wI h310 170 (1043 + k) (((sSA s k (d_234_147 C V s gg w k (dP C) 0 (Int32.ofInt 0))).2.2.2.2.1 k) + (if (if (d_235 (d_234_147 C V s gg w k (dP C) 0 (Int32.ofInt 0))) < (dN C k) then Int32.ofInt 0 else Int32.ofInt 1) = 0 then Int32.ofInt 0 else Int32.ofInt 1))) := tR_w (by omega) f313
    have f328 : ∀ e, e < dE C → (am_wI h310 170 (1043 + k) (((sSA s k (d_234_147 C V s gg w k (dP C) 0 (Int32.ofInt 0))).2.2.2.2.1 k) + (if (if (d_235 (d_234_147 C V s gg w k (dP C) 0 (Int32.ofInt 0))) < (dN C k) then Int32.ofInt 0 else Int32.ofInt 1) = 0 then Int32.ofInt 0 else Int32.ofInt 1))).1 172 e = dW V e := on_w (by omega) f314
    have f329 : sR 0 (dP C) u (am_wI h310 170 (1043 + k) (((sSA s k (d_234_147 C V s gg w k (dP C) 0 (Int32.ofInt 0))).2.2.2.2.1 k) + (if (if (d_235 (d_234_147 C V s gg w k (dP C) 0 (Int32.ofInt 0))) < (dN C k) then Int32.ofInt 0 else Int32.ofInt 1) = 0 then Int32.ofInt 0 else Int32.ofInt 1))) := sR_q (by omega) f315
    have f330 : sR 1029 (dP C) (sSH (sSA s k (d_234_147 C V s gg w k (dP C) 0 (Int32.ofInt 0))) k (((sSA s k (d_234_147 C V s gg w k (dP C) 0 (Int32.ofInt 0))).2.2.2.2.1 k) + (if (if (d_235 (d_234_147 C V s gg w k (dP C) 0 (Int32.ofInt 0))) < (dN C k) then Int32.ofInt 0 else Int32.ofInt 1) = 0 then Int32.ofInt 0 else Int32.ofInt 1))) (am_wI h310 170 (1043 + k) (((sSA s k (d_234_147 C V s gg w k (dP C) 0 (Int32.ofInt 0))).2.2.2.2.1 k) + (if (if (d_235 (d_234_147 C V s gg w k (dP C) 0 (Int32.ofInt 0))) < (dN C k) then Int32.ofInt 0 else Int32.ofInt 1) = 0 then Int32.ofInt 0 else Int32.ofInt 1))) := sR_wH (i := k) (by omega) (by omega) f316
    have f331 : (am_wI h310 170 (1043 + k) (((sSA s k (d_234_147 C V s gg w k (dP C) 0 (Int32.ofInt 0))).2.2.2.2.1 k) + (if (if (d_235 (d_234_147 C V s gg w k (dP C) 0 (Int32.ofInt 0))) < (dN C k) then Int32.ofInt 0 else Int32.ofInt 1) = 0 then Int32.ofInt 0 else Int32.ofInt 1))).1 154 28 = gg := (em_wn _ _ (by omega)).trans f317
    generalize am_wI h310 170 (1043 + k) (((sSA s k (d_234_147 C V s gg w k (dP C) 0 (Int32.ofInt 0))).2.2.2.2.1 k) + (if (if (d_235 (d_234_147 C V s gg w k (dP C) 0 (Int32.ofInt 0))) < (dN C k) then Int32.ofInt 0 else Int32.ofInt 1) = 0 then Int32.ofInt 0 else Int32.ofInt 1)) = h324 at f325 f326 f327 f328 f329 f330 f331 ⊢
    suffices key : ∀ (v333 : Int32), v333 = (if (if (d_235 (d_234_147 C V s gg w k (dP C) 0 (Int32.ofInt 0))) < (dN C k) then Int32.ofInt 0 else Int32.ofInt 1) = 0 then Int32.ofInt 0 else (Int32.ofInt 1) <<< ((nI k) &&& 31)) → pz_S 8 (some .int) am_r234 4 Q 276 [(0, .ref 154), (1, .int ((Int16.ofInt 1029).toInt32)), (2, .int w), (4, .int (nI k)), (5, .int (d_234_147 C V s gg w k (dP C) 0 (Int32.ofInt 0)))] [.int v333, .int a3] h324 by
      refine am_goX 3 (show ((if (d_235 (d_234_147 C V s gg w k (dP C) 0 (Int32.ofInt 0))) < (dN C k) then Int32.ofInt 0 else Int32.ofInt 1) = 0 → pz_S 8 (some .int) am_r234 4 Q 275 [(0, .ref 154), (1, .int ((Int16.ofInt 1029).toInt32)), (2, .int w), (3, .int a3), (4, .int (nI k)), (5, .int (d_234_147 C V s gg w k (dP C) 0 (Int32.ofInt 0))), (6, .int (if (d_235 (d_234_147 C V s gg w k (dP C) 0 (Int32.ofInt 0))) < (dN C k) then Int32.ofInt 0 else Int32.ofInt 1))] [.int a3] h324) ∧ (¬ ((if (d_235 (d_234_147 C V s gg w k (dP C) 0 (Int32.ofInt 0))) < (dN C k) then Int32.ofInt 0 else Int32.ofInt 1) = 0) → pz_S 8 (some .int) am_r234 4 Q 268 [(0, .ref 154), (1, .int ((Int16.ofInt 1029).toInt32)), (2, .int w), (3, .int a3), (4, .int (nI k)), (5, .int (d_234_147 C V s gg w k (dP C) 0 (Int32.ofInt 0))), (6, .int (if (d_235 (d_234_147 C V s gg w k (dP C) 0 (Int32.ofInt 0))) < (dN C k) then Int32.ofInt 0 else Int32.ofInt 1))] [.int a3] h324) from ⟨fun c332 => ?_, fun c332 => ?_⟩)
      · refine am_goX 1 (show pz_S 8 (some .int) am_r234 4 Q 276 [(0, .ref 154), (1, .int ((Int16.ofInt 1029).toInt32)), (2, .int w), (3, .int a3), (4, .int (nI k)), (5, .int (d_234_147 C V s gg w k (dP C) 0 (Int32.ofInt 0))), (6, .int (if (d_235 (d_234_147 C V s gg w k (dP C) 0 (Int32.ofInt 0))) < (dN C k) then Int32.ofInt 0 else Int32.ofInt 1))] [.int (Int32.ofInt 0), .int a3] h324 from ?_)
        exact sv_S2 sv2_234 (by intro q hq; simp only [List.mem_cons, List.not_mem_nil, or_false] at hq; rcases hq with rfl | rfl | rfl | rfl | rfl <;> rfl) (key _ (if_pos c332).symm)
      · refine am_goX 4 (show pz_S 8 (some .int) am_r234 4 Q 276 [(0, .ref 154), (1, .int ((Int16.ofInt 1029).toInt32)), (2, .int w), (3, .int a3), (4, .int (nI k)), (5, .int (d_234_147 C V s gg w k (dP C) 0 (Int32.ofInt 0))), (6, .int (if (d_235 (d_234_147 C V s gg w k (dP C) 0 (Int32.ofInt 0))) < (dN C k) then Int32.ofInt 0 else Int32.ofInt 1))] [.int ((Int32.ofInt 1) <<< ((nI k) &&& 31)), .int a3] h324 from ?_)
        exact sv_S2 sv2_234 (by intro q hq; simp only [List.mem_cons, List.not_mem_nil, or_false] at hq; rcases hq with rfl | rfl | rfl | rfl | rfl <;> rfl) (key _ (if_neg c332).symm)
    intro v333 e334
    subst e334
    refine am_goX 4 (show 3 < 8 ∧ 7 < 8 ∧ pz_S 8 (some .int) am_r234 4 Q 281 [(7, .int (Int32.ofInt 0)), (3, .int (a3 ||| (if (if (d_235 (d_234_147 C V s gg w k (dP C) 0 (Int32.ofInt 0))) < (dN C k) then Int32.ofInt 0 else Int32.ofInt 1) = 0 then Int32.ofInt 0 else (Int32.ofInt 1) <<< ((nI k) &&& 31)))), (0, .ref 154), (1, .int ((Int16.ofInt 1029).toInt32)), (2, .int w), (4, .int (nI k)), (5, .int (d_234_147 C V s gg w k (dP C) 0 (Int32.ofInt 0)))] [] h324 from ⟨by decide, by decide, ?_⟩)
    refine sv_S2 sv2_234 (by intro q hq; simp only [List.mem_cons, List.not_mem_nil, or_false] at hq; rcases hq with rfl | rfl | rfl | rfl | rfl | rfl | rfl <;> rfl) (d_234_281_g1029 (a3 ||| (if (if (d_235 (d_234_147 C V s gg w k (dP C) 0 (Int32.ofInt 0))) < (dN C k) then Int32.ofInt 0 else Int32.ofInt 1) = 0 then Int32.ofInt 0 else (Int32.ofInt 1) <<< ((nI k) &&& 31))) k (d_234_147 C V s gg w k (dP C) 0 (Int32.ofInt 0)) (dP C) 0 (sSH (sSA s k (d_234_147 C V s gg w k (dP C) 0 (Int32.ofInt 0))) k (((sSA s k (d_234_147 C V s gg w k (dP C) 0 (Int32.ofInt 0))).2.2.2.2.1 k) + (if (if (d_235 (d_234_147 C V s gg w k (dP C) 0 (Int32.ofInt 0))) < (dN C k) then Int32.ofInt 0 else Int32.ofInt 1) = 0 then Int32.ofInt 0 else Int32.ofInt 1))) _ (by omega) f325 f326 f327 f328 f329 f330 f331 (fun h335 f336 f337 f338 f339 f340 f341 f342 => ?_))
    refine am_goX 2 (show 4 < 8 ∧ pz_S 8 (some .int) am_r234 4 Q 132 [(4, .int ((nI k) + (Int32.ofInt 1))), (0, .ref 154), (1, .int ((Int16.ofInt 1029).toInt32)), (2, .int w), (3, .int (a3 ||| (if (if (d_235 (d_234_147 C V s gg w k (dP C) 0 (Int32.ofInt 0))) < (dN C k) then Int32.ofInt 0 else Int32.ofInt 1) = 0 then Int32.ofInt 0 else (Int32.ofInt 1) <<< ((nI k) &&& 31))))] [] h335 from ⟨by decide, ?_⟩)
    rw [show (nI k) + (Int32.ofInt 1) = nI (k + 1) from (dn_a rfl rfl)]
    exact sv_S2 sv2_234 (by intro q hq; simp only [List.mem_cons, List.not_mem_nil, or_false] at hq; rcases hq with rfl | rfl | rfl | rfl | rfl <;> rfl) (ih (k + 1) (a3 ||| (if (if (d_235 (d_234_147 C V s gg w k (dP C) 0 (Int32.ofInt 0))) < (dN C k) then Int32.ofInt 0 else Int32.ofInt 1) = 0 then Int32.ofInt 0 else (Int32.ofInt 1) <<< ((nI k) &&& 31))) (d_234_281 C (d_234_147 C V s gg w k (dP C) 0 (Int32.ofInt 0)) (dP C) 0 (sSH (sSA s k (d_234_147 C V s gg w k (dP C) 0 (Int32.ofInt 0))) k (((sSA s k (d_234_147 C V s gg w k (dP C) 0 (Int32.ofInt 0))).2.2.2.2.1 k) + (if (if (d_235 (d_234_147 C V s gg w k (dP C) 0 (Int32.ofInt 0))) < (dN C k) then Int32.ofInt 0 else Int32.ofInt 1) = 0 then Int32.ofInt 0 else Int32.ofInt 1)))) _ (by omega) f336 f337 f338 f339 f340 f341 f342 hZ)
theorem d_234_g1029 (hP : ex_P h) (hI : cI C) (hT : tR C h) (hO : ∀ e, e < dE C → h.1 172 e = dW V e) (hN : sR 0 (dP C) u h) (hS : sR 1029 (dP C) s h) (hG : h.1 154 28 = gg)  (hQ : ∀ h1, (ex_P h1) → (cI C) → (tR C h1) → (∀ e, e < dE C → h1.1 172 e = dW V e) → (sR 0 (dP C) u h1) → (sR 1029 (dP C) (d_234_s C V s w) h1) → (h1.1 154 28 = (d_234_gg C V s w)) → Q (some (.int (d_234 C V s w))) h1) : am_call am_cod 5 234 [.ref 154, .int ((Int16.ofInt 1029).toInt32), .int w] h Q := by
  have h6 := hT.1.2.1
  have h5 := hT.2.1.2.1
  refine pz_call (n := 234) (nL := 8) (rt := (some .int)) (rows := am_r234) (d := 4) (by decide +kernel) (by decide +kernel) rfl (by funext pc; rfl) (ex_175 hP) (by exact Nat.le_of_ble_eq_true rfl) ?_
  refine am_goX 2 (show am_sh h 154 = some (11, 0) ∧ pz_S 8 (some .int) am_r234 4 Q 4 [(0, .ref 154), (1, .int ((Int16.ofInt 1029).toInt32)), (2, .int w)] [am_rf (h.2.2.1 154 24)] h from ⟨ex_154 hP, ?_⟩)
  rw [show am_rf (h.2.2.1 154 24) = .ref 170 from congrArg am_rf (ex_r154_24 hP)]
  refine am_goX 5 (show (Value.int (((Int16.ofInt 1029).toInt32) + (Int32.ofInt 0))).category = 1 ∧ (Value.ref 170).category = 1 ∧ ∃ jj nn : Nat, am_sh h 170 = some (13, nn) ∧ jj < nn ∧ ((Int16.ofInt 1029).toInt32) + (Int32.ofInt 0) = nI jj ∧ pz_S 8 (some .int) am_r234 4 Q 9 [(0, .ref 154), (1, .int ((Int16.ofInt 1029).toInt32)), (2, .int w)] [.int (h.1 170 jj), .int (((Int16.ofInt 1029).toInt32) + (Int32.ofInt 0)), .ref 170] h from ⟨rfl, rfl, ⟨1029, 1127, ex_170 hP, (by omega), (dn_a (show (Int16.ofInt 1029).toInt32 = nI 1029 by decide) rfl), ?_⟩⟩)
  rw [show h.1 170 1029 = s.1 from hS.1.1]
  refine am_goX 3 (show ∃ jj nn : Nat, am_so h 170 = some (13, nn) ∧ jj < nn ∧ ((Int16.ofInt 1029).toInt32) + (Int32.ofInt 0) = nI jj ∧ pz_S 8 (some .int) am_r234 4 Q 12 [(0, .ref 154), (1, .int ((Int16.ofInt 1029).toInt32)), (2, .int w)] [] (am_wI h 170 jj (s.1 + (Int32.ofInt 1))) from ⟨1029, 1127, ex_w170 hP, (by omega), (dn_a (show (Int16.ofInt 1029).toInt32 = nI 1029 by decide) rfl), ?_⟩)
  have f212 : ex_P (am_wI h 170 1029 (s.1 + (Int32.ofInt 1))) := hP
  have f213 : cI C := hI
  have f214 : tR C (am_wI h 170 1029 (s.1 + (Int32.ofInt 1))) := tR_w (by omega) hT
  have f215 : ∀ e, e < dE C → (am_wI h 170 1029 (s.1 + (Int32.ofInt 1))).1 172 e = dW V e := on_w (by omega) hO
  have f216 : sR 0 (dP C) u (am_wI h 170 1029 (s.1 + (Int32.ofInt 1))) := sR_q (by omega) hN
  have f217 : sR 1029 (dP C) (sSD s (s.1 + (Int32.ofInt 1))) (am_wI h 170 1029 (s.1 + (Int32.ofInt 1))) := sR_wD (by omega) hS
  have f218 : (am_wI h 170 1029 (s.1 + (Int32.ofInt 1))).1 154 28 = gg := (em_wn _ _ (by omega)).trans hG
  generalize am_wI h 170 1029 (s.1 + (Int32.ofInt 1)) = h211 at f212 f213 f214 f215 f216 f217 f218 ⊢
  refine am_goX 3 (show am_sh h211 154 = some (11, 0) ∧ narrow (am_fty 11 28) (.int (Int32.ofInt 0)) = .int (Int32.ofInt 0) ∧ fits (am_fty 11 28) (.int (Int32.ofInt 0)) = true ∧ pz_S 8 (some .int) am_r234 4 Q 17 [(0, .ref 154), (1, .int ((Int16.ofInt 1029).toInt32)), (2, .int w)] [] (am_wI h211 154 28 (Int32.ofInt 0)) from ⟨ex_154 f212, rfl, rfl, ?_⟩)
  have f220 : ex_P (am_wI h211 154 28 (Int32.ofInt 0)) := f212
  have f221 : cI C := f213
  have f222 : tR C (am_wI h211 154 28 (Int32.ofInt 0)) := tR_w (by omega) f214
  have f223 : ∀ e, e < dE C → (am_wI h211 154 28 (Int32.ofInt 0)).1 172 e = dW V e := on_w (by omega) f215
  have f224 : sR 0 (dP C) u (am_wI h211 154 28 (Int32.ofInt 0)) := sR_o (by omega) f216
  have f225 : sR 1029 (dP C) (sSD s (s.1 + (Int32.ofInt 1))) (am_wI h211 154 28 (Int32.ofInt 0)) := sR_o (by omega) f217
  have f226 : (am_wI h211 154 28 (Int32.ofInt 0)).1 154 28 = (Int32.ofInt 0) := em_we _ _ _ _
  generalize am_wI h211 154 28 (Int32.ofInt 0) = h219 at f220 f221 f222 f223 f224 f225 f226 ⊢
  refine am_goX 2 (show 3 < 8 ∧ pz_S 8 (some .int) am_r234 4 Q 19 [(3, .int (Int32.ofInt 0)), (0, .ref 154), (1, .int ((Int16.ofInt 1029).toInt32)), (2, .int w)] [] h219 from ⟨by decide, ?_⟩)
  refine sv_S2 sv2_234 (by intro q hq; simp only [List.mem_cons, List.not_mem_nil, or_false] at hq; rcases hq with rfl | rfl | rfl | rfl <;> rfl) (d_234_19_g1029 (dP C) 0 (sSD s (s.1 + (Int32.ofInt 1))) (Int32.ofInt 0) _ (by omega) f220 f221 f222 f223 f224 f225 f226 (fun h302 f303 f304 f305 f306 f307 f308 f309 => ?_))
  refine am_goX 4 (show 3 < 8 ∧ 4 < 8 ∧ pz_S 8 (some .int) am_r234 4 Q 132 [(4, .int (Int32.ofInt 0)), (3, .int (Int32.ofInt 0)), (0, .ref 154), (1, .int ((Int16.ofInt 1029).toInt32)), (2, .int w)] [] h302 from ⟨by decide, by decide, ?_⟩)
  refine sv_S2 sv2_234 (by intro q hq; simp only [List.mem_cons, List.not_mem_nil, or_false] at hq; rcases hq with rfl | rfl | rfl | rfl | rfl <;> rfl) (d_234_132_g1029 (dE C) 0 (Int32.ofInt 0) ((d_234_19 C w (dP C) 0 (sSD s (s.1 + (Int32.ofInt 1))) (Int32.ofInt 0)).1) _ (by omega) f303 f304 f305 f306 f307 f308 f309 (fun h343 f344 f345 f346 f347 f348 f349 f350 => ?_))
  exact am_goX 2 (show (∃ ty, (some .int) = some ty ∧ narrow ty (.int ((d_234_132 C V ((d_234_19 C w (dP C) 0 (sSD s (s.1 + (Int32.ofInt 1))) (Int32.ofInt 0)).2) w (dE C) 0 (Int32.ofInt 0) ((d_234_19 C w (dP C) 0 (sSD s (s.1 + (Int32.ofInt 1))) (Int32.ofInt 0)).1)).1)) = .int ((d_234_132 C V ((d_234_19 C w (dP C) 0 (sSD s (s.1 + (Int32.ofInt 1))) (Int32.ofInt 0)).2) w (dE C) 0 (Int32.ofInt 0) ((d_234_19 C w (dP C) 0 (sSD s (s.1 + (Int32.ofInt 1))) (Int32.ofInt 0)).1)).1)) ∧ h343.2.2.2.2 = 175 ∧ _ from ⟨⟨.int, rfl, rfl⟩, ex_175 f344, hQ _ f344 f345 f346 f347 f348 f349 f350⟩)
theorem q_234_r1029 (hP : ex_P h) (hI : cI C) (hT : tR C h) (hO : ∀ e, e < dE C → h.1 172 e = dW V e) (hN : sR 0 (dP C) u h) (hS : sR 1029 (dP C) s h) (hQ : ∀ h1, (ex_P h1) → (cI C) → (tR C h1) → (∀ e, e < dE C → h1.1 172 e = dW V e) → (sR 0 (dP C) u h1) → (sR 1029 (dP C) (d_234_s C V s w) h1) → Q (some (.int (d_234 C V s w))) h1) : am_call am_cod 5 234 [.ref 154, .int ((Int16.ofInt 1029).toInt32), .int w] h Q :=
  d_234_g1029 (gg := h.1 154 28) hP hI hT hO hN hS rfl (fun h1 khP khI khT khO khN khS _ => hQ h1 khP khI khT khO khN khS)
theorem d_233_r1029 (hP : ex_P h) (hI : cI C) (hT : tR C h) (hO : ∀ e, e < dE C → h.1 172 e = dW V e) (hN : sR 0 (dP C) u h) (hS : sR 1029 (dP C) s h)  (hQ : ∀ h1, (ex_P h1) → (cI C) → (tR C h1) → (∀ e, e < dE C → h1.1 172 e = dW V e) → (sR 0 (dP C) u h1) → (sR 1029 (dP C) (d_233_s C V s) h1) → Q (some (.int (d_233 C V s))) h1) : am_call am_cod 6 233 [.ref 154, .int ((Int16.ofInt 1029).toInt32)] h Q := by
  have h6 := hT.1.2.1
  have h5 := hT.2.1.2.1
  refine pz_call (n := 233) (nL := 2) (rt := (some .int)) (rows := am_r233) (d := 5) (by decide +kernel) (by decide +kernel) rfl (by funext pc; rfl) (ex_175 hP) (by exact Nat.le_of_ble_eq_true rfl) ?_
  refine am_goX 5 (show am_sh h 154 = some (11, 0) ∧ pz_S 2 (some .int) am_r233 5 Q 7 [(0, .ref 154), (1, .int ((Int16.ofInt 1029).toInt32))] [am_rf (h.2.2.1 154 24), .ref 154, .int ((Int16.ofInt 1029).toInt32), .ref 154] h from ⟨ex_154 hP, ?_⟩)
  rw [show am_rf (h.2.2.1 154 24) = .ref 170 from congrArg am_rf (ex_r154_24 hP)]
  refine am_goX 4 (show ∃ jj nn : Nat, am_sh h 170 = some (13, nn) ∧ jj < nn ∧ ((Int16.ofInt 1029).toInt32) + (Int32.ofInt 0) = nI jj ∧ pz_S 2 (some .int) am_r233 5 Q 11 [(0, .ref 154), (1, .int ((Int16.ofInt 1029).toInt32))] [.int (h.1 170 jj), .ref 154, .int ((Int16.ofInt 1029).toInt32), .ref 154] h from ⟨1029, 1127, ex_170 hP, (by omega), (dn_a (show (Int16.ofInt 1029).toInt32 = nI 1029 by decide) rfl), ?_⟩)
  rw [show h.1 170 1029 = s.1 from hS.1.1]
  refine am_goX 3 (show am_rc h 154 11 ∧ 2 ≤ 8 ∧ h.2.2.2.2 + am_al 224 ≤ 175 ∧ am_call am_cod 5 224 [.ref 154, .int (s.1 + (Int32.ofInt 1))] h (fun vv h' => pz_S 2 (some .int) am_r233 5 Q 16 [(0, .ref 154), (1, .int ((Int16.ofInt 1029).toInt32))] (vv.toList ++ [.int ((Int16.ofInt 1029).toInt32), .ref 154]) h') from ⟨Or.inl ⟨by decide, ex_154 hP⟩, by decide, ex_lim hP rfl, am_call.up (d_224_r hP hT ?_) (by decide)⟩)
  refine am_goX 1 (show am_rc h 154 11 ∧ 0 ≤ 8 ∧ h.2.2.2.2 + am_al 234 ≤ 175 ∧ am_call am_cod 5 234 [.ref 154, .int ((Int16.ofInt 1029).toInt32), .int (d_224 C (s.1 + (Int32.ofInt 1)))] h (fun vv h' => pz_S 2 (some .int) am_r233 5 Q 19 [(0, .ref 154), (1, .int ((Int16.ofInt 1029).toInt32))] (vv.toList ++ []) h') from ⟨Or.inl ⟨by decide, ex_154 hP⟩, by decide, ex_lim hP rfl, am_call.up (q_234_r1029 hP hI hT hO hN hS (fun h351 f352 f353 f354 f355 f356 f357 => ?_)) (by decide)⟩)
  exact am_goX 1 (show (∃ ty, (some .int) = some ty ∧ narrow ty (.int (d_234 C V s (d_224 C (s.1 + (Int32.ofInt 1))))) = .int (d_234 C V s (d_224 C (s.1 + (Int32.ofInt 1))))) ∧ h351.2.2.2.2 = 175 ∧ _ from ⟨⟨.int, rfl, rfl⟩, ex_175 f352, hQ _ f352 f353 f354 f355 f356 f357⟩)
end
